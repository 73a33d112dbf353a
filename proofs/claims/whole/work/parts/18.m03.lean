abbrev r6_builderPaysAll : Room := { frames := 1, cells := 0, slots := 0, locals := 24 }
abbrev m6_builderPaysAll : zMu := (RX6, 2, none, r6_builderPaysAll, false)
set_option maxRecDepth 20000 in
theorem x6_builderPaysAll (E : zEn)  (q : Bool) (v1 : Int32) (σ : zSt) : X E cX6_builderPaysAll m6_builderPaysAll q (zQw E q eV r6_builderPaysAll) 0 0 σ [(0, aR 6 (some 0)), (1, aI v1)] 0 [] (f6_builderPaysAll v1 σ) := by
  unfold f6_builderPaysAll
  refine x_aload_n (pc := 0) 0 dX6_builderPaysAll_0 rfl rfl ?_
  refine x_iconst (pc := 1) 0 dX6_builderPaysAll_1 rfl ?_
  refine x_iconst (pc := 2) 0 dX6_builderPaysAll_2 rfl ?_
  refine x_iload_n (pc := 3) 1 dX6_builderPaysAll_3 rfl rfl ?_
  refine x_iconst (pc := 4) (-1) dX6_builderPaysAll_4 rfl ?_
  refine x_callV (pc := 5) (as := [aI 0, aI 0, aI v1, aI (-1)]) (rest := []) (fun l => c_6_set l q 0 0 v1 (-1) σ) md_X6_set ⟨_, _, rfl, by decide⟩ tk_1000 tp_31 tk_998 dX6_builderPaysAll_5 rfl ⟨by decide, by decide, by decide, by decide⟩ ⟨fun h => h, fun h => Or.inl h⟩ rfl (Nat.le_of_ble_eq_true rfl) (fun _ s2 => ?_)
  show X E _ _ _ _ 0 0 _ _ _ [] _
  exact x_vret (rm := r6_builderPaysAll) rfl rfl dX6_builderPaysAll_8
theorem c_6_builderPaysAll (l : Launch)  (q : Bool) (v1 : Int32) (σ : zSt) : zMet l yX6_builderPaysAll cX6_builderPaysAll 2 none r6_builderPaysAll q eV [aR 6 (some 0), aI v1] σ (f6_builderPaysAll v1 σ) :=
  zMet_of [(0, aR 6 (some 0)), (1, aI v1)] (by decide +kernel) (fun h => by cases h) (Nat.le_of_ble_eq_true rfl) rfl fun E _ => x6_builderPaysAll E  q v1 σ
abbrev r6_ownerPaysAll : Room := { frames := 1, cells := 0, slots := 0, locals := 24 }
abbrev m6_ownerPaysAll : zMu := (RX6, 2, none, r6_ownerPaysAll, false)
set_option maxRecDepth 20000 in
theorem x6_ownerPaysAll (E : zEn)  (q : Bool) (v1 : Int32) (σ : zSt) : X E cX6_ownerPaysAll m6_ownerPaysAll q (zQw E q eV r6_ownerPaysAll) 0 0 σ [(0, aR 6 (some 0)), (1, aI v1)] 0 [] (f6_ownerPaysAll v1 σ) := by
  unfold f6_ownerPaysAll
  refine x_aload_n (pc := 0) 0 dX6_ownerPaysAll_0 rfl rfl ?_
  refine x_iconst (pc := 1) 2 dX6_ownerPaysAll_1 rfl ?_
  refine x_iload_n (pc := 2) 1 dX6_ownerPaysAll_2 rfl rfl ?_
  refine x_iconst (pc := 3) 0 dX6_ownerPaysAll_3 rfl ?_
  refine x_iconst (pc := 4) (-1) dX6_ownerPaysAll_4 rfl ?_
  refine x_callV (pc := 5) (as := [aI 2, aI v1, aI 0, aI (-1)]) (rest := []) (fun l => c_6_set l q 2 v1 0 (-1) σ) md_X6_set ⟨_, _, rfl, by decide⟩ tk_1000 tp_31 tk_998 dX6_ownerPaysAll_5 rfl ⟨by decide, by decide, by decide, by decide⟩ ⟨fun h => h, fun h => Or.inl h⟩ rfl (Nat.le_of_ble_eq_true rfl) (fun _ s2 => ?_)
  show X E _ _ _ _ 0 0 _ _ _ [] _
  exact x_vret (rm := r6_ownerPaysAll) rfl rfl dX6_ownerPaysAll_8
theorem c_6_ownerPaysAll (l : Launch)  (q : Bool) (v1 : Int32) (σ : zSt) : zMet l yX6_ownerPaysAll cX6_ownerPaysAll 2 none r6_ownerPaysAll q eV [aR 6 (some 0), aI v1] σ (f6_ownerPaysAll v1 σ) :=
  zMet_of [(0, aR 6 (some 0)), (1, aI v1)] (by decide +kernel) (fun h => by cases h) (Nat.le_of_ble_eq_true rfl) rfl fun E _ => x6_ownerPaysAll E  q v1 σ
abbrev r6_readNumber : Room := { frames := 1, cells := 0, slots := 0, locals := 21 }
abbrev m6_readNumber : zMu := (RX6, 2, (some .int), r6_readNumber, false)
set_option maxRecDepth 20000 in
theorem xl6_readNumber_2 (E : zEn)      : ∀ (n : Nat) (v1 : Int32) (σ : zSt), X E cX6_readNumber m6_readNumber true (zQw E true eI r6_readNumber) 0 0 σ [(0, aR 6 (some 0)), (1, aI v1)] 2 [] (f6_readNumber_L2 n v1 σ) := by
  intro n
  induction n with
  | zero => intros; exact x_none
  | succ n ih =>
    intro v1 σ
    rw [f6_readNumber_L2]
    refine x_aload_n (pc := 2) 0 dX6_readNumber_2 rfl rfl ?_
    refine x_getI (pc := 3) fd_6_6 tk_70 dX6_readNumber_3 ?_
    refine x_aload_n (pc := 6) 0 dX6_readNumber_6 rfl rfl ?_
    refine x_getR (pc := 7) fd_6_5 tk_69 dX6_readNumber_7 ?_
    refine x_nameR (fun o1 => ?_)
    rcases o1 with _ | i2
    · exact x_none
    ·
      skip
      refine x_zocS ?_
      refine x_callVr (pc := 10) (as := []) (rest := [aI (gI σ 6 0 6)]) (fun l => c_10_length l i2 σ) md_X10_length ⟨_, _, rfl, by decide⟩ tk_1029 tk_1030 tk_1028 dX6_readNumber_10 rfl ⟨by decide, by decide, by decide, by decide⟩ ⟨fun _ => rfl, fun _ => Or.inl rfl⟩ rfl (Nat.le_of_ble_eq_true rfl) (fun r3 => ?_)
      show X E _ _ _ _ 0 0 _ _ _ [aI r3, aI (gI σ 6 0 6)] _
      refine x_icmp_ge (pc := 13) 66 dX6_readNumber_13 (by decide) (fun _ => ?_) (fun _ => ?_)
      ·
        refine x_iload_n (pc := 66) 1 dX6_readNumber_66 rfl rfl ?_
        exact x_iret (rm := r6_readNumber) rfl rfl dX6_readNumber_67
      ·
        refine x_aload_n (pc := 16) 0 dX6_readNumber_16 rfl rfl ?_
        refine x_getR (pc := 17) fd_6_5 tk_69 dX6_readNumber_17 ?_
        refine x_nameR (fun o4 => ?_)
        refine x_aload_n (pc := 20) 0 dX6_readNumber_20 rfl rfl ?_
        refine x_getI (pc := 21) fd_6_6 tk_70 dX6_readNumber_21 ?_
        rcases o4 with _ | i5
        · exact x_none
        ·
          skip
          refine x_zocS ?_
          refine x_callVr (pc := 24) (as := [aI (gI σ 6 0 6)]) (rest := []) (fun l => c_10_at l i5 (gI σ 6 0 6) σ) md_X10_at ⟨_, _, rfl, by decide⟩ tk_1037 tk_1038 tk_1036 dX6_readNumber_24 rfl ⟨by decide, by decide, by decide, by decide⟩ ⟨fun _ => rfl, fun _ => Or.inl rfl⟩ rfl (Nat.le_of_ble_eq_true rfl) (fun r6 => ?_)
          show X E _ _ _ _ 0 0 _ _ _ [aI r6] _
          refine x_callSNr (pc := 27) (as := [aI r6]) (rest := []) (fun l => c_11_isDigit l true r6 σ) md_X11_isDigit tk_831 (host := RX11) (by decide +kernel) dX6_readNumber_27 rfl ⟨by decide, by decide, by decide, by decide⟩ ⟨fun _ => rfl, fun _ => Or.inl rfl⟩ rfl (Nat.le_of_ble_eq_true rfl) (fun r7 => ?_)
          show X E _ _ _ _ 0 0 _ _ _ [aI r7] _
          refine x_if_eq (pc := 30) 66 dX6_readNumber_30 (by decide) (fun _ => ?_) (fun _ => ?_)
          ·
            refine x_iload_n (pc := 66) 1 dX6_readNumber_66 rfl rfl ?_
            exact x_iret (rm := r6_readNumber) rfl rfl dX6_readNumber_67
          ·
            refine x_iload_n (pc := 33) 1 dX6_readNumber_33 rfl rfl ?_
            refine x_bipush (pc := 34) 10 dX6_readNumber_34 rfl ?_
            refine x_imul (pc := 36) dX6_readNumber_36 ?_
            refine x_aload_n (pc := 37) 0 dX6_readNumber_37 rfl rfl ?_
            refine x_getR (pc := 38) fd_6_5 tk_69 dX6_readNumber_38 ?_
            refine x_nameR (fun o8 => ?_)
            refine x_aload_n (pc := 41) 0 dX6_readNumber_41 rfl rfl ?_
            refine x_getI (pc := 42) fd_6_6 tk_70 dX6_readNumber_42 ?_
            rcases o8 with _ | i9
            · exact x_none
            ·
              skip
              refine x_zocS ?_
              refine x_callVr (pc := 45) (as := [aI (gI σ 6 0 6)]) (rest := [aI (v1 * 10)]) (fun l => c_10_at l i9 (gI σ 6 0 6) σ) md_X10_at ⟨_, _, rfl, by decide⟩ tk_1037 tk_1038 tk_1036 dX6_readNumber_45 rfl ⟨by decide, by decide, by decide, by decide⟩ ⟨fun _ => rfl, fun _ => Or.inl rfl⟩ rfl (Nat.le_of_ble_eq_true rfl) (fun r10 => ?_)
              show X E _ _ _ _ 0 0 _ _ _ [aI r10, aI (v1 * 10)] _
              refine x_bipush (pc := 48) 48 dX6_readNumber_48 rfl ?_
              refine x_isub (pc := 50) dX6_readNumber_50 ?_
              refine x_iadd (pc := 51) dX6_readNumber_51 ?_
              refine x_nameI (fun x11 => ?_)
              refine x_istore_n (pc := 52) (als' := [(1, aI x11), (0, aR 6 (some 0))]) 1 dX6_readNumber_52 rfl (by decide) rfl ?_
              refine x_aload_n (pc := 53) 0 dX6_readNumber_53 rfl rfl ?_
              refine x_dup (pc := 54) dX6_readNumber_54 rfl ?_
              refine x_getI (pc := 55) fd_6_6 tk_70 dX6_readNumber_55 ?_
              refine x_iconst (pc := 58) 1 dX6_readNumber_58 rfl ?_
              refine x_iadd (pc := 59) dX6_readNumber_59 ?_
              refine x_putI (pc := 60) fd_6_6 pt_6_6 tk_70 dX6_readNumber_60 (Or.inl rfl) ?_
              refine x_nameS (fun s12 => ?_)
              refine x_goto (pc := 63) 2 dX6_readNumber_63 (by decide) ?_
              exact x_sub [1, 0] rfl (ih x11 s12)
set_option maxRecDepth 20000 in
theorem x6_readNumber (E : zEn)   (σ : zSt) : X E cX6_readNumber m6_readNumber true (zQw E true eI r6_readNumber) 0 0 σ [(0, aR 6 (some 0))] 0 [] (f6_readNumber σ) := by
  unfold f6_readNumber
  refine x_iconst (pc := 0) 0 dX6_readNumber_0 rfl ?_
  refine x_istore_n (pc := 1) (als' := [(1, aI 0), (0, aR 6 (some 0))]) 1 dX6_readNumber_1 rfl (by decide) rfl ?_
  refine x_sub [1, 0] rfl (xl6_readNumber_2 E zfuel 0 σ)
theorem c_6_readNumber (l : Launch)   (σ : zSt) : zMet l yX6_readNumber cX6_readNumber 2 (some .int) r6_readNumber true eI [aR 6 (some 0)] σ (f6_readNumber σ) :=
  zMet_of [(0, aR 6 (some 0))] (by decide +kernel) (fun h => by cases h) (Nat.le_of_ble_eq_true rfl) rfl fun E _ => x6_readNumber E   σ
abbrev r6_compares : Room := { frames := 0, cells := 0, slots := 0, locals := 0 }
abbrev m6_compares : zMu := (RX6, 3, (some .boolean), r6_compares, false)
set_option maxRecDepth 20000 in
theorem x6_compares (E : zEn)  (q : Bool) (v0 : Int32) (v1 : Int32) (v2 : Int32) (σ : zSt) : X E cX6_compares m6_compares q (zQr E q eI r6_compares σ) 0 0 σ [(0, aI v0), (1, aI v1), (2, aI v2)] 0 [] (f6_compares v0 v1 v2 σ) := by
  unfold f6_compares
  refine x_iload_n (pc := 0) 1 dX6_compares_0 rfl rfl ?_
  refine x_lookup (pc := 1) dX6_compares_1 (by decide) (fun tg1 ht2 => ?_) (fun x => ?_)
  ·
    refine x_ite (fun hc3 => ?_) (fun hc3 => ?_)
    ·
      obtain rfl : tg1 = 58 := zlw_at hc3 ht2 (by decide)
      refine x_iload_n (pc := 58) 0 dX6_compares_58 rfl rfl ?_
      refine x_iload_n (pc := 59) 2 dX6_compares_59 rfl rfl ?_
      refine x_icmp_eq (pc := 60) 67 dX6_compares_60 (by decide) (fun _ => ?_) (fun _ => ?_)
      ·
        refine x_iconst (pc := 67) 0 dX6_compares_67 rfl ?_
        exact x_zretC (rm := r6_compares) rfl rfl (by decide) dX6_compares_68
      ·
        refine x_iconst (pc := 63) 1 dX6_compares_63 rfl ?_
        refine x_goto (pc := 64) 68 dX6_compares_64 (by decide) ?_
        exact x_zretC (rm := r6_compares) rfl rfl (by decide) dX6_compares_68
    ·
      refine x_ite (fun hc4 => ?_) (fun hc4 => ?_)
      ·
        obtain rfl : tg1 = 36 := zlw_at hc4 ht2 (by decide)
        refine x_iload_n (pc := 36) 0 dX6_compares_36 rfl rfl ?_
        refine x_iload_n (pc := 37) 2 dX6_compares_37 rfl rfl ?_
        refine x_icmp_ge (pc := 38) 45 dX6_compares_38 (by decide) (fun _ => ?_) (fun _ => ?_)
        ·
          refine x_iconst (pc := 45) 0 dX6_compares_45 rfl ?_
          exact x_zretC (rm := r6_compares) rfl rfl (by decide) dX6_compares_46
        ·
          refine x_iconst (pc := 41) 1 dX6_compares_41 rfl ?_
          refine x_goto (pc := 42) 46 dX6_compares_42 (by decide) ?_
          exact x_zretC (rm := r6_compares) rfl rfl (by decide) dX6_compares_46
      ·
        refine x_ite (fun hc5 => ?_) (fun hc5 => ?_)
        ·
          obtain rfl : tg1 = 47 := zlw_at hc5 ht2 (by decide)
          refine x_iload_n (pc := 47) 0 dX6_compares_47 rfl rfl ?_
          refine x_iload_n (pc := 48) 2 dX6_compares_48 rfl rfl ?_
          refine x_icmp_ne (pc := 49) 56 dX6_compares_49 (by decide) (fun _ => ?_) (fun _ => ?_)
          ·
            refine x_iconst (pc := 56) 0 dX6_compares_56 rfl ?_
            exact x_zretC (rm := r6_compares) rfl rfl (by decide) dX6_compares_57
          ·
            refine x_iconst (pc := 52) 1 dX6_compares_52 rfl ?_
            refine x_goto (pc := 53) 57 dX6_compares_53 (by decide) ?_
            exact x_zretC (rm := r6_compares) rfl rfl (by decide) dX6_compares_57
        ·
          obtain rfl : tg1 = 69 := zlwd_at (cs := [33, 60, 61]) ht2 (by decide) (by simp only [List.mem_cons, List.not_mem_nil, or_false, not_or]; exact ⟨hc3, hc4, hc5⟩) (by decide)
          refine x_iload_n (pc := 69) 0 dX6_compares_69 rfl rfl ?_
          refine x_iload_n (pc := 70) 2 dX6_compares_70 rfl rfl ?_
          refine x_icmp_lt (pc := 71) 78 dX6_compares_71 (by decide) (fun _ => ?_) (fun _ => ?_)
          ·
            refine x_iconst (pc := 78) 0 dX6_compares_78 rfl ?_
            exact x_zretC (rm := r6_compares) rfl rfl (by decide) dX6_compares_79
          ·
            refine x_iconst (pc := 74) 1 dX6_compares_74 rfl ?_
            refine x_goto (pc := 75) 79 dX6_compares_75 (by decide) ?_
            exact x_zretC (rm := r6_compares) rfl rfl (by decide) dX6_compares_79
  · exact zloff_pos (by decide) (by decide) x
theorem c_6_compares (l : Launch)  (q : Bool) (v0 : Int32) (v1 : Int32) (v2 : Int32) (σ : zSt) : zMet l yX6_compares cX6_compares 3 (some .boolean) r6_compares q eI [aI v0, aI v1, aI v2] σ (zro (f6_compares v0 v1 v2 σ) σ) :=
  zMet_ofR [(0, aI v0), (1, aI v1), (2, aI v2)] (by decide +kernel) (fun h => by cases h) (Nat.le_of_ble_eq_true rfl) rfl fun E _ => x6_compares E  q v0 v1 v2 σ
abbrev r6_readTests : Room := { frames := 7, cells := 0, slots := 0, locals := 221 }
abbrev m6_readTests : zMu := (RX6, 5, (some .boolean), r6_readTests, false)
set_option maxRecDepth 20000 in
theorem xl6_readTests_2 (E : zEn)    {K146 : Int32 → zSt → Option (Int32 × zSt)} (hK146 : ∀ (v1 : Int32) (σ : zSt), X E cX6_readTests m6_readTests true (zQw E true eI r6_readTests) 0 0 σ [(0, aR 6 (some 0)), (1, aI v1)] 146 [] (K146 v1 σ)) : ∀ (n : Nat) (v1 : Int32) (σ : zSt), X E cX6_readTests m6_readTests true (zQw E true eI r6_readTests) 0 0 σ [(0, aR 6 (some 0)), (1, aI v1)] 2 [] (f6_readTests_L2 K146 n v1 σ) := by
  intro n
  induction n with
  | zero => intros; exact x_none
  | succ n ih =>
    intro v1 σ
    rw [f6_readTests_L2]
    refine x_aload_n (pc := 2) 0 dX6_readTests_2 rfl rfl ?_
    refine x_getI (pc := 3) fd_6_6 tk_70 dX6_readTests_3 ?_
    refine x_aload_n (pc := 6) 0 dX6_readTests_6 rfl rfl ?_
    refine x_getR (pc := 7) fd_6_5 tk_69 dX6_readTests_7 ?_
    refine x_nameR (fun o1 => ?_)
    rcases o1 with _ | i2
    · exact x_none
    ·
      skip
      refine x_zocS ?_
      refine x_callVr (pc := 10) (as := []) (rest := [aI (gI σ 6 0 6)]) (fun l => c_10_length l i2 σ) md_X10_length ⟨_, _, rfl, by decide⟩ tk_1029 tk_1030 tk_1028 dX6_readTests_10 rfl ⟨by decide, by decide, by decide, by decide⟩ ⟨fun _ => rfl, fun _ => Or.inl rfl⟩ rfl (Nat.le_of_ble_eq_true rfl) (fun r3 => ?_)
      show X E _ _ _ _ 0 0 _ _ _ [aI r3, aI (gI σ 6 0 6)] _
      refine x_icmp_ge (pc := 13) 146 dX6_readTests_13 (by decide) (fun _ => ?_) (fun _ => ?_)
      ·
        exact hK146 v1 σ
      ·
        refine x_aload_n (pc := 16) 0 dX6_readTests_16 rfl rfl ?_
        refine x_getR (pc := 17) fd_6_5 tk_69 dX6_readTests_17 ?_
        refine x_nameR (fun o4 => ?_)
        refine x_aload_n (pc := 20) 0 dX6_readTests_20 rfl rfl ?_
        refine x_getI (pc := 21) fd_6_6 tk_70 dX6_readTests_21 ?_
        rcases o4 with _ | i5
        · exact x_none
        ·
          skip
          refine x_zocS ?_
          refine x_callVr (pc := 24) (as := [aI (gI σ 6 0 6)]) (rest := []) (fun l => c_10_at l i5 (gI σ 6 0 6) σ) md_X10_at ⟨_, _, rfl, by decide⟩ tk_1037 tk_1038 tk_1036 dX6_readTests_24 rfl ⟨by decide, by decide, by decide, by decide⟩ ⟨fun _ => rfl, fun _ => Or.inl rfl⟩ rfl (Nat.le_of_ble_eq_true rfl) (fun r6 => ?_)
          show X E _ _ _ _ 0 0 _ _ _ [aI r6] _
          refine x_bipush (pc := 27) 62 dX6_readTests_27 rfl ?_
          refine x_icmp_eq (pc := 29) 146 dX6_readTests_29 (by decide) (fun _ => ?_) (fun _ => ?_)
          ·
            exact hK146 v1 σ
          ·
            refine x_ldcS (pc := 32) 0 dX6_readTests_32 rfl ?_
            refine x_aload_n (pc := 34) 0 dX6_readTests_34 rfl rfl ?_
            refine x_getR (pc := 35) fd_6_5 tk_69 dX6_readTests_35 ?_
            refine x_nameR (fun o7 => ?_)
            refine x_aload_n (pc := 38) 0 dX6_readTests_38 rfl rfl ?_
            refine x_getI (pc := 39) fd_6_6 tk_70 dX6_readTests_39 ?_
            rcases o7 with _ | i8
            · exact x_none
            ·
              skip
              refine x_zocS ?_
              refine x_callVr (pc := 42) (as := [aI (gI σ 6 0 6)]) (rest := [aR 15 (some 0)]) (fun l => c_10_at l i8 (gI σ 6 0 6) σ) md_X10_at ⟨_, _, rfl, by decide⟩ tk_1037 tk_1038 tk_1036 dX6_readTests_42 rfl ⟨by decide, by decide, by decide, by decide⟩ ⟨fun _ => rfl, fun _ => Or.inl rfl⟩ rfl (Nat.le_of_ble_eq_true rfl) (fun r9 => ?_)
              show X E _ _ _ _ 0 0 _ _ _ [aI r9, aR 15 (some 0)] _
              refine x_i2c (pc := 45) dX6_readTests_45 ?_
              refine x_callTr (pc := 46) (as := [aI (zi2c r9)]) (rest := []) (fun l => c_J0_indexOf_0f7a4 l true 0 (by decide) (zi2c r9) σ) md_J0_indexOf_0f7a4 rfl (by decide) rfl tk_841 tk_842 tk_840 dX6_readTests_46 rfl ⟨by decide, by decide, by decide, by decide⟩ ⟨fun _ => rfl, fun _ => Or.inl rfl⟩ rfl (Nat.le_of_ble_eq_true rfl) (fun r10 => ?_)
              show X E _ _ _ _ 0 0 _ _ _ [aI r10] _
              refine x_istore_n (pc := 49) (als' := [(2, aI r10), (0, aR 6 (some 0)), (1, aI v1)]) 2 dX6_readTests_49 rfl (by decide) rfl ?_
              refine x_aload_n (pc := 50) 0 dX6_readTests_50 rfl rfl ?_
              refine x_getR (pc := 51) fd_6_5 tk_69 dX6_readTests_51 ?_
              refine x_nameR (fun o11 => ?_)
              refine x_aload_n (pc := 54) 0 dX6_readTests_54 rfl rfl ?_
              refine x_getI (pc := 55) fd_6_6 tk_70 dX6_readTests_55 ?_
              refine x_iconst (pc := 58) 1 dX6_readTests_58 rfl ?_
              refine x_iadd (pc := 59) dX6_readTests_59 ?_
              rcases o11 with _ | i12
              · exact x_none
              ·
                skip
                refine x_zocS ?_
                refine x_callVr (pc := 60) (as := [aI ((gI σ 6 0 6) + 1)]) (rest := []) (fun l => c_10_at l i12 ((gI σ 6 0 6) + 1) σ) md_X10_at ⟨_, _, rfl, by decide⟩ tk_1037 tk_1038 tk_1036 dX6_readTests_60 rfl ⟨by decide, by decide, by decide, by decide⟩ ⟨fun _ => rfl, fun _ => Or.inl rfl⟩ rfl (Nat.le_of_ble_eq_true rfl) (fun r13 => ?_)
                show X E _ _ _ _ 0 0 _ _ _ [aI r13] _
                refine x_istore_n (pc := 63) (als' := [(3, aI r13), (2, aI r10), (0, aR 6 (some 0)), (1, aI v1)]) 3 dX6_readTests_63 rfl (by decide) rfl ?_
                refine x_aload_n (pc := 64) 0 dX6_readTests_64 rfl rfl ?_
                refine x_dup (pc := 65) dX6_readTests_65 rfl ?_
                refine x_getI (pc := 66) fd_6_6 tk_70 dX6_readTests_66 ?_
                refine x_iconst (pc := 69) 2 dX6_readTests_69 rfl ?_
                refine x_iadd (pc := 70) dX6_readTests_70 ?_
                refine x_putI (pc := 71) fd_6_6 pt_6_6 tk_70 dX6_readTests_71 (Or.inl rfl) ?_
                refine x_nameS (fun s14 => ?_)
                refine x_aload_n (pc := 74) 0 dX6_readTests_74 rfl rfl ?_
                refine x_callV (pc := 75) (as := []) (rest := []) (fun l => c_6_readNumber l s14) md_X6_readNumber ⟨_, _, rfl, by decide⟩ tk_1042 tp_35 tk_1040 dX6_readTests_75 rfl ⟨by decide, by decide, by decide, by decide⟩ ⟨fun _ => rfl, fun _ => Or.inl rfl⟩ rfl (Nat.le_of_ble_eq_true rfl) (fun r15 s16 => ?_)
                show X E _ _ _ _ 0 0 _ _ _ [aI r15] _
                refine x_istore (pc := 78) (als' := [(4, aI r15), (3, aI r13), (2, aI r10), (0, aR 6 (some 0)), (1, aI v1)]) 4 dX6_readTests_78 (by decide) rfl ?_
                refine x_iload_n (pc := 80) 1 dX6_readTests_80 rfl rfl ?_
                refine x_join (P := fun (j18 : Int32 → Option (Int32 × zSt)) => ∀ (a17 : Int32), X E cX6_readTests m6_readTests true (zQw E true eI r6_readTests) 0 0 s16 [(0, aR 6 (some 0))] 116 [aI a17] (j18 a17)) ?_ ?_
                · intro a17
                  refine x_istore_n (pc := 116) (als' := [(1, aI a17), (0, aR 6 (some 0))]) 1 dX6_readTests_116 rfl (by decide) rfl ?_
                  refine x_aload_n (pc := 117) 0 dX6_readTests_117 rfl rfl ?_
                  refine x_getR (pc := 118) fd_6_5 tk_69 dX6_readTests_118 ?_
                  refine x_nameR (fun o20 => ?_)
                  refine x_aload_n (pc := 121) 0 dX6_readTests_121 rfl rfl ?_
                  refine x_getI (pc := 122) fd_6_6 tk_70 dX6_readTests_122 ?_
                  rcases o20 with _ | i21
                  · exact x_none
                  ·
                    skip
                    refine x_zocS ?_
                    refine x_callVr (pc := 125) (as := [aI (gI s16 6 0 6)]) (rest := []) (fun l => c_10_at l i21 (gI s16 6 0 6) s16) md_X10_at ⟨_, _, rfl, by decide⟩ tk_1037 tk_1038 tk_1036 dX6_readTests_125 rfl ⟨by decide, by decide, by decide, by decide⟩ ⟨fun _ => rfl, fun _ => Or.inl rfl⟩ rfl (Nat.le_of_ble_eq_true rfl) (fun r22 => ?_)
                    show X E _ _ _ _ 0 0 _ _ _ [aI r22] _
                    refine x_bipush (pc := 128) 38 dX6_readTests_128 rfl ?_
                    refine x_join (P := fun (j24 : zSt → Option (Int32 × zSt)) => ∀ (s23 : zSt), X E cX6_readTests m6_readTests true (zQw E true eI r6_readTests) 0 0 s23 [(0, aR 6 (some 0)), (1, aI a17)] 143 [] (j24 s23)) ?_ ?_
                    · intro s23
                      refine x_goto (pc := 143) 2 dX6_readTests_143 (by decide) ?_
                      exact ih a17 s23
                    · intro j24 hj25
                      refine x_icmp_ne (pc := 130) 143 dX6_readTests_130 (by decide) (fun _ => ?_) (fun _ => ?_)
                      ·
                        exact x_sub [1, 0] rfl (hj25 s16)
                      ·
                        refine x_aload_n (pc := 133) 0 dX6_readTests_133 rfl rfl ?_
                        refine x_dup (pc := 134) dX6_readTests_134 rfl ?_
                        refine x_getI (pc := 135) fd_6_6 tk_70 dX6_readTests_135 ?_
                        refine x_iconst (pc := 138) 1 dX6_readTests_138 rfl ?_
                        refine x_iadd (pc := 139) dX6_readTests_139 ?_
                        refine x_putI (pc := 140) fd_6_6 pt_6_6 tk_70 dX6_readTests_140 (Or.inl rfl) ?_
                        refine x_nameS (fun s26 => ?_)
                        exact x_sub [1, 0] rfl (hj25 s26)
                · intro j18 hj19
                  refine x_join (P := fun (j27 : Option (Int32 × zSt)) => X E cX6_readTests m6_readTests true (zQw E true eI r6_readTests) 0 0 s16 [(0, aR 6 (some 0))] 115 [] j27) ?_ ?_
                  ·
                    refine x_iconst (pc := 115) 0 dX6_readTests_115 rfl ?_
                    exact hj19 0
                  · intro j27 hj28
                    refine x_if_eq (pc := 81) 115 dX6_readTests_81 (by decide) (fun _ => ?_) (fun _ => ?_)
                    ·
                      exact x_sub [3] rfl (hj28)
                    ·
                      refine x_iload_n (pc := 84) 2 dX6_readTests_84 rfl rfl ?_
                      refine x_aload_n (pc := 85) 0 dX6_readTests_85 rfl rfl ?_
                      refine x_getF (pc := 86) (j := 0) fd_6_0 rfl rfl tk_59 dX6_readTests_86 ?_
                      refine x_alen (pc := 89) ar_700 (by decide) dX6_readTests_89 ?_
                      refine x_callSNr (pc := 90) (as := [aI r10, aI (nI 9)]) (rest := []) (fun l => c_11_isIn l true r10 (nI 9) s16) md_X11_isIn tk_219 (host := RX11) (by decide +kernel) dX6_readTests_90 rfl ⟨by decide, by decide, by decide, by decide⟩ ⟨fun _ => rfl, fun _ => Or.inl rfl⟩ rfl (Nat.le_of_ble_eq_true rfl) (fun r29 => ?_)
                      show X E _ _ _ _ 0 0 _ _ _ [aI r29] _
                      refine x_if_eq (pc := 93) 115 dX6_readTests_93 (by decide) (fun _ => ?_) (fun _ => ?_)
                      ·
                        exact x_sub [3] rfl (hj28)
                      ·
                        refine x_aload_n (pc := 96) 0 dX6_readTests_96 rfl rfl ?_
                        refine x_getF (pc := 97) (j := 0) fd_6_0 rfl rfl tk_59 dX6_readTests_97 ?_
                        refine x_iload_n (pc := 100) 2 dX6_readTests_100 rfl rfl ?_
                        refine x_iald (pc := 101) ar_700 dX6_readTests_101 (fun m30 => ?_)
                        refine x_iload_n (pc := 102) 3 dX6_readTests_102 rfl rfl ?_
                        refine x_iload (pc := 103) 4 dX6_readTests_103 rfl ?_
                        refine x_callSr (pc := 105) (as := [aI (gI s16 700 0 m30), aI r13, aI r15]) (rest := []) (fun l => c_6_compares l true (gI s16 700 0 m30) r13 r15 s16) md_X6_compares tk_1046 tk_1045 dX6_readTests_105 rfl ⟨by decide, by decide, by decide, by decide⟩ ⟨fun _ => rfl, fun _ => Or.inl rfl⟩ rfl (Nat.le_of_ble_eq_true rfl) (fun r31 => ?_)
                        show X E _ _ _ _ 0 0 _ _ _ [aI r31] _
                        refine x_if_eq (pc := 108) 115 dX6_readTests_108 (by decide) (fun _ => ?_) (fun _ => ?_)
                        ·
                          exact x_sub [3] rfl (hj28)
                        ·
                          refine x_iconst (pc := 111) 1 dX6_readTests_111 rfl ?_
                          refine x_goto (pc := 112) 116 dX6_readTests_112 (by decide) ?_
                          exact x_sub [3] rfl (hj19 1)
set_option maxRecDepth 20000 in
theorem x6_readTests (E : zEn)   (σ : zSt) : X E cX6_readTests m6_readTests true (zQw E true eI r6_readTests) 0 0 σ [(0, aR 6 (some 0))] 0 [] (f6_readTests σ) := by
  unfold f6_readTests
  refine x_iconst (pc := 0) 1 dX6_readTests_0 rfl ?_
  refine x_istore_n (pc := 1) (als' := [(1, aI 1), (0, aR 6 (some 0))]) 1 dX6_readTests_1 rfl (by decide) rfl ?_
  refine x_sub [1, 0] rfl (xl6_readTests_2 E (fun a32 s33 => ?_) zfuel 1 σ)
  ·
    refine x_aload_n (pc := 146) 0 dX6_readTests_146 rfl rfl ?_
    refine x_dup (pc := 147) dX6_readTests_147 rfl ?_
    refine x_getI (pc := 148) fd_6_6 tk_70 dX6_readTests_148 ?_
    refine x_iconst (pc := 151) 1 dX6_readTests_151 rfl ?_
    refine x_iadd (pc := 152) dX6_readTests_152 ?_
    refine x_putI (pc := 153) fd_6_6 pt_6_6 tk_70 dX6_readTests_153 (Or.inl rfl) ?_
    refine x_nameS (fun s34 => ?_)
    refine x_iload_n (pc := 156) 1 dX6_readTests_156 rfl rfl ?_
    exact x_zret (rm := r6_readTests) rfl rfl dX6_readTests_157
theorem c_6_readTests (l : Launch)   (σ : zSt) : zMet l yX6_readTests cX6_readTests 5 (some .boolean) r6_readTests true eI [aR 6 (some 0)] σ (f6_readTests σ) :=
  zMet_of [(0, aR 6 (some 0))] (by decide +kernel) (fun h => by cases h) (Nat.le_of_ble_eq_true rfl) rfl fun E _ => x6_readTests E   σ
abbrev r6_findLine : Room := { frames := 8, cells := 0, slots := 0, locals := 245 }
abbrev m6_findLine : zMu := (RX6, 2, (some .boolean), r6_findLine, false)
set_option maxRecDepth 20000 in
theorem xl6_findLine_10 (E : zEn)      : ∀ (n : Nat)  (σ : zSt), X E cX6_findLine m6_findLine true (zQw E true eI r6_findLine) 0 0 σ [(0, aR 6 (some 0))] 10 [] (f6_findLine_L10 n σ) := by
  intro n
  induction n with
  | zero => intros; exact x_none
  | succ n ih =>
    intro σ
    rw [f6_findLine_L10]
    refine x_aload_n (pc := 10) 0 dX6_findLine_10 rfl rfl ?_
    refine x_getI (pc := 11) fd_6_6 tk_70 dX6_findLine_11 ?_
    refine x_aload_n (pc := 14) 0 dX6_findLine_14 rfl rfl ?_
    refine x_getR (pc := 15) fd_6_5 tk_69 dX6_findLine_15 ?_
    refine x_nameR (fun o3 => ?_)
    rcases o3 with _ | i4
    · exact x_none
    ·
      skip
      refine x_zocS ?_
      refine x_callVr (pc := 18) (as := []) (rest := [aI (gI σ 6 0 6)]) (fun l => c_10_length l i4 σ) md_X10_length ⟨_, _, rfl, by decide⟩ tk_1029 tk_1030 tk_1028 dX6_findLine_18 rfl ⟨by decide, by decide, by decide, by decide⟩ ⟨fun _ => rfl, fun _ => Or.inl rfl⟩ rfl (Nat.le_of_ble_eq_true rfl) (fun r5 => ?_)
      show X E _ _ _ _ 0 0 _ _ _ [aI r5, aI (gI σ 6 0 6)] _
      refine x_icmp_ge (pc := 21) 91 dX6_findLine_21 (by decide) (fun _ => ?_) (fun _ => ?_)
      ·
        refine x_iconst (pc := 91) 0 dX6_findLine_91 rfl ?_
        exact x_zretC (rm := r6_findLine) rfl rfl (by decide) dX6_findLine_92
      ·
        refine x_aload_n (pc := 24) 0 dX6_findLine_24 rfl rfl ?_
        refine x_callV (pc := 25) (as := []) (rest := []) (fun l => c_6_readTests l σ) md_X6_readTests ⟨_, _, rfl, by decide⟩ tk_1034 tp_34 tk_1032 dX6_findLine_25 rfl ⟨by decide, by decide, by decide, by decide⟩ ⟨fun _ => rfl, fun _ => Or.inl rfl⟩ rfl (Nat.le_of_ble_eq_true rfl) (fun r6 s7 => ?_)
        show X E _ _ _ _ 0 0 _ _ _ [aI r6] _
        refine x_istore_n (pc := 28) (als' := [(1, aI r6), (0, aR 6 (some 0))]) 1 dX6_findLine_28 rfl (by decide) rfl ?_
        refine x_aload_n (pc := 29) 0 dX6_findLine_29 rfl rfl ?_
        refine x_aload_n (pc := 30) 0 dX6_findLine_30 rfl rfl ?_
        refine x_getR (pc := 31) fd_6_5 tk_69 dX6_findLine_31 ?_
        refine x_nameR (fun o8 => ?_)
        refine x_aload_n (pc := 34) 0 dX6_findLine_34 rfl rfl ?_
        refine x_getI (pc := 35) fd_6_6 tk_70 dX6_findLine_35 ?_
        rcases o8 with _ | i9
        · exact x_none
        ·
          skip
          refine x_zocS ?_
          refine x_callVr (pc := 38) (as := [aI (gI s7 6 0 6)]) (rest := [aR 6 (some 0)]) (fun l => c_10_at l i9 (gI s7 6 0 6) s7) md_X10_at ⟨_, _, rfl, by decide⟩ tk_1037 tk_1038 tk_1036 dX6_findLine_38 rfl ⟨by decide, by decide, by decide, by decide⟩ ⟨fun _ => rfl, fun _ => Or.inl rfl⟩ rfl (Nat.le_of_ble_eq_true rfl) (fun r10 => ?_)
          show X E _ _ _ _ 0 0 _ _ _ [aI r10, aR 6 (some 0)] _
          refine x_putI (pc := 41) fd_6_7 pt_6_7 tk_71 dX6_findLine_41 (Or.inl rfl) ?_
          refine x_nameS (fun s11 => ?_)
          refine x_aload_n (pc := 44) 0 dX6_findLine_44 rfl rfl ?_
          refine x_dup (pc := 45) dX6_findLine_45 rfl ?_
          refine x_getI (pc := 46) fd_6_6 tk_70 dX6_findLine_46 ?_
          refine x_iconst (pc := 49) 1 dX6_findLine_49 rfl ?_
          refine x_iadd (pc := 50) dX6_findLine_50 ?_
          refine x_putI (pc := 51) fd_6_6 pt_6_6 tk_70 dX6_findLine_51 (Or.inl rfl) ?_
          refine x_nameS (fun s12 => ?_)
          refine x_aload_n (pc := 54) 0 dX6_findLine_54 rfl rfl ?_
          refine x_aload_n (pc := 55) 0 dX6_findLine_55 rfl rfl ?_
          refine x_callV (pc := 56) (as := []) (rest := [aR 6 (some 0)]) (fun l => c_6_readNumber l s12) md_X6_readNumber ⟨_, _, rfl, by decide⟩ tk_1042 tp_35 tk_1040 dX6_findLine_56 rfl ⟨by decide, by decide, by decide, by decide⟩ ⟨fun _ => rfl, fun _ => Or.inl rfl⟩ rfl (Nat.le_of_ble_eq_true rfl) (fun r13 s14 => ?_)
          show X E _ _ _ _ 0 0 _ _ _ [aI r13, aR 6 (some 0)] _
          refine x_putI (pc := 59) fd_6_8 pt_6_8 tk_72 dX6_findLine_59 (Or.inl rfl) ?_
          refine x_nameS (fun s15 => ?_)
          refine x_aload_n (pc := 62) 0 dX6_findLine_62 rfl rfl ?_
          refine x_dup (pc := 63) dX6_findLine_63 rfl ?_
          refine x_getI (pc := 64) fd_6_6 tk_70 dX6_findLine_64 ?_
          refine x_iconst (pc := 67) 1 dX6_findLine_67 rfl ?_
          refine x_iadd (pc := 68) dX6_findLine_68 ?_
          refine x_putI (pc := 69) fd_6_6 pt_6_6 tk_70 dX6_findLine_69 (Or.inl rfl) ?_
          refine x_nameS (fun s16 => ?_)
          refine x_iload_n (pc := 72) 1 dX6_findLine_72 rfl rfl ?_
          refine x_if_eq (pc := 73) 78 dX6_findLine_73 (by decide) (fun _ => ?_) (fun _ => ?_)
          ·
            refine x_aload_n (pc := 78) 0 dX6_findLine_78 rfl rfl ?_
            refine x_dup (pc := 79) dX6_findLine_79 rfl ?_
            refine x_getI (pc := 80) fd_6_4 tk_67 dX6_findLine_80 ?_
            refine x_iconst (pc := 83) 1 dX6_findLine_83 rfl ?_
            refine x_iadd (pc := 84) dX6_findLine_84 ?_
            refine x_putI (pc := 85) fd_6_4 pt_6_4 tk_67 dX6_findLine_85 (Or.inl rfl) ?_
            refine x_nameS (fun s17 => ?_)
            refine x_goto (pc := 88) 10 dX6_findLine_88 (by decide) ?_
            exact x_sub [1] rfl (ih s17)
          ·
            refine x_iconst (pc := 76) 1 dX6_findLine_76 rfl ?_
            exact x_zretC (rm := r6_findLine) rfl rfl (by decide) dX6_findLine_77
set_option maxRecDepth 20000 in
theorem x6_findLine (E : zEn)   (σ : zSt) : X E cX6_findLine m6_findLine true (zQw E true eI r6_findLine) 0 0 σ [(0, aR 6 (some 0))] 0 [] (f6_findLine σ) := by
  unfold f6_findLine
  refine x_aload_n (pc := 0) 0 dX6_findLine_0 rfl rfl ?_
  refine x_iconst (pc := 1) 0 dX6_findLine_1 rfl ?_
  refine x_putI (pc := 2) fd_6_6 pt_6_6 tk_70 dX6_findLine_2 (Or.inl rfl) ?_
  refine x_nameS (fun s1 => ?_)
  refine x_aload_n (pc := 5) 0 dX6_findLine_5 rfl rfl ?_
  refine x_iconst (pc := 6) 0 dX6_findLine_6 rfl ?_
  refine x_putI (pc := 7) fd_6_4 pt_6_4 tk_67 dX6_findLine_7 (Or.inl rfl) ?_
  refine x_nameS (fun s2 => ?_)
  refine x_sub [0] rfl (xl6_findLine_10 E zfuel s2)
theorem c_6_findLine (l : Launch)   (σ : zSt) : zMet l yX6_findLine cX6_findLine 2 (some .boolean) r6_findLine true eI [aR 6 (some 0)] σ (f6_findLine σ) :=
  zMet_of [(0, aR 6 (some 0))] (by decide +kernel) (fun h => by cases h) (Nat.le_of_ble_eq_true rfl) rfl fun E _ => x6_findLine E   σ
abbrev r6_decideBy : Room := { frames := 9, cells := 0, slots := 0, locals := 266 }
abbrev m6_decideBy : zMu := (RX6, 5, none, r6_decideBy, false)
set_option maxRecDepth 20000 in
theorem x6_decideBy (E : zEn)  (h1 : Nat) (v2 : Int32) (v3 : Int32) (σ : zSt) : X E cX6_decideBy m6_decideBy true (zQw E true eV r6_decideBy) 0 0 σ [(0, aR 6 (some 0)), (1, aR 10 (some h1)), (2, aI v2), (3, aI v3)] 0 [] (f6_decideBy h1 v2 v3 σ) := by
  unfold f6_decideBy
  refine x_aload_n (pc := 0) 0 dX6_decideBy_0 rfl rfl ?_
  refine x_aload_n (pc := 1) 1 dX6_decideBy_1 rfl rfl ?_
  refine x_putR (pc := 2) fd_6_5 pt_6_5 (Or.inl ⟨_, rfl⟩) tk_69 dX6_decideBy_2 (Or.inl rfl) (Or.inr fun _ => rfl) ?_
  refine x_nameS (fun s1 => ?_)
  refine x_aload_n (pc := 5) 0 dX6_decideBy_5 rfl rfl ?_
  refine x_callV (pc := 6) (as := []) (rest := []) (fun l => c_6_findLine l s1) md_X6_findLine ⟨_, _, rfl, by decide⟩ tk_1026 tp_33 tk_1024 dX6_decideBy_6 rfl ⟨by decide, by decide, by decide, by decide⟩ ⟨fun _ => rfl, fun _ => Or.inl rfl⟩ rfl (Nat.le_of_ble_eq_true rfl) (fun r2 s3 => ?_)
  show X E _ _ _ _ 0 0 _ _ _ [aI r2] _
  refine x_if_ne (pc := 9) 18 dX6_decideBy_9 (by decide) (fun _ => ?_) (fun _ => ?_)
  ·
    refine x_aload_n (pc := 18) 0 dX6_decideBy_18 rfl rfl ?_
    refine x_getI (pc := 19) fd_6_8 tk_72 dX6_decideBy_19 ?_
    refine x_iload_n (pc := 22) 2 dX6_decideBy_22 rfl rfl ?_
    refine x_zmin (pc := 23) (rest := []) tk_1049 tk_741 tk_14 tk_742 dX6_decideBy_23 ⟨by decide, by decide, by decide, by decide⟩ (Nat.le_of_ble_eq_true rfl) ?_
    refine x_nameI (fun x6 => ?_)
    refine x_istore (pc := 26) (als' := [(4, aI x6), (0, aR 6 (some 0)), (1, aR 10 (some h1)), (2, aI v2), (3, aI v3)]) 4 dX6_decideBy_26 (by decide) rfl ?_
    refine x_aload_n (pc := 28) 0 dX6_decideBy_28 rfl rfl ?_
    refine x_getI (pc := 29) fd_6_7 tk_71 dX6_decideBy_29 ?_
    refine x_nameI (fun x7 => ?_)
    refine x_lookup (pc := 32) dX6_decideBy_32 (by decide) (fun tg8 ht9 => ?_) (fun x => ?_)
    ·
      refine x_ite (fun hc10 => ?_) (fun hc10 => ?_)
      ·
        obtain rfl : tg8 = 76 := zlw_at hc10 ht9 (by decide)
        refine x_aload_n (pc := 76) 0 dX6_decideBy_76 rfl rfl ?_
        refine x_iconst (pc := 77) 0 dX6_decideBy_77 rfl ?_
        refine x_iload (pc := 78) 4 dX6_decideBy_78 rfl ?_
        refine x_iload_n (pc := 80) 2 dX6_decideBy_80 rfl rfl ?_
        refine x_iload (pc := 81) 4 dX6_decideBy_81 rfl ?_
        refine x_isub (pc := 83) dX6_decideBy_83 ?_
        refine x_aload_n (pc := 84) 0 dX6_decideBy_84 rfl rfl ?_
        refine x_getI (pc := 85) fd_6_4 tk_67 dX6_decideBy_85 ?_
        refine x_callV (pc := 88) (as := [aI 0, aI x6, aI (v2 - x6), aI (gI s3 6 0 4)]) (rest := []) (fun l => c_6_set l true 0 x6 (v2 - x6) (gI s3 6 0 4) s3) md_X6_set ⟨_, _, rfl, by decide⟩ tk_1000 tp_31 tk_998 dX6_decideBy_88 rfl ⟨by decide, by decide, by decide, by decide⟩ ⟨fun _ => rfl, fun _ => Or.inl rfl⟩ rfl (Nat.le_of_ble_eq_true rfl) (fun _ s12 => ?_)
        show X E _ _ _ _ 0 0 _ _ _ [] _
        refine x_goto (pc := 91) 167 dX6_decideBy_91 (by decide) ?_
        exact x_vret (rm := r6_decideBy) rfl rfl dX6_decideBy_167
      ·
        refine x_ite (fun hc13 => ?_) (fun hc13 => ?_)
        ·
          obtain rfl : tg8 = 112 := zlw_at hc13 ht9 (by decide)
          refine x_aload_n (pc := 112) 0 dX6_decideBy_112 rfl rfl ?_
          refine x_iload_n (pc := 113) 3 dX6_decideBy_113 rfl rfl ?_
          refine x_iconst (pc := 114) (-1) dX6_decideBy_114 rfl ?_
          refine x_mg (c := v3 = (-1)) (a := 0) (b := (10 + v3)) 126 [aR 6 (some 0)] ?_ (fun hm14 => ?_)
          ·
            refine x_iload (pc := 126) 4 dX6_decideBy_126 rfl ?_
            refine x_iload_n (pc := 128) 2 dX6_decideBy_128 rfl rfl ?_
            refine x_iload (pc := 129) 4 dX6_decideBy_129 rfl ?_
            refine x_isub (pc := 131) dX6_decideBy_131 ?_
            refine x_aload_n (pc := 132) 0 dX6_decideBy_132 rfl rfl ?_
            refine x_getI (pc := 133) fd_6_4 tk_67 dX6_decideBy_133 ?_
            refine x_callV (pc := 136) (as := [aI (if v3 = (-1) then 0 else (10 + v3)), aI x6, aI (v2 - x6), aI (gI s3 6 0 4)]) (rest := []) (fun l => c_6_set l true (if v3 = (-1) then 0 else (10 + v3)) x6 (v2 - x6) (gI s3 6 0 4) s3) md_X6_set ⟨_, _, rfl, by decide⟩ tk_1000 tp_31 tk_998 dX6_decideBy_136 rfl ⟨by decide, by decide, by decide, by decide⟩ ⟨fun _ => rfl, fun _ => Or.inl rfl⟩ rfl (Nat.le_of_ble_eq_true rfl) (fun _ s19 => ?_)
            show X E _ _ _ _ 0 0 _ _ _ [] _
            refine x_goto (pc := 139) 167 dX6_decideBy_139 (by decide) ?_
            exact x_vret (rm := r6_decideBy) rfl rfl dX6_decideBy_167
          ·
            refine x_same (c := v3 = (-1)) ?_
            refine x_icmp_ne (pc := 115) 122 dX6_decideBy_115 (by decide) (fun hc15 => ?_) (fun hc15 => ?_)
            ·
              have hm17 := x_topF hc15 hm14
              refine x_bipush (pc := 122) 10 dX6_decideBy_122 rfl ?_
              refine x_iload_n (pc := 124) 3 dX6_decideBy_124 rfl rfl ?_
              refine x_iadd (pc := 125) dX6_decideBy_125 ?_
              exact hm17
            ·
              have hm16 := x_topT hc15 hm14
              refine x_iconst (pc := 118) 0 dX6_decideBy_118 rfl ?_
              refine x_goto (pc := 119) 126 dX6_decideBy_119 (by decide) ?_
              exact hm16
        ·
          refine x_ite (fun hc20 => ?_) (fun hc20 => ?_)
          ·
            obtain rfl : tg8 = 142 := zlw_at hc20 ht9 (by decide)
            refine x_aload_n (pc := 142) 0 dX6_decideBy_142 rfl rfl ?_
            refine x_iconst (pc := 143) 3 dX6_decideBy_143 rfl ?_
            refine x_iconst (pc := 144) 0 dX6_decideBy_144 rfl ?_
            refine x_iconst (pc := 145) 0 dX6_decideBy_145 rfl ?_
            refine x_aload_n (pc := 146) 0 dX6_decideBy_146 rfl rfl ?_
            refine x_getI (pc := 147) fd_6_4 tk_67 dX6_decideBy_147 ?_
            refine x_callV (pc := 150) (as := [aI 3, aI 0, aI 0, aI (gI s3 6 0 4)]) (rest := []) (fun l => c_6_set l true 3 0 0 (gI s3 6 0 4) s3) md_X6_set ⟨_, _, rfl, by decide⟩ tk_1000 tp_31 tk_998 dX6_decideBy_150 rfl ⟨by decide, by decide, by decide, by decide⟩ ⟨fun _ => rfl, fun _ => Or.inl rfl⟩ rfl (Nat.le_of_ble_eq_true rfl) (fun _ s22 => ?_)
            show X E _ _ _ _ 0 0 _ _ _ [] _
            refine x_goto (pc := 153) 167 dX6_decideBy_153 (by decide) ?_
            exact x_vret (rm := r6_decideBy) rfl rfl dX6_decideBy_167
          ·
            refine x_ite (fun hc23 => ?_) (fun hc23 => ?_)
            ·
              obtain rfl : tg8 = 94 := zlw_at hc23 ht9 (by decide)
              refine x_aload_n (pc := 94) 0 dX6_decideBy_94 rfl rfl ?_
              refine x_iconst (pc := 95) 1 dX6_decideBy_95 rfl ?_
              refine x_iload (pc := 96) 4 dX6_decideBy_96 rfl ?_
              refine x_iload_n (pc := 98) 2 dX6_decideBy_98 rfl rfl ?_
              refine x_iload (pc := 99) 4 dX6_decideBy_99 rfl ?_
              refine x_isub (pc := 101) dX6_decideBy_101 ?_
              refine x_aload_n (pc := 102) 0 dX6_decideBy_102 rfl rfl ?_
              refine x_getI (pc := 103) fd_6_4 tk_67 dX6_decideBy_103 ?_
              refine x_callV (pc := 106) (as := [aI 1, aI x6, aI (v2 - x6), aI (gI s3 6 0 4)]) (rest := []) (fun l => c_6_set l true 1 x6 (v2 - x6) (gI s3 6 0 4) s3) md_X6_set ⟨_, _, rfl, by decide⟩ tk_1000 tp_31 tk_998 dX6_decideBy_106 rfl ⟨by decide, by decide, by decide, by decide⟩ ⟨fun _ => rfl, fun _ => Or.inl rfl⟩ rfl (Nat.le_of_ble_eq_true rfl) (fun _ s25 => ?_)
              show X E _ _ _ _ 0 0 _ _ _ [] _
              refine x_goto (pc := 109) 167 dX6_decideBy_109 (by decide) ?_
              exact x_vret (rm := r6_decideBy) rfl rfl dX6_decideBy_167
            ·
              obtain rfl : tg8 = 156 := zlwd_at (cs := [98, 99, 118, 119]) ht9 (by decide) (by simp only [List.mem_cons, List.not_mem_nil, or_false, not_or]; exact ⟨hc10, hc13, hc20, hc23⟩) (by decide)
              refine x_aload_n (pc := 156) 0 dX6_decideBy_156 rfl rfl ?_
              refine x_iconst (pc := 157) 2 dX6_decideBy_157 rfl ?_
              refine x_iload_n (pc := 158) 2 dX6_decideBy_158 rfl rfl ?_
              refine x_iconst (pc := 159) 0 dX6_decideBy_159 rfl ?_
              refine x_aload_n (pc := 160) 0 dX6_decideBy_160 rfl rfl ?_
              refine x_getI (pc := 161) fd_6_4 tk_67 dX6_decideBy_161 ?_
              refine x_callV (pc := 164) (as := [aI 2, aI v2, aI 0, aI (gI s3 6 0 4)]) (rest := []) (fun l => c_6_set l true 2 v2 0 (gI s3 6 0 4) s3) md_X6_set ⟨_, _, rfl, by decide⟩ tk_1000 tp_31 tk_998 dX6_decideBy_164 rfl ⟨by decide, by decide, by decide, by decide⟩ ⟨fun _ => rfl, fun _ => Or.inl rfl⟩ rfl (Nat.le_of_ble_eq_true rfl) (fun _ s27 => ?_)
              show X E _ _ _ _ 0 0 _ _ _ [] _
              exact x_vret (rm := r6_decideBy) rfl rfl dX6_decideBy_167
    · exact zloff_pos (by decide) (by decide) x
  ·
    refine x_aload_n (pc := 12) 0 dX6_decideBy_12 rfl rfl ?_
    refine x_iload_n (pc := 13) 2 dX6_decideBy_13 rfl rfl ?_
    refine x_callV (pc := 14) (as := [aI v2]) (rest := []) (fun l => c_6_ownerPaysAll l true v2 s3) md_X6_ownerPaysAll ⟨_, _, rfl, by decide⟩ tk_1008 tk_1009 tk_1048 dX6_decideBy_14 rfl ⟨by decide, by decide, by decide, by decide⟩ ⟨fun _ => rfl, fun _ => Or.inl rfl⟩ rfl (Nat.le_of_ble_eq_true rfl) (fun _ s5 => ?_)
    show X E _ _ _ _ 0 0 _ _ _ [] _
    exact x_vret (rm := r6_decideBy) rfl rfl dX6_decideBy_17
theorem c_6_decideBy (l : Launch)  (h1 : Nat) (v2 : Int32) (v3 : Int32) (σ : zSt) : zMet l yX6_decideBy cX6_decideBy 5 none r6_decideBy true eV [aR 6 (some 0), aR 10 (some h1), aI v2, aI v3] σ (f6_decideBy h1 v2 v3 σ) :=
  zMet_of [(0, aR 6 (some 0)), (1, aR 10 (some h1)), (2, aI v2), (3, aI v3)] (by decide +kernel) (fun h => by cases h) (Nat.le_of_ble_eq_true rfl) rfl fun E _ => x6_decideBy E  h1 v2 v3 σ
abbrev r7_init : Room := { frames := 1, cells := 0, slots := 0, locals := 12 }
abbrev m7_init : zMu := (RX7, 4, none, r7_init, true)
set_option maxRecDepth 20000 in
theorem x7_init (E : zEn)  (h : Nat) (v1 : Int32) (v2 : Int32) (v3 : Int32) (σ : zSt) : X E cX7_init m7_init false (zQw E false eV r7_init) 0 0 σ [(0, aR 7 (some h)), (1, aI v1), (2, aI v2), (3, aI v3)] 0 [] (f7_init h v1 v2 v3 σ) := by
  unfold f7_init
  refine x_aload_n (pc := 0) 0 dX7_init_0 rfl rfl ?_
  refine x_objInit (pc := 1) tk_362 tk_28 tk_29 dX7_init_1 (by decide) ?_
  refine x_aload_n (pc := 4) 0 dX7_init_4 rfl rfl ?_
  refine x_iload_n (pc := 5) 1 dX7_init_5 rfl rfl ?_
  refine x_putI (pc := 6) fd_7_0 pt_7_0 tk_363 dX7_init_6 (Or.inr ⟨rfl, rfl⟩) ?_
  refine x_nameS (fun s1 => ?_)
  refine x_aload_n (pc := 9) 0 dX7_init_9 rfl rfl ?_
  refine x_iload_n (pc := 10) 2 dX7_init_10 rfl rfl ?_
  refine x_putI (pc := 11) fd_7_1 pt_7_1 tk_366 dX7_init_11 (Or.inr ⟨rfl, rfl⟩) ?_
  refine x_nameS (fun s2 => ?_)
  refine x_aload_n (pc := 14) 0 dX7_init_14 rfl rfl ?_
  refine x_iload_n (pc := 15) 3 dX7_init_15 rfl rfl ?_
  refine x_putI (pc := 16) fd_7_2 pt_7_2 tk_368 dX7_init_16 (Or.inr ⟨rfl, rfl⟩) ?_
  refine x_nameS (fun s3 => ?_)
  exact x_vret (rm := r7_init) rfl rfl dX7_init_19
theorem c_7_init (l : Launch)  (h : Nat) (v1 : Int32) (v2 : Int32) (v3 : Int32) (σ : zSt) : zMet l yX7_init cX7_init 4 none r7_init false eV [aR 7 (some h), aI v1, aI v2, aI v3] σ (f7_init h v1 v2 v3 σ) :=
  zMet_of [(0, aR 7 (some h)), (1, aI v1), (2, aI v2), (3, aI v3)] (by decide +kernel) (fun _ => rfl) (Nat.le_of_ble_eq_true rfl) rfl fun E _ => x7_init E  h v1 v2 v3 σ
abbrev r8_choose : Room := { frames := 0, cells := 0, slots := 0, locals := 0 }
abbrev m8_choose : zMu := (RX8, 5, (some .long), r8_choose, false)
set_option maxRecDepth 20000 in
theorem xl8_choose_16 (E : zEn)  (q : Bool) (h0 : Int32) (h1 : Int32) (σ : zSt)   : ∀ (n : Nat) (v2 : Int64) (v4 : Int32), X E cX8_choose m8_choose q (zQr E q eL r8_choose σ) 0 0 σ [(0, aI h0), (1, aI h1), (2, aL v2), (4, aI v4)] 16 [] (f8_choose_L16 h0 h1 σ n v2 v4) := by
  intro n
  induction n with
  | zero => intros; exact x_none
  | succ n ih =>
    intro v2 v4
    rw [f8_choose_L16]
    refine x_iload (pc := 16) 4 dX8_choose_16 rfl ?_
    refine x_iload_n (pc := 18) 1 dX8_choose_18 rfl rfl ?_
    refine x_icmp_gt (pc := 19) 42 dX8_choose_19 (by decide) (fun _ => ?_) (fun _ => ?_)
    ·
      refine x_lload_n (pc := 42) 2 dX8_choose_42 rfl rfl ?_
      exact x_lret (rm := r8_choose) rfl rfl dX8_choose_43
    ·
      refine x_lload_n (pc := 22) 2 dX8_choose_22 rfl rfl ?_
      refine x_iload_n (pc := 23) 0 dX8_choose_23 rfl rfl ?_
      refine x_iload_n (pc := 24) 1 dX8_choose_24 rfl rfl ?_
      refine x_isub (pc := 25) dX8_choose_25 ?_
      refine x_iload (pc := 26) 4 dX8_choose_26 rfl ?_
      refine x_iadd (pc := 28) dX8_choose_28 ?_
      refine x_i2l (pc := 29) dX8_choose_29 ?_
      refine x_lmul (pc := 30) dX8_choose_30 ?_
      refine x_iload (pc := 31) 4 dX8_choose_31 rfl ?_
      refine x_i2l (pc := 33) dX8_choose_33 ?_
      refine x_ldiv (pc := 34) dX8_choose_34 ?_
      refine x_nameL (fun l1 => ?_)
      refine x_lstore_n (pc := 35) (als' := [(2, aL l1), (0, aI h0), (1, aI h1), (4, aI v4)]) 2 dX8_choose_35 rfl (by decide) rfl ?_
      refine x_iinc (pc := 36) (als' := [(4, aI (v4 + 1)), (2, aL l1), (0, aI h0), (1, aI h1)]) 4 3 (c := 1) dX8_choose_36 rfl rfl (by decide) rfl ?_
      refine x_nameV (g := fun y3 => [(4, aI y3), (2, aL l1), (0, aI h0), (1, aI h1)]) (fun x2 => ?_) rfl
      refine x_goto (pc := 39) 16 dX8_choose_39 (by decide) ?_
      exact x_sub [2, 3, 1, 0] rfl (ih l1 x2)
set_option maxRecDepth 20000 in
theorem x8_choose (E : zEn)  (q : Bool) (v0 : Int32) (v1 : Int32) (σ : zSt) : X E cX8_choose m8_choose q (zQr E q eL r8_choose σ) 0 0 σ [(0, aI v0), (1, aI v1)] 0 [] (f8_choose v0 v1 σ) := by
  unfold f8_choose
  refine x_iload_n (pc := 0) 1 dX8_choose_0 rfl rfl ?_
  refine x_if_lt (pc := 1) 9 dX8_choose_1 (by decide) (fun _ => ?_) (fun _ => ?_)
  ·
    refine x_lconst (pc := 9) 0 dX8_choose_9 rfl ?_
    exact x_lret (rm := r8_choose) rfl rfl dX8_choose_10
  ·
    refine x_iload_n (pc := 4) 1 dX8_choose_4 rfl rfl ?_
    refine x_iload_n (pc := 5) 0 dX8_choose_5 rfl rfl ?_
    refine x_icmp_le (pc := 6) 11 dX8_choose_6 (by decide) (fun _ => ?_) (fun _ => ?_)
    ·
      refine x_lconst (pc := 11) 1 dX8_choose_11 rfl ?_
      refine x_lstore_n (pc := 12) (als' := [(2, aL 1), (0, aI v0), (1, aI v1)]) 2 dX8_choose_12 rfl (by decide) rfl ?_
      refine x_iconst (pc := 13) 1 dX8_choose_13 rfl ?_
      refine x_istore (pc := 14) (als' := [(4, aI 1), (2, aL 1), (0, aI v0), (1, aI v1)]) 4 dX8_choose_14 (by decide) rfl ?_
      refine x_sub [2, 3, 1, 0] rfl (xl8_choose_16 E q v0 v1 σ zfuel 1 1)
    ·
      refine x_lconst (pc := 9) 0 dX8_choose_9 rfl ?_
      exact x_lret (rm := r8_choose) rfl rfl dX8_choose_10
theorem c_8_choose (l : Launch)  (q : Bool) (v0 : Int32) (v1 : Int32) (σ : zSt) : zMet l yX8_choose cX8_choose 5 (some .long) r8_choose q eL [aI v0, aI v1] σ (zro (f8_choose v0 v1 σ) σ) :=
  zMet_ofR [(0, aI v0), (1, aI v1)] (by decide +kernel) (fun h => by cases h) (Nat.le_of_ble_eq_true rfl) rfl fun E _ => x8_choose E  q v0 v1 σ
abbrev r8_ways : Room := { frames := 1, cells := 0, slots := 0, locals := 24 }
abbrev m8_ways : zMu := (RX8, 8, (some .long), r8_ways, false)
set_option maxRecDepth 20000 in
theorem xl8_ways_6 (E : zEn)  (q : Bool) (h0 : Int32) (h1 : Int32) (h2 : Int32) (h4 : Int32) (σ : zSt)   : ∀ (n : Nat) (v5 : Int64) (v7 : Int32), X E cX8_ways m8_ways q (zQr E q eL r8_ways σ) 0 0 σ [(0, aI h0), (1, aI h1), (2, aI h2), (4, aI h4), (5, aL v5), (7, aI v7)] 6 [] (f8_ways_L6 h0 h1 h2 h4 σ n v5 v7) := by
  intro n
  induction n with
  | zero => intros; exact x_none
  | succ n ih =>
    intro v5 v7
    rw [f8_ways_L6]
    refine x_iload (pc := 6) 7 dX8_ways_6 rfl ?_
    refine x_iload (pc := 8) 4 dX8_ways_8 rfl ?_
    refine x_icmp_gt (pc := 10) 41 dX8_ways_10 (by decide) (fun _ => ?_) (fun _ => ?_)
    ·
      refine x_lload (pc := 41) 5 dX8_ways_41 rfl ?_
      exact x_lret (rm := r8_ways) rfl rfl dX8_ways_43
    ·
      refine x_lload (pc := 13) 5 dX8_ways_13 rfl ?_
      refine x_iload_n (pc := 15) 1 dX8_ways_15 rfl rfl ?_
      refine x_iload (pc := 16) 7 dX8_ways_16 rfl ?_
      refine x_callSr (pc := 18) (as := [aI h1, aI v7]) (rest := [aL v5]) (fun l => c_8_choose l q h1 v7 σ) md_X8_choose tk_661 tk_660 dX8_ways_18 rfl ⟨by decide, by decide, by decide, by decide⟩ ⟨fun h => h, fun h => Or.inl h⟩ rfl (Nat.le_of_ble_eq_true rfl) (fun r1 => ?_)
      show X E _ _ _ _ 0 0 _ _ _ [aL r1, aL v5] _
      refine x_iload_n (pc := 21) 0 dX8_ways_21 rfl rfl ?_
      refine x_iload_n (pc := 22) 1 dX8_ways_22 rfl rfl ?_
      refine x_isub (pc := 23) dX8_ways_23 ?_
      refine x_iload_n (pc := 24) 2 dX8_ways_24 rfl rfl ?_
      refine x_iload (pc := 25) 7 dX8_ways_25 rfl ?_
      refine x_isub (pc := 27) dX8_ways_27 ?_
      refine x_callSr (pc := 28) (as := [aI (h0 - h1), aI (h2 - v7)]) (rest := [aL r1, aL v5]) (fun l => c_8_choose l q (h0 - h1) (h2 - v7) σ) md_X8_choose tk_661 tk_660 dX8_ways_28 rfl ⟨by decide, by decide, by decide, by decide⟩ ⟨fun h => h, fun h => Or.inl h⟩ rfl (Nat.le_of_ble_eq_true rfl) (fun r2 => ?_)
      show X E _ _ _ _ 0 0 _ _ _ [aL r2, aL r1, aL v5] _
      refine x_lmul (pc := 31) dX8_ways_31 ?_
      refine x_ladd (pc := 32) dX8_ways_32 ?_
      refine x_nameL (fun l3 => ?_)
      refine x_lstore (pc := 33) (als' := [(5, aL l3), (0, aI h0), (1, aI h1), (2, aI h2), (4, aI h4), (7, aI v7)]) 5 dX8_ways_33 (by decide) rfl ?_
      refine x_iinc (pc := 35) (als' := [(7, aI (v7 + 1)), (5, aL l3), (0, aI h0), (1, aI h1), (2, aI h2), (4, aI h4)]) 7 5 (c := 1) dX8_ways_35 rfl rfl (by decide) rfl ?_
      refine x_nameV (g := fun y5 => [(7, aI y5), (5, aL l3), (0, aI h0), (1, aI h1), (2, aI h2), (4, aI h4)]) (fun x4 => ?_) rfl
      refine x_goto (pc := 38) 6 dX8_ways_38 (by decide) ?_
      exact x_sub [2, 3, 4, 5, 1, 0] rfl (ih l3 x4)
set_option maxRecDepth 20000 in
theorem x8_ways (E : zEn)  (q : Bool) (v0 : Int32) (v1 : Int32) (v2 : Int32) (v3 : Int32) (v4 : Int32) (σ : zSt) : X E cX8_ways m8_ways q (zQr E q eL r8_ways σ) 0 0 σ [(0, aI v0), (1, aI v1), (2, aI v2), (3, aI v3), (4, aI v4)] 0 [] (f8_ways v0 v1 v2 v3 v4 σ) := by
  unfold f8_ways
  refine x_lconst (pc := 0) 0 dX8_ways_0 rfl ?_
  refine x_lstore (pc := 1) (als' := [(5, aL 0), (0, aI v0), (1, aI v1), (2, aI v2), (3, aI v3), (4, aI v4)]) 5 dX8_ways_1 (by decide) rfl ?_
  refine x_iload_n (pc := 3) 3 dX8_ways_3 rfl rfl ?_
  refine x_istore (pc := 4) (als' := [(7, aI v3), (5, aL 0), (0, aI v0), (1, aI v1), (2, aI v2), (3, aI v3), (4, aI v4)]) 7 dX8_ways_4 (by decide) rfl ?_
  refine x_sub [2, 3, 4, 6, 1, 0] rfl (xl8_ways_6 E q v0 v1 v2 v4 σ zfuel 0 v3)
theorem c_8_ways (l : Launch)  (q : Bool) (v0 : Int32) (v1 : Int32) (v2 : Int32) (v3 : Int32) (v4 : Int32) (σ : zSt) : zMet l yX8_ways cX8_ways 8 (some .long) r8_ways q eL [aI v0, aI v1, aI v2, aI v3, aI v4] σ (zro (f8_ways v0 v1 v2 v3 v4 σ) σ) :=
  zMet_ofR [(0, aI v0), (1, aI v1), (2, aI v2), (3, aI v3), (4, aI v4)] (by decide +kernel) (fun h => by cases h) (Nat.le_of_ble_eq_true rfl) rfl fun E _ => x8_ways E  q v0 v1 v2 v3 v4 σ
abbrev r8_chanceOfMany : Room := { frames := 2, cells := 0, slots := 0, locals := 51 }
abbrev m8_chanceOfMany : zMu := (RX8, 8, (some .int), r8_chanceOfMany, false)
set_option maxRecDepth 20000 in
theorem x8_chanceOfMany (E : zEn)  (q : Bool) (v0 : Int32) (v1 : Int32) (v2 : Int32) (v3 : Int32) (σ : zSt) : X E cX8_chanceOfMany m8_chanceOfMany q (zQr E q eI r8_chanceOfMany σ) 0 0 σ [(0, aI v0), (1, aI v1), (2, aI v2), (3, aI v3)] 0 [] (f8_chanceOfMany v0 v1 v2 v3 σ) := by
  unfold f8_chanceOfMany
  refine x_iload_n (pc := 0) 0 dX8_chanceOfMany_0 rfl rfl ?_
  refine x_iload_n (pc := 1) 2 dX8_chanceOfMany_1 rfl rfl ?_
  refine x_callSr (pc := 2) (as := [aI v0, aI v2]) (rest := []) (fun l => c_8_choose l q v0 v2 σ) md_X8_choose tk_661 tk_660 dX8_chanceOfMany_2 rfl ⟨by decide, by decide, by decide, by decide⟩ ⟨fun h => h, fun h => Or.inl h⟩ rfl (Nat.le_of_ble_eq_true rfl) (fun r1 => ?_)
  show X E _ _ _ _ 0 0 _ _ _ [aL r1] _
  refine x_lstore (pc := 5) (als' := [(4, aL r1), (0, aI v0), (1, aI v1), (2, aI v2), (3, aI v3)]) 4 dX8_chanceOfMany_5 (by decide) rfl ?_
  refine x_iload_n (pc := 7) 2 dX8_chanceOfMany_7 rfl rfl ?_
  refine x_if_eq (pc := 8) 18 dX8_chanceOfMany_8 (by decide) (fun _ => ?_) (fun _ => ?_)
  ·
    refine x_sipush (pc := 18) 10000 dX8_chanceOfMany_18 rfl ?_
    exact x_iret (rm := r8_chanceOfMany) rfl rfl dX8_chanceOfMany_21
  ·
    refine x_lload (pc := 11) 4 dX8_chanceOfMany_11 rfl ?_
    refine x_lconst (pc := 13) 0 dX8_chanceOfMany_13 rfl ?_
    refine x_lcmp (pc := 14) dX8_chanceOfMany_14 ?_
    refine x_if_ne (pc := 15) 22 dX8_chanceOfMany_15 (by decide) (fun _ => ?_) (fun _ => ?_)
    ·
      refine x_iload_n (pc := 22) 0 dX8_chanceOfMany_22 rfl rfl ?_
      refine x_iload_n (pc := 23) 1 dX8_chanceOfMany_23 rfl rfl ?_
      refine x_iload_n (pc := 24) 2 dX8_chanceOfMany_24 rfl rfl ?_
      refine x_iload_n (pc := 25) 3 dX8_chanceOfMany_25 rfl rfl ?_
      refine x_iload_n (pc := 26) 2 dX8_chanceOfMany_26 rfl rfl ?_
      refine x_callSr (pc := 27) (as := [aI v0, aI v1, aI v2, aI v3, aI v2]) (rest := []) (fun l => c_8_ways l q v0 v1 v2 v3 v2 σ) md_X8_ways tk_664 tk_663 dX8_chanceOfMany_27 rfl ⟨by decide, by decide, by decide, by decide⟩ ⟨fun h => h, fun h => Or.inl h⟩ rfl (Nat.le_of_ble_eq_true rfl) (fun r2 => ?_)
      show X E _ _ _ _ 0 0 _ _ _ [aL r2] _
      refine x_lstore (pc := 30) (als' := [(6, aL r2), (4, aL r1), (0, aI v0), (1, aI v1), (2, aI v2), (3, aI v3)]) 6 dX8_chanceOfMany_30 (by decide) rfl ?_
      refine x_lload (pc := 32) 6 dX8_chanceOfMany_32 rfl ?_
      refine x_ldc2 (pc := 34) (v := 10000) dX8_chanceOfMany_34 tk_666 ?_
      refine x_lmul (pc := 37) dX8_chanceOfMany_37 ?_
      refine x_lload (pc := 38) 4 dX8_chanceOfMany_38 rfl ?_
      refine x_ladd (pc := 40) dX8_chanceOfMany_40 ?_
      refine x_lconst (pc := 41) 1 dX8_chanceOfMany_41 rfl ?_
      refine x_lsub (pc := 42) dX8_chanceOfMany_42 ?_
      refine x_lload (pc := 43) 4 dX8_chanceOfMany_43 rfl ?_
      refine x_ldiv (pc := 45) dX8_chanceOfMany_45 ?_
      refine x_l2i (pc := 46) dX8_chanceOfMany_46 ?_
      exact x_iret (rm := r8_chanceOfMany) rfl rfl dX8_chanceOfMany_47
    ·
      refine x_sipush (pc := 18) 10000 dX8_chanceOfMany_18 rfl ?_
      exact x_iret (rm := r8_chanceOfMany) rfl rfl dX8_chanceOfMany_21
theorem c_8_chanceOfMany (l : Launch)  (q : Bool) (v0 : Int32) (v1 : Int32) (v2 : Int32) (v3 : Int32) (σ : zSt) : zMet l yX8_chanceOfMany cX8_chanceOfMany 8 (some .int) r8_chanceOfMany q eI [aI v0, aI v1, aI v2, aI v3] σ (zro (f8_chanceOfMany v0 v1 v2 v3 σ) σ) :=
  zMet_ofR [(0, aI v0), (1, aI v1), (2, aI v2), (3, aI v3)] (by decide +kernel) (fun h => by cases h) (Nat.le_of_ble_eq_true rfl) rfl fun E _ => x8_chanceOfMany E  q v0 v1 v2 v3 σ
abbrev r8_leastFalse : Room := { frames := 2, cells := 0, slots := 0, locals := 51 }
abbrev m8_leastFalse : zMu := (RX8, 7, (some .int), r8_leastFalse, false)
set_option maxRecDepth 20000 in
theorem xl8_leastFalse_10 (E : zEn)  (q : Bool) (h0 : Int32) (h1 : Int32) (h2 : Int32) (h3 : Int32) (h4 : Int64) (σ : zSt)   : ∀ (n : Nat) (v6 : Int32), X E cX8_leastFalse m8_leastFalse q (zQr E q eI r8_leastFalse σ) 0 0 σ [(0, aI h0), (1, aI h1), (2, aI h2), (3, aI h3), (4, aL h4), (6, aI v6)] 10 [] (f8_leastFalse_L10 h0 h1 h2 h3 h4 σ n v6) := by
  intro n
  induction n with
  | zero => intros; exact x_none
  | succ n ih =>
    intro v6
    rw [f8_leastFalse_L10]
    refine x_iload (pc := 10) 6 dX8_leastFalse_10 rfl ?_
    refine x_iload_n (pc := 12) 0 dX8_leastFalse_12 rfl rfl ?_
    refine x_iload_n (pc := 13) 1 dX8_leastFalse_13 rfl rfl ?_
    refine x_isub (pc := 14) dX8_leastFalse_14 ?_
    refine x_iload_n (pc := 15) 2 dX8_leastFalse_15 rfl rfl ?_
    refine x_iadd (pc := 16) dX8_leastFalse_16 ?_
    refine x_icmp_ge (pc := 17) 48 dX8_leastFalse_17 (by decide) (fun _ => ?_) (fun _ => ?_)
    ·
      refine x_iload (pc := 48) 6 dX8_leastFalse_48 rfl ?_
      exact x_iret (rm := r8_leastFalse) rfl rfl dX8_leastFalse_50
    ·
      refine x_iload_n (pc := 20) 0 dX8_leastFalse_20 rfl rfl ?_
      refine x_iload (pc := 21) 6 dX8_leastFalse_21 rfl ?_
      refine x_iload_n (pc := 23) 1 dX8_leastFalse_23 rfl rfl ?_
      refine x_iload_n (pc := 24) 2 dX8_leastFalse_24 rfl rfl ?_
      refine x_iload_n (pc := 25) 1 dX8_leastFalse_25 rfl rfl ?_
      refine x_callSr (pc := 26) (as := [aI h0, aI v6, aI h1, aI h2, aI h1]) (rest := []) (fun l => c_8_ways l q h0 v6 h1 h2 h1 σ) md_X8_ways tk_664 tk_663 dX8_leastFalse_26 rfl ⟨by decide, by decide, by decide, by decide⟩ ⟨fun h => h, fun h => Or.inl h⟩ rfl (Nat.le_of_ble_eq_true rfl) (fun r2 => ?_)
      show X E _ _ _ _ 0 0 _ _ _ [aL r2] _
      refine x_ldc2 (pc := 29) (v := 100) dX8_leastFalse_29 tk_1161 ?_
      refine x_lmul (pc := 32) dX8_leastFalse_32 ?_
      refine x_iload_n (pc := 33) 3 dX8_leastFalse_33 rfl rfl ?_
      refine x_i2l (pc := 34) dX8_leastFalse_34 ?_
      refine x_lload (pc := 35) 4 dX8_leastFalse_35 rfl ?_
      refine x_lmul (pc := 37) dX8_leastFalse_37 ?_
      refine x_lcmp (pc := 38) dX8_leastFalse_38 ?_
      refine x_if_ge (pc := 39) 48 dX8_leastFalse_39 (by decide) (fun _ => ?_) (fun _ => ?_)
      ·
        refine x_iload (pc := 48) 6 dX8_leastFalse_48 rfl ?_
        exact x_iret (rm := r8_leastFalse) rfl rfl dX8_leastFalse_50
      ·
        refine x_iinc (pc := 42) (als' := [(6, aI (v6 + 1)), (0, aI h0), (1, aI h1), (2, aI h2), (3, aI h3), (4, aL h4)]) 6 5 (c := 1) dX8_leastFalse_42 rfl rfl (by decide) rfl ?_
        refine x_nameV (g := fun y4 => [(6, aI y4), (0, aI h0), (1, aI h1), (2, aI h2), (3, aI h3), (4, aL h4)]) (fun x3 => ?_) rfl
        refine x_goto (pc := 45) 10 dX8_leastFalse_45 (by decide) ?_
        exact x_sub [1, 2, 3, 4, 5, 0] rfl (ih x3)
set_option maxRecDepth 20000 in
theorem x8_leastFalse (E : zEn)  (q : Bool) (v0 : Int32) (v1 : Int32) (v2 : Int32) (v3 : Int32) (σ : zSt) : X E cX8_leastFalse m8_leastFalse q (zQr E q eI r8_leastFalse σ) 0 0 σ [(0, aI v0), (1, aI v1), (2, aI v2), (3, aI v3)] 0 [] (f8_leastFalse v0 v1 v2 v3 σ) := by
  unfold f8_leastFalse
  refine x_iload_n (pc := 0) 0 dX8_leastFalse_0 rfl rfl ?_
  refine x_iload_n (pc := 1) 1 dX8_leastFalse_1 rfl rfl ?_
  refine x_callSr (pc := 2) (as := [aI v0, aI v1]) (rest := []) (fun l => c_8_choose l q v0 v1 σ) md_X8_choose tk_661 tk_660 dX8_leastFalse_2 rfl ⟨by decide, by decide, by decide, by decide⟩ ⟨fun h => h, fun h => Or.inl h⟩ rfl (Nat.le_of_ble_eq_true rfl) (fun r1 => ?_)
  show X E _ _ _ _ 0 0 _ _ _ [aL r1] _
  refine x_lstore (pc := 5) (als' := [(4, aL r1), (0, aI v0), (1, aI v1), (2, aI v2), (3, aI v3)]) 4 dX8_leastFalse_5 (by decide) rfl ?_
  refine x_iload_n (pc := 7) 2 dX8_leastFalse_7 rfl rfl ?_
  refine x_istore (pc := 8) (als' := [(6, aI v2), (4, aL r1), (0, aI v0), (1, aI v1), (2, aI v2), (3, aI v3)]) 6 dX8_leastFalse_8 (by decide) rfl ?_
  refine x_sub [2, 3, 4, 5, 1, 0] rfl (xl8_leastFalse_10 E q v0 v1 v2 v3 r1 σ zfuel v2)
theorem c_8_leastFalse (l : Launch)  (q : Bool) (v0 : Int32) (v1 : Int32) (v2 : Int32) (v3 : Int32) (σ : zSt) : zMet l yX8_leastFalse cX8_leastFalse 7 (some .int) r8_leastFalse q eI [aI v0, aI v1, aI v2, aI v3] σ (zro (f8_leastFalse v0 v1 v2 v3 σ) σ) :=
  zMet_ofR [(0, aI v0), (1, aI v1), (2, aI v2), (3, aI v3)] (by decide +kernel) (fun h => by cases h) (Nat.le_of_ble_eq_true rfl) rfl fun E _ => x8_leastFalse E  q v0 v1 v2 v3 σ
abbrev r8_greatestFalse : Room := { frames := 2, cells := 0, slots := 0, locals := 51 }
abbrev m8_greatestFalse : zMu := (RX8, 7, (some .int), r8_greatestFalse, false)
set_option maxRecDepth 20000 in
theorem xl8_greatestFalse_14 (E : zEn)  (q : Bool) (h0 : Int32) (h1 : Int32) (h2 : Int32) (h3 : Int32) (h4 : Int64) (σ : zSt)   : ∀ (n : Nat) (v6 : Int32), X E cX8_greatestFalse m8_greatestFalse q (zQr E q eI r8_greatestFalse σ) 0 0 σ [(0, aI h0), (1, aI h1), (2, aI h2), (3, aI h3), (4, aL h4), (6, aI v6)] 14 [] (f8_greatestFalse_L14 h0 h1 h2 h3 h4 σ n v6) := by
  intro n
  induction n with
  | zero => intros; exact x_none
  | succ n ih =>
    intro v6
    rw [f8_greatestFalse_L14]
    refine x_iload (pc := 14) 6 dX8_greatestFalse_14 rfl ?_
    refine x_iload_n (pc := 16) 2 dX8_greatestFalse_16 rfl rfl ?_
    refine x_icmp_le (pc := 17) 48 dX8_greatestFalse_17 (by decide) (fun _ => ?_) (fun _ => ?_)
    ·
      refine x_iload (pc := 48) 6 dX8_greatestFalse_48 rfl ?_
      exact x_iret (rm := r8_greatestFalse) rfl rfl dX8_greatestFalse_50
    ·
      refine x_iload_n (pc := 20) 0 dX8_greatestFalse_20 rfl rfl ?_
      refine x_iload (pc := 21) 6 dX8_greatestFalse_21 rfl ?_
      refine x_iload_n (pc := 23) 1 dX8_greatestFalse_23 rfl rfl ?_
      refine x_iconst (pc := 24) 0 dX8_greatestFalse_24 rfl ?_
      refine x_iload_n (pc := 25) 2 dX8_greatestFalse_25 rfl rfl ?_
      refine x_callSr (pc := 26) (as := [aI h0, aI v6, aI h1, aI 0, aI h2]) (rest := []) (fun l => c_8_ways l q h0 v6 h1 0 h2 σ) md_X8_ways tk_664 tk_663 dX8_greatestFalse_26 rfl ⟨by decide, by decide, by decide, by decide⟩ ⟨fun h => h, fun h => Or.inl h⟩ rfl (Nat.le_of_ble_eq_true rfl) (fun r3 => ?_)
      show X E _ _ _ _ 0 0 _ _ _ [aL r3] _
      refine x_ldc2 (pc := 29) (v := 100) dX8_greatestFalse_29 tk_1161 ?_
      refine x_lmul (pc := 32) dX8_greatestFalse_32 ?_
      refine x_iload_n (pc := 33) 3 dX8_greatestFalse_33 rfl rfl ?_
      refine x_i2l (pc := 34) dX8_greatestFalse_34 ?_
      refine x_lload (pc := 35) 4 dX8_greatestFalse_35 rfl ?_
      refine x_lmul (pc := 37) dX8_greatestFalse_37 ?_
      refine x_lcmp (pc := 38) dX8_greatestFalse_38 ?_
      refine x_if_ge (pc := 39) 48 dX8_greatestFalse_39 (by decide) (fun _ => ?_) (fun _ => ?_)
      ·
        refine x_iload (pc := 48) 6 dX8_greatestFalse_48 rfl ?_
        exact x_iret (rm := r8_greatestFalse) rfl rfl dX8_greatestFalse_50
      ·
        refine x_iinc (pc := 42) (als' := [(6, aI (v6 + (-1))), (0, aI h0), (1, aI h1), (2, aI h2), (3, aI h3), (4, aL h4)]) 6 5 (c := (-1)) dX8_greatestFalse_42 rfl rfl (by decide) rfl ?_
        refine x_nameV (g := fun y5 => [(6, aI y5), (0, aI h0), (1, aI h1), (2, aI h2), (3, aI h3), (4, aL h4)]) (fun x4 => ?_) rfl
        refine x_goto (pc := 45) 14 dX8_greatestFalse_45 (by decide) ?_
        exact x_sub [1, 2, 3, 4, 5, 0] rfl (ih x4)
set_option maxRecDepth 20000 in
theorem x8_greatestFalse (E : zEn)  (q : Bool) (v0 : Int32) (v1 : Int32) (v2 : Int32) (v3 : Int32) (σ : zSt) : X E cX8_greatestFalse m8_greatestFalse q (zQr E q eI r8_greatestFalse σ) 0 0 σ [(0, aI v0), (1, aI v1), (2, aI v2), (3, aI v3)] 0 [] (f8_greatestFalse v0 v1 v2 v3 σ) := by
  unfold f8_greatestFalse
  refine x_iload_n (pc := 0) 0 dX8_greatestFalse_0 rfl rfl ?_
  refine x_iload_n (pc := 1) 1 dX8_greatestFalse_1 rfl rfl ?_
  refine x_callSr (pc := 2) (as := [aI v0, aI v1]) (rest := []) (fun l => c_8_choose l q v0 v1 σ) md_X8_choose tk_661 tk_660 dX8_greatestFalse_2 rfl ⟨by decide, by decide, by decide, by decide⟩ ⟨fun h => h, fun h => Or.inl h⟩ rfl (Nat.le_of_ble_eq_true rfl) (fun r1 => ?_)
  show X E _ _ _ _ 0 0 _ _ _ [aL r1] _
  refine x_lstore (pc := 5) (als' := [(4, aL r1), (0, aI v0), (1, aI v1), (2, aI v2), (3, aI v3)]) 4 dX8_greatestFalse_5 (by decide) rfl ?_
  refine x_iload_n (pc := 7) 0 dX8_greatestFalse_7 rfl rfl ?_
  refine x_iload_n (pc := 8) 1 dX8_greatestFalse_8 rfl rfl ?_
  refine x_isub (pc := 9) dX8_greatestFalse_9 ?_
  refine x_iload_n (pc := 10) 2 dX8_greatestFalse_10 rfl rfl ?_
  refine x_iadd (pc := 11) dX8_greatestFalse_11 ?_
  refine x_nameI (fun x2 => ?_)
  refine x_istore (pc := 12) (als' := [(6, aI x2), (4, aL r1), (0, aI v0), (1, aI v1), (2, aI v2), (3, aI v3)]) 6 dX8_greatestFalse_12 (by decide) rfl ?_
  refine x_sub [2, 3, 4, 5, 1, 0] rfl (xl8_greatestFalse_14 E q v0 v1 v2 v3 r1 σ zfuel x2)
theorem c_8_greatestFalse (l : Launch)  (q : Bool) (v0 : Int32) (v1 : Int32) (v2 : Int32) (v3 : Int32) (σ : zSt) : zMet l yX8_greatestFalse cX8_greatestFalse 7 (some .int) r8_greatestFalse q eI [aI v0, aI v1, aI v2, aI v3] σ (zro (f8_greatestFalse v0 v1 v2 v3 σ) σ) :=
  zMet_ofR [(0, aI v0), (1, aI v1), (2, aI v2), (3, aI v3)] (by decide +kernel) (fun h => by cases h) (Nat.le_of_ble_eq_true rfl) rfl fun E _ => x8_greatestFalse E  q v0 v1 v2 v3 σ
abbrev r9_init : Room := { frames := 1, cells := 1, slots := 10, locals := 12 }
abbrev m9_init : zMu := (RX9, 1, none, r9_init, true)
set_option maxRecDepth 20000 in
theorem x9_init (E : zEn)  (h : Nat) (σ : zSt) : X E cX9_init m9_init false (zQw E false eV r9_init) 0 0 σ [(0, aR 9 (some h))] 0 [] (f9_init h σ) := by
  unfold f9_init
  refine x_aload_n (pc := 0) 0 dX9_init_0 rfl rfl ?_
  refine x_objInit (pc := 1) tk_41 tk_28 tk_29 dX9_init_1 (by decide) ?_
  refine x_aload_n (pc := 4) 0 dX9_init_4 rfl rfl ?_
  refine x_bipush (pc := 5) 10 dX9_init_5 rfl ?_
  refine x_newq (pc := 7) 1000 (n := 10) ar_1000 (by decide) rfl (by decide +kernel) rfl (by decide) tk_42 dX9_init_7 rfl (by decide) ?_
  refine x_nameN (fun i1 => ?_)
  refine x_nameS (fun s2 => ?_)
  refine x_putR (pc := 10) fd_9_0 pt_9_0 (Or.inr ⟨_, rfl⟩) tk_44 dX9_init_10 (Or.inr ⟨rfl, rfl⟩) (Or.inl rfl) ?_
  refine x_nameS (fun s3 => ?_)
  exact x_vret (rm := r9_init) rfl rfl dX9_init_13
theorem c_9_init (l : Launch)  (h : Nat) (σ : zSt) : zMet l yX9_init cX9_init 1 none r9_init false eV [aR 9 (some h)] σ (f9_init h σ) :=
  zMet_of [(0, aR 9 (some h))] (by decide +kernel) (fun _ => rfl) (Nat.le_of_ble_eq_true rfl) rfl fun E _ => x9_init E  h σ
abbrev r9_isFull : Room := { frames := 0, cells := 0, slots := 0, locals := 0 }
abbrev m9_isFull : zMu := (RX9, 1, (some .boolean), r9_isFull, false)
set_option maxRecDepth 20000 in
theorem x9_isFull (E : zEn)  (q : Bool) (h : Nat) (σ : zSt) : X E cX9_isFull m9_isFull q (zQr E q eI r9_isFull σ) 0 0 σ [(0, aR 9 (some h))] 0 [] (f9_isFull h σ) := by
  unfold f9_isFull
  refine x_aload_n (pc := 0) 0 dX9_isFull_0 rfl rfl ?_
  refine x_getI (pc := 1) fd_9_1 tk_45 dX9_isFull_1 ?_
  refine x_bipush (pc := 4) 10 dX9_isFull_4 rfl ?_
  refine x_icmp_lt (pc := 6) 13 dX9_isFull_6 (by decide) (fun _ => ?_) (fun _ => ?_)
  ·
    refine x_iconst (pc := 13) 0 dX9_isFull_13 rfl ?_
    exact x_zretC (rm := r9_isFull) rfl rfl (by decide) dX9_isFull_14
  ·
    refine x_iconst (pc := 9) 1 dX9_isFull_9 rfl ?_
    refine x_goto (pc := 10) 14 dX9_isFull_10 (by decide) ?_
    exact x_zretC (rm := r9_isFull) rfl rfl (by decide) dX9_isFull_14
theorem c_9_isFull (l : Launch)  (q : Bool) (h : Nat) (σ : zSt) : zMet l yX9_isFull cX9_isFull 1 (some .boolean) r9_isFull q eI [aR 9 (some h)] σ (zro (f9_isFull h σ) σ) :=
  zMet_ofR [(0, aR 9 (some h))] (by decide +kernel) (fun h => by cases h) (Nat.le_of_ble_eq_true rfl) rfl fun E _ => x9_isFull E  q h σ
abbrev r9_add : Room := { frames := 0, cells := 0, slots := 0, locals := 0 }
abbrev m9_add : zMu := (RX9, 2, (some .int), r9_add, false)
set_option maxRecDepth 20000 in
theorem x9_add (E : zEn)  (h : Nat) (h1 : Nat) (σ : zSt) : X E cX9_add m9_add true (zQw E true eI r9_add) 0 0 σ [(0, aR 9 (some h)), (1, aR 10 (some h1))] 0 [] (f9_add h h1 σ) := by
  unfold f9_add
  refine x_aload_n (pc := 0) 0 dX9_add_0 rfl rfl ?_
  refine x_getI (pc := 1) fd_9_1 tk_45 dX9_add_1 ?_
  refine x_bipush (pc := 4) 10 dX9_add_4 rfl ?_
  refine x_icmp_lt (pc := 6) 12 dX9_add_6 (by decide) (fun _ => ?_) (fun _ => ?_)
  ·
    refine x_aload_n (pc := 12) 0 dX9_add_12 rfl rfl ?_
    refine x_getF (pc := 13) (j := h) fd_9_0 rfl rfl tk_44 dX9_add_13 ?_
    refine x_aload_n (pc := 16) 0 dX9_add_16 rfl rfl ?_
    refine x_getI (pc := 17) fd_9_1 tk_45 dX9_add_17 ?_
    refine x_aload_n (pc := 20) 1 dX9_add_20 rfl rfl ?_
    refine x_aast (pc := 21) 10 ar_1000 (by decide) rfl dX9_add_21 (fun m1 => ?_)
    refine x_nameS (fun s2 => ?_)
    refine x_aload_n (pc := 22) 0 dX9_add_22 rfl rfl ?_
    refine x_dup (pc := 23) dX9_add_23 rfl ?_
    refine x_getI (pc := 24) fd_9_1 tk_45 dX9_add_24 ?_
    refine x_iconst (pc := 27) 1 dX9_add_27 rfl ?_
    refine x_iadd (pc := 28) dX9_add_28 ?_
    refine x_putI (pc := 29) fd_9_1 pt_9_1 tk_45 dX9_add_29 (Or.inl rfl) ?_
    refine x_nameS (fun s3 => ?_)
    refine x_aload_n (pc := 32) 0 dX9_add_32 rfl rfl ?_
    refine x_getI (pc := 33) fd_9_1 tk_45 dX9_add_33 ?_
    refine x_iconst (pc := 36) 1 dX9_add_36 rfl ?_
    refine x_isub (pc := 37) dX9_add_37 ?_
    exact x_iret (rm := r9_add) rfl rfl dX9_add_38
  ·
    refine x_bipush (pc := 9) (-2) dX9_add_9 rfl ?_
    exact x_iret (rm := r9_add) rfl rfl dX9_add_11
theorem c_9_add (l : Launch)  (h : Nat) (h1 : Nat) (σ : zSt) : zMet l yX9_add cX9_add 2 (some .int) r9_add true eI [aR 9 (some h), aR 10 (some h1)] σ (f9_add h h1 σ) :=
  zMet_of [(0, aR 9 (some h)), (1, aR 10 (some h1))] (by decide +kernel) (fun h => by cases h) (Nat.le_of_ble_eq_true rfl) rfl fun E _ => x9_add E  h h1 σ
abbrev r9_at : Room := { frames := 1, cells := 0, slots := 0, locals := 21 }
abbrev m9_at : zMu := (RX9, 2, (some (.object "SnagBook$Text")), r9_at, false)
set_option maxRecDepth 20000 in
theorem x9_at (E : zEn)  (h : Nat) (v1 : Int32) (σ : zSt) : X E cX9_at m9_at true (zQr E true (eR 10) r9_at σ) 0 0 σ [(0, aR 9 (some h)), (1, aI v1)] 0 [] (f9_at h v1 σ) := by
  unfold f9_at
  refine x_iload_n (pc := 0) 1 dX9_at_0 rfl rfl ?_
  refine x_aload_n (pc := 1) 0 dX9_at_1 rfl rfl ?_
  refine x_getI (pc := 2) fd_9_1 tk_45 dX9_at_2 ?_
  refine x_callSNr (pc := 5) (as := [aI v1, aI (gI σ 9 h 1)]) (rest := []) (fun l => c_11_isIn l true v1 (gI σ 9 h 1) σ) md_X11_isIn tk_219 (host := RX11) (by decide +kernel) dX9_at_5 rfl ⟨by decide, by decide, by decide, by decide⟩ ⟨fun _ => rfl, fun _ => Or.inl rfl⟩ rfl (Nat.le_of_ble_eq_true rfl) (fun r1 => ?_)
  show X E _ _ _ _ 0 0 _ _ _ [aI r1] _
  refine x_if_eq (pc := 8) 20 dX9_at_8 (by decide) (fun _ => ?_) (fun _ => ?_)
  ·
    refine x_null (pc := 20) 10 dX9_at_20 ?_
    exact x_aret (rm := r9_at) rfl rfl dX9_at_21
  ·
    refine x_aload_n (pc := 11) 0 dX9_at_11 rfl rfl ?_
    refine x_getF (pc := 12) (j := h) fd_9_0 rfl rfl tk_44 dX9_at_12 ?_
    refine x_iload_n (pc := 15) 1 dX9_at_15 rfl rfl ?_
    refine x_aald (pc := 16) (g0 := 10) ar_1000 (by decide) rfl dX9_at_16 (fun m2 => ?_)
    refine x_nameR (fun o3 => ?_)
    refine x_goto (pc := 17) 21 dX9_at_17 (by decide) ?_
    exact x_aret (rm := r9_at) rfl rfl dX9_at_21
theorem c_9_at (l : Launch)  (h : Nat) (v1 : Int32) (σ : zSt) : zMet l yX9_at cX9_at 2 (some (.object "SnagBook$Text")) r9_at true (eR 10) [aR 9 (some h), aI v1] σ (zro (f9_at h v1 σ) σ) :=
  zMet_ofR [(0, aR 9 (some h)), (1, aI v1)] (by decide +kernel) (fun h => by cases h) (Nat.le_of_ble_eq_true rfl) rfl fun E _ => x9_at E  h v1 σ
abbrev r9_holding : Room := { frames := 0, cells := 0, slots := 0, locals := 0 }
abbrev m9_holding : zMu := (RX9, 4, (some .int), r9_holding, false)
set_option maxRecDepth 20000 in
theorem xl9_holding_7 (E : zEn)   (h0 : Nat) (h1 : Nat) (h2 : Int32) (σ : zSt)   : ∀ (n : Nat) (v3 : Int32), X E cX9_holding m9_holding true (zQr E true eI r9_holding σ) 0 0 σ [(0, aR 9 (some h0)), (1, aR 5 (some h1)), (2, aI h2), (3, aI v3)] 7 [] (f9_holding_L7 h0 h1 h2 σ n v3) := by
  intro n
  induction n with
  | zero => intros; exact x_none
  | succ n ih =>
    intro v3
    rw [f9_holding_L7]
    refine x_iload_n (pc := 7) 3 dX9_holding_7 rfl rfl ?_
    refine x_if_lt (pc := 8) 48 dX9_holding_8 (by decide) (fun _ => ?_) (fun _ => ?_)
    ·
      refine x_bipush (pc := 48) (-4) dX9_holding_48 rfl ?_
      exact x_iret (rm := r9_holding) rfl rfl dX9_holding_50
    ·
      refine x_aload_n (pc := 11) 0 dX9_holding_11 rfl rfl ?_
      refine x_getF (pc := 12) (j := h0) fd_9_0 rfl rfl tk_44 dX9_holding_12 ?_
      refine x_iload_n (pc := 15) 3 dX9_holding_15 rfl rfl ?_
      refine x_aald (pc := 16) (g0 := 10) ar_1000 (by decide) rfl dX9_holding_16 (fun m2 => ?_)
      refine x_nameR (fun o3 => ?_)
      rcases o3 with _ | i4
      · exact x_none
      ·
        skip
        refine x_zocS ?_
        refine x_getI (pc := 17) fd_10_1 tk_959 dX9_holding_17 ?_
        refine x_iload_n (pc := 20) 2 dX9_holding_20 rfl rfl ?_
        refine x_join (P := fun (j5 : Option Int32) => X E cX9_holding m9_holding true (zQr E true eI r9_holding σ) 0 0 σ [(0, aR 9 (some h0)), (1, aR 5 (some h1)), (2, aI h2), (3, aI v3)] 42 [] j5) ?_ ?_
        ·
          refine x_iinc (pc := 42) (als' := [(3, aI (v3 + (-1))), (0, aR 9 (some h0)), (1, aR 5 (some h1)), (2, aI h2)]) 3 3 (c := (-1)) dX9_holding_42 rfl rfl (by decide) rfl ?_
          refine x_nameV (g := fun y8 => [(3, aI y8), (0, aR 9 (some h0)), (1, aR 5 (some h1)), (2, aI h2)]) (fun x7 => ?_) rfl
          refine x_goto (pc := 45) 7 dX9_holding_45 (by decide) ?_
          exact x_sub [1, 2, 3, 0] rfl (ih x7)
        · intro j5 hj6
          refine x_icmp_gt (pc := 21) 42 dX9_holding_21 (by decide) (fun _ => ?_) (fun _ => ?_)
          ·
            exact hj6
          ·
            refine x_aload_n (pc := 24) 0 dX9_holding_24 rfl rfl ?_
            refine x_getF (pc := 25) (j := h0) fd_9_0 rfl rfl tk_44 dX9_holding_25 ?_
            refine x_iload_n (pc := 28) 3 dX9_holding_28 rfl rfl ?_
            refine x_aald (pc := 29) (g0 := 10) ar_1000 (by decide) rfl dX9_holding_29 (fun m9 => ?_)
            refine x_nameR (fun o10 => ?_)
            rcases o10 with _ | i11
            · exact x_none
            ·
              skip
              refine x_zocS ?_
              refine x_getI (pc := 30) fd_10_2 tk_961 dX9_holding_30 ?_
              refine x_aload_n (pc := 33) 1 dX9_holding_33 rfl rfl ?_
              refine x_getI (pc := 34) fd_5_4 tk_238 dX9_holding_34 ?_
              refine x_icmp_gt (pc := 37) 42 dX9_holding_37 (by decide) (fun _ => ?_) (fun _ => ?_)
              ·
                exact hj6
              ·
                refine x_iload_n (pc := 40) 3 dX9_holding_40 rfl rfl ?_
                exact x_iret (rm := r9_holding) rfl rfl dX9_holding_41
set_option maxRecDepth 20000 in
theorem x9_holding (E : zEn)  (h : Nat) (h1 : Nat) (v2 : Int32) (σ : zSt) : X E cX9_holding m9_holding true (zQr E true eI r9_holding σ) 0 0 σ [(0, aR 9 (some h)), (1, aR 5 (some h1)), (2, aI v2)] 0 [] (f9_holding h h1 v2 σ) := by
  unfold f9_holding
  refine x_aload_n (pc := 0) 0 dX9_holding_0 rfl rfl ?_
  refine x_getI (pc := 1) fd_9_1 tk_45 dX9_holding_1 ?_
  refine x_iconst (pc := 4) 1 dX9_holding_4 rfl ?_
  refine x_isub (pc := 5) dX9_holding_5 ?_
  refine x_nameI (fun x1 => ?_)
  refine x_istore_n (pc := 6) (als' := [(3, aI x1), (0, aR 9 (some h)), (1, aR 5 (some h1)), (2, aI v2)]) 3 dX9_holding_6 rfl (by decide) rfl ?_
  refine x_sub [1, 2, 3, 0] rfl (xl9_holding_7 E h h1 v2 σ zfuel x1)
theorem c_9_holding (l : Launch)  (h : Nat) (h1 : Nat) (v2 : Int32) (σ : zSt) : zMet l yX9_holding cX9_holding 4 (some .int) r9_holding true eI [aR 9 (some h), aR 5 (some h1), aI v2] σ (zro (f9_holding h h1 v2 σ) σ) :=
  zMet_ofR [(0, aR 9 (some h)), (1, aR 5 (some h1)), (2, aI v2)] (by decide +kernel) (fun h => by cases h) (Nat.le_of_ble_eq_true rfl) rfl fun E _ => x9_holding E  h h1 v2 σ
abbrev r10_init : Room := { frames := 1, cells := 0, slots := 0, locals := 12 }
abbrev m10_init : zMu := (RX10, 4, none, r10_init, true)
set_option maxRecDepth 20000 in
theorem x10_init (E : zEn)  (h : Nat) (h1 : Nat) (v2 : Int32) (v3 : Int32) (σ : zSt) : X E cX10_init m10_init false (zQw E false eV r10_init) 0 0 σ [(0, aR 10 (some h)), (1, aR 1100 (some h1)), (2, aI v2), (3, aI v3)] 0 [] (f10_init h h1 v2 v3 σ) := by
  unfold f10_init
  refine x_aload_n (pc := 0) 0 dX10_init_0 rfl rfl ?_
  refine x_objInit (pc := 1) tk_956 tk_28 tk_29 dX10_init_1 (by decide) ?_
  refine x_aload_n (pc := 4) 0 dX10_init_4 rfl rfl ?_
  refine x_aload_n (pc := 5) 1 dX10_init_5 rfl rfl ?_
  refine x_putR (pc := 6) fd_10_0 pt_10_0 (Or.inr ⟨_, rfl⟩) tk_957 dX10_init_6 (Or.inr ⟨rfl, rfl⟩) (Or.inl rfl) ?_
  refine x_nameS (fun s1 => ?_)
  refine x_aload_n (pc := 9) 0 dX10_init_9 rfl rfl ?_
  refine x_iload_n (pc := 10) 2 dX10_init_10 rfl rfl ?_
  refine x_putI (pc := 11) fd_10_1 pt_10_1 tk_958 dX10_init_11 (Or.inr ⟨rfl, rfl⟩) ?_
  refine x_nameS (fun s2 => ?_)
  refine x_aload_n (pc := 14) 0 dX10_init_14 rfl rfl ?_
  refine x_iload_n (pc := 15) 3 dX10_init_15 rfl rfl ?_
  refine x_putI (pc := 16) fd_10_2 pt_10_2 tk_960 dX10_init_16 (Or.inr ⟨rfl, rfl⟩) ?_
  refine x_nameS (fun s3 => ?_)
  exact x_vret (rm := r10_init) rfl rfl dX10_init_19
theorem c_10_init (l : Launch)  (h : Nat) (h1 : Nat) (v2 : Int32) (v3 : Int32) (σ : zSt) : zMet l yX10_init cX10_init 4 none r10_init false eV [aR 10 (some h), aR 1100 (some h1), aI v2, aI v3] σ (f10_init h h1 v2 v3 σ) :=
  zMet_of [(0, aR 10 (some h)), (1, aR 1100 (some h1)), (2, aI v2), (3, aI v3)] (by decide +kernel) (fun _ => rfl) (Nat.le_of_ble_eq_true rfl) rfl fun E _ => x10_init E  h h1 v2 v3 σ
abbrev r11_init : Room := { frames := 2, cells := 23, slots := 951, locals := 43 }
abbrev m11_init : zMu := (RX11, 1, none, r11_init, true)
set_option maxRecDepth 20000 in
theorem x11_init (E : zEn)  (h : Nat) (σ : zSt) : X E cX11_init m11_init false (zQw E false eV r11_init) 0 0 σ [(0, aR 11 (some h))] 0 [] (f11_init h σ) := by
  unfold f11_init
  refine x_aload_n (pc := 0) 0 dX11_init_0 rfl rfl ?_
  refine x_objInit (pc := 1) tk_27 tk_28 tk_29 dX11_init_1 (by decide) ?_
  refine x_aload_n (pc := 4) 0 dX11_init_4 rfl rfl ?_
  refine x_bipush (pc := 5) 40 dX11_init_5 rfl ?_
  refine x_newq (pc := 7) 1200 (n := 40) ar_1200 (by decide) rfl (by decide +kernel) rfl (by decide) tk_30 dX11_init_7 rfl (by decide) ?_
  refine x_nameN (fun i1 => ?_)
  refine x_nameS (fun s2 => ?_)
  refine x_putR (pc := 10) fd_11_0 pt_11_0 (Or.inr ⟨_, rfl⟩) tk_152 dX11_init_10 (Or.inr ⟨rfl, rfl⟩) (Or.inl rfl) ?_
  refine x_nameS (fun s3 => ?_)
  refine x_aload_n (pc := 13) 0 dX11_init_13 rfl rfl ?_
  refine x_bipush (pc := 14) 20 dX11_init_14 rfl ?_
  refine x_newq (pc := 16) 1202 (n := 20) ar_1202 (by decide) rfl (by decide +kernel) rfl (by decide) tk_32 dX11_init_16 rfl (by decide) ?_
  refine x_nameN (fun i4 => ?_)
  refine x_nameS (fun s5 => ?_)
  refine x_putR (pc := 19) fd_11_2 pt_11_2 (Or.inr ⟨_, rfl⟩) tk_154 dX11_init_19 (Or.inr ⟨rfl, rfl⟩) (Or.inl rfl) ?_
  refine x_nameS (fun s6 => ?_)
  refine x_aload_n (pc := 22) 0 dX11_init_22 rfl rfl ?_
  refine x_sipush (pc := 23) 200 dX11_init_23 rfl ?_
  refine x_newq (pc := 26) 1204 (n := 200) ar_1204 (by decide) rfl (by decide +kernel) rfl (by decide) tk_34 dX11_init_26 rfl (by decide) ?_
  refine x_nameN (fun i7 => ?_)
  refine x_nameS (fun s8 => ?_)
  refine x_putR (pc := 29) fd_11_4 pt_11_4 (Or.inr ⟨_, rfl⟩) tk_156 dX11_init_29 (Or.inr ⟨rfl, rfl⟩) (Or.inl rfl) ?_
  refine x_nameS (fun s9 => ?_)
  refine x_aload_n (pc := 32) 0 dX11_init_32 rfl rfl ?_
  refine x_bipush (pc := 33) 14 dX11_init_33 rfl ?_
  refine x_putI (pc := 35) fd_11_7 pt_11_7 tk_159 dX11_init_35 (Or.inl rfl) ?_
  refine x_nameS (fun s10 => ?_)
  refine x_aload_n (pc := 38) 0 dX11_init_38 rfl rfl ?_
  refine x_bipush (pc := 39) 100 dX11_init_39 rfl ?_
  refine x_putI (pc := 41) fd_11_8 pt_11_8 tk_160 dX11_init_41 (Or.inl rfl) ?_
  refine x_nameS (fun s11 => ?_)
  refine x_aload_n (pc := 44) 0 dX11_init_44 rfl rfl ?_
  refine x_iconst (pc := 45) 1 dX11_init_45 rfl ?_
  refine x_putI (pc := 46) fd_11_9 pt_11_9 tk_161 dX11_init_46 (Or.inl rfl) ?_
  refine x_nameS (fun s12 => ?_)
  refine x_aload_n (pc := 49) 0 dX11_init_49 rfl rfl ?_
  refine x_sipush (pc := 50) 160 dX11_init_50 rfl ?_
  refine x_newaI (pc := 53) 1210 (n := 160) ar_1210 rfl (by decide) tk_52 dX11_init_53 rfl (by decide) ?_
  refine x_nameN (fun i13 => ?_)
  refine x_nameS (fun s14 => ?_)
  refine x_putR (pc := 55) fd_11_10 pt_11_10 (Or.inr ⟨_, rfl⟩) tk_162 dX11_init_55 (Or.inr ⟨rfl, rfl⟩) (Or.inl rfl) ?_
  refine x_nameS (fun s15 => ?_)
  refine x_aload_n (pc := 58) 0 dX11_init_58 rfl rfl ?_
  refine x_new (pc := 59) nw_9 tk_36 tk_37 tk_2 dX11_init_59 rfl (by decide) ?_
  refine x_nameN (fun i16 => ?_)
  refine x_nameS (fun s17 => ?_)
  refine x_dup (pc := 62) dX11_init_62 rfl ?_
  refine x_callIN (pc := 63) (as := []) (rest := [aR 9 (some i16), aR 11 (some h)]) (fun l => c_9_init l i16 s17) md_X9_init tk_39 rfl (host := RX11) (by decide +kernel) dX11_init_63 rfl ⟨by decide, by decide, by decide, by decide⟩ ⟨(fun h => nomatch h), (fun h => nomatch h)⟩ rfl (Nat.le_of_ble_eq_true rfl) (fun _ s19 => ?_)
  show X E _ _ _ _ 6 432 _ _ _ [aR 9 (some i16), aR 11 (some h)] _
  refine x_putR (pc := 66) fd_11_12 pt_11_12 (Or.inl ⟨_, rfl⟩) tk_164 dX11_init_66 (Or.inr ⟨rfl, rfl⟩) (Or.inl rfl) ?_
  refine x_nameS (fun s20 => ?_)
  refine x_aload_n (pc := 69) 0 dX11_init_69 rfl rfl ?_
  refine x_new (pc := 70) nw_9 tk_36 tk_37 tk_2 dX11_init_70 rfl (by decide) ?_
  refine x_nameN (fun i21 => ?_)
  refine x_nameS (fun s22 => ?_)
  refine x_dup (pc := 73) dX11_init_73 rfl ?_
  refine x_callIN (pc := 74) (as := []) (rest := [aR 9 (some i21), aR 11 (some h)]) (fun l => c_9_init l i21 s22) md_X9_init tk_39 rfl (host := RX11) (by decide +kernel) dX11_init_74 rfl ⟨by decide, by decide, by decide, by decide⟩ ⟨(fun h => nomatch h), (fun h => nomatch h)⟩ rfl (Nat.le_of_ble_eq_true rfl) (fun _ s24 => ?_)
  show X E _ _ _ _ 8 444 _ _ _ [aR 9 (some i21), aR 11 (some h)] _
  refine x_putR (pc := 77) fd_11_13 pt_11_13 (Or.inl ⟨_, rfl⟩) tk_165 dX11_init_77 (Or.inr ⟨rfl, rfl⟩) (Or.inl rfl) ?_
  refine x_nameS (fun s25 => ?_)
  refine x_aload_n (pc := 80) 0 dX11_init_80 rfl rfl ?_
  refine x_new (pc := 81) nw_6 tk_53 tk_54 tk_3 dX11_init_81 rfl (by decide) ?_
  refine x_nameN (fun i26 => ?_)
  refine x_nameS (fun s27 => ?_)
  refine x_dup (pc := 84) dX11_init_84 rfl ?_
  refine x_callIN (pc := 85) (as := []) (rest := [aR 6 (some i26), aR 11 (some h)]) (fun l => c_6_init l i26 s27) md_X6_init tk_56 rfl (host := RX11) (by decide +kernel) dX11_init_85 rfl ⟨by decide, by decide, by decide, by decide⟩ ⟨(fun h => nomatch h), (fun h => nomatch h)⟩ rfl (Nat.le_of_ble_eq_true rfl) (fun _ s29 => ?_)
  show X E _ _ _ _ 10 462 _ _ _ [aR 6 (some i26), aR 11 (some h)] _
  refine x_putR (pc := 88) fd_11_14 pt_11_14 (Or.inl ⟨_, rfl⟩) tk_166 dX11_init_88 (Or.inr ⟨rfl, rfl⟩) (Or.inl rfl) ?_
  refine x_nameS (fun s30 => ?_)
  refine x_aload_n (pc := 91) 0 dX11_init_91 rfl rfl ?_
  refine x_new (pc := 92) nw_2 tk_92 tk_93 tk_4 dX11_init_92 rfl (by decide) ?_
  refine x_nameN (fun i31 => ?_)
  refine x_nameS (fun s32 => ?_)
  refine x_dup (pc := 95) dX11_init_95 rfl ?_
  refine x_callIN (pc := 96) (as := []) (rest := [aR 2 (some i31), aR 11 (some h)]) (fun l => c_2_init l i31 s32) md_X2_init tk_95 rfl (host := RX11) (by decide +kernel) dX11_init_96 rfl ⟨by decide, by decide, by decide, by decide⟩ ⟨(fun h => nomatch h), (fun h => nomatch h)⟩ rfl (Nat.le_of_ble_eq_true rfl) (fun _ s34 => ?_)
  show X E _ _ _ _ 14 485 _ _ _ [aR 2 (some i31), aR 11 (some h)] _
  refine x_putR (pc := 99) fd_11_15 pt_11_15 (Or.inl ⟨_, rfl⟩) tk_167 dX11_init_99 (Or.inr ⟨rfl, rfl⟩) (Or.inl rfl) ?_
  refine x_nameS (fun s35 => ?_)
  refine x_aload_n (pc := 102) 0 dX11_init_102 rfl rfl ?_
  refine x_new (pc := 103) nw_0 tk_111 tk_112 tk_5 dX11_init_103 rfl (by decide) ?_
  refine x_nameN (fun i36 => ?_)
  refine x_nameS (fun s37 => ?_)
  refine x_dup (pc := 106) dX11_init_106 rfl ?_
  refine x_callI (pc := 107) (as := []) (rest := [aR 0 (some i36), aR 11 (some h)]) (fun l => c_0_init l i36 s37) md_X0_init tk_114 rfl tk_113 dX11_init_107 rfl ⟨by decide, by decide, by decide, by decide⟩ ⟨(fun h => nomatch h), (fun h => nomatch h)⟩ rfl (Nat.le_of_ble_eq_true rfl) (fun _ s39 => ?_)
  show X E _ _ _ _ 21 901 _ _ _ [aR 0 (some i36), aR 11 (some h)] _
  refine x_putR (pc := 110) fd_11_16 pt_11_16 (Or.inl ⟨_, rfl⟩) tk_168 dX11_init_110 (Or.inr ⟨rfl, rfl⟩) (Or.inl rfl) ?_
  refine x_nameS (fun s40 => ?_)
  refine x_aload_n (pc := 113) 0 dX11_init_113 rfl rfl ?_
  refine x_bipush (pc := 114) 10 dX11_init_114 rfl ?_
  refine x_newaI (pc := 116) 1217 (n := 10) ar_1217 rfl (by decide) tk_52 dX11_init_116 rfl (by decide) ?_
  refine x_nameN (fun i41 => ?_)
  refine x_nameS (fun s42 => ?_)
  refine x_putR (pc := 118) fd_11_17 pt_11_17 (Or.inr ⟨_, rfl⟩) tk_169 dX11_init_118 (Or.inr ⟨rfl, rfl⟩) (Or.inl rfl) ?_
  refine x_nameS (fun s43 => ?_)
  refine x_aload_n (pc := 121) 0 dX11_init_121 rfl rfl ?_
  refine x_bipush (pc := 122) 40 dX11_init_122 rfl ?_
  refine x_newaZ (pc := 124) 1218 (n := 40) ar_1218 rfl (by decide) tk_151 dX11_init_124 rfl (by decide) ?_
  refine x_nameN (fun i44 => ?_)
  refine x_nameS (fun s45 => ?_)
  refine x_putR (pc := 126) fd_11_18 pt_11_18 (Or.inr ⟨_, rfl⟩) tk_170 dX11_init_126 (Or.inr ⟨rfl, rfl⟩) (Or.inl rfl) ?_
  refine x_nameS (fun s46 => ?_)
  exact x_vret (rm := r11_init) rfl rfl dX11_init_129
theorem c_11_init (l : Launch)  (h : Nat) (σ : zSt) : zMet l yX11_init cX11_init 1 none r11_init false eV [aR 11 (some h)] σ (f11_init h σ) :=
  zMet_of [(0, aR 11 (some h))] (by decide +kernel) (fun _ => rfl) (Nat.le_of_ble_eq_true rfl) rfl fun E _ => x11_init E  h σ
abbrev r11_days : Room := { frames := 0, cells := 0, slots := 0, locals := 0 }
abbrev m11_days : zMu := (RX11, 2, (some .int), r11_days, false)
set_option maxRecDepth 20000 in
theorem x11_days (E : zEn)  (q : Bool) (v1 : Int32) (σ : zSt) : X E cX11_days m11_days q (zQw E q eI r11_days) 0 0 σ [(0, aR 11 (some 0)), (1, aI v1)] 0 [] (f11_days v1 σ) := by
  unfold f11_days
  refine x_iload_n (pc := 0) 1 dX11_days_0 rfl rfl ?_
  refine x_iconst (pc := 1) 1 dX11_days_1 rfl ?_
  refine x_icmp_lt (pc := 2) 24 dX11_days_2 (by decide) (fun _ => ?_) (fun _ => ?_)
  ·
    refine x_iconst (pc := 24) (-1) dX11_days_24 rfl ?_
    exact x_iret (rm := r11_days) rfl rfl dX11_days_25
  ·
    refine x_iload_n (pc := 5) 1 dX11_days_5 rfl rfl ?_
    refine x_sipush (pc := 6) 360 dX11_days_6 rfl ?_
    refine x_icmp_gt (pc := 9) 24 dX11_days_9 (by decide) (fun _ => ?_) (fun _ => ?_)
    ·
      refine x_iconst (pc := 24) (-1) dX11_days_24 rfl ?_
      exact x_iret (rm := r11_days) rfl rfl dX11_days_25
    ·
      refine x_aload_n (pc := 12) 0 dX11_days_12 rfl rfl ?_
      refine x_getI (pc := 13) fd_11_6 tk_158 dX11_days_13 ?_
      refine x_iload_n (pc := 16) 1 dX11_days_16 rfl rfl ?_
      refine x_iadd (pc := 17) dX11_days_17 ?_
      refine x_sipush (pc := 18) 9999 dX11_days_18 rfl ?_
      refine x_icmp_le (pc := 21) 26 dX11_days_21 (by decide) (fun _ => ?_) (fun _ => ?_)
      ·
        refine x_aload_n (pc := 26) 0 dX11_days_26 rfl rfl ?_
        refine x_dup (pc := 27) dX11_days_27 rfl ?_
        refine x_getI (pc := 28) fd_11_6 tk_158 dX11_days_28 ?_
        refine x_iload_n (pc := 31) 1 dX11_days_31 rfl rfl ?_
        refine x_iadd (pc := 32) dX11_days_32 ?_
        refine x_putI (pc := 33) fd_11_6 pt_11_6 tk_158 dX11_days_33 (Or.inl rfl) ?_
        refine x_nameS (fun s1 => ?_)
        refine x_aload_n (pc := 36) 0 dX11_days_36 rfl rfl ?_
        refine x_getI (pc := 37) fd_11_6 tk_158 dX11_days_37 ?_
        exact x_iret (rm := r11_days) rfl rfl dX11_days_40
      ·
        refine x_iconst (pc := 24) (-1) dX11_days_24 rfl ?_
        exact x_iret (rm := r11_days) rfl rfl dX11_days_25
theorem c_11_days (l : Launch)  (q : Bool) (v1 : Int32) (σ : zSt) : zMet l yX11_days cX11_days 2 (some .int) r11_days q eI [aR 11 (some 0), aI v1] σ (f11_days v1 σ) :=
  zMet_of [(0, aR 11 (some 0)), (1, aI v1)] (by decide +kernel) (fun h => by cases h) (Nat.le_of_ble_eq_true rfl) rfl fun E _ => x11_days E  q v1 σ
abbrev r11_home : Room := { frames := 2, cells := 3, slots := 42, locals := 47 }
abbrev m11_home : zMu := (RX11, 5, (some .int), r11_home, false)
set_option maxRecDepth 20000 in
theorem x11_home (E : zEn)  (v1 : Int32) (v2 : Int32) (v3 : Int32) (σ : zSt) : X E cX11_home m11_home false (zQw E false eI r11_home) 0 0 σ [(0, aR 11 (some 0)), (1, aI v1), (2, aI v2), (3, aI v3)] 0 [] (f11_home v1 v2 v3 σ) := by
  unfold f11_home
  refine x_iload_n (pc := 0) 1 dX11_home_0 rfl rfl ?_
  refine x_sipush (pc := 1) 800 dX11_home_1 rfl ?_
  refine x_callSr (pc := 4) (as := [aI v1, aI 800]) (rest := []) (fun l => c_11_isIn l false v1 800 σ) md_X11_isIn tk_219 tk_218 dX11_home_4 rfl ⟨by decide, by decide, by decide, by decide⟩ ⟨(fun h => nomatch h), (fun h => nomatch h)⟩ rfl (Nat.le_of_ble_eq_true rfl) (fun r1 => ?_)
  show X E _ _ _ _ 0 0 _ _ _ [aI r1] _
  refine x_join (P := fun (j3 : Int32 → Option (Int32 × zSt)) => ∀ (a2 : Int32), X E cX11_home m11_home false (zQw E false eI r11_home) 0 0 σ [(0, aR 11 (some 0)), (1, aI v1), (2, aI v2), (3, aI v3)] 34 [aI a2] (j3 a2)) ?_ ?_
  · intro a2
    refine x_istore (pc := 34) (als' := [(4, aI a2), (0, aR 11 (some 0)), (1, aI v1), (2, aI v2), (3, aI v3)]) 4 dX11_home_34 (by decide) rfl ?_
    refine x_iload (pc := 36) 4 dX11_home_36 rfl ?_
    refine x_if_ne (pc := 38) 43 dX11_home_38 (by decide) (fun _ => ?_) (fun _ => ?_)
    ·
      refine x_aload_n (pc := 43) 0 dX11_home_43 rfl rfl ?_
      refine x_getI (pc := 44) fd_11_1 tk_153 dX11_home_44 ?_
      refine x_bipush (pc := 47) 40 dX11_home_47 rfl ?_
      refine x_icmp_lt (pc := 49) 55 dX11_home_49 (by decide) (fun _ => ?_) (fun _ => ?_)
      ·
        refine x_aload_n (pc := 55) 0 dX11_home_55 rfl rfl ?_
        refine x_getR (pc := 56) fd_11_0 tk_152 dX11_home_56 ?_
        refine x_nameR (fun o5 => ?_)
        refine x_aload_n (pc := 59) 0 dX11_home_59 rfl rfl ?_
        refine x_getI (pc := 60) fd_11_1 tk_153 dX11_home_60 ?_
        refine x_new (pc := 63) nw_5 tk_30 tk_221 tk_8 dX11_home_63 rfl (by decide) ?_
        refine x_nameN (fun i6 => ?_)
        refine x_nameS (fun s7 => ?_)
        refine x_dup (pc := 66) dX11_home_66 rfl ?_
        refine x_iload_n (pc := 67) 1 dX11_home_67 rfl rfl ?_
        refine x_bipush (pc := 68) 100 dX11_home_68 rfl ?_
        refine x_idivC (pc := 70) dX11_home_70 (by decide) ?_
        refine x_iload_n (pc := 71) 1 dX11_home_71 rfl rfl ?_
        refine x_bipush (pc := 72) 100 dX11_home_72 rfl ?_
        refine x_iremC (pc := 74) dX11_home_74 (by decide) ?_
        refine x_iload_n (pc := 75) 2 dX11_home_75 rfl rfl ?_
        refine x_iload_n (pc := 76) 3 dX11_home_76 rfl rfl ?_
        refine x_callI (pc := 77) (as := [aI (zop_idiv v1 100), aI (zop_irem v1 100), aI v2, aI v3]) (rest := [aR 5 (some i6), aI (gI σ 11 0 1), aR 1200 o5]) (fun l => c_5_init l i6 (zop_idiv v1 100) (zop_irem v1 100) v2 v3 s7) md_X5_init tk_223 rfl tk_222 dX11_home_77 rfl ⟨by decide, by decide, by decide, by decide⟩ ⟨(fun h => nomatch h), (fun h => nomatch h)⟩ rfl (Nat.le_of_ble_eq_true rfl) (fun _ s9 => ?_)
        show X E _ _ _ _ 3 42 _ _ _ [aR 5 (some i6), aI (gI σ 11 0 1), aR 1200 o5] _
        rcases o5 with _ | i10
        · exact x_none
        ·
          skip
          refine x_zocS ?_
          refine x_aast (pc := 80) 5 ar_1200 (by decide) rfl dX11_home_80 (fun m11 => ?_)
          refine x_nameS (fun s12 => ?_)
          refine x_aload_n (pc := 81) 0 dX11_home_81 rfl rfl ?_
          refine x_dup (pc := 82) dX11_home_82 rfl ?_
          refine x_getI (pc := 83) fd_11_1 tk_153 dX11_home_83 ?_
          refine x_iconst (pc := 86) 1 dX11_home_86 rfl ?_
          refine x_iadd (pc := 87) dX11_home_87 ?_
          refine x_putI (pc := 88) fd_11_1 pt_11_1 tk_153 dX11_home_88 (Or.inl rfl) ?_
          refine x_nameS (fun s13 => ?_)
          refine x_aload_n (pc := 91) 0 dX11_home_91 rfl rfl ?_
          refine x_getI (pc := 92) fd_11_1 tk_153 dX11_home_92 ?_
          refine x_iconst (pc := 95) 1 dX11_home_95 rfl ?_
          refine x_isub (pc := 96) dX11_home_96 ?_
          exact x_iret (rm := r11_home) rfl rfl dX11_home_97
      ·
        refine x_bipush (pc := 52) (-2) dX11_home_52 rfl ?_
        refine x_widen (kc' := 3) (ks' := 42) (by decide) (by decide) ?_
        exact x_iret (rm := r11_home) rfl rfl dX11_home_54
    ·
      refine x_iconst (pc := 41) (-1) dX11_home_41 rfl ?_
      refine x_widen (kc' := 3) (ks' := 42) (by decide) (by decide) ?_
      exact x_iret (rm := r11_home) rfl rfl dX11_home_42
  · intro j3 hj4
    refine x_join (P := fun (j14 : Option (Int32 × zSt)) => X E cX11_home m11_home false (zQw E false eI r11_home) 0 0 σ [(0, aR 11 (some 0)), (1, aI v1), (2, aI v2), (3, aI v3)] 33 [] j14) ?_ ?_
    ·
      refine x_iconst (pc := 33) 0 dX11_home_33 rfl ?_
      exact hj4 0
    · intro j14 hj15
      refine x_if_eq (pc := 7) 33 dX11_home_7 (by decide) (fun _ => ?_) (fun _ => ?_)
      ·
        exact hj15
      ·
        refine x_iload_n (pc := 10) 2 dX11_home_10 rfl rfl ?_
        refine x_sipush (pc := 11) 1000 dX11_home_11 rfl ?_
        refine x_callSr (pc := 14) (as := [aI v2, aI 1000]) (rest := []) (fun l => c_11_isIn l false v2 1000 σ) md_X11_isIn tk_219 tk_218 dX11_home_14 rfl ⟨by decide, by decide, by decide, by decide⟩ ⟨(fun h => nomatch h), (fun h => nomatch h)⟩ rfl (Nat.le_of_ble_eq_true rfl) (fun r16 => ?_)
        show X E _ _ _ _ 0 0 _ _ _ [aI r16] _
        refine x_if_eq (pc := 17) 33 dX11_home_17 (by decide) (fun _ => ?_) (fun _ => ?_)
        ·
          exact hj15
        ·
          refine x_iload_n (pc := 20) 3 dX11_home_20 rfl rfl ?_
          refine x_bipush (pc := 21) 10 dX11_home_21 rfl ?_
          refine x_callSr (pc := 23) (as := [aI v3, aI 10]) (rest := []) (fun l => c_11_isIn l false v3 10 σ) md_X11_isIn tk_219 tk_218 dX11_home_23 rfl ⟨by decide, by decide, by decide, by decide⟩ ⟨(fun h => nomatch h), (fun h => nomatch h)⟩ rfl (Nat.le_of_ble_eq_true rfl) (fun r17 => ?_)
          show X E _ _ _ _ 0 0 _ _ _ [aI r17] _
          refine x_if_eq (pc := 26) 33 dX11_home_26 (by decide) (fun _ => ?_) (fun _ => ?_)
          ·
            exact hj15
          ·
            refine x_iconst (pc := 29) 1 dX11_home_29 rfl ?_
            refine x_goto (pc := 30) 34 dX11_home_30 (by decide) ?_
            exact hj4 1
theorem c_11_home (l : Launch)  (v1 : Int32) (v2 : Int32) (v3 : Int32) (σ : zSt) : zMet l yX11_home cX11_home 5 (some .int) r11_home false eI [aR 11 (some 0), aI v1, aI v2, aI v3] σ (f11_home v1 v2 v3 σ) :=
  zMet_of [(0, aR 11 (some 0)), (1, aI v1), (2, aI v2), (3, aI v3)] (by decide +kernel) (fun h => by cases h) (Nat.le_of_ble_eq_true rfl) rfl fun E _ => x11_home E  v1 v2 v3 σ
