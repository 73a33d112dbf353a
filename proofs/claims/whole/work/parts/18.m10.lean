abbrev r12_said : Room := { frames := 2, cells := 0, slots := 0, locals := 42 }
abbrev m12_said : zMu := (RX12, 3, (some .int), r12_said, false)
set_option maxRecDepth 20000 in
theorem x12_said (E : zEn)  (v1 : Int32) (v2 : Int32) (σ : zSt) : X E cX12_said m12_said true (zQw E true eI r12_said) 0 0 σ [(0, aR 12 (some 0)), (1, aI v1), (2, aI v2)] 0 [] (f12_said v1 v2 σ) := by
  unfold f12_said
  refine x_aload_n (pc := 0) 0 dX12_said_0 rfl rfl ?_
  refine x_iload_n (pc := 1) 1 dX12_said_1 rfl rfl ?_
  refine x_callVr (pc := 2) (as := [aI v1]) (rest := []) (fun l => c_12_isFault l true v1 σ) md_X12_isFault ⟨_, _, rfl, by decide⟩ tk_1532 tp_63 tk_1530 dX12_said_2 rfl ⟨by decide, by decide, by decide, by decide⟩ ⟨fun _ => rfl, fun _ => Or.inl rfl⟩ rfl (Nat.le_of_ble_eq_true rfl) (fun r1 => ?_)
  show X E _ _ _ _ 0 0 _ _ _ [aI r1] _
  refine x_if_eq (pc := 5) 15 dX12_said_5 (by decide) (fun _ => ?_) (fun _ => ?_)
  ·
    refine x_iconst (pc := 15) (-1) dX12_said_15 rfl ?_
    exact x_iret (rm := r12_said) rfl rfl dX12_said_16
  ·
    refine x_iload_n (pc := 8) 2 dX12_said_8 rfl rfl ?_
    refine x_callSr (pc := 9) (as := [aI v2]) (rest := []) (fun l => c_12_isCrew l true v2 σ) md_X12_isCrew tk_1543 tk_1542 dX12_said_9 rfl ⟨by decide, by decide, by decide, by decide⟩ ⟨fun _ => rfl, fun _ => Or.inl rfl⟩ rfl (Nat.le_of_ble_eq_true rfl) (fun r2 => ?_)
    show X E _ _ _ _ 0 0 _ _ _ [aI r2] _
    refine x_if_ne (pc := 12) 17 dX12_said_12 (by decide) (fun _ => ?_) (fun _ => ?_)
    ·
      refine x_aload_n (pc := 17) 0 dX12_said_17 rfl rfl ?_
      refine x_iload_n (pc := 18) 1 dX12_said_18 rfl rfl ?_
      refine x_callVr (pc := 19) (as := [aI v1]) (rest := []) (fun l => c_12_isOpen l v1 σ) md_X12_isOpen ⟨_, _, rfl, by decide⟩ tk_1536 tp_64 tk_1534 dX12_said_19 rfl ⟨by decide, by decide, by decide, by decide⟩ ⟨fun _ => rfl, fun _ => Or.inl rfl⟩ rfl (Nat.le_of_ble_eq_true rfl) (fun r3 => ?_)
      show X E _ _ _ _ 0 0 _ _ _ [aI r3] _
      refine x_if_ne (pc := 22) 28 dX12_said_22 (by decide) (fun _ => ?_) (fun _ => ?_)
      ·
        refine x_aload_n (pc := 28) 0 dX12_said_28 rfl rfl ?_
        refine x_getF (pc := 29) (j := 0) fd_12_29 rfl rfl tk_1224 dX12_said_29 ?_
        refine x_iload_n (pc := 32) 1 dX12_said_32 rfl rfl ?_
        refine x_iald (pc := 33) ar_1329 dX12_said_33 (fun m4 => ?_)
        refine x_bipush (pc := 34) 30 dX12_said_34 rfl ?_
        refine x_icmp_ne (pc := 36) 42 dX12_said_36 (by decide) (fun _ => ?_) (fun _ => ?_)
        ·
          refine x_aload_n (pc := 42) 0 dX12_said_42 rfl rfl ?_
          refine x_getF (pc := 43) (j := 0) fd_12_30 rfl rfl tk_1225 dX12_said_43 ?_
          refine x_iload_n (pc := 46) 1 dX12_said_46 rfl rfl ?_
          refine x_aload_n (pc := 47) 0 dX12_said_47 rfl rfl ?_
          refine x_iload_n (pc := 48) 1 dX12_said_48 rfl rfl ?_
          refine x_callVr (pc := 49) (as := [aI v1]) (rest := [aI v1, aR 1330 (some 0)]) (fun l => c_12_promiseNow l v1 σ) md_X12_promiseNow ⟨_, _, rfl, by decide⟩ tk_1504 tp_59 tk_1502 dX12_said_49 rfl ⟨by decide, by decide, by decide, by decide⟩ ⟨fun _ => rfl, fun _ => Or.inl rfl⟩ rfl (Nat.le_of_ble_eq_true rfl) (fun r5 => ?_)
          show X E _ _ _ _ 0 0 _ _ _ [aI r5, aI v1, aR 1330 (some 0)] _
          refine x_iconst (pc := 52) 1 dX12_said_52 rfl ?_
          refine x_join (P := fun (j7 : Int32 → Option (Int32 × zSt)) => ∀ (a6 : Int32), X E cX12_said m12_said true (zQw E true eI r12_said) 0 0 σ [(0, aR 12 (some 0)), (1, aI v1), (2, aI v2)] 65 [aI a6, aI v1, aR 1330 (some 0)] (j7 a6)) ?_ ?_
          · intro a6
            refine x_iast (pc := 65) ar_1330 dX12_said_65 (fun m9 => ?_)
            refine x_nameS (fun s10 => ?_)
            refine x_aload_n (pc := 66) 0 dX12_said_66 rfl rfl ?_
            refine x_getF (pc := 67) (j := 0) fd_12_34 rfl rfl tk_1229 dX12_said_67 ?_
            refine x_iload_n (pc := 70) 1 dX12_said_70 rfl rfl ?_
            refine x_dup2 (pc := 71) dX12_said_71 rfl rfl ?_
            refine x_iald (pc := 72) ar_1334 dX12_said_72 (fun m11 => ?_)
            refine x_iconst (pc := 73) 1 dX12_said_73 rfl ?_
            refine x_iadd (pc := 74) dX12_said_74 ?_
            refine x_iast (pc := 75) ar_1334 dX12_said_75 (fun m12 => ?_)
            refine x_nameS (fun s13 => ?_)
            refine x_aload_n (pc := 76) 0 dX12_said_76 rfl rfl ?_
            refine x_getF (pc := 77) (j := 0) fd_12_39 rfl rfl tk_1234 dX12_said_77 ?_
            refine x_iload_n (pc := 80) 2 dX12_said_80 rfl rfl ?_
            refine x_dup2 (pc := 81) dX12_said_81 rfl rfl ?_
            refine x_iald (pc := 82) ar_1339 dX12_said_82 (fun m14 => ?_)
            refine x_iconst (pc := 83) 1 dX12_said_83 rfl ?_
            refine x_iadd (pc := 84) dX12_said_84 ?_
            refine x_iast (pc := 85) ar_1339 dX12_said_85 (fun m15 => ?_)
            refine x_nameS (fun s16 => ?_)
            refine x_aload_n (pc := 86) 0 dX12_said_86 rfl rfl ?_
            refine x_iload_n (pc := 87) 1 dX12_said_87 rfl rfl ?_
            refine x_iconst (pc := 88) 2 dX12_said_88 rfl ?_
            refine x_iload_n (pc := 89) 2 dX12_said_89 rfl rfl ?_
            refine x_callV (pc := 90) (as := [aI v1, aI 2, aI v2]) (rest := []) (fun l => c_12_become l v1 2 v2 s16) md_X12_become ⟨_, _, rfl, by decide⟩ tk_1524 tp_62 tk_1522 dX12_said_90 rfl ⟨by decide, by decide, by decide, by decide⟩ ⟨fun _ => rfl, fun _ => Or.inl rfl⟩ rfl (Nat.le_of_ble_eq_true rfl) (fun _ s18 => ?_)
            show X E _ _ _ _ 0 0 _ _ _ [] _
            refine x_iconst (pc := 93) 1 dX12_said_93 rfl ?_
            exact x_iret (rm := r12_said) rfl rfl dX12_said_94
          · intro j7 hj8
            refine x_icmp_ne (pc := 53) 60 dX12_said_53 (by decide) (fun _ => ?_) (fun _ => ?_)
            ·
              refine x_aload_n (pc := 60) 0 dX12_said_60 rfl rfl ?_
              refine x_iload_n (pc := 61) 1 dX12_said_61 rfl rfl ?_
              refine x_callVr (pc := 62) (as := [aI v1]) (rest := [aI v1, aR 1330 (some 0)]) (fun l => c_12_promiseNow l v1 σ) md_X12_promiseNow ⟨_, _, rfl, by decide⟩ tk_1504 tp_59 tk_1502 dX12_said_62 rfl ⟨by decide, by decide, by decide, by decide⟩ ⟨fun _ => rfl, fun _ => Or.inl rfl⟩ rfl (Nat.le_of_ble_eq_true rfl) (fun r19 => ?_)
              show X E _ _ _ _ 0 0 _ _ _ [aI r19, aI v1, aR 1330 (some 0)] _
              exact hj8 r19
            ·
              refine x_iconst (pc := 56) 2 dX12_said_56 rfl ?_
              refine x_goto (pc := 57) 65 dX12_said_57 (by decide) ?_
              exact hj8 2
        ·
          refine x_bipush (pc := 39) (-2) dX12_said_39 rfl ?_
          exact x_iret (rm := r12_said) rfl rfl dX12_said_41
      ·
        refine x_bipush (pc := 25) (-3) dX12_said_25 rfl ?_
        exact x_iret (rm := r12_said) rfl rfl dX12_said_27
    ·
      refine x_iconst (pc := 15) (-1) dX12_said_15 rfl ?_
      exact x_iret (rm := r12_said) rfl rfl dX12_said_16
theorem c_12_said (l : Launch)  (v1 : Int32) (v2 : Int32) (σ : zSt) : zMet l yX12_said cX12_said 3 (some .int) r12_said true eI [aR 12 (some 0), aI v1, aI v2] σ (f12_said v1 v2 σ) :=
  zMet_of [(0, aR 12 (some 0)), (1, aI v1), (2, aI v2)] (by decide +kernel) (fun h => by cases h) (Nat.le_of_ble_eq_true rfl) rfl fun E _ => x12_said E  v1 v2 σ
abbrev r12_lastCrew : Room := { frames := 0, cells := 0, slots := 0, locals := 0 }
abbrev m12_lastCrew : zMu := (RX12, 4, (some .int), r12_lastCrew, false)
set_option maxRecDepth 20000 in
theorem xl12_lastCrew_7 (E : zEn)   (h1 : Int32) (σ : zSt)   : ∀ (n : Nat) (v2 : Int32) (v3 : Int32), X E cX12_lastCrew m12_lastCrew true (zQr E true eI r12_lastCrew σ) 0 0 σ [(0, aR 12 (some 0)), (1, aI h1), (2, aI v2), (3, aI v3)] 7 [] (f12_lastCrew_L7 h1 σ n v2 v3) := by
  intro n
  induction n with
  | zero => intros; exact x_none
  | succ n ih =>
    intro v2 v3
    rw [f12_lastCrew_L7]
    refine x_iload_n (pc := 7) 3 dX12_lastCrew_7 rfl rfl ?_
    refine x_bipush (pc := 8) 30 dX12_lastCrew_8 rfl ?_
    refine x_iload_n (pc := 10) 1 dX12_lastCrew_10 rfl rfl ?_
    refine x_imul (pc := 11) dX12_lastCrew_11 ?_
    refine x_aload_n (pc := 12) 0 dX12_lastCrew_12 rfl rfl ?_
    refine x_getF (pc := 13) (j := 0) fd_12_29 rfl rfl tk_1224 dX12_lastCrew_13 ?_
    refine x_iload_n (pc := 16) 1 dX12_lastCrew_16 rfl rfl ?_
    refine x_iald (pc := 17) ar_1329 dX12_lastCrew_17 (fun m2 => ?_)
    refine x_iadd (pc := 18) dX12_lastCrew_18 ?_
    refine x_icmp_ge (pc := 19) 49 dX12_lastCrew_19 (by decide) (fun _ => ?_) (fun _ => ?_)
    ·
      refine x_iload_n (pc := 49) 2 dX12_lastCrew_49 rfl rfl ?_
      exact x_iret (rm := r12_lastCrew) rfl rfl dX12_lastCrew_50
    ·
      refine x_aload_n (pc := 22) 0 dX12_lastCrew_22 rfl rfl ?_
      refine x_getF (pc := 23) (j := 0) fd_12_26 rfl rfl tk_1221 dX12_lastCrew_23 ?_
      refine x_iload_n (pc := 26) 3 dX12_lastCrew_26 rfl rfl ?_
      refine x_iald (pc := 27) ar_1326 dX12_lastCrew_27 (fun m3 => ?_)
      refine x_iconst (pc := 28) 2 dX12_lastCrew_28 rfl ?_
      refine x_join (P := fun (j5 : Int32 → Option Int32) => ∀ (a4 : Int32), X E cX12_lastCrew m12_lastCrew true (zQr E true eI r12_lastCrew σ) 0 0 σ [(0, aR 12 (some 0)), (1, aI h1), (3, aI v3)] 42 [aI a4] (j5 a4)) ?_ ?_
      · intro a4
        refine x_istore_n (pc := 42) (als' := [(2, aI a4), (0, aR 12 (some 0)), (1, aI h1), (3, aI v3)]) 2 dX12_lastCrew_42 rfl (by decide) rfl ?_
        refine x_iinc (pc := 43) (als' := [(3, aI (v3 + 1)), (2, aI a4), (0, aR 12 (some 0)), (1, aI h1)]) 3 3 (c := 1) dX12_lastCrew_43 rfl rfl (by decide) rfl ?_
        refine x_nameV (g := fun y8 => [(3, aI y8), (2, aI a4), (0, aR 12 (some 0)), (1, aI h1)]) (fun x7 => ?_) rfl
        refine x_goto (pc := 46) 7 dX12_lastCrew_46 (by decide) ?_
        exact x_sub [2, 3, 1, 0] rfl (ih a4 x7)
      · intro j5 hj6
        refine x_icmp_ne (pc := 29) 41 dX12_lastCrew_29 (by decide) (fun _ => ?_) (fun _ => ?_)
        ·
          refine x_iload_n (pc := 41) 2 dX12_lastCrew_41 rfl rfl ?_
          exact x_sub [0, 1, 3] rfl (hj6 v2)
        ·
          refine x_aload_n (pc := 32) 0 dX12_lastCrew_32 rfl rfl ?_
          refine x_getF (pc := 33) (j := 0) fd_12_28 rfl rfl tk_1223 dX12_lastCrew_33 ?_
          refine x_iload_n (pc := 36) 3 dX12_lastCrew_36 rfl rfl ?_
          refine x_iald (pc := 37) ar_1328 dX12_lastCrew_37 (fun m9 => ?_)
          refine x_goto (pc := 38) 42 dX12_lastCrew_38 (by decide) ?_
          exact x_sub [0, 1, 3] rfl (hj6 (gI σ 1328 0 m9))
set_option maxRecDepth 20000 in
theorem x12_lastCrew (E : zEn)  (v1 : Int32) (σ : zSt) : X E cX12_lastCrew m12_lastCrew true (zQr E true eI r12_lastCrew σ) 0 0 σ [(0, aR 12 (some 0)), (1, aI v1)] 0 [] (f12_lastCrew v1 σ) := by
  unfold f12_lastCrew
  refine x_iconst (pc := 0) (-1) dX12_lastCrew_0 rfl ?_
  refine x_istore_n (pc := 1) (als' := [(2, aI (-1)), (0, aR 12 (some 0)), (1, aI v1)]) 2 dX12_lastCrew_1 rfl (by decide) rfl ?_
  refine x_bipush (pc := 2) 30 dX12_lastCrew_2 rfl ?_
  refine x_iload_n (pc := 4) 1 dX12_lastCrew_4 rfl rfl ?_
  refine x_imul (pc := 5) dX12_lastCrew_5 ?_
  refine x_nameI (fun x1 => ?_)
  refine x_istore_n (pc := 6) (als' := [(3, aI x1), (2, aI (-1)), (0, aR 12 (some 0)), (1, aI v1)]) 3 dX12_lastCrew_6 rfl (by decide) rfl ?_
  refine x_sub [2, 3, 1, 0] rfl (xl12_lastCrew_7 E v1 σ zfuel (-1) x1)
theorem c_12_lastCrew (l : Launch)  (v1 : Int32) (σ : zSt) : zMet l yX12_lastCrew cX12_lastCrew 4 (some .int) r12_lastCrew true eI [aR 12 (some 0), aI v1] σ (zro (f12_lastCrew v1 σ) σ) :=
  zMet_ofR [(0, aR 12 (some 0)), (1, aI v1)] (by decide +kernel) (fun h => by cases h) (Nat.le_of_ble_eq_true rfl) rfl fun E _ => x12_lastCrew E  v1 σ
abbrev r12_look : Room := { frames := 1, cells := 0, slots := 0, locals := 24 }
abbrev m12_look : zMu := (RX12, 4, (some .int), r12_look, false)
set_option maxRecDepth 20000 in
theorem x12_look (E : zEn)  (v1 : Int32) (v2 : Int32) (σ : zSt) : X E cX12_look m12_look true (zQw E true eI r12_look) 0 0 σ [(0, aR 12 (some 0)), (1, aI v1), (2, aI v2)] 0 [] (f12_look v1 v2 σ) := by
  unfold f12_look
  refine x_aload_n (pc := 0) 0 dX12_look_0 rfl rfl ?_
  refine x_iload_n (pc := 1) 1 dX12_look_1 rfl rfl ?_
  refine x_callVr (pc := 2) (as := [aI v1]) (rest := []) (fun l => c_12_isFault l true v1 σ) md_X12_isFault ⟨_, _, rfl, by decide⟩ tk_1532 tp_63 tk_1530 dX12_look_2 rfl ⟨by decide, by decide, by decide, by decide⟩ ⟨fun _ => rfl, fun _ => Or.inl rfl⟩ rfl (Nat.le_of_ble_eq_true rfl) (fun r1 => ?_)
  show X E _ _ _ _ 0 0 _ _ _ [aI r1] _
  refine x_if_eq (pc := 5) 17 dX12_look_5 (by decide) (fun _ => ?_) (fun _ => ?_)
  ·
    refine x_iconst (pc := 17) (-1) dX12_look_17 rfl ?_
    exact x_iret (rm := r12_look) rfl rfl dX12_look_18
  ·
    refine x_iload_n (pc := 8) 2 dX12_look_8 rfl rfl ?_
    refine x_iconst (pc := 9) 0 dX12_look_9 rfl ?_
    refine x_iconst (pc := 10) 1 dX12_look_10 rfl ?_
    refine x_callSr (pc := 11) (as := [aI v2, aI 0, aI 1]) (rest := []) (fun l => c_12_within l true v2 0 1 σ) md_X12_within tk_1447 tk_1446 dX12_look_11 rfl ⟨by decide, by decide, by decide, by decide⟩ ⟨fun _ => rfl, fun _ => Or.inl rfl⟩ rfl (Nat.le_of_ble_eq_true rfl) (fun r2 => ?_)
    show X E _ _ _ _ 0 0 _ _ _ [aI r2] _
    refine x_if_ne (pc := 14) 19 dX12_look_14 (by decide) (fun _ => ?_) (fun _ => ?_)
    ·
      refine x_aload_n (pc := 19) 0 dX12_look_19 rfl rfl ?_
      refine x_iload_n (pc := 20) 1 dX12_look_20 rfl rfl ?_
      refine x_callVr (pc := 21) (as := [aI v1]) (rest := []) (fun l => c_12_stateNow l v1 σ) md_X12_stateNow ⟨_, _, rfl, by decide⟩ tk_1520 tp_61 tk_1518 dX12_look_21 rfl ⟨by decide, by decide, by decide, by decide⟩ ⟨fun _ => rfl, fun _ => Or.inl rfl⟩ rfl (Nat.le_of_ble_eq_true rfl) (fun r3 => ?_)
      show X E _ _ _ _ 0 0 _ _ _ [aI r3] _
      refine x_iconst (pc := 24) 2 dX12_look_24 rfl ?_
      refine x_icmp_eq (pc := 25) 31 dX12_look_25 (by decide) (fun _ => ?_) (fun _ => ?_)
      ·
        refine x_aload_n (pc := 31) 0 dX12_look_31 rfl rfl ?_
        refine x_getF (pc := 32) (j := 0) fd_12_29 rfl rfl tk_1224 dX12_look_32 ?_
        refine x_iload_n (pc := 35) 1 dX12_look_35 rfl rfl ?_
        refine x_iald (pc := 36) ar_1329 dX12_look_36 (fun m4 => ?_)
        refine x_bipush (pc := 37) 30 dX12_look_37 rfl ?_
        refine x_icmp_ne (pc := 39) 45 dX12_look_39 (by decide) (fun _ => ?_) (fun _ => ?_)
        ·
          refine x_aload_n (pc := 45) 0 dX12_look_45 rfl rfl ?_
          refine x_iload_n (pc := 46) 1 dX12_look_46 rfl rfl ?_
          refine x_callVr (pc := 47) (as := [aI v1]) (rest := []) (fun l => c_12_lastCrew l v1 σ) md_X12_lastCrew ⟨_, _, rfl, by decide⟩ tk_1551 tp_65 tk_1549 dX12_look_47 rfl ⟨by decide, by decide, by decide, by decide⟩ ⟨fun _ => rfl, fun _ => Or.inl rfl⟩ rfl (Nat.le_of_ble_eq_true rfl) (fun r5 => ?_)
          show X E _ _ _ _ 0 0 _ _ _ [aI r5] _
          refine x_istore_n (pc := 50) (als' := [(3, aI r5), (0, aR 12 (some 0)), (1, aI v1), (2, aI v2)]) 3 dX12_look_50 rfl (by decide) rfl ?_
          refine x_aload_n (pc := 51) 0 dX12_look_51 rfl rfl ?_
          refine x_getF (pc := 52) (j := 0) fd_12_37 rfl rfl tk_1232 dX12_look_52 ?_
          refine x_iload_n (pc := 55) 3 dX12_look_55 rfl rfl ?_
          refine x_dup2 (pc := 56) dX12_look_56 rfl rfl ?_
          refine x_iald (pc := 57) ar_1337 dX12_look_57 (fun m6 => ?_)
          refine x_iconst (pc := 58) 1 dX12_look_58 rfl ?_
          refine x_iadd (pc := 59) dX12_look_59 ?_
          refine x_iast (pc := 60) ar_1337 dX12_look_60 (fun m7 => ?_)
          refine x_nameS (fun s8 => ?_)
          refine x_aload_n (pc := 61) 0 dX12_look_61 rfl rfl ?_
          refine x_getF (pc := 62) (j := 0) fd_12_38 rfl rfl tk_1233 dX12_look_62 ?_
          refine x_iload_n (pc := 65) 3 dX12_look_65 rfl rfl ?_
          refine x_dup2 (pc := 66) dX12_look_66 rfl rfl ?_
          refine x_iald (pc := 67) ar_1338 dX12_look_67 (fun m9 => ?_)
          refine x_iload_n (pc := 68) 2 dX12_look_68 rfl rfl ?_
          refine x_iconst (pc := 69) 1 dX12_look_69 rfl ?_
          refine x_mg (c := v2 = 1) (a := 0) (b := 1) 78 [aI (gI s8 1338 0 m9), aI r5, aR 1338 (some 0)] ?_ (fun hm10 => ?_)
          ·
            refine x_iadd (pc := 78) dX12_look_78 ?_
            refine x_iast (pc := 79) ar_1338 dX12_look_79 (fun m14 => ?_)
            refine x_nameS (fun s15 => ?_)
            refine x_aload_n (pc := 80) 0 dX12_look_80 rfl rfl ?_
            refine x_getF (pc := 81) (j := 0) fd_12_35 rfl rfl tk_1230 dX12_look_81 ?_
            refine x_iload_n (pc := 84) 1 dX12_look_84 rfl rfl ?_
            refine x_dup2 (pc := 85) dX12_look_85 rfl rfl ?_
            refine x_iald (pc := 86) ar_1335 dX12_look_86 (fun m16 => ?_)
            refine x_iload_n (pc := 87) 2 dX12_look_87 rfl rfl ?_
            refine x_iconst (pc := 88) 1 dX12_look_88 rfl ?_
            refine x_mg (c := v2 = 1) (a := 0) (b := 1) 97 [aI (gI s15 1335 0 m16), aI v1, aR 1335 (some 0)] ?_ (fun hm17 => ?_)
            ·
              refine x_iadd (pc := 97) dX12_look_97 ?_
              refine x_iast (pc := 98) ar_1335 dX12_look_98 (fun m21 => ?_)
              refine x_nameS (fun s22 => ?_)
              refine x_aload_n (pc := 99) 0 dX12_look_99 rfl rfl ?_
              refine x_iload_n (pc := 100) 1 dX12_look_100 rfl rfl ?_
              refine x_iload_n (pc := 101) 2 dX12_look_101 rfl rfl ?_
              refine x_iconst (pc := 102) 1 dX12_look_102 rfl ?_
              refine x_mg (c := v2 = 1) (a := 3) (b := 0) 111 [aI v1, aR 12 (some 0)] ?_ (fun hm23 => ?_)
              ·
                refine x_iconst (pc := 111) (-1) dX12_look_111 rfl ?_
                refine x_callV (pc := 112) (as := [aI v1, aI (if v2 = 1 then 3 else 0), aI (-1)]) (rest := []) (fun l => c_12_become l v1 (if v2 = 1 then 3 else 0) (-1) s22) md_X12_become ⟨_, _, rfl, by decide⟩ tk_1524 tp_62 tk_1522 dX12_look_112 rfl ⟨by decide, by decide, by decide, by decide⟩ ⟨fun _ => rfl, fun _ => Or.inl rfl⟩ rfl (Nat.le_of_ble_eq_true rfl) (fun _ s28 => ?_)
                show X E _ _ _ _ 0 0 _ _ _ [] _
                refine x_iconst (pc := 115) 1 dX12_look_115 rfl ?_
                exact x_iret (rm := r12_look) rfl rfl dX12_look_116
              ·
                refine x_same (c := v2 = 1) ?_
                refine x_icmp_ne (pc := 103) 110 dX12_look_103 (by decide) (fun hc24 => ?_) (fun hc24 => ?_)
                ·
                  have hm26 := x_topF hc24 hm23
                  refine x_iconst (pc := 110) 0 dX12_look_110 rfl ?_
                  exact hm26
                ·
                  have hm25 := x_topT hc24 hm23
                  refine x_iconst (pc := 106) 3 dX12_look_106 rfl ?_
                  refine x_goto (pc := 107) 111 dX12_look_107 (by decide) ?_
                  exact hm25
            ·
              refine x_same (c := v2 = 1) ?_
              refine x_icmp_ne (pc := 89) 96 dX12_look_89 (by decide) (fun hc18 => ?_) (fun hc18 => ?_)
              ·
                have hm20 := x_topF hc18 hm17
                refine x_iconst (pc := 96) 1 dX12_look_96 rfl ?_
                exact hm20
              ·
                have hm19 := x_topT hc18 hm17
                refine x_iconst (pc := 92) 0 dX12_look_92 rfl ?_
                refine x_goto (pc := 93) 97 dX12_look_93 (by decide) ?_
                exact hm19
          ·
            refine x_same (c := v2 = 1) ?_
            refine x_icmp_ne (pc := 70) 77 dX12_look_70 (by decide) (fun hc11 => ?_) (fun hc11 => ?_)
            ·
              have hm13 := x_topF hc11 hm10
              refine x_iconst (pc := 77) 1 dX12_look_77 rfl ?_
              exact hm13
            ·
              have hm12 := x_topT hc11 hm10
              refine x_iconst (pc := 73) 0 dX12_look_73 rfl ?_
              refine x_goto (pc := 74) 78 dX12_look_74 (by decide) ?_
              exact hm12
        ·
          refine x_bipush (pc := 42) (-2) dX12_look_42 rfl ?_
          exact x_iret (rm := r12_look) rfl rfl dX12_look_44
      ·
        refine x_bipush (pc := 28) (-3) dX12_look_28 rfl ?_
        exact x_iret (rm := r12_look) rfl rfl dX12_look_30
    ·
      refine x_iconst (pc := 17) (-1) dX12_look_17 rfl ?_
      exact x_iret (rm := r12_look) rfl rfl dX12_look_18
theorem c_12_look (l : Launch)  (v1 : Int32) (v2 : Int32) (σ : zSt) : zMet l yX12_look cX12_look 4 (some .int) r12_look true eI [aR 12 (some 0), aI v1, aI v2] σ (f12_look v1 v2 σ) :=
  zMet_of [(0, aR 12 (some 0)), (1, aI v1), (2, aI v2)] (by decide +kernel) (fun h => by cases h) (Nat.le_of_ble_eq_true rfl) rfl fun E _ => x12_look E  v1 v2 σ
abbrev r12_endPromise : Room := { frames := 1, cells := 0, slots := 0, locals := 21 }
abbrev m12_endPromise : zMu := (RX12, 3, none, r12_endPromise, false)
set_option maxRecDepth 20000 in
theorem x12_endPromise (E : zEn)  (v1 : Int32) (σ : zSt) : X E cX12_endPromise m12_endPromise true (zQw E true eV r12_endPromise) 0 0 σ [(0, aR 12 (some 0)), (1, aI v1)] 0 [] (f12_endPromise v1 σ) := by
  unfold f12_endPromise
  refine x_aload_n (pc := 0) 0 dX12_endPromise_0 rfl rfl ?_
  refine x_iload_n (pc := 1) 1 dX12_endPromise_1 rfl rfl ?_
  refine x_callVr (pc := 2) (as := [aI v1]) (rest := []) (fun l => c_12_promiseNow l v1 σ) md_X12_promiseNow ⟨_, _, rfl, by decide⟩ tk_1504 tp_59 tk_1502 dX12_endPromise_2 rfl ⟨by decide, by decide, by decide, by decide⟩ ⟨fun _ => rfl, fun _ => Or.inl rfl⟩ rfl (Nat.le_of_ble_eq_true rfl) (fun r1 => ?_)
  show X E _ _ _ _ 0 0 _ _ _ [aI r1] _
  refine x_istore_n (pc := 5) (als' := [(2, aI r1), (0, aR 12 (some 0)), (1, aI v1)]) 2 dX12_endPromise_5 rfl (by decide) rfl ?_
  refine x_aload_n (pc := 6) 0 dX12_endPromise_6 rfl rfl ?_
  refine x_getF (pc := 7) (j := 0) fd_12_30 rfl rfl tk_1225 dX12_endPromise_7 ?_
  refine x_iload_n (pc := 10) 1 dX12_endPromise_10 rfl rfl ?_
  refine x_iload_n (pc := 11) 2 dX12_endPromise_11 rfl rfl ?_
  refine x_iconst (pc := 12) 1 dX12_endPromise_12 rfl ?_
  refine x_mg (c := r1 = 1) (a := 0) (b := r1) 21 [aI v1, aR 1330 (some 0)] ?_ (fun hm2 => ?_)
  ·
    refine x_iast (pc := 21) ar_1330 dX12_endPromise_21 (fun m6 => ?_)
    refine x_nameS (fun s7 => ?_)
    exact x_vret (rm := r12_endPromise) rfl rfl dX12_endPromise_22
  ·
    refine x_same (c := r1 = 1) ?_
    refine x_icmp_ne (pc := 13) 20 dX12_endPromise_13 (by decide) (fun hc3 => ?_) (fun hc3 => ?_)
    ·
      have hm5 := x_topF hc3 hm2
      refine x_iload_n (pc := 20) 2 dX12_endPromise_20 rfl rfl ?_
      exact hm5
    ·
      have hm4 := x_topT hc3 hm2
      refine x_iconst (pc := 16) 0 dX12_endPromise_16 rfl ?_
      refine x_goto (pc := 17) 21 dX12_endPromise_17 (by decide) ?_
      exact hm4
theorem c_12_endPromise (l : Launch)  (v1 : Int32) (σ : zSt) : zMet l yX12_endPromise cX12_endPromise 3 none r12_endPromise true eV [aR 12 (some 0), aI v1] σ (f12_endPromise v1 σ) :=
  zMet_of [(0, aR 12 (some 0)), (1, aI v1)] (by decide +kernel) (fun h => by cases h) (Nat.le_of_ble_eq_true rfl) rfl fun E _ => x12_endPromise E  v1 σ
abbrev r12_voids : Room := { frames := 2, cells := 0, slots := 0, locals := 43 }
abbrev m12_voids : zMu := (RX12, 2, (some .int), r12_voids, false)
set_option maxRecDepth 20000 in
theorem x12_voids (E : zEn)  (v1 : Int32) (σ : zSt) : X E cX12_voids m12_voids true (zQw E true eI r12_voids) 0 0 σ [(0, aR 12 (some 0)), (1, aI v1)] 0 [] (f12_voids v1 σ) := by
  unfold f12_voids
  refine x_aload_n (pc := 0) 0 dX12_voids_0 rfl rfl ?_
  refine x_iload_n (pc := 1) 1 dX12_voids_1 rfl rfl ?_
  refine x_callVr (pc := 2) (as := [aI v1]) (rest := []) (fun l => c_12_isFault l true v1 σ) md_X12_isFault ⟨_, _, rfl, by decide⟩ tk_1532 tp_63 tk_1530 dX12_voids_2 rfl ⟨by decide, by decide, by decide, by decide⟩ ⟨fun _ => rfl, fun _ => Or.inl rfl⟩ rfl (Nat.le_of_ble_eq_true rfl) (fun r1 => ?_)
  show X E _ _ _ _ 0 0 _ _ _ [aI r1] _
  refine x_if_ne (pc := 5) 10 dX12_voids_5 (by decide) (fun _ => ?_) (fun _ => ?_)
  ·
    refine x_aload_n (pc := 10) 0 dX12_voids_10 rfl rfl ?_
    refine x_iload_n (pc := 11) 1 dX12_voids_11 rfl rfl ?_
    refine x_callVr (pc := 12) (as := [aI v1]) (rest := []) (fun l => c_12_isOpen l v1 σ) md_X12_isOpen ⟨_, _, rfl, by decide⟩ tk_1536 tp_64 tk_1534 dX12_voids_12 rfl ⟨by decide, by decide, by decide, by decide⟩ ⟨fun _ => rfl, fun _ => Or.inl rfl⟩ rfl (Nat.le_of_ble_eq_true rfl) (fun r2 => ?_)
    show X E _ _ _ _ 0 0 _ _ _ [aI r2] _
    refine x_if_ne (pc := 15) 21 dX12_voids_15 (by decide) (fun _ => ?_) (fun _ => ?_)
    ·
      refine x_aload_n (pc := 21) 0 dX12_voids_21 rfl rfl ?_
      refine x_getF (pc := 22) (j := 0) fd_12_29 rfl rfl tk_1224 dX12_voids_22 ?_
      refine x_iload_n (pc := 25) 1 dX12_voids_25 rfl rfl ?_
      refine x_iald (pc := 26) ar_1329 dX12_voids_26 (fun m3 => ?_)
      refine x_bipush (pc := 27) 30 dX12_voids_27 rfl ?_
      refine x_icmp_ne (pc := 29) 35 dX12_voids_29 (by decide) (fun _ => ?_) (fun _ => ?_)
      ·
        refine x_aload_n (pc := 35) 0 dX12_voids_35 rfl rfl ?_
        refine x_iload_n (pc := 36) 1 dX12_voids_36 rfl rfl ?_
        refine x_callV (pc := 37) (as := [aI v1]) (rest := []) (fun l => c_12_endPromise l v1 σ) md_X12_endPromise ⟨_, _, rfl, by decide⟩ tk_1559 tp_66 tk_1557 dX12_voids_37 rfl ⟨by decide, by decide, by decide, by decide⟩ ⟨fun _ => rfl, fun _ => Or.inl rfl⟩ rfl (Nat.le_of_ble_eq_true rfl) (fun _ s5 => ?_)
        show X E _ _ _ _ 0 0 _ _ _ [] _
        refine x_aload_n (pc := 40) 0 dX12_voids_40 rfl rfl ?_
        refine x_iload_n (pc := 41) 1 dX12_voids_41 rfl rfl ?_
        refine x_iconst (pc := 42) 4 dX12_voids_42 rfl ?_
        refine x_iconst (pc := 43) (-1) dX12_voids_43 rfl ?_
        refine x_callV (pc := 44) (as := [aI v1, aI 4, aI (-1)]) (rest := []) (fun l => c_12_become l v1 4 (-1) s5) md_X12_become ⟨_, _, rfl, by decide⟩ tk_1524 tp_62 tk_1522 dX12_voids_44 rfl ⟨by decide, by decide, by decide, by decide⟩ ⟨fun _ => rfl, fun _ => Or.inl rfl⟩ rfl (Nat.le_of_ble_eq_true rfl) (fun _ s7 => ?_)
        show X E _ _ _ _ 0 0 _ _ _ [] _
        refine x_iconst (pc := 47) 1 dX12_voids_47 rfl ?_
        exact x_iret (rm := r12_voids) rfl rfl dX12_voids_48
      ·
        refine x_bipush (pc := 32) (-2) dX12_voids_32 rfl ?_
        exact x_iret (rm := r12_voids) rfl rfl dX12_voids_34
    ·
      refine x_bipush (pc := 18) (-3) dX12_voids_18 rfl ?_
      exact x_iret (rm := r12_voids) rfl rfl dX12_voids_20
  ·
    refine x_iconst (pc := 8) (-1) dX12_voids_8 rfl ?_
    exact x_iret (rm := r12_voids) rfl rfl dX12_voids_9
theorem c_12_voids (l : Launch)  (v1 : Int32) (σ : zSt) : zMet l yX12_voids cX12_voids 2 (some .int) r12_voids true eI [aR 12 (some 0), aI v1] σ (f12_voids v1 σ) :=
  zMet_of [(0, aR 12 (some 0)), (1, aI v1)] (by decide +kernel) (fun h => by cases h) (Nat.le_of_ble_eq_true rfl) rfl fun E _ => x12_voids E  v1 σ
abbrev r12_state : Room := { frames := 2, cells := 0, slots := 0, locals := 42 }
abbrev m12_state : zMu := (RX12, 4, (some .int), r12_state, false)
set_option maxRecDepth 20000 in
theorem x12_state (E : zEn)  (v1 : Int32) (v2 : Int32) (σ : zSt) : X E cX12_state m12_state true (zQr E true eI r12_state σ) 0 0 σ [(0, aR 12 (some 0)), (1, aI v1), (2, aI v2)] 0 [] (f12_state v1 v2 σ) := by
  unfold f12_state
  refine x_aload_n (pc := 0) 0 dX12_state_0 rfl rfl ?_
  refine x_iload_n (pc := 1) 1 dX12_state_1 rfl rfl ?_
  refine x_callVr (pc := 2) (as := [aI v1]) (rest := []) (fun l => c_12_isFault l true v1 σ) md_X12_isFault ⟨_, _, rfl, by decide⟩ tk_1532 tp_63 tk_1530 dX12_state_2 rfl ⟨by decide, by decide, by decide, by decide⟩ ⟨fun _ => rfl, fun _ => Or.inl rfl⟩ rfl (Nat.le_of_ble_eq_true rfl) (fun r1 => ?_)
  show X E _ _ _ _ 0 0 _ _ _ [aI r1] _
  refine x_if_eq (pc := 5) 15 dX12_state_5 (by decide) (fun _ => ?_) (fun _ => ?_)
  ·
    refine x_iconst (pc := 15) (-1) dX12_state_15 rfl ?_
    exact x_iret (rm := r12_state) rfl rfl dX12_state_16
  ·
    refine x_iload_n (pc := 8) 2 dX12_state_8 rfl rfl ?_
    refine x_callSr (pc := 9) (as := [aI v2]) (rest := []) (fun l => c_12_isDay l true v2 σ) md_X12_isDay tk_1566 tk_1565 dX12_state_9 rfl ⟨by decide, by decide, by decide, by decide⟩ ⟨fun _ => rfl, fun _ => Or.inl rfl⟩ rfl (Nat.le_of_ble_eq_true rfl) (fun r2 => ?_)
    show X E _ _ _ _ 0 0 _ _ _ [aI r2] _
    refine x_if_ne (pc := 12) 17 dX12_state_12 (by decide) (fun _ => ?_) (fun _ => ?_)
    ·
      refine x_aload_n (pc := 17) 0 dX12_state_17 rfl rfl ?_
      refine x_iload_n (pc := 18) 1 dX12_state_18 rfl rfl ?_
      refine x_iload_n (pc := 19) 2 dX12_state_19 rfl rfl ?_
      refine x_callVr (pc := 20) (as := [aI v1, aI v2]) (rest := []) (fun l => c_12_stateOn l v1 v2 σ) md_X12_stateOn ⟨_, _, rfl, by decide⟩ tk_1492 tp_56 tk_1490 dX12_state_20 rfl ⟨by decide, by decide, by decide, by decide⟩ ⟨fun _ => rfl, fun _ => Or.inl rfl⟩ rfl (Nat.le_of_ble_eq_true rfl) (fun r3 => ?_)
      show X E _ _ _ _ 0 0 _ _ _ [aI r3] _
      refine x_istore_n (pc := 23) (als' := [(3, aI r3), (0, aR 12 (some 0)), (1, aI v1), (2, aI v2)]) 3 dX12_state_23 rfl (by decide) rfl ?_
      refine x_iload_n (pc := 24) 3 dX12_state_24 rfl rfl ?_
      refine x_if_ge (pc := 25) 33 dX12_state_25 (by decide) (fun _ => ?_) (fun _ => ?_)
      ·
        refine x_iload_n (pc := 33) 3 dX12_state_33 rfl rfl ?_
        exact x_iret (rm := r12_state) rfl rfl dX12_state_34
      ·
        refine x_bipush (pc := 28) (-4) dX12_state_28 rfl ?_
        refine x_goto (pc := 30) 34 dX12_state_30 (by decide) ?_
        exact x_iret (rm := r12_state) rfl rfl dX12_state_34
    ·
      refine x_iconst (pc := 15) (-1) dX12_state_15 rfl ?_
      exact x_iret (rm := r12_state) rfl rfl dX12_state_16
theorem c_12_state (l : Launch)  (v1 : Int32) (v2 : Int32) (σ : zSt) : zMet l yX12_state cX12_state 4 (some .int) r12_state true eI [aR 12 (some 0), aI v1, aI v2] σ (zro (f12_state v1 v2 σ) σ) :=
  zMet_ofR [(0, aR 12 (some 0)), (1, aI v1), (2, aI v2)] (by decide +kernel) (fun h => by cases h) (Nat.le_of_ble_eq_true rfl) rfl fun E _ => x12_state E  v1 v2 σ
abbrev r12_priceOf : Room := { frames := 0, cells := 0, slots := 0, locals := 0 }
abbrev m12_priceOf : zMu := (RX12, 3, (some .int), r12_priceOf, false)
set_option maxRecDepth 20000 in
theorem x12_priceOf (E : zEn)  (v1 : Int32) (σ : zSt) : X E cX12_priceOf m12_priceOf true (zQr E true eI r12_priceOf σ) 0 0 σ [(0, aR 12 (some 0)), (1, aI v1)] 0 [] (f12_priceOf v1 σ) := by
  unfold f12_priceOf
  refine x_aload_n (pc := 0) 0 dX12_priceOf_0 rfl rfl ?_
  refine x_getF (pc := 1) (j := 0) fd_12_15 rfl rfl tk_1210 dX12_priceOf_1 ?_
  refine x_aload_n (pc := 4) 0 dX12_priceOf_4 rfl rfl ?_
  refine x_getF (pc := 5) (j := 0) fd_12_20 rfl rfl tk_1215 dX12_priceOf_5 ?_
  refine x_iload_n (pc := 8) 1 dX12_priceOf_8 rfl rfl ?_
  refine x_iald (pc := 9) ar_1320 dX12_priceOf_9 (fun m1 => ?_)
  refine x_iald (pc := 10) ar_1315 dX12_priceOf_10 (fun m2 => ?_)
  refine x_aload_n (pc := 11) 0 dX12_priceOf_11 rfl rfl ?_
  refine x_getF (pc := 12) (j := 0) fd_12_21 rfl rfl tk_1216 dX12_priceOf_12 ?_
  refine x_iload_n (pc := 15) 1 dX12_priceOf_15 rfl rfl ?_
  refine x_iald (pc := 16) ar_1321 dX12_priceOf_16 (fun m3 => ?_)
  refine x_imul (pc := 17) dX12_priceOf_17 ?_
  refine x_nameI (fun x4 => ?_)
  refine x_istore_n (pc := 18) (als' := [(2, aI x4), (0, aR 12 (some 0)), (1, aI v1)]) 2 dX12_priceOf_18 rfl (by decide) rfl ?_
  refine x_aload_n (pc := 19) 0 dX12_priceOf_19 rfl rfl ?_
  refine x_getF (pc := 20) (j := 0) fd_12_19 rfl rfl tk_1214 dX12_priceOf_20 ?_
  refine x_iload_n (pc := 23) 1 dX12_priceOf_23 rfl rfl ?_
  refine x_iald (pc := 24) ar_1319 dX12_priceOf_24 (fun m5 => ?_)
  refine x_iconst (pc := 25) 4 dX12_priceOf_25 rfl ?_
  refine x_idivC (pc := 26) dX12_priceOf_26 (by decide) ?_
  refine x_iconst (pc := 27) 2 dX12_priceOf_27 rfl ?_
  refine x_icmp_ne (pc := 28) 41 dX12_priceOf_28 (by decide) (fun _ => ?_) (fun _ => ?_)
  ·
    refine x_iload_n (pc := 41) 2 dX12_priceOf_41 rfl rfl ?_
    exact x_iret (rm := r12_priceOf) rfl rfl dX12_priceOf_42
  ·
    refine x_iconst (pc := 31) 3 dX12_priceOf_31 rfl ?_
    refine x_iload_n (pc := 32) 2 dX12_priceOf_32 rfl rfl ?_
    refine x_imul (pc := 33) dX12_priceOf_33 ?_
    refine x_iconst (pc := 34) 1 dX12_priceOf_34 rfl ?_
    refine x_iadd (pc := 35) dX12_priceOf_35 ?_
    refine x_iconst (pc := 36) 2 dX12_priceOf_36 rfl ?_
    refine x_idivC (pc := 37) dX12_priceOf_37 (by decide) ?_
    refine x_goto (pc := 38) 42 dX12_priceOf_38 (by decide) ?_
    exact x_iret (rm := r12_priceOf) rfl rfl dX12_priceOf_42
theorem c_12_priceOf (l : Launch)  (v1 : Int32) (σ : zSt) : zMet l yX12_priceOf cX12_priceOf 3 (some .int) r12_priceOf true eI [aR 12 (some 0), aI v1] σ (zro (f12_priceOf v1 σ) σ) :=
  zMet_ofR [(0, aR 12 (some 0)), (1, aI v1)] (by decide +kernel) (fun h => by cases h) (Nat.le_of_ble_eq_true rfl) rfl fun E _ => x12_priceOf E  v1 σ
abbrev r12_ofFault : Room := { frames := 1, cells := 0, slots := 0, locals := 23 }
abbrev m12_ofFault : zMu := (RX12, 3, (some .int), r12_ofFault, false)
set_option maxRecDepth 20000 in
theorem x12_ofFault (E : zEn)  (v1 : Int32) (v2 : Int32) (σ : zSt) : X E cX12_ofFault m12_ofFault true (zQr E true eI r12_ofFault σ) 0 0 σ [(0, aR 12 (some 0)), (1, aI v1), (2, aI v2)] 0 [] (f12_ofFault v1 v2 σ) := by
  unfold f12_ofFault
  refine x_aload_n (pc := 0) 0 dX12_ofFault_0 rfl rfl ?_
  refine x_iload_n (pc := 1) 1 dX12_ofFault_1 rfl rfl ?_
  refine x_callVr (pc := 2) (as := [aI v1]) (rest := []) (fun l => c_12_isFault l true v1 σ) md_X12_isFault ⟨_, _, rfl, by decide⟩ tk_1532 tp_63 tk_1530 dX12_ofFault_2 rfl ⟨by decide, by decide, by decide, by decide⟩ ⟨fun _ => rfl, fun _ => Or.inl rfl⟩ rfl (Nat.le_of_ble_eq_true rfl) (fun r1 => ?_)
  show X E _ _ _ _ 0 0 _ _ _ [aI r1] _
  refine x_if_ne (pc := 5) 10 dX12_ofFault_5 (by decide) (fun _ => ?_) (fun _ => ?_)
  ·
    refine x_iload_n (pc := 10) 2 dX12_ofFault_10 rfl rfl ?_
    refine x_table (pc := 11) dX12_ofFault_11 (by decide) (fun tg2 ht3 => ?_) (fun x => ?_)
    ·
      refine x_ite (fun hc4 => ?_) (fun hc4 => ?_)
      ·
        obtain rfl : tg2 = 80 := zsw_at hc4 ht3 (by decide)
        refine x_aload_n (pc := 80) 0 dX12_ofFault_80 rfl rfl ?_
        refine x_getF (pc := 81) (j := 0) fd_12_18 rfl rfl tk_1213 dX12_ofFault_81 ?_
        refine x_iload_n (pc := 84) 1 dX12_ofFault_84 rfl rfl ?_
        refine x_iald (pc := 85) ar_1318 dX12_ofFault_85 (fun m5 => ?_)
        exact x_iret (rm := r12_ofFault) rfl rfl dX12_ofFault_86
      ·
        refine x_ite (fun hc6 => ?_) (fun hc6 => ?_)
        ·
          obtain rfl : tg2 = 87 := zsw_at hc6 ht3 (by decide)
          refine x_aload_n (pc := 87) 0 dX12_ofFault_87 rfl rfl ?_
          refine x_getF (pc := 88) (j := 0) fd_12_19 rfl rfl tk_1214 dX12_ofFault_88 ?_
          refine x_iload_n (pc := 91) 1 dX12_ofFault_91 rfl rfl ?_
          refine x_iald (pc := 92) ar_1319 dX12_ofFault_92 (fun m7 => ?_)
          exact x_iret (rm := r12_ofFault) rfl rfl dX12_ofFault_93
        ·
          refine x_ite (fun hc8 => ?_) (fun hc8 => ?_)
          ·
            obtain rfl : tg2 = 94 := zsw_at hc8 ht3 (by decide)
            refine x_aload_n (pc := 94) 0 dX12_ofFault_94 rfl rfl ?_
            refine x_getF (pc := 95) (j := 0) fd_12_20 rfl rfl tk_1215 dX12_ofFault_95 ?_
            refine x_iload_n (pc := 98) 1 dX12_ofFault_98 rfl rfl ?_
            refine x_iald (pc := 99) ar_1320 dX12_ofFault_99 (fun m9 => ?_)
            exact x_iret (rm := r12_ofFault) rfl rfl dX12_ofFault_100
          ·
            refine x_ite (fun hc10 => ?_) (fun hc10 => ?_)
            ·
              obtain rfl : tg2 = 101 := zsw_at hc10 ht3 (by decide)
              refine x_aload_n (pc := 101) 0 dX12_ofFault_101 rfl rfl ?_
              refine x_getF (pc := 102) (j := 0) fd_12_21 rfl rfl tk_1216 dX12_ofFault_102 ?_
              refine x_iload_n (pc := 105) 1 dX12_ofFault_105 rfl rfl ?_
              refine x_iald (pc := 106) ar_1321 dX12_ofFault_106 (fun m11 => ?_)
              exact x_iret (rm := r12_ofFault) rfl rfl dX12_ofFault_107
            ·
              refine x_ite (fun hc12 => ?_) (fun hc12 => ?_)
              ·
                obtain rfl : tg2 = 108 := zsw_at hc12 ht3 (by decide)
                refine x_aload_n (pc := 108) 0 dX12_ofFault_108 rfl rfl ?_
                refine x_getF (pc := 109) (j := 0) fd_12_22 rfl rfl tk_1217 dX12_ofFault_109 ?_
                refine x_iload_n (pc := 112) 1 dX12_ofFault_112 rfl rfl ?_
                refine x_iald (pc := 113) ar_1322 dX12_ofFault_113 (fun m13 => ?_)
                exact x_iret (rm := r12_ofFault) rfl rfl dX12_ofFault_114
              ·
                refine x_ite (fun hc14 => ?_) (fun hc14 => ?_)
                ·
                  obtain rfl : tg2 = 115 := zsw_at hc14 ht3 (by decide)
                  refine x_aload_n (pc := 115) 0 dX12_ofFault_115 rfl rfl ?_
                  refine x_getF (pc := 116) (j := 0) fd_12_23 rfl rfl tk_1218 dX12_ofFault_116 ?_
                  refine x_iload_n (pc := 119) 1 dX12_ofFault_119 rfl rfl ?_
                  refine x_iald (pc := 120) ar_1323 dX12_ofFault_120 (fun m15 => ?_)
                  exact x_iret (rm := r12_ofFault) rfl rfl dX12_ofFault_121
                ·
                  refine x_ite (fun hc16 => ?_) (fun hc16 => ?_)
                  ·
                    obtain rfl : tg2 = 122 := zsw_at hc16 ht3 (by decide)
                    refine x_aload_n (pc := 122) 0 dX12_ofFault_122 rfl rfl ?_
                    refine x_getF (pc := 123) (j := 0) fd_12_24 rfl rfl tk_1219 dX12_ofFault_123 ?_
                    refine x_iload_n (pc := 126) 1 dX12_ofFault_126 rfl rfl ?_
                    refine x_zald (pc := 127) ar_1324 dX12_ofFault_127 (fun m17 => ?_)
                    refine x_if_eq (pc := 128) 135 dX12_ofFault_128 (by decide) (fun _ => ?_) (fun _ => ?_)
                    ·
                      refine x_iconst (pc := 135) 0 dX12_ofFault_135 rfl ?_
                      exact x_iret (rm := r12_ofFault) rfl rfl dX12_ofFault_136
                    ·
                      refine x_iconst (pc := 131) 1 dX12_ofFault_131 rfl ?_
                      refine x_goto (pc := 132) 136 dX12_ofFault_132 (by decide) ?_
                      exact x_iret (rm := r12_ofFault) rfl rfl dX12_ofFault_136
                  ·
                    refine x_ite (fun hc18 => ?_) (fun hc18 => ?_)
                    ·
                      obtain rfl : tg2 = 137 := zsw_at hc18 ht3 (by decide)
                      refine x_aload_n (pc := 137) 0 dX12_ofFault_137 rfl rfl ?_
                      refine x_getF (pc := 138) (j := 0) fd_12_25 rfl rfl tk_1220 dX12_ofFault_138 ?_
                      refine x_iload_n (pc := 141) 1 dX12_ofFault_141 rfl rfl ?_
                      refine x_zald (pc := 142) ar_1325 dX12_ofFault_142 (fun m19 => ?_)
                      refine x_if_eq (pc := 143) 150 dX12_ofFault_143 (by decide) (fun _ => ?_) (fun _ => ?_)
                      ·
                        refine x_iconst (pc := 150) 0 dX12_ofFault_150 rfl ?_
                        exact x_iret (rm := r12_ofFault) rfl rfl dX12_ofFault_151
                      ·
                        refine x_iconst (pc := 146) 1 dX12_ofFault_146 rfl ?_
                        refine x_goto (pc := 147) 151 dX12_ofFault_147 (by decide) ?_
                        exact x_iret (rm := r12_ofFault) rfl rfl dX12_ofFault_151
                    ·
                      refine x_ite (fun hc20 => ?_) (fun hc20 => ?_)
                      ·
                        obtain rfl : tg2 = 152 := zsw_at hc20 ht3 (by decide)
                        refine x_aload_n (pc := 152) 0 dX12_ofFault_152 rfl rfl ?_
                        refine x_iload_n (pc := 153) 1 dX12_ofFault_153 rfl rfl ?_
                        refine x_callVr (pc := 154) (as := [aI v1]) (rest := []) (fun l => c_12_priceOf l v1 σ) md_X12_priceOf ⟨_, _, rfl, by decide⟩ tk_1574 tp_67 tk_1572 dX12_ofFault_154 rfl ⟨by decide, by decide, by decide, by decide⟩ ⟨fun _ => rfl, fun _ => Or.inl rfl⟩ rfl (Nat.le_of_ble_eq_true rfl) (fun r21 => ?_)
                        show X E _ _ _ _ 0 0 _ _ _ [aI r21] _
                        exact x_iret (rm := r12_ofFault) rfl rfl dX12_ofFault_157
                      ·
                        refine x_ite (fun hc22 => ?_) (fun hc22 => ?_)
                        ·
                          obtain rfl : tg2 = 158 := zsw_at hc22 ht3 (by decide)
                          refine x_aload_n (pc := 158) 0 dX12_ofFault_158 rfl rfl ?_
                          refine x_iload_n (pc := 159) 1 dX12_ofFault_159 rfl rfl ?_
                          refine x_callVr (pc := 160) (as := [aI v1]) (rest := []) (fun l => c_12_promiseNow l v1 σ) md_X12_promiseNow ⟨_, _, rfl, by decide⟩ tk_1504 tp_59 tk_1502 dX12_ofFault_160 rfl ⟨by decide, by decide, by decide, by decide⟩ ⟨fun _ => rfl, fun _ => Or.inl rfl⟩ rfl (Nat.le_of_ble_eq_true rfl) (fun r23 => ?_)
                          show X E _ _ _ _ 0 0 _ _ _ [aI r23] _
                          exact x_iret (rm := r12_ofFault) rfl rfl dX12_ofFault_163
                        ·
                          refine x_ite (fun hc24 => ?_) (fun hc24 => ?_)
                          ·
                            obtain rfl : tg2 = 164 := zsw_at hc24 ht3 (by decide)
                            refine x_aload_n (pc := 164) 0 dX12_ofFault_164 rfl rfl ?_
                            refine x_getF (pc := 165) (j := 0) fd_12_32 rfl rfl tk_1227 dX12_ofFault_165 ?_
                            refine x_iload_n (pc := 168) 1 dX12_ofFault_168 rfl rfl ?_
                            refine x_iald (pc := 169) ar_1332 dX12_ofFault_169 (fun m25 => ?_)
                            exact x_iret (rm := r12_ofFault) rfl rfl dX12_ofFault_170
                          ·
                            refine x_ite (fun hc26 => ?_) (fun hc26 => ?_)
                            ·
                              obtain rfl : tg2 = 171 := zsw_at hc26 ht3 (by decide)
                              refine x_aload_n (pc := 171) 0 dX12_ofFault_171 rfl rfl ?_
                              refine x_getF (pc := 172) (j := 0) fd_12_34 rfl rfl tk_1229 dX12_ofFault_172 ?_
                              refine x_iload_n (pc := 175) 1 dX12_ofFault_175 rfl rfl ?_
                              refine x_iald (pc := 176) ar_1334 dX12_ofFault_176 (fun m27 => ?_)
                              exact x_iret (rm := r12_ofFault) rfl rfl dX12_ofFault_177
                            ·
                              refine x_ite (fun hc28 => ?_) (fun hc28 => ?_)
                              ·
                                obtain rfl : tg2 = 178 := zsw_at hc28 ht3 (by decide)
                                refine x_aload_n (pc := 178) 0 dX12_ofFault_178 rfl rfl ?_
                                refine x_getF (pc := 179) (j := 0) fd_12_35 rfl rfl tk_1230 dX12_ofFault_179 ?_
                                refine x_iload_n (pc := 182) 1 dX12_ofFault_182 rfl rfl ?_
                                refine x_iald (pc := 183) ar_1335 dX12_ofFault_183 (fun m29 => ?_)
                                exact x_iret (rm := r12_ofFault) rfl rfl dX12_ofFault_184
                              ·
                                refine x_ite (fun hc30 => ?_) (fun hc30 => ?_)
                                ·
                                  obtain rfl : tg2 = 185 := zsw_at hc30 ht3 (by decide)
                                  refine x_aload_n (pc := 185) 0 dX12_ofFault_185 rfl rfl ?_
                                  refine x_iload_n (pc := 186) 1 dX12_ofFault_186 rfl rfl ?_
                                  refine x_callVr (pc := 187) (as := [aI v1]) (rest := []) (fun l => c_12_lastCrew l v1 σ) md_X12_lastCrew ⟨_, _, rfl, by decide⟩ tk_1551 tp_65 tk_1549 dX12_ofFault_187 rfl ⟨by decide, by decide, by decide, by decide⟩ ⟨fun _ => rfl, fun _ => Or.inl rfl⟩ rfl (Nat.le_of_ble_eq_true rfl) (fun r31 => ?_)
                                  show X E _ _ _ _ 0 0 _ _ _ [aI r31] _
                                  exact x_iret (rm := r12_ofFault) rfl rfl dX12_ofFault_190
                                ·
                                  obtain rfl : tg2 = 191 := zswd_at (cs := [0, 1, 2, 3, 4, 5, 6, 7, 8, 9, 10, 11, 12, 13]) ht3 (by decide) (by simp only [List.mem_cons, List.not_mem_nil, or_false, not_or]; exact ⟨hc4, hc6, hc8, hc10, hc12, hc14, hc16, hc18, hc20, hc22, hc24, hc26, hc28, hc30⟩) (by decide)
                                  refine x_iconst (pc := 191) (-1) dX12_ofFault_191 rfl ?_
                                  exact x_iret (rm := r12_ofFault) rfl rfl dX12_ofFault_192
    · exact ztoff_pos (by decide) (by decide) x
  ·
    refine x_iconst (pc := 8) (-1) dX12_ofFault_8 rfl ?_
    exact x_iret (rm := r12_ofFault) rfl rfl dX12_ofFault_9
theorem c_12_ofFault (l : Launch)  (v1 : Int32) (v2 : Int32) (σ : zSt) : zMet l yX12_ofFault cX12_ofFault 3 (some .int) r12_ofFault true eI [aR 12 (some 0), aI v1, aI v2] σ (zro (f12_ofFault v1 v2 σ) σ) :=
  zMet_ofR [(0, aR 12 (some 0)), (1, aI v1), (2, aI v2)] (by decide +kernel) (fun h => by cases h) (Nat.le_of_ble_eq_true rfl) rfl fun E _ => x12_ofFault E  v1 v2 σ
abbrev r12_hasFlag : Room := { frames := 0, cells := 0, slots := 0, locals := 0 }
abbrev m12_hasFlag : zMu := (RX12, 3, (some .boolean), r12_hasFlag, false)
set_option maxRecDepth 20000 in
theorem x12_hasFlag (E : zEn)  (v1 : Int32) (v2 : Int32) (σ : zSt) : X E cX12_hasFlag m12_hasFlag true (zQr E true eI r12_hasFlag σ) 0 0 σ [(0, aR 12 (some 0)), (1, aI v1), (2, aI v2)] 0 [] (f12_hasFlag v1 v2 σ) := by
  unfold f12_hasFlag
  refine x_aload_n (pc := 0) 0 dX12_hasFlag_0 rfl rfl ?_
  refine x_getF (pc := 1) (j := 0) fd_12_16 rfl rfl tk_1211 dX12_hasFlag_1 ?_
  refine x_aload_n (pc := 4) 0 dX12_hasFlag_4 rfl rfl ?_
  refine x_getF (pc := 5) (j := 0) fd_12_20 rfl rfl tk_1215 dX12_hasFlag_5 ?_
  refine x_iload_n (pc := 8) 1 dX12_hasFlag_8 rfl rfl ?_
  refine x_iald (pc := 9) ar_1320 dX12_hasFlag_9 (fun m1 => ?_)
  refine x_iald (pc := 10) ar_1316 dX12_hasFlag_10 (fun m2 => ?_)
  refine x_iload_n (pc := 11) 2 dX12_hasFlag_11 rfl rfl ?_
  refine x_iand (pc := 12) dX12_hasFlag_12 ?_
  refine x_if_eq (pc := 13) 20 dX12_hasFlag_13 (by decide) (fun _ => ?_) (fun _ => ?_)
  ·
    refine x_iconst (pc := 20) 0 dX12_hasFlag_20 rfl ?_
    exact x_zretC (rm := r12_hasFlag) rfl rfl (by decide) dX12_hasFlag_21
  ·
    refine x_iconst (pc := 16) 1 dX12_hasFlag_16 rfl ?_
    refine x_goto (pc := 17) 21 dX12_hasFlag_17 (by decide) ?_
    exact x_zretC (rm := r12_hasFlag) rfl rfl (by decide) dX12_hasFlag_21
theorem c_12_hasFlag (l : Launch)  (v1 : Int32) (v2 : Int32) (σ : zSt) : zMet l yX12_hasFlag cX12_hasFlag 3 (some .boolean) r12_hasFlag true eI [aR 12 (some 0), aI v1, aI v2] σ (zro (f12_hasFlag v1 v2 σ) σ) :=
  zMet_ofR [(0, aR 12 (some 0)), (1, aI v1), (2, aI v2)] (by decide +kernel) (fun h => by cases h) (Nat.le_of_ble_eq_true rfl) rfl fun E _ => x12_hasFlag E  v1 v2 σ
abbrev r12_leakAbove : Room := { frames := 2, cells := 0, slots := 0, locals := 47 }
abbrev m12_leakAbove : zMu := (RX12, 4, (some .int), r12_leakAbove, false)
set_option maxRecDepth 20000 in
theorem xl12_leakAbove_2 (E : zEn)   (h1 : Int32) (h2 : Int32) (σ : zSt)   : ∀ (n : Nat) (v3 : Int32), X E cX12_leakAbove m12_leakAbove true (zQr E true eI r12_leakAbove σ) 0 0 σ [(0, aR 12 (some 0)), (1, aI h1), (2, aI h2), (3, aI v3)] 2 [] (f12_leakAbove_L2 h1 h2 σ n v3) := by
  intro n
  induction n with
  | zero => intros; exact x_none
  | succ n ih =>
    intro v3
    rw [f12_leakAbove_L2]
    refine x_iload_n (pc := 2) 3 dX12_leakAbove_2 rfl rfl ?_
    refine x_aload_n (pc := 3) 0 dX12_leakAbove_3 rfl rfl ?_
    refine x_getI (pc := 4) fd_12_36 tk_1231 dX12_leakAbove_4 ?_
    refine x_icmp_ge (pc := 7) 73 dX12_leakAbove_7 (by decide) (fun _ => ?_) (fun _ => ?_)
    ·
      refine x_iconst (pc := 73) (-1) dX12_leakAbove_73 rfl ?_
      exact x_iret (rm := r12_leakAbove) rfl rfl dX12_leakAbove_74
    ·
      refine x_iload_n (pc := 10) 3 dX12_leakAbove_10 rfl rfl ?_
      refine x_iload_n (pc := 11) 1 dX12_leakAbove_11 rfl rfl ?_
      refine x_join (P := fun (j1 : Option Int32) => X E cX12_leakAbove m12_leakAbove true (zQr E true eI r12_leakAbove σ) 0 0 σ [(0, aR 12 (some 0)), (1, aI h1), (2, aI h2), (3, aI v3)] 67 [] j1) ?_ ?_
      ·
        refine x_iinc (pc := 67) (als' := [(3, aI (v3 + 1)), (0, aR 12 (some 0)), (1, aI h1), (2, aI h2)]) 3 3 (c := 1) dX12_leakAbove_67 rfl rfl (by decide) rfl ?_
        refine x_nameV (g := fun y4 => [(3, aI y4), (0, aR 12 (some 0)), (1, aI h1), (2, aI h2)]) (fun x3 => ?_) rfl
        refine x_goto (pc := 70) 2 dX12_leakAbove_70 (by decide) ?_
        exact x_sub [1, 2, 3, 0] rfl (ih x3)
      · intro j1 hj2
        refine x_icmp_eq (pc := 12) 67 dX12_leakAbove_12 (by decide) (fun _ => ?_) (fun _ => ?_)
        ·
          exact hj2
        ·
          refine x_aload_n (pc := 15) 0 dX12_leakAbove_15 rfl rfl ?_
          refine x_getF (pc := 16) (j := 0) fd_12_18 rfl rfl tk_1213 dX12_leakAbove_16 ?_
          refine x_iload_n (pc := 19) 3 dX12_leakAbove_19 rfl rfl ?_
          refine x_iald (pc := 20) ar_1318 dX12_leakAbove_20 (fun m5 => ?_)
          refine x_aload_n (pc := 21) 0 dX12_leakAbove_21 rfl rfl ?_
          refine x_getF (pc := 22) (j := 0) fd_12_18 rfl rfl tk_1213 dX12_leakAbove_22 ?_
          refine x_iload_n (pc := 25) 1 dX12_leakAbove_25 rfl rfl ?_
          refine x_iald (pc := 26) ar_1318 dX12_leakAbove_26 (fun m6 => ?_)
          refine x_icmp_ne (pc := 27) 67 dX12_leakAbove_27 (by decide) (fun _ => ?_) (fun _ => ?_)
          ·
            exact hj2
          ·
            refine x_aload_n (pc := 30) 0 dX12_leakAbove_30 rfl rfl ?_
            refine x_getF (pc := 31) (j := 0) fd_12_19 rfl rfl tk_1214 dX12_leakAbove_31 ?_
            refine x_iload_n (pc := 34) 3 dX12_leakAbove_34 rfl rfl ?_
            refine x_iald (pc := 35) ar_1319 dX12_leakAbove_35 (fun m7 => ?_)
            refine x_aload_n (pc := 36) 0 dX12_leakAbove_36 rfl rfl ?_
            refine x_getF (pc := 37) (j := 0) fd_12_19 rfl rfl tk_1214 dX12_leakAbove_37 ?_
            refine x_iload_n (pc := 40) 1 dX12_leakAbove_40 rfl rfl ?_
            refine x_iald (pc := 41) ar_1319 dX12_leakAbove_41 (fun m8 => ?_)
            refine x_iconst (pc := 42) 4 dX12_leakAbove_42 rfl ?_
            refine x_iadd (pc := 43) dX12_leakAbove_43 ?_
            refine x_icmp_ne (pc := 44) 67 dX12_leakAbove_44 (by decide) (fun _ => ?_) (fun _ => ?_)
            ·
              exact hj2
            ·
              refine x_aload_n (pc := 47) 0 dX12_leakAbove_47 rfl rfl ?_
              refine x_iload_n (pc := 48) 3 dX12_leakAbove_48 rfl rfl ?_
              refine x_iconst (pc := 49) 1 dX12_leakAbove_49 rfl ?_
              refine x_callVr (pc := 50) (as := [aI v3, aI 1]) (rest := []) (fun l => c_12_hasFlag l v3 1 σ) md_X12_hasFlag ⟨_, _, rfl, by decide⟩ tk_1582 tp_68 tk_1580 dX12_leakAbove_50 rfl ⟨by decide, by decide, by decide, by decide⟩ ⟨fun _ => rfl, fun _ => Or.inl rfl⟩ rfl (Nat.le_of_ble_eq_true rfl) (fun r9 => ?_)
              show X E _ _ _ _ 0 0 _ _ _ [aI r9] _
              refine x_if_eq (pc := 53) 67 dX12_leakAbove_53 (by decide) (fun _ => ?_) (fun _ => ?_)
              ·
                exact hj2
              ·
                refine x_aload_n (pc := 56) 0 dX12_leakAbove_56 rfl rfl ?_
                refine x_iload_n (pc := 57) 3 dX12_leakAbove_57 rfl rfl ?_
                refine x_iload_n (pc := 58) 2 dX12_leakAbove_58 rfl rfl ?_
                refine x_callVr (pc := 59) (as := [aI v3, aI h2]) (rest := []) (fun l => c_12_isLeft l v3 h2 σ) md_X12_isLeft ⟨_, _, rfl, by decide⟩ tk_1488 tp_55 tk_1486 dX12_leakAbove_59 rfl ⟨by decide, by decide, by decide, by decide⟩ ⟨fun _ => rfl, fun _ => Or.inl rfl⟩ rfl (Nat.le_of_ble_eq_true rfl) (fun r10 => ?_)
                show X E _ _ _ _ 0 0 _ _ _ [aI r10] _
                refine x_if_eq (pc := 62) 67 dX12_leakAbove_62 (by decide) (fun _ => ?_) (fun _ => ?_)
                ·
                  exact hj2
                ·
                  refine x_iload_n (pc := 65) 3 dX12_leakAbove_65 rfl rfl ?_
                  exact x_iret (rm := r12_leakAbove) rfl rfl dX12_leakAbove_66
set_option maxRecDepth 20000 in
theorem x12_leakAbove (E : zEn)  (v1 : Int32) (v2 : Int32) (σ : zSt) : X E cX12_leakAbove m12_leakAbove true (zQr E true eI r12_leakAbove σ) 0 0 σ [(0, aR 12 (some 0)), (1, aI v1), (2, aI v2)] 0 [] (f12_leakAbove v1 v2 σ) := by
  unfold f12_leakAbove
  refine x_iconst (pc := 0) 0 dX12_leakAbove_0 rfl ?_
  refine x_istore_n (pc := 1) (als' := [(3, aI 0), (0, aR 12 (some 0)), (1, aI v1), (2, aI v2)]) 3 dX12_leakAbove_1 rfl (by decide) rfl ?_
  refine x_sub [1, 2, 3, 0] rfl (xl12_leakAbove_2 E v1 v2 σ zfuel 0)
theorem c_12_leakAbove (l : Launch)  (v1 : Int32) (v2 : Int32) (σ : zSt) : zMet l yX12_leakAbove cX12_leakAbove 4 (some .int) r12_leakAbove true eI [aR 12 (some 0), aI v1, aI v2] σ (zro (f12_leakAbove v1 v2 σ) σ) :=
  zMet_ofR [(0, aR 12 (some 0)), (1, aI v1), (2, aI v2)] (by decide +kernel) (fun h => by cases h) (Nat.le_of_ble_eq_true rfl) rfl fun E _ => x12_leakAbove E  v1 v2 σ
abbrev r12_source : Room := { frames := 3, cells := 0, slots := 0, locals := 70 }
abbrev m12_source : zMu := (RX12, 5, (some .int), r12_source, false)
set_option maxRecDepth 20000 in
theorem xl12_source_50 (E : zEn)   (h2 : Int32) (σ : zSt)   : ∀ (n : Nat) (v3 : Int32) (v4 : Int32), X E cX12_source m12_source true (zQr E true eI r12_source σ) 0 0 σ [(0, aR 12 (some 0)), (2, aI h2), (3, aI v3), (4, aI v4)] 50 [] (f12_source_L50 h2 σ n v3 v4) := by
  intro n
  induction n with
  | zero => intros; exact x_none
  | succ n ih =>
    intro v3 v4
    rw [f12_source_L50]
    refine x_iload (pc := 50) 4 dX12_source_50 rfl ?_
    refine x_if_lt (pc := 52) 82 dX12_source_52 (by decide) (fun _ => ?_) (fun _ => ?_)
    ·
      refine x_iload_n (pc := 82) 3 dX12_source_82 rfl rfl ?_
      exact x_iret (rm := r12_source) rfl rfl dX12_source_83
    ·
      refine x_iload (pc := 55) 4 dX12_source_55 rfl ?_
      refine x_istore_n (pc := 57) (als' := [(3, aI v4), (0, aR 12 (some 0)), (2, aI h2), (4, aI v4)]) 3 dX12_source_57 rfl (by decide) rfl ?_
      refine x_aload_n (pc := 58) 0 dX12_source_58 rfl rfl ?_
      refine x_iload_n (pc := 59) 3 dX12_source_59 rfl rfl ?_
      refine x_iconst (pc := 60) 4 dX12_source_60 rfl ?_
      refine x_callVr (pc := 61) (as := [aI v4, aI 4]) (rest := []) (fun l => c_12_hasFlag l v4 4 σ) md_X12_hasFlag ⟨_, _, rfl, by decide⟩ tk_1582 tp_68 tk_1580 dX12_source_61 rfl ⟨by decide, by decide, by decide, by decide⟩ ⟨fun _ => rfl, fun _ => Or.inl rfl⟩ rfl (Nat.le_of_ble_eq_true rfl) (fun r8 => ?_)
      show X E _ _ _ _ 0 0 _ _ _ [aI r8] _
      refine x_join (P := fun (j10 : Int32 → Option Int32) => ∀ (a9 : Int32), X E cX12_source m12_source true (zQr E true eI r12_source σ) 0 0 σ [(0, aR 12 (some 0)), (2, aI h2), (3, aI v4)] 77 [aI a9] (j10 a9)) ?_ ?_
      · intro a9
        refine x_istore (pc := 77) (als' := [(4, aI a9), (0, aR 12 (some 0)), (2, aI h2), (3, aI v4)]) 4 dX12_source_77 (by decide) rfl ?_
        refine x_goto (pc := 79) 50 dX12_source_79 (by decide) ?_
        exact x_sub [1, 2, 3, 0] rfl (ih v4 a9)
      · intro j10 hj11
        refine x_if_eq (pc := 64) 76 dX12_source_64 (by decide) (fun _ => ?_) (fun _ => ?_)
        ·
          refine x_iconst (pc := 76) (-1) dX12_source_76 rfl ?_
          exact x_sub [1, 2, 0] rfl (hj11 (-1))
        ·
          refine x_aload_n (pc := 67) 0 dX12_source_67 rfl rfl ?_
          refine x_iload_n (pc := 68) 3 dX12_source_68 rfl rfl ?_
          refine x_iload_n (pc := 69) 2 dX12_source_69 rfl rfl ?_
          refine x_callVr (pc := 70) (as := [aI v4, aI h2]) (rest := []) (fun l => c_12_leakAbove l v4 h2 σ) md_X12_leakAbove ⟨_, _, rfl, by decide⟩ tk_1586 tp_69 tk_1584 dX12_source_70 rfl ⟨by decide, by decide, by decide, by decide⟩ ⟨fun _ => rfl, fun _ => Or.inl rfl⟩ rfl (Nat.le_of_ble_eq_true rfl) (fun r12 => ?_)
          show X E _ _ _ _ 0 0 _ _ _ [aI r12] _
          refine x_goto (pc := 73) 77 dX12_source_73 (by decide) ?_
          exact x_sub [1, 2, 0] rfl (hj11 r12)
set_option maxRecDepth 20000 in
theorem x12_source (E : zEn)  (v1 : Int32) (v2 : Int32) (σ : zSt) : X E cX12_source m12_source true (zQr E true eI r12_source σ) 0 0 σ [(0, aR 12 (some 0)), (1, aI v1), (2, aI v2)] 0 [] (f12_source v1 v2 σ) := by
  unfold f12_source
  refine x_aload_n (pc := 0) 0 dX12_source_0 rfl rfl ?_
  refine x_iload_n (pc := 1) 1 dX12_source_1 rfl rfl ?_
  refine x_callVr (pc := 2) (as := [aI v1]) (rest := []) (fun l => c_12_isFault l true v1 σ) md_X12_isFault ⟨_, _, rfl, by decide⟩ tk_1532 tp_63 tk_1530 dX12_source_2 rfl ⟨by decide, by decide, by decide, by decide⟩ ⟨fun _ => rfl, fun _ => Or.inl rfl⟩ rfl (Nat.le_of_ble_eq_true rfl) (fun r1 => ?_)
  show X E _ _ _ _ 0 0 _ _ _ [aI r1] _
  refine x_if_eq (pc := 5) 25 dX12_source_5 (by decide) (fun _ => ?_) (fun _ => ?_)
  ·
    refine x_iconst (pc := 25) (-1) dX12_source_25 rfl ?_
    exact x_iret (rm := r12_source) rfl rfl dX12_source_26
  ·
    refine x_iload_n (pc := 8) 2 dX12_source_8 rfl rfl ?_
    refine x_callSr (pc := 9) (as := [aI v2]) (rest := []) (fun l => c_12_isDay l true v2 σ) md_X12_isDay tk_1566 tk_1565 dX12_source_9 rfl ⟨by decide, by decide, by decide, by decide⟩ ⟨fun _ => rfl, fun _ => Or.inl rfl⟩ rfl (Nat.le_of_ble_eq_true rfl) (fun r2 => ?_)
    show X E _ _ _ _ 0 0 _ _ _ [aI r2] _
    refine x_if_eq (pc := 12) 25 dX12_source_12 (by decide) (fun _ => ?_) (fun _ => ?_)
    ·
      refine x_iconst (pc := 25) (-1) dX12_source_25 rfl ?_
      exact x_iret (rm := r12_source) rfl rfl dX12_source_26
    ·
      refine x_aload_n (pc := 15) 0 dX12_source_15 rfl rfl ?_
      refine x_getF (pc := 16) (j := 0) fd_12_22 rfl rfl tk_1217 dX12_source_16 ?_
      refine x_iload_n (pc := 19) 1 dX12_source_19 rfl rfl ?_
      refine x_iald (pc := 20) ar_1322 dX12_source_20 (fun m3 => ?_)
      refine x_iload_n (pc := 21) 2 dX12_source_21 rfl rfl ?_
      refine x_icmp_le (pc := 22) 27 dX12_source_22 (by decide) (fun _ => ?_) (fun _ => ?_)
      ·
        refine x_iload_n (pc := 27) 1 dX12_source_27 rfl rfl ?_
        refine x_istore_n (pc := 28) (als' := [(3, aI v1), (0, aR 12 (some 0)), (1, aI v1), (2, aI v2)]) 3 dX12_source_28 rfl (by decide) rfl ?_
        refine x_aload_n (pc := 29) 0 dX12_source_29 rfl rfl ?_
        refine x_iload_n (pc := 30) 3 dX12_source_30 rfl rfl ?_
        refine x_iconst (pc := 31) 4 dX12_source_31 rfl ?_
        refine x_callVr (pc := 32) (as := [aI v1, aI 4]) (rest := []) (fun l => c_12_hasFlag l v1 4 σ) md_X12_hasFlag ⟨_, _, rfl, by decide⟩ tk_1582 tp_68 tk_1580 dX12_source_32 rfl ⟨by decide, by decide, by decide, by decide⟩ ⟨fun _ => rfl, fun _ => Or.inl rfl⟩ rfl (Nat.le_of_ble_eq_true rfl) (fun r4 => ?_)
        show X E _ _ _ _ 0 0 _ _ _ [aI r4] _
        refine x_join (P := fun (j6 : Int32 → Option Int32) => ∀ (a5 : Int32), X E cX12_source m12_source true (zQr E true eI r12_source σ) 0 0 σ [(0, aR 12 (some 0)), (2, aI v2), (3, aI v1)] 48 [aI a5] (j6 a5)) ?_ ?_
        · intro a5
          refine x_istore (pc := 48) (als' := [(4, aI a5), (0, aR 12 (some 0)), (2, aI v2), (3, aI v1)]) 4 dX12_source_48 (by decide) rfl ?_
          refine x_sub [1, 2, 3, 0] rfl (xl12_source_50 E v2 σ zfuel v1 a5)
        · intro j6 hj7
          refine x_if_eq (pc := 35) 47 dX12_source_35 (by decide) (fun _ => ?_) (fun _ => ?_)
          ·
            refine x_iconst (pc := 47) (-1) dX12_source_47 rfl ?_
            exact x_sub [1, 3, 0] rfl (hj7 (-1))
          ·
            refine x_aload_n (pc := 38) 0 dX12_source_38 rfl rfl ?_
            refine x_iload_n (pc := 39) 3 dX12_source_39 rfl rfl ?_
            refine x_iload_n (pc := 40) 2 dX12_source_40 rfl rfl ?_
            refine x_callVr (pc := 41) (as := [aI v1, aI v2]) (rest := []) (fun l => c_12_leakAbove l v1 v2 σ) md_X12_leakAbove ⟨_, _, rfl, by decide⟩ tk_1586 tp_69 tk_1584 dX12_source_41 rfl ⟨by decide, by decide, by decide, by decide⟩ ⟨fun _ => rfl, fun _ => Or.inl rfl⟩ rfl (Nat.le_of_ble_eq_true rfl) (fun r13 => ?_)
            show X E _ _ _ _ 0 0 _ _ _ [aI r13] _
            refine x_goto (pc := 44) 48 dX12_source_44 (by decide) ?_
            exact x_sub [1, 3, 0] rfl (hj7 r13)
      ·
        refine x_iconst (pc := 25) (-1) dX12_source_25 rfl ?_
        exact x_iret (rm := r12_source) rfl rfl dX12_source_26
theorem c_12_source (l : Launch)  (v1 : Int32) (v2 : Int32) (σ : zSt) : zMet l yX12_source cX12_source 5 (some .int) r12_source true eI [aR 12 (some 0), aI v1, aI v2] σ (zro (f12_source v1 v2 σ) σ) :=
  zMet_ofR [(0, aR 12 (some 0)), (1, aI v1), (2, aI v2)] (by decide +kernel) (fun h => by cases h) (Nat.le_of_ble_eq_true rfl) rfl fun E _ => x12_source E  v1 v2 σ
abbrev r12_damageBy : Room := { frames := 0, cells := 0, slots := 0, locals := 0 }
abbrev m12_damageBy : zMu := (RX12, 8, (some .int), r12_damageBy, false)
set_option maxRecDepth 20000 in
theorem xl12_damageBy_84 (E : zEn)   (h1 : Int32) (h4 : Int32) (h5 : Int32) {K188 : Int32 → Int32 → zSt → Option (Int32 × zSt)} (hK188 : ∀ (v2 : Int32) (v3 : Int32) (σ : zSt), X E cX12_damageBy m12_damageBy true (zQw E true eI r12_damageBy) 0 0 σ [(0, aR 12 (some 0)), (1, aI h1), (2, aI v2), (3, aI v3), (4, aI h4)] 188 [] (K188 v2 v3 σ)) : ∀ (n : Nat) (v2 : Int32) (v3 : Int32) (v6 : Int32) (σ : zSt), X E cX12_damageBy m12_damageBy true (zQw E true eI r12_damageBy) 0 0 σ [(0, aR 12 (some 0)), (1, aI h1), (2, aI v2), (3, aI v3), (4, aI h4), (5, aI h5), (6, aI v6)] 84 [] (f12_damageBy_L84 h1 h4 h5 K188 n v2 v3 v6 σ) := by
  intro n
  induction n with
  | zero => intros; exact x_none
  | succ n ih =>
    intro v2 v3 v6 σ
    rw [f12_damageBy_L84]
    refine x_iload (pc := 84) 6 dX12_damageBy_84 rfl ?_
    refine x_bipush (pc := 86) 30 dX12_damageBy_86 rfl ?_
    refine x_iload (pc := 88) 4 dX12_damageBy_88 rfl ?_
    refine x_imul (pc := 90) dX12_damageBy_90 ?_
    refine x_aload_n (pc := 91) 0 dX12_damageBy_91 rfl rfl ?_
    refine x_getF (pc := 92) (j := 0) fd_12_29 rfl rfl tk_1224 dX12_damageBy_92 ?_
    refine x_iload (pc := 95) 4 dX12_damageBy_95 rfl ?_
    refine x_iald (pc := 97) ar_1329 dX12_damageBy_97 (fun m5 => ?_)
    refine x_iadd (pc := 98) dX12_damageBy_98 ?_
    refine x_icmp_ge (pc := 99) 188 dX12_damageBy_99 (by decide) (fun _ => ?_) (fun _ => ?_)
    ·
      exact x_sub [0, 1, 2, 3, 4] rfl (hK188 v2 v3 σ)
    ·
      refine x_iload (pc := 102) 5 dX12_damageBy_102 rfl ?_
      refine x_if_eq (pc := 104) 188 dX12_damageBy_104 (by decide) (fun _ => ?_) (fun _ => ?_)
      ·
        exact x_sub [0, 1, 2, 3, 4] rfl (hK188 v2 v3 σ)
      ·
        refine x_aload_n (pc := 107) 0 dX12_damageBy_107 rfl rfl ?_
        refine x_getF (pc := 108) (j := 0) fd_12_22 rfl rfl tk_1217 dX12_damageBy_108 ?_
        refine x_iload_n (pc := 111) 1 dX12_damageBy_111 rfl rfl ?_
        refine x_iald (pc := 112) ar_1322 dX12_damageBy_112 (fun m6 => ?_)
        refine x_aload_n (pc := 113) 0 dX12_damageBy_113 rfl rfl ?_
        refine x_getF (pc := 114) (j := 0) fd_12_27 rfl rfl tk_1222 dX12_damageBy_114 ?_
        refine x_iload (pc := 117) 6 dX12_damageBy_117 rfl ?_
        refine x_iald (pc := 119) ar_1327 dX12_damageBy_119 (fun m7 => ?_)
        refine x_isub (pc := 120) dX12_damageBy_120 ?_
        refine x_nameI (fun x8 => ?_)
        refine x_istore (pc := 121) (als' := [(7, aI x8), (0, aR 12 (some 0)), (1, aI h1), (2, aI v2), (3, aI v3), (4, aI h4), (5, aI h5), (6, aI v6)]) 7 dX12_damageBy_121 (by decide) rfl ?_
        refine x_aload_n (pc := 123) 0 dX12_damageBy_123 rfl rfl ?_
        refine x_getF (pc := 124) (j := 0) fd_12_26 rfl rfl tk_1221 dX12_damageBy_124 ?_
        refine x_iload (pc := 127) 6 dX12_damageBy_127 rfl ?_
        refine x_iald (pc := 129) ar_1326 dX12_damageBy_129 (fun m9 => ?_)
        refine x_iconst (pc := 130) 2 dX12_damageBy_130 rfl ?_
        refine x_join (P := fun (j13 : Int32 → Int32 → zSt → Option (Int32 × zSt)) => ∀ (a10 : Int32) (a11 : Int32) (s12 : zSt), X E cX12_damageBy m12_damageBy true (zQw E true eI r12_damageBy) 0 0 s12 [(0, aR 12 (some 0)), (1, aI h1), (2, aI a10), (3, aI a11), (4, aI h4), (5, aI h5), (6, aI v6)] 182 [] (j13 a10 a11 s12)) ?_ ?_
        · intro a10 a11 s12
          refine x_iinc (pc := 182) (als' := [(6, aI (v6 + 1)), (0, aR 12 (some 0)), (1, aI h1), (2, aI a10), (3, aI a11), (4, aI h4), (5, aI h5)]) 6 6 (c := 1) dX12_damageBy_182 rfl rfl (by decide) rfl ?_
          refine x_nameV (g := fun y16 => [(6, aI y16), (0, aR 12 (some 0)), (1, aI h1), (2, aI a10), (3, aI a11), (4, aI h4), (5, aI h5)]) (fun x15 => ?_) rfl
          refine x_goto (pc := 185) 84 dX12_damageBy_185 (by decide) ?_
          exact x_sub [1, 2, 3, 4, 5, 6, 0] rfl (ih a10 a11 x15 s12)
        · intro j13 hj14
          refine x_icmp_ne (pc := 131) 182 dX12_damageBy_131 (by decide) (fun _ => ?_) (fun _ => ?_)
          ·
            exact x_sub [1, 2, 3, 4, 5, 6, 7] rfl (hj14 v2 v3 σ)
          ·
            refine x_iload (pc := 134) 7 dX12_damageBy_134 rfl ?_
            refine x_iconst (pc := 136) 1 dX12_damageBy_136 rfl ?_
            refine x_icmp_lt (pc := 137) 182 dX12_damageBy_137 (by decide) (fun _ => ?_) (fun _ => ?_)
            ·
              exact x_sub [1, 2, 3, 4, 5, 6, 7] rfl (hj14 v2 v3 σ)
            ·
              refine x_iload (pc := 140) 7 dX12_damageBy_140 rfl ?_
              refine x_aload_n (pc := 142) 0 dX12_damageBy_142 rfl rfl ?_
              refine x_getI (pc := 143) fd_12_40 tk_1235 dX12_damageBy_143 ?_
              refine x_icmp_gt (pc := 146) 182 dX12_damageBy_146 (by decide) (fun _ => ?_) (fun _ => ?_)
              ·
                exact x_sub [1, 2, 3, 4, 5, 6, 7] rfl (hj14 v2 v3 σ)
              ·
                refine x_aload_n (pc := 149) 0 dX12_damageBy_149 rfl rfl ?_
                refine x_getF (pc := 150) (j := 0) fd_12_27 rfl rfl tk_1222 dX12_damageBy_150 ?_
                refine x_iload (pc := 153) 6 dX12_damageBy_153 rfl ?_
                refine x_iald (pc := 155) ar_1327 dX12_damageBy_155 (fun m17 => ?_)
                refine x_iload_n (pc := 156) 3 dX12_damageBy_156 rfl rfl ?_
                refine x_icmp_lt (pc := 157) 182 dX12_damageBy_157 (by decide) (fun _ => ?_) (fun _ => ?_)
                ·
                  exact x_sub [1, 2, 3, 4, 5, 6, 7] rfl (hj14 v2 v3 σ)
                ·
                  refine x_iload (pc := 160) 4 dX12_damageBy_160 rfl ?_
                  refine x_istore_n (pc := 162) (als' := [(2, aI h4), (7, aI x8), (0, aR 12 (some 0)), (1, aI h1), (3, aI v3), (4, aI h4), (5, aI h5), (6, aI v6)]) 2 dX12_damageBy_162 rfl (by decide) rfl ?_
                  refine x_aload_n (pc := 163) 0 dX12_damageBy_163 rfl rfl ?_
                  refine x_getF (pc := 164) (j := 0) fd_12_27 rfl rfl tk_1222 dX12_damageBy_164 ?_
                  refine x_iload (pc := 167) 6 dX12_damageBy_167 rfl ?_
                  refine x_iald (pc := 169) ar_1327 dX12_damageBy_169 (fun m18 => ?_)
                  refine x_nameI (fun x19 => ?_)
                  refine x_istore_n (pc := 170) (als' := [(3, aI x19), (2, aI h4), (7, aI x8), (0, aR 12 (some 0)), (1, aI h1), (4, aI h4), (5, aI h5), (6, aI v6)]) 3 dX12_damageBy_170 rfl (by decide) rfl ?_
                  refine x_aload_n (pc := 171) 0 dX12_damageBy_171 rfl rfl ?_
                  refine x_aload_n (pc := 172) 0 dX12_damageBy_172 rfl rfl ?_
                  refine x_getF (pc := 173) (j := 0) fd_12_28 rfl rfl tk_1223 dX12_damageBy_173 ?_
                  refine x_iload (pc := 176) 6 dX12_damageBy_176 rfl ?_
                  refine x_iald (pc := 178) ar_1328 dX12_damageBy_178 (fun m20 => ?_)
                  refine x_putI (pc := 179) fd_12_56 pt_12_56 tk_1251 dX12_damageBy_179 (Or.inl rfl) ?_
                  refine x_nameS (fun s21 => ?_)
                  exact x_sub [3, 4, 1, 0, 5, 6, 7] rfl (hj14 h4 x19 s21)
set_option maxRecDepth 20000 in
theorem xl12_damageBy_7 (E : zEn)   (h1 : Int32)   : ∀ (n : Nat) (v2 : Int32) (v3 : Int32) (v4 : Int32) (σ : zSt), X E cX12_damageBy m12_damageBy true (zQw E true eI r12_damageBy) 0 0 σ [(0, aR 12 (some 0)), (1, aI h1), (2, aI v2), (3, aI v3), (4, aI v4)] 7 [] (f12_damageBy_L7 h1 n v2 v3 v4 σ) := by
  intro n
  induction n with
  | zero => intros; exact x_none
  | succ n ih =>
    intro v2 v3 v4 σ
    rw [f12_damageBy_L7]
    refine x_iload (pc := 7) 4 dX12_damageBy_7 rfl ?_
    refine x_aload_n (pc := 9) 0 dX12_damageBy_9 rfl rfl ?_
    refine x_getI (pc := 10) fd_12_36 tk_1231 dX12_damageBy_10 ?_
    refine x_icmp_ge (pc := 13) 194 dX12_damageBy_13 (by decide) (fun _ => ?_) (fun _ => ?_)
    ·
      refine x_iload_n (pc := 194) 2 dX12_damageBy_194 rfl rfl ?_
      exact x_iret (rm := r12_damageBy) rfl rfl dX12_damageBy_195
    ·
      refine x_iload (pc := 16) 4 dX12_damageBy_16 rfl ?_
      refine x_iload_n (pc := 18) 1 dX12_damageBy_18 rfl rfl ?_
      refine x_join (P := fun (j2 : Int32 → Option (Int32 × zSt)) => ∀ (a1 : Int32), X E cX12_damageBy m12_damageBy true (zQw E true eI r12_damageBy) 0 0 σ [(0, aR 12 (some 0)), (1, aI h1), (2, aI v2), (3, aI v3), (4, aI v4)] 75 [aI a1] (j2 a1)) ?_ ?_
      · intro a1
        refine x_istore (pc := 75) (als' := [(5, aI a1), (0, aR 12 (some 0)), (1, aI h1), (2, aI v2), (3, aI v3), (4, aI v4)]) 5 dX12_damageBy_75 (by decide) rfl ?_
        refine x_bipush (pc := 77) 30 dX12_damageBy_77 rfl ?_
        refine x_iload (pc := 79) 4 dX12_damageBy_79 rfl ?_
        refine x_imul (pc := 81) dX12_damageBy_81 ?_
        refine x_nameI (fun x4 => ?_)
        refine x_istore (pc := 82) (als' := [(6, aI x4), (5, aI a1), (0, aR 12 (some 0)), (1, aI h1), (2, aI v2), (3, aI v3), (4, aI v4)]) 6 dX12_damageBy_82 (by decide) rfl ?_
        refine x_sub [2, 3, 4, 5, 6, 1, 0] rfl (xl12_damageBy_84 E h1 v4 a1 (fun a22 a23 s24 => ?_) zfuel v2 v3 x4 σ)
        ·
          refine x_iinc (pc := 188) (als' := [(4, aI (v4 + 1)), (0, aR 12 (some 0)), (1, aI h1), (2, aI a22), (3, aI a23)]) 4 4 (c := 1) dX12_damageBy_188 rfl rfl (by decide) rfl ?_
          refine x_nameV (g := fun y26 => [(4, aI y26), (0, aR 12 (some 0)), (1, aI h1), (2, aI a22), (3, aI a23)]) (fun x25 => ?_) rfl
          refine x_goto (pc := 191) 7 dX12_damageBy_191 (by decide) ?_
          exact x_sub [1, 2, 3, 4, 0] rfl (ih a22 a23 x25 s24)
      · intro j2 hj3
        refine x_join (P := fun (j27 : Option (Int32 × zSt)) => X E cX12_damageBy m12_damageBy true (zQw E true eI r12_damageBy) 0 0 σ [(0, aR 12 (some 0)), (1, aI h1), (2, aI v2), (3, aI v3), (4, aI v4)] 74 [] j27) ?_ ?_
        ·
          refine x_iconst (pc := 74) 0 dX12_damageBy_74 rfl ?_
          exact hj3 0
        · intro j27 hj28
          refine x_icmp_eq (pc := 19) 74 dX12_damageBy_19 (by decide) (fun _ => ?_) (fun _ => ?_)
          ·
            exact hj28
          ·
            refine x_aload_n (pc := 22) 0 dX12_damageBy_22 rfl rfl ?_
            refine x_getF (pc := 23) (j := 0) fd_12_18 rfl rfl tk_1213 dX12_damageBy_23 ?_
            refine x_iload (pc := 26) 4 dX12_damageBy_26 rfl ?_
            refine x_iald (pc := 28) ar_1318 dX12_damageBy_28 (fun m29 => ?_)
            refine x_aload_n (pc := 29) 0 dX12_damageBy_29 rfl rfl ?_
            refine x_getF (pc := 30) (j := 0) fd_12_18 rfl rfl tk_1213 dX12_damageBy_30 ?_
            refine x_iload_n (pc := 33) 1 dX12_damageBy_33 rfl rfl ?_
            refine x_iald (pc := 34) ar_1318 dX12_damageBy_34 (fun m30 => ?_)
            refine x_icmp_ne (pc := 35) 74 dX12_damageBy_35 (by decide) (fun _ => ?_) (fun _ => ?_)
            ·
              exact hj28
            ·
              refine x_aload_n (pc := 38) 0 dX12_damageBy_38 rfl rfl ?_
              refine x_getF (pc := 39) (j := 0) fd_12_19 rfl rfl tk_1214 dX12_damageBy_39 ?_
              refine x_iload (pc := 42) 4 dX12_damageBy_42 rfl ?_
              refine x_iald (pc := 44) ar_1319 dX12_damageBy_44 (fun m31 => ?_)
              refine x_aload_n (pc := 45) 0 dX12_damageBy_45 rfl rfl ?_
              refine x_getF (pc := 46) (j := 0) fd_12_19 rfl rfl tk_1214 dX12_damageBy_46 ?_
              refine x_iload_n (pc := 49) 1 dX12_damageBy_49 rfl rfl ?_
              refine x_iald (pc := 50) ar_1319 dX12_damageBy_50 (fun m32 => ?_)
              refine x_icmp_ne (pc := 51) 74 dX12_damageBy_51 (by decide) (fun _ => ?_) (fun _ => ?_)
              ·
                exact hj28
              ·
                refine x_aload_n (pc := 54) 0 dX12_damageBy_54 rfl rfl ?_
                refine x_getF (pc := 55) (j := 0) fd_12_20 rfl rfl tk_1215 dX12_damageBy_55 ?_
                refine x_iload (pc := 58) 4 dX12_damageBy_58 rfl ?_
                refine x_iald (pc := 60) ar_1320 dX12_damageBy_60 (fun m33 => ?_)
                refine x_aload_n (pc := 61) 0 dX12_damageBy_61 rfl rfl ?_
                refine x_getF (pc := 62) (j := 0) fd_12_20 rfl rfl tk_1215 dX12_damageBy_62 ?_
                refine x_iload_n (pc := 65) 1 dX12_damageBy_65 rfl rfl ?_
                refine x_iald (pc := 66) ar_1320 dX12_damageBy_66 (fun m34 => ?_)
                refine x_icmp_eq (pc := 67) 74 dX12_damageBy_67 (by decide) (fun _ => ?_) (fun _ => ?_)
                ·
                  exact hj28
                ·
                  refine x_iconst (pc := 70) 1 dX12_damageBy_70 rfl ?_
                  refine x_goto (pc := 71) 75 dX12_damageBy_71 (by decide) ?_
                  exact hj3 1
set_option maxRecDepth 20000 in
theorem x12_damageBy (E : zEn)  (v1 : Int32) (σ : zSt) : X E cX12_damageBy m12_damageBy true (zQw E true eI r12_damageBy) 0 0 σ [(0, aR 12 (some 0)), (1, aI v1)] 0 [] (f12_damageBy v1 σ) := by
  unfold f12_damageBy
  refine x_iconst (pc := 0) (-1) dX12_damageBy_0 rfl ?_
  refine x_istore_n (pc := 1) (als' := [(2, aI (-1)), (0, aR 12 (some 0)), (1, aI v1)]) 2 dX12_damageBy_1 rfl (by decide) rfl ?_
  refine x_iconst (pc := 2) (-1) dX12_damageBy_2 rfl ?_
  refine x_istore_n (pc := 3) (als' := [(3, aI (-1)), (2, aI (-1)), (0, aR 12 (some 0)), (1, aI v1)]) 3 dX12_damageBy_3 rfl (by decide) rfl ?_
  refine x_iconst (pc := 4) 0 dX12_damageBy_4 rfl ?_
  refine x_istore (pc := 5) (als' := [(4, aI 0), (3, aI (-1)), (2, aI (-1)), (0, aR 12 (some 0)), (1, aI v1)]) 4 dX12_damageBy_5 (by decide) rfl ?_
  refine x_sub [3, 4, 2, 1, 0] rfl (xl12_damageBy_7 E v1 zfuel (-1) (-1) 0 σ)
theorem c_12_damageBy (l : Launch)  (v1 : Int32) (σ : zSt) : zMet l yX12_damageBy cX12_damageBy 8 (some .int) r12_damageBy true eI [aR 12 (some 0), aI v1] σ (f12_damageBy v1 σ) :=
  zMet_of [(0, aR 12 (some 0)), (1, aI v1)] (by decide +kernel) (fun h => by cases h) (Nat.le_of_ble_eq_true rfl) rfl fun E _ => x12_damageBy E  v1 σ
abbrev r12_damage : Room := { frames := 1, cells := 0, slots := 0, locals := 27 }
abbrev m12_damage : zMu := (RX12, 3, (some .int), r12_damage, false)
set_option maxRecDepth 20000 in
theorem x12_damage (E : zEn)  (v1 : Int32) (σ : zSt) : X E cX12_damage m12_damage true (zQw E true eI r12_damage) 0 0 σ [(0, aR 12 (some 0)), (1, aI v1)] 0 [] (f12_damage v1 σ) := by
  unfold f12_damage
  refine x_aload_n (pc := 0) 0 dX12_damage_0 rfl rfl ?_
  refine x_iload_n (pc := 1) 1 dX12_damage_1 rfl rfl ?_
  refine x_callVr (pc := 2) (as := [aI v1]) (rest := []) (fun l => c_12_isFault l true v1 σ) md_X12_isFault ⟨_, _, rfl, by decide⟩ tk_1532 tp_63 tk_1530 dX12_damage_2 rfl ⟨by decide, by decide, by decide, by decide⟩ ⟨fun _ => rfl, fun _ => Or.inl rfl⟩ rfl (Nat.le_of_ble_eq_true rfl) (fun r1 => ?_)
  show X E _ _ _ _ 0 0 _ _ _ [aI r1] _
  refine x_if_ne (pc := 5) 10 dX12_damage_5 (by decide) (fun _ => ?_) (fun _ => ?_)
  ·
    refine x_aload_n (pc := 10) 0 dX12_damage_10 rfl rfl ?_
    refine x_iload_n (pc := 11) 1 dX12_damage_11 rfl rfl ?_
    refine x_callV (pc := 12) (as := [aI v1]) (rest := []) (fun l => c_12_damageBy l v1 σ) md_X12_damageBy ⟨_, _, rfl, by decide⟩ tk_1594 tp_70 tk_1592 dX12_damage_12 rfl ⟨by decide, by decide, by decide, by decide⟩ ⟨fun _ => rfl, fun _ => Or.inl rfl⟩ rfl (Nat.le_of_ble_eq_true rfl) (fun r2 s3 => ?_)
    show X E _ _ _ _ 0 0 _ _ _ [aI r2] _
    refine x_istore_n (pc := 15) (als' := [(2, aI r2), (0, aR 12 (some 0)), (1, aI v1)]) 2 dX12_damage_15 rfl (by decide) rfl ?_
    refine x_iload_n (pc := 16) 2 dX12_damage_16 rfl rfl ?_
    refine x_if_ge (pc := 17) 25 dX12_damage_17 (by decide) (fun _ => ?_) (fun _ => ?_)
    ·
      refine x_iload_n (pc := 25) 2 dX12_damage_25 rfl rfl ?_
      exact x_iret (rm := r12_damage) rfl rfl dX12_damage_26
    ·
      refine x_bipush (pc := 20) (-4) dX12_damage_20 rfl ?_
      refine x_goto (pc := 22) 26 dX12_damage_22 (by decide) ?_
      exact x_iret (rm := r12_damage) rfl rfl dX12_damage_26
  ·
    refine x_iconst (pc := 8) (-1) dX12_damage_8 rfl ?_
    exact x_iret (rm := r12_damage) rfl rfl dX12_damage_9
theorem c_12_damage (l : Launch)  (v1 : Int32) (σ : zSt) : zMet l yX12_damage cX12_damage 3 (some .int) r12_damage true eI [aR 12 (some 0), aI v1] σ (f12_damage v1 σ) :=
  zMet_of [(0, aR 12 (some 0)), (1, aI v1)] (by decide +kernel) (fun h => by cases h) (Nat.le_of_ble_eq_true rfl) rfl fun E _ => x12_damage E  v1 σ
abbrev r12_rule : Room := { frames := 1, cells := 0, slots := 0, locals := 22 }
abbrev m12_rule : zMu := (RX12, 4, (some .int), r12_rule, false)
set_option maxRecDepth 20000 in
theorem x12_rule (E : zEn)  (q : Bool) (v1 : Int32) (v2 : Int32) (σ : zSt) : X E cX12_rule m12_rule q (zQw E q eI r12_rule) 0 0 σ [(0, aR 12 (some 0)), (1, aI v1), (2, aI v2)] 0 [] (f12_rule v1 v2 σ) := by
  unfold f12_rule
  refine x_iload_n (pc := 0) 1 dX12_rule_0 rfl rfl ?_
  refine x_iconst (pc := 1) 0 dX12_rule_1 rfl ?_
  refine x_iconst (pc := 2) 1 dX12_rule_2 rfl ?_
  refine x_callSr (pc := 3) (as := [aI v1, aI 0, aI 1]) (rest := []) (fun l => c_12_within l q v1 0 1 σ) md_X12_within tk_1447 tk_1446 dX12_rule_3 rfl ⟨by decide, by decide, by decide, by decide⟩ ⟨fun h => h, fun h => Or.inl h⟩ rfl (Nat.le_of_ble_eq_true rfl) (fun r1 => ?_)
  show X E _ _ _ _ 0 0 _ _ _ [aI r1] _
  refine x_if_eq (pc := 6) 29 dX12_rule_6 (by decide) (fun _ => ?_) (fun _ => ?_)
  ·
    refine x_iconst (pc := 29) (-1) dX12_rule_29 rfl ?_
    exact x_iret (rm := r12_rule) rfl rfl dX12_rule_30
  ·
    refine x_iload_n (pc := 9) 2 dX12_rule_9 rfl rfl ?_
    refine x_iconst (pc := 10) 0 dX12_rule_10 rfl ?_
    refine x_iload_n (pc := 11) 1 dX12_rule_11 rfl rfl ?_
    refine x_mg (c := v1 = 0) (a := 60) (b := 999) 23 [aI 0, aI v2] ?_ (fun hm2 => ?_)
    ·
      refine x_callSr (pc := 23) (as := [aI v2, aI 0, aI (if v1 = 0 then 60 else 999)]) (rest := []) (fun l => c_12_within l q v2 0 (if v1 = 0 then 60 else 999) σ) md_X12_within tk_1447 tk_1446 dX12_rule_23 rfl ⟨by decide, by decide, by decide, by decide⟩ ⟨fun h => h, fun h => Or.inl h⟩ rfl (Nat.le_of_ble_eq_true rfl) (fun r6 => ?_)
      show X E _ _ _ _ 0 0 _ _ _ [aI r6] _
      refine x_if_ne (pc := 26) 31 dX12_rule_26 (by decide) (fun _ => ?_) (fun _ => ?_)
      ·
        refine x_iload_n (pc := 31) 1 dX12_rule_31 rfl rfl ?_
        refine x_mg (c := v1 = 0) (a := (gI σ 12 0 40)) (b := (gI σ 12 0 41)) 46 [] ?_ (fun hm7 => ?_)
        ·
          refine x_nameI (fun x11 => ?_)
          refine x_istore_n (pc := 46) (als' := [(3, aI x11), (0, aR 12 (some 0)), (1, aI v1), (2, aI v2)]) 3 dX12_rule_46 rfl (by decide) rfl ?_
          refine x_iload_n (pc := 47) 1 dX12_rule_47 rfl rfl ?_
          refine x_if_ne (pc := 48) 59 dX12_rule_48 (by decide) (fun _ => ?_) (fun _ => ?_)
          ·
            refine x_aload_n (pc := 59) 0 dX12_rule_59 rfl rfl ?_
            refine x_iload_n (pc := 60) 2 dX12_rule_60 rfl rfl ?_
            refine x_putI (pc := 61) fd_12_41 pt_12_41 tk_1236 dX12_rule_61 (Or.inl rfl) ?_
            refine x_nameS (fun s13 => ?_)
            refine x_iload_n (pc := 64) 3 dX12_rule_64 rfl rfl ?_
            exact x_iret (rm := r12_rule) rfl rfl dX12_rule_65
          ·
            refine x_aload_n (pc := 51) 0 dX12_rule_51 rfl rfl ?_
            refine x_iload_n (pc := 52) 2 dX12_rule_52 rfl rfl ?_
            refine x_putI (pc := 53) fd_12_40 pt_12_40 tk_1235 dX12_rule_53 (Or.inl rfl) ?_
            refine x_nameS (fun s12 => ?_)
            refine x_goto (pc := 56) 64 dX12_rule_56 (by decide) ?_
            refine x_iload_n (pc := 64) 3 dX12_rule_64 rfl rfl ?_
            exact x_iret (rm := r12_rule) rfl rfl dX12_rule_65
        ·
          refine x_same (c := v1 = 0) ?_
          refine x_if_ne (pc := 32) 42 dX12_rule_32 (by decide) (fun hc8 => ?_) (fun hc8 => ?_)
          ·
            have hm10 := x_topF hc8 hm7
            refine x_aload_n (pc := 42) 0 dX12_rule_42 rfl rfl ?_
            refine x_getI (pc := 43) fd_12_41 tk_1236 dX12_rule_43 ?_
            exact hm10
          ·
            have hm9 := x_topT hc8 hm7
            refine x_aload_n (pc := 35) 0 dX12_rule_35 rfl rfl ?_
            refine x_getI (pc := 36) fd_12_40 tk_1235 dX12_rule_36 ?_
            refine x_goto (pc := 39) 46 dX12_rule_39 (by decide) ?_
            exact hm9
      ·
        refine x_iconst (pc := 29) (-1) dX12_rule_29 rfl ?_
        exact x_iret (rm := r12_rule) rfl rfl dX12_rule_30
    ·
      refine x_same (c := v1 = 0) ?_
      refine x_if_ne (pc := 12) 20 dX12_rule_12 (by decide) (fun hc3 => ?_) (fun hc3 => ?_)
      ·
        have hm5 := x_topF hc3 hm2
        refine x_sipush (pc := 20) 999 dX12_rule_20 rfl ?_
        exact hm5
      ·
        have hm4 := x_topT hc3 hm2
        refine x_bipush (pc := 15) 60 dX12_rule_15 rfl ?_
        refine x_goto (pc := 17) 23 dX12_rule_17 (by decide) ?_
        exact hm4
theorem c_12_rule (l : Launch)  (q : Bool) (v1 : Int32) (v2 : Int32) (σ : zSt) : zMet l yX12_rule cX12_rule 4 (some .int) r12_rule q eI [aR 12 (some 0), aI v1, aI v2] σ (f12_rule v1 v2 σ) :=
  zMet_of [(0, aR 12 (some 0)), (1, aI v1), (2, aI v2)] (by decide +kernel) (fun h => by cases h) (Nat.le_of_ble_eq_true rfl) rfl fun E _ => x12_rule E  q v1 v2 σ
abbrev r12_isGroup : Room := { frames := 0, cells := 0, slots := 0, locals := 0 }
abbrev m12_isGroup : zMu := (RX12, 1, (some .boolean), r12_isGroup, false)
set_option maxRecDepth 20000 in
theorem x12_isGroup (E : zEn)  (q : Bool) (v0 : Int32) (σ : zSt) : X E cX12_isGroup m12_isGroup q (zQr E q eI r12_isGroup σ) 0 0 σ [(0, aI v0)] 0 [] (f12_isGroup v0 σ) := by
  unfold f12_isGroup
  refine x_iload_n (pc := 0) 0 dX12_isGroup_0 rfl rfl ?_
  refine x_join (P := fun (j1 : Option Int32) => X E cX12_isGroup m12_isGroup q (zQr E q eI r12_isGroup σ) 0 0 σ [] 46 [] j1) ?_ ?_
  ·
    refine x_iconst (pc := 46) 0 dX12_isGroup_46 rfl ?_
    exact x_zretC (rm := r12_isGroup) rfl rfl (by decide) dX12_isGroup_47
  · intro j1 hj2
    refine x_if_lt (pc := 1) 46 dX12_isGroup_1 (by decide) (fun _ => ?_) (fun _ => ?_)
    ·
      exact x_sub [] rfl (hj2)
    ·
      refine x_iload_n (pc := 4) 0 dX12_isGroup_4 rfl rfl ?_
      refine x_bipush (pc := 5) 10 dX12_isGroup_5 rfl ?_
      refine x_idivC (pc := 7) dX12_isGroup_7 (by decide) ?_
      refine x_join (P := fun (j3 : Option Int32) => X E cX12_isGroup m12_isGroup q (zQr E q eI r12_isGroup σ) 0 0 σ [] 42 [] j3) ?_ ?_
      ·
        refine x_iconst (pc := 42) 1 dX12_isGroup_42 rfl ?_
        refine x_goto (pc := 43) 47 dX12_isGroup_43 (by decide) ?_
        exact x_zretC (rm := r12_isGroup) rfl rfl (by decide) dX12_isGroup_47
      · intro j3 hj4
        refine x_join (P := fun (j5 : Option Int32) => X E cX12_isGroup m12_isGroup q (zQr E q eI r12_isGroup σ) 0 0 σ [(0, aI v0)] 20 [] j5) ?_ ?_
        ·
          refine x_iload_n (pc := 20) 0 dX12_isGroup_20 rfl rfl ?_
          refine x_bipush (pc := 21) 10 dX12_isGroup_21 rfl ?_
          refine x_idivC (pc := 23) dX12_isGroup_23 (by decide) ?_
          refine x_iconst (pc := 24) 1 dX12_isGroup_24 rfl ?_
          refine x_icmp_eq (pc := 25) 42 dX12_isGroup_25 (by decide) (fun _ => ?_) (fun _ => ?_)
          ·
            exact x_sub [] rfl (hj4)
          ·
            refine x_iload_n (pc := 28) 0 dX12_isGroup_28 rfl rfl ?_
            refine x_bipush (pc := 29) 10 dX12_isGroup_29 rfl ?_
            refine x_idivC (pc := 31) dX12_isGroup_31 (by decide) ?_
            refine x_iconst (pc := 32) 2 dX12_isGroup_32 rfl ?_
            refine x_icmp_eq (pc := 33) 42 dX12_isGroup_33 (by decide) (fun _ => ?_) (fun _ => ?_)
            ·
              exact x_sub [] rfl (hj4)
            ·
              refine x_iload_n (pc := 36) 0 dX12_isGroup_36 rfl rfl ?_
              refine x_bipush (pc := 37) 30 dX12_isGroup_37 rfl ?_
              refine x_icmp_ne (pc := 39) 46 dX12_isGroup_39 (by decide) (fun _ => ?_) (fun _ => ?_)
              ·
                exact x_sub [] rfl (hj2)
              ·
                exact x_sub [] rfl (hj4)
        · intro j5 hj6
          refine x_if_ne (pc := 8) 20 dX12_isGroup_8 (by decide) (fun _ => ?_) (fun _ => ?_)
          ·
            exact hj6
          ·
            refine x_iload_n (pc := 11) 0 dX12_isGroup_11 rfl rfl ?_
            refine x_bipush (pc := 12) 10 dX12_isGroup_12 rfl ?_
            refine x_iremC (pc := 14) dX12_isGroup_14 (by decide) ?_
            refine x_bipush (pc := 15) 8 dX12_isGroup_15 rfl ?_
            refine x_icmp_lt (pc := 17) 42 dX12_isGroup_17 (by decide) (fun _ => ?_) (fun _ => ?_)
            ·
              exact x_sub [] rfl (hj4)
            ·
              exact hj6
theorem c_12_isGroup (l : Launch)  (q : Bool) (v0 : Int32) (σ : zSt) : zMet l yX12_isGroup cX12_isGroup 1 (some .boolean) r12_isGroup q eI [aI v0] σ (zro (f12_isGroup v0 σ) σ) :=
  zMet_ofR [(0, aI v0)] (by decide +kernel) (fun h => by cases h) (Nat.le_of_ble_eq_true rfl) rfl fun E _ => x12_isGroup E  q v0 σ
abbrev r12_isIn : Room := { frames := 0, cells := 0, slots := 0, locals := 0 }
abbrev m12_isIn : zMu := (RX12, 5, (some .boolean), r12_isIn, false)
set_option maxRecDepth 20000 in
theorem x12_isIn (E : zEn)  (v1 : Int32) (v2 : Int32) (v3 : Int32) (σ : zSt) : X E cX12_isIn m12_isIn true (zQr E true eI r12_isIn σ) 0 0 σ [(0, aR 12 (some 0)), (1, aI v1), (2, aI v2), (3, aI v3)] 0 [] (f12_isIn v1 v2 v3 σ) := by
  unfold f12_isIn
  refine x_iload_n (pc := 0) 2 dX12_isIn_0 rfl rfl ?_
  refine x_bipush (pc := 1) 10 dX12_isIn_1 rfl ?_
  refine x_iremC (pc := 3) dX12_isIn_3 (by decide) ?_
  refine x_nameI (fun x1 => ?_)
  refine x_istore (pc := 4) (als' := [(4, aI x1), (0, aR 12 (some 0)), (1, aI v1), (2, aI v2), (3, aI v3)]) 4 dX12_isIn_4 (by decide) rfl ?_
  refine x_iload_n (pc := 6) 2 dX12_isIn_6 rfl rfl ?_
  refine x_bipush (pc := 7) 10 dX12_isIn_7 rfl ?_
  refine x_idivC (pc := 9) dX12_isIn_9 (by decide) ?_
  refine x_if_ne (pc := 10) 32 dX12_isIn_10 (by decide) (fun _ => ?_) (fun _ => ?_)
  ·
    refine x_iload_n (pc := 32) 2 dX12_isIn_32 rfl rfl ?_
    refine x_bipush (pc := 33) 10 dX12_isIn_33 rfl ?_
    refine x_idivC (pc := 35) dX12_isIn_35 (by decide) ?_
    refine x_iconst (pc := 36) 1 dX12_isIn_36 rfl ?_
    refine x_icmp_ne (pc := 37) 69 dX12_isIn_37 (by decide) (fun _ => ?_) (fun _ => ?_)
    ·
      refine x_iload_n (pc := 69) 2 dX12_isIn_69 rfl rfl ?_
      refine x_bipush (pc := 70) 10 dX12_isIn_70 rfl ?_
      refine x_idivC (pc := 72) dX12_isIn_72 (by decide) ?_
      refine x_iconst (pc := 73) 2 dX12_isIn_73 rfl ?_
      refine x_icmp_ne (pc := 74) 96 dX12_isIn_74 (by decide) (fun _ => ?_) (fun _ => ?_)
      ·
        refine x_aload_n (pc := 96) 0 dX12_isIn_96 rfl rfl ?_
        refine x_getF (pc := 97) (j := 0) fd_12_3 rfl rfl tk_1198 dX12_isIn_97 ?_
        refine x_iload_n (pc := 100) 1 dX12_isIn_100 rfl rfl ?_
        refine x_iald (pc := 101) ar_1303 dX12_isIn_101 (fun m6 => ?_)
        refine x_aload_n (pc := 102) 0 dX12_isIn_102 rfl rfl ?_
        refine x_getI (pc := 103) fd_12_41 tk_1236 dX12_isIn_103 ?_
        refine x_icmp_ge (pc := 106) 113 dX12_isIn_106 (by decide) (fun _ => ?_) (fun _ => ?_)
        ·
          refine x_iconst (pc := 113) 0 dX12_isIn_113 rfl ?_
          exact x_zretC (rm := r12_isIn) rfl rfl (by decide) dX12_isIn_114
        ·
          refine x_iconst (pc := 109) 1 dX12_isIn_109 rfl ?_
          refine x_goto (pc := 110) 114 dX12_isIn_110 (by decide) ?_
          exact x_zretC (rm := r12_isIn) rfl rfl (by decide) dX12_isIn_114
      ·
        refine x_aload_n (pc := 77) 0 dX12_isIn_77 rfl rfl ?_
        refine x_getF (pc := 78) (j := 0) fd_12_4 rfl rfl tk_1199 dX12_isIn_78 ?_
        refine x_iload_n (pc := 81) 1 dX12_isIn_81 rfl rfl ?_
        refine x_iald (pc := 82) ar_1304 dX12_isIn_82 (fun m5 => ?_)
        refine x_iload (pc := 83) 4 dX12_isIn_83 rfl ?_
        refine x_icmp_ne (pc := 85) 92 dX12_isIn_85 (by decide) (fun _ => ?_) (fun _ => ?_)
        ·
          refine x_iconst (pc := 92) 0 dX12_isIn_92 rfl ?_
          refine x_goto (pc := 93) 114 dX12_isIn_93 (by decide) ?_
          exact x_zretC (rm := r12_isIn) rfl rfl (by decide) dX12_isIn_114
        ·
          refine x_iconst (pc := 88) 1 dX12_isIn_88 rfl ?_
          refine x_goto (pc := 89) 114 dX12_isIn_89 (by decide) ?_
          exact x_zretC (rm := r12_isIn) rfl rfl (by decide) dX12_isIn_114
    ·
      refine x_aload_n (pc := 40) 0 dX12_isIn_40 rfl rfl ?_
      refine x_getF (pc := 41) (j := 0) fd_12_9 rfl rfl tk_1204 dX12_isIn_41 ?_
      refine x_bipush (pc := 44) 10 dX12_isIn_44 rfl ?_
      refine x_iload_n (pc := 46) 1 dX12_isIn_46 rfl rfl ?_
      refine x_imul (pc := 47) dX12_isIn_47 ?_
      refine x_aload_n (pc := 48) 0 dX12_isIn_48 rfl rfl ?_
      refine x_getF (pc := 49) (j := 0) fd_12_14 rfl rfl tk_1209 dX12_isIn_49 ?_
      refine x_iload_n (pc := 52) 3 dX12_isIn_52 rfl rfl ?_
      refine x_iald (pc := 53) ar_1314 dX12_isIn_53 (fun m3 => ?_)
      refine x_iadd (pc := 54) dX12_isIn_54 ?_
      refine x_iald (pc := 55) ar_1309 dX12_isIn_55 (fun m4 => ?_)
      refine x_iload (pc := 56) 4 dX12_isIn_56 rfl ?_
      refine x_icmp_ne (pc := 58) 65 dX12_isIn_58 (by decide) (fun _ => ?_) (fun _ => ?_)
      ·
        refine x_iconst (pc := 65) 0 dX12_isIn_65 rfl ?_
        refine x_goto (pc := 66) 114 dX12_isIn_66 (by decide) ?_
        exact x_zretC (rm := r12_isIn) rfl rfl (by decide) dX12_isIn_114
      ·
        refine x_iconst (pc := 61) 1 dX12_isIn_61 rfl ?_
        refine x_goto (pc := 62) 114 dX12_isIn_62 (by decide) ?_
        exact x_zretC (rm := r12_isIn) rfl rfl (by decide) dX12_isIn_114
  ·
    refine x_aload_n (pc := 13) 0 dX12_isIn_13 rfl rfl ?_
    refine x_getF (pc := 14) (j := 0) fd_12_1 rfl rfl tk_1196 dX12_isIn_14 ?_
    refine x_iload_n (pc := 17) 1 dX12_isIn_17 rfl rfl ?_
    refine x_iald (pc := 18) ar_1301 dX12_isIn_18 (fun m2 => ?_)
    refine x_iload (pc := 19) 4 dX12_isIn_19 rfl ?_
    refine x_icmp_ne (pc := 21) 28 dX12_isIn_21 (by decide) (fun _ => ?_) (fun _ => ?_)
    ·
      refine x_iconst (pc := 28) 0 dX12_isIn_28 rfl ?_
      refine x_goto (pc := 29) 114 dX12_isIn_29 (by decide) ?_
      exact x_zretC (rm := r12_isIn) rfl rfl (by decide) dX12_isIn_114
    ·
      refine x_iconst (pc := 24) 1 dX12_isIn_24 rfl ?_
      refine x_goto (pc := 25) 114 dX12_isIn_25 (by decide) ?_
      exact x_zretC (rm := r12_isIn) rfl rfl (by decide) dX12_isIn_114
theorem c_12_isIn (l : Launch)  (v1 : Int32) (v2 : Int32) (v3 : Int32) (σ : zSt) : zMet l yX12_isIn cX12_isIn 5 (some .boolean) r12_isIn true eI [aR 12 (some 0), aI v1, aI v2, aI v3] σ (zro (f12_isIn v1 v2 v3 σ) σ) :=
  zMet_ofR [(0, aR 12 (some 0)), (1, aI v1), (2, aI v2), (3, aI v3)] (by decide +kernel) (fun h => by cases h) (Nat.le_of_ble_eq_true rfl) rfl fun E _ => x12_isIn E  v1 v2 v3 σ
