abbrev r12_gauge : Room := { frames := 2, cells := 0, slots := 0, locals := 56 }
abbrev m12_gauge : zMu := (RX12, 3, (some .int), r12_gauge, false)
set_option maxRecDepth 20000 in
theorem x12_gauge (E : zEn)  (v1 : Int32) (v2 : Int32) (σ : zSt) : X E cX12_gauge m12_gauge true (zQr E true eI r12_gauge σ) 0 0 σ [(0, aR 12 (some 0)), (1, aI v1), (2, aI v2)] 0 [] (f12_gauge v1 v2 σ) := by
  unfold f12_gauge
  refine x_aload_n (pc := 0) 0 dX12_gauge_0 rfl rfl ?_
  refine x_iload_n (pc := 1) 1 dX12_gauge_1 rfl rfl ?_
  refine x_callVr (pc := 2) (as := [aI v1]) (rest := []) (fun l => c_12_isFault l true v1 σ) md_X12_isFault ⟨_, _, rfl, by decide⟩ tk_1532 tp_63 tk_1530 dX12_gauge_2 rfl ⟨by decide, by decide, by decide, by decide⟩ ⟨fun _ => rfl, fun _ => Or.inl rfl⟩ rfl (Nat.le_of_ble_eq_true rfl) (fun r1 => ?_)
  show X E _ _ _ _ 0 0 _ _ _ [aI r1] _
  refine x_join (P := fun (j2 : Option Int32) => X E cX12_gauge m12_gauge true (zQr E true eI r12_gauge σ) 0 0 σ [] 33 [] j2) ?_ ?_
  ·
    refine x_iconst (pc := 33) (-1) dX12_gauge_33 rfl ?_
    exact x_iret (rm := r12_gauge) rfl rfl dX12_gauge_34
  · intro j2 hj3
    refine x_if_eq (pc := 5) 33 dX12_gauge_5 (by decide) (fun _ => ?_) (fun _ => ?_)
    ·
      exact x_sub [] rfl (hj3)
    ·
      refine x_aload_n (pc := 8) 0 dX12_gauge_8 rfl rfl ?_
      refine x_iload_n (pc := 9) 1 dX12_gauge_9 rfl rfl ?_
      refine x_iconst (pc := 10) 2 dX12_gauge_10 rfl ?_
      refine x_callVr (pc := 11) (as := [aI v1, aI 2]) (rest := []) (fun l => c_12_hasFlag l v1 2 σ) md_X12_hasFlag ⟨_, _, rfl, by decide⟩ tk_1582 tp_68 tk_1580 dX12_gauge_11 rfl ⟨by decide, by decide, by decide, by decide⟩ ⟨fun _ => rfl, fun _ => Or.inl rfl⟩ rfl (Nat.le_of_ble_eq_true rfl) (fun r4 => ?_)
      show X E _ _ _ _ 0 0 _ _ _ [aI r4] _
      refine x_if_eq (pc := 14) 33 dX12_gauge_14 (by decide) (fun _ => ?_) (fun _ => ?_)
      ·
        exact x_sub [] rfl (hj3)
      ·
        refine x_iload_n (pc := 17) 2 dX12_gauge_17 rfl rfl ?_
        refine x_callSr (pc := 18) (as := [aI v2]) (rest := []) (fun l => c_12_isDay l true v2 σ) md_X12_isDay tk_1566 tk_1565 dX12_gauge_18 rfl ⟨by decide, by decide, by decide, by decide⟩ ⟨fun _ => rfl, fun _ => Or.inl rfl⟩ rfl (Nat.le_of_ble_eq_true rfl) (fun r5 => ?_)
        show X E _ _ _ _ 0 0 _ _ _ [aI r5] _
        refine x_if_eq (pc := 21) 33 dX12_gauge_21 (by decide) (fun _ => ?_) (fun _ => ?_)
        ·
          exact x_sub [] rfl (hj3)
        ·
          refine x_aload_n (pc := 24) 0 dX12_gauge_24 rfl rfl ?_
          refine x_iload_n (pc := 25) 1 dX12_gauge_25 rfl rfl ?_
          refine x_iload_n (pc := 26) 2 dX12_gauge_26 rfl rfl ?_
          refine x_callVr (pc := 27) (as := [aI v1, aI v2]) (rest := []) (fun l => c_12_gaugeOf l v1 v2 σ) md_X12_gaugeOf ⟨_, _, rfl, by decide⟩ tk_1661 tp_78 tk_1659 dX12_gauge_27 rfl ⟨by decide, by decide, by decide, by decide⟩ ⟨fun _ => rfl, fun _ => Or.inl rfl⟩ rfl (Nat.le_of_ble_eq_true rfl) (fun r6 => ?_)
          show X E _ _ _ _ 0 0 _ _ _ [aI r6] _
          refine x_goto (pc := 30) 34 dX12_gauge_30 (by decide) ?_
          exact x_iret (rm := r12_gauge) rfl rfl dX12_gauge_34
theorem c_12_gauge (l : Launch)  (v1 : Int32) (v2 : Int32) (σ : zSt) : zMet l yX12_gauge cX12_gauge 3 (some .int) r12_gauge true eI [aR 12 (some 0), aI v1, aI v2] σ (zro (f12_gauge v1 v2 σ) σ) :=
  zMet_ofR [(0, aR 12 (some 0)), (1, aI v1), (2, aI v2)] (by decide +kernel) (fun h => by cases h) (Nat.le_of_ble_eq_true rfl) rfl fun E _ => x12_gauge E  v1 v2 σ
abbrev r12_pace : Room := { frames := 1, cells := 0, slots := 0, locals := 23 }
abbrev m12_pace : zMu := (RX12, 3, (some .int), r12_pace, false)
set_option maxRecDepth 20000 in
theorem x12_pace (E : zEn)  (v1 : Int32) (v2 : Int32) (σ : zSt) : X E cX12_pace m12_pace true (zQr E true eI r12_pace σ) 0 0 σ [(0, aR 12 (some 0)), (1, aI v1), (2, aI v2)] 0 [] (f12_pace v1 v2 σ) := by
  unfold f12_pace
  refine x_aload_n (pc := 0) 0 dX12_pace_0 rfl rfl ?_
  refine x_iload_n (pc := 1) 1 dX12_pace_1 rfl rfl ?_
  refine x_callVr (pc := 2) (as := [aI v1]) (rest := []) (fun l => c_12_isFault l true v1 σ) md_X12_isFault ⟨_, _, rfl, by decide⟩ tk_1532 tp_63 tk_1530 dX12_pace_2 rfl ⟨by decide, by decide, by decide, by decide⟩ ⟨fun _ => rfl, fun _ => Or.inl rfl⟩ rfl (Nat.le_of_ble_eq_true rfl) (fun r1 => ?_)
  show X E _ _ _ _ 0 0 _ _ _ [aI r1] _
  refine x_join (P := fun (j2 : Option Int32) => X E cX12_pace m12_pace true (zQr E true eI r12_pace σ) 0 0 σ [] 42 [] j2) ?_ ?_
  ·
    refine x_ldc (pc := 42) (v := (-2000000000)) dX12_pace_42 tk_1477 ?_
    exact x_iret (rm := r12_pace) rfl rfl dX12_pace_44
  · intro j2 hj3
    refine x_if_eq (pc := 5) 42 dX12_pace_5 (by decide) (fun _ => ?_) (fun _ => ?_)
    ·
      exact x_sub [] rfl (hj3)
    ·
      refine x_aload_n (pc := 8) 0 dX12_pace_8 rfl rfl ?_
      refine x_iload_n (pc := 9) 1 dX12_pace_9 rfl rfl ?_
      refine x_iconst (pc := 10) 2 dX12_pace_10 rfl ?_
      refine x_callVr (pc := 11) (as := [aI v1, aI 2]) (rest := []) (fun l => c_12_hasFlag l v1 2 σ) md_X12_hasFlag ⟨_, _, rfl, by decide⟩ tk_1582 tp_68 tk_1580 dX12_pace_11 rfl ⟨by decide, by decide, by decide, by decide⟩ ⟨fun _ => rfl, fun _ => Or.inl rfl⟩ rfl (Nat.le_of_ble_eq_true rfl) (fun r4 => ?_)
      show X E _ _ _ _ 0 0 _ _ _ [aI r4] _
      refine x_if_eq (pc := 14) 42 dX12_pace_14 (by decide) (fun _ => ?_) (fun _ => ?_)
      ·
        exact x_sub [] rfl (hj3)
      ·
        refine x_iload_n (pc := 17) 2 dX12_pace_17 rfl rfl ?_
        refine x_if_lt (pc := 18) 42 dX12_pace_18 (by decide) (fun _ => ?_) (fun _ => ?_)
        ·
          exact x_sub [] rfl (hj3)
        ·
          refine x_iload_n (pc := 21) 2 dX12_pace_21 rfl rfl ?_
          refine x_aload_n (pc := 22) 0 dX12_pace_22 rfl rfl ?_
          refine x_getF (pc := 23) (j := 0) fd_12_44 rfl rfl tk_1239 dX12_pace_23 ?_
          refine x_iload_n (pc := 26) 1 dX12_pace_26 rfl rfl ?_
          refine x_iald (pc := 27) ar_1344 dX12_pace_27 (fun m5 => ?_)
          refine x_iconst (pc := 28) 1 dX12_pace_28 rfl ?_
          refine x_isub (pc := 29) dX12_pace_29 ?_
          refine x_icmp_ge (pc := 30) 42 dX12_pace_30 (by decide) (fun _ => ?_) (fun _ => ?_)
          ·
            exact x_sub [] rfl (hj3)
          ·
            refine x_aload_n (pc := 33) 0 dX12_pace_33 rfl rfl ?_
            refine x_iload_n (pc := 34) 1 dX12_pace_34 rfl rfl ?_
            refine x_iload_n (pc := 35) 2 dX12_pace_35 rfl rfl ?_
            refine x_callVr (pc := 36) (as := [aI v1, aI v2]) (rest := []) (fun l => c_12_paceOf l v1 v2 σ) md_X12_paceOf ⟨_, _, rfl, by decide⟩ tk_1665 tp_79 tk_1663 dX12_pace_36 rfl ⟨by decide, by decide, by decide, by decide⟩ ⟨fun _ => rfl, fun _ => Or.inl rfl⟩ rfl (Nat.le_of_ble_eq_true rfl) (fun r6 => ?_)
            show X E _ _ _ _ 0 0 _ _ _ [aI r6] _
            refine x_goto (pc := 39) 44 dX12_pace_39 (by decide) ?_
            exact x_iret (rm := r12_pace) rfl rfl dX12_pace_44
theorem c_12_pace (l : Launch)  (v1 : Int32) (v2 : Int32) (σ : zSt) : zMet l yX12_pace cX12_pace 3 (some .int) r12_pace true eI [aR 12 (some 0), aI v1, aI v2] σ (zro (f12_pace v1 v2 σ) σ) :=
  zMet_ofR [(0, aR 12 (some 0)), (1, aI v1), (2, aI v2)] (by decide +kernel) (fun h => by cases h) (Nat.le_of_ble_eq_true rfl) rfl fun E _ => x12_pace E  v1 v2 σ
abbrev r12_sinks : Room := { frames := 2, cells := 0, slots := 0, locals := 56 }
abbrev m12_sinks : zMu := (RX12, 4, (some .boolean), r12_sinks, false)
set_option maxRecDepth 20000 in
theorem xl12_sinks_4 (E : zEn)   (h1 : Int32) (σ : zSt)   : ∀ (n : Nat) (v2 : Int32) (v3 : Int32), X E cX12_sinks m12_sinks true (zQr E true eI r12_sinks σ) 0 0 σ [(0, aR 12 (some 0)), (1, aI h1), (2, aI v2), (3, aI v3)] 4 [] (f12_sinks_L4 h1 σ n v2 v3) := by
  intro n
  induction n with
  | zero => intros; exact x_none
  | succ n ih =>
    intro v2 v3
    rw [f12_sinks_L4]
    refine x_iload_n (pc := 4) 3 dX12_sinks_4 rfl rfl ?_
    refine x_aload_n (pc := 5) 0 dX12_sinks_5 rfl rfl ?_
    refine x_getI (pc := 6) fd_12_36 tk_1231 dX12_sinks_6 ?_
    refine x_icmp_ge (pc := 9) 72 dX12_sinks_9 (by decide) (fun _ => ?_) (fun _ => ?_)
    ·
      refine x_iload_n (pc := 72) 2 dX12_sinks_72 rfl rfl ?_
      exact x_zret (rm := r12_sinks) rfl rfl dX12_sinks_73
    ·
      refine x_iload_n (pc := 12) 2 dX12_sinks_12 rfl rfl ?_
      refine x_join (P := fun (j2 : Int32 → Option Int32) => ∀ (a1 : Int32), X E cX12_sinks m12_sinks true (zQr E true eI r12_sinks σ) 0 0 σ [(0, aR 12 (some 0)), (1, aI h1), (3, aI v3)] 65 [aI a1] (j2 a1)) ?_ ?_
      · intro a1
        refine x_istore_n (pc := 65) (als' := [(2, aI a1), (0, aR 12 (some 0)), (1, aI h1), (3, aI v3)]) 2 dX12_sinks_65 rfl (by decide) rfl ?_
        refine x_iinc (pc := 66) (als' := [(3, aI (v3 + 1)), (2, aI a1), (0, aR 12 (some 0)), (1, aI h1)]) 3 3 (c := 1) dX12_sinks_66 rfl rfl (by decide) rfl ?_
        refine x_nameV (g := fun y5 => [(3, aI y5), (2, aI a1), (0, aR 12 (some 0)), (1, aI h1)]) (fun x4 => ?_) rfl
        refine x_goto (pc := 69) 4 dX12_sinks_69 (by decide) ?_
        exact x_sub [2, 3, 1, 0] rfl (ih a1 x4)
      · intro j2 hj3
        refine x_join (P := fun (j6 : Option Int32) => X E cX12_sinks m12_sinks true (zQr E true eI r12_sinks σ) 0 0 σ [(0, aR 12 (some 0)), (1, aI h1), (3, aI v3)] 60 [] j6) ?_ ?_
        ·
          refine x_iconst (pc := 60) 1 dX12_sinks_60 rfl ?_
          refine x_goto (pc := 61) 65 dX12_sinks_61 (by decide) ?_
          exact hj3 1
        · intro j6 hj7
          refine x_if_ne (pc := 13) 60 dX12_sinks_13 (by decide) (fun _ => ?_) (fun _ => ?_)
          ·
            exact x_sub [0, 1, 3] rfl (hj7)
          ·
            refine x_aload_n (pc := 16) 0 dX12_sinks_16 rfl rfl ?_
            refine x_getF (pc := 17) (j := 0) fd_12_18 rfl rfl tk_1213 dX12_sinks_17 ?_
            refine x_iload_n (pc := 20) 3 dX12_sinks_20 rfl rfl ?_
            refine x_iald (pc := 21) ar_1318 dX12_sinks_21 (fun m8 => ?_)
            refine x_iload_n (pc := 22) 1 dX12_sinks_22 rfl rfl ?_
            refine x_join (P := fun (j9 : Option Int32) => X E cX12_sinks m12_sinks true (zQr E true eI r12_sinks σ) 0 0 σ [(0, aR 12 (some 0)), (1, aI h1), (3, aI v3)] 64 [] j9) ?_ ?_
            ·
              refine x_iconst (pc := 64) 0 dX12_sinks_64 rfl ?_
              exact hj3 0
            · intro j9 hj10
              refine x_icmp_ne (pc := 23) 64 dX12_sinks_23 (by decide) (fun _ => ?_) (fun _ => ?_)
              ·
                exact x_sub [0, 1, 3] rfl (hj10)
              ·
                refine x_aload_n (pc := 26) 0 dX12_sinks_26 rfl rfl ?_
                refine x_iload_n (pc := 27) 3 dX12_sinks_27 rfl rfl ?_
                refine x_iconst (pc := 28) 2 dX12_sinks_28 rfl ?_
                refine x_callVr (pc := 29) (as := [aI v3, aI 2]) (rest := []) (fun l => c_12_hasFlag l v3 2 σ) md_X12_hasFlag ⟨_, _, rfl, by decide⟩ tk_1582 tp_68 tk_1580 dX12_sinks_29 rfl ⟨by decide, by decide, by decide, by decide⟩ ⟨fun _ => rfl, fun _ => Or.inl rfl⟩ rfl (Nat.le_of_ble_eq_true rfl) (fun r11 => ?_)
                show X E _ _ _ _ 0 0 _ _ _ [aI r11] _
                refine x_if_eq (pc := 32) 64 dX12_sinks_32 (by decide) (fun _ => ?_) (fun _ => ?_)
                ·
                  exact x_sub [0, 1, 3] rfl (hj10)
                ·
                  refine x_aload_n (pc := 35) 0 dX12_sinks_35 rfl rfl ?_
                  refine x_iload_n (pc := 36) 3 dX12_sinks_36 rfl rfl ?_
                  refine x_aload_n (pc := 37) 0 dX12_sinks_37 rfl rfl ?_
                  refine x_getI (pc := 38) fd_12_0 tk_1195 dX12_sinks_38 ?_
                  refine x_callVr (pc := 41) (as := [aI v3, aI (gI σ 12 0 0)]) (rest := []) (fun l => c_12_isLeft l v3 (gI σ 12 0 0) σ) md_X12_isLeft ⟨_, _, rfl, by decide⟩ tk_1488 tp_55 tk_1486 dX12_sinks_41 rfl ⟨by decide, by decide, by decide, by decide⟩ ⟨fun _ => rfl, fun _ => Or.inl rfl⟩ rfl (Nat.le_of_ble_eq_true rfl) (fun r12 => ?_)
                  show X E _ _ _ _ 0 0 _ _ _ [aI r12] _
                  refine x_if_eq (pc := 44) 64 dX12_sinks_44 (by decide) (fun _ => ?_) (fun _ => ?_)
                  ·
                    exact x_sub [0, 1, 3] rfl (hj10)
                  ·
                    refine x_aload_n (pc := 47) 0 dX12_sinks_47 rfl rfl ?_
                    refine x_iload_n (pc := 48) 3 dX12_sinks_48 rfl rfl ?_
                    refine x_aload_n (pc := 49) 0 dX12_sinks_49 rfl rfl ?_
                    refine x_getI (pc := 50) fd_12_0 tk_1195 dX12_sinks_50 ?_
                    refine x_callVr (pc := 53) (as := [aI v3, aI (gI σ 12 0 0)]) (rest := []) (fun l => c_12_gaugeOf l v3 (gI σ 12 0 0) σ) md_X12_gaugeOf ⟨_, _, rfl, by decide⟩ tk_1661 tp_78 tk_1659 dX12_sinks_53 rfl ⟨by decide, by decide, by decide, by decide⟩ ⟨fun _ => rfl, fun _ => Or.inl rfl⟩ rfl (Nat.le_of_ble_eq_true rfl) (fun r13 => ?_)
                    show X E _ _ _ _ 0 0 _ _ _ [aI r13] _
                    refine x_iconst (pc := 56) 2 dX12_sinks_56 rfl ?_
                    refine x_icmp_ne (pc := 57) 64 dX12_sinks_57 (by decide) (fun _ => ?_) (fun _ => ?_)
                    ·
                      exact x_sub [0, 1, 3] rfl (hj10)
                    ·
                      exact x_sub [0, 1, 3] rfl (hj7)
set_option maxRecDepth 20000 in
theorem x12_sinks (E : zEn)  (v1 : Int32) (σ : zSt) : X E cX12_sinks m12_sinks true (zQr E true eI r12_sinks σ) 0 0 σ [(0, aR 12 (some 0)), (1, aI v1)] 0 [] (f12_sinks v1 σ) := by
  unfold f12_sinks
  refine x_iconst (pc := 0) 0 dX12_sinks_0 rfl ?_
  refine x_istore_n (pc := 1) (als' := [(2, aI 0), (0, aR 12 (some 0)), (1, aI v1)]) 2 dX12_sinks_1 rfl (by decide) rfl ?_
  refine x_iconst (pc := 2) 0 dX12_sinks_2 rfl ?_
  refine x_istore_n (pc := 3) (als' := [(3, aI 0), (2, aI 0), (0, aR 12 (some 0)), (1, aI v1)]) 3 dX12_sinks_3 rfl (by decide) rfl ?_
  refine x_sub [2, 3, 1, 0] rfl (xl12_sinks_4 E v1 σ zfuel 0 0)
theorem c_12_sinks (l : Launch)  (v1 : Int32) (σ : zSt) : zMet l yX12_sinks cX12_sinks 4 (some .boolean) r12_sinks true eI [aR 12 (some 0), aI v1] σ (zro (f12_sinks v1 σ) σ) :=
  zMet_ofR [(0, aR 12 (some 0)), (1, aI v1)] (by decide +kernel) (fun h => by cases h) (Nat.le_of_ble_eq_true rfl) rfl fun E _ => x12_sinks E  v1 σ
abbrev r12_sinking : Room := { frames := 3, cells := 0, slots := 0, locals := 79 }
abbrev m12_sinking : zMu := (RX12, 7, (some .int), r12_sinking, false)
set_option maxRecDepth 20000 in
theorem xl12_sinking_32 (E : zEn)   (h1 : Int32) (h2 : Int32) (σ : zSt) {K127 : Int32 → Int32 → Int32 → Option Int32} (hK127 : ∀ (v3 : Int32) (v4 : Int32) (v5 : Int32), X E cX12_sinking m12_sinking true (zQr E true eI r12_sinking σ) 0 0 σ [(2, aI h2), (3, aI v3), (4, aI v4), (5, aI v5)] 127 [] (K127 v3 v4 v5)) : ∀ (n : Nat) (v3 : Int32) (v4 : Int32) (v5 : Int32) (v6 : Int32), X E cX12_sinking m12_sinking true (zQr E true eI r12_sinking σ) 0 0 σ [(0, aR 12 (some 0)), (1, aI h1), (2, aI h2), (3, aI v3), (4, aI v4), (5, aI v5), (6, aI v6)] 32 [] (f12_sinking_L32 h1 h2 σ K127 n v3 v4 v5 v6) := by
  intro n
  induction n with
  | zero => intros; exact x_none
  | succ n ih =>
    intro v3 v4 v5 v6
    rw [f12_sinking_L32]
    refine x_iload (pc := 32) 6 dX12_sinking_32 rfl ?_
    refine x_aload_n (pc := 34) 0 dX12_sinking_34 rfl rfl ?_
    refine x_getI (pc := 35) fd_12_13 tk_1208 dX12_sinking_35 ?_
    refine x_icmp_ge (pc := 38) 127 dX12_sinking_38 (by decide) (fun _ => ?_) (fun _ => ?_)
    ·
      exact x_sub [2, 3, 4, 5] rfl (hK127 v3 v4 v5)
    ·
      refine x_aload_n (pc := 41) 0 dX12_sinking_41 rfl rfl ?_
      refine x_getF (pc := 42) (j := 0) fd_12_1 rfl rfl tk_1196 dX12_sinking_42 ?_
      refine x_iload (pc := 45) 6 dX12_sinking_45 rfl ?_
      refine x_iald (pc := 47) ar_1301 dX12_sinking_47 (fun m3 => ?_)
      refine x_iload_n (pc := 48) 1 dX12_sinking_48 rfl rfl ?_
      refine x_join (P := fun (j7 : Int32 → Int32 → Int32 → Option Int32) => ∀ (a4 : Int32) (a5 : Int32) (a6 : Int32), X E cX12_sinking m12_sinking true (zQr E true eI r12_sinking σ) 0 0 σ [(0, aR 12 (some 0)), (1, aI h1), (2, aI h2), (3, aI a4), (4, aI a5), (5, aI a6), (6, aI v6)] 121 [] (j7 a4 a5 a6)) ?_ ?_
      · intro a4 a5 a6
        refine x_iinc (pc := 121) (als' := [(6, aI (v6 + 1)), (0, aR 12 (some 0)), (1, aI h1), (2, aI h2), (3, aI a4), (4, aI a5), (5, aI a6)]) 6 6 (c := 1) dX12_sinking_121 rfl rfl (by decide) rfl ?_
        refine x_nameV (g := fun y10 => [(6, aI y10), (0, aR 12 (some 0)), (1, aI h1), (2, aI h2), (3, aI a4), (4, aI a5), (5, aI a6)]) (fun x9 => ?_) rfl
        refine x_goto (pc := 124) 32 dX12_sinking_124 (by decide) ?_
        exact x_sub [1, 2, 3, 4, 5, 6, 0] rfl (ih a4 a5 a6 x9)
      · intro j7 hj8
        refine x_icmp_ne (pc := 49) 121 dX12_sinking_49 (by decide) (fun _ => ?_) (fun _ => ?_)
        ·
          exact hj8 v3 v4 v5
        ·
          refine x_aload_n (pc := 52) 0 dX12_sinking_52 rfl rfl ?_
          refine x_iload (pc := 53) 6 dX12_sinking_53 rfl ?_
          refine x_callVr (pc := 55) (as := [aI v6]) (rest := []) (fun l => c_12_sinks l v6 σ) md_X12_sinks ⟨_, _, rfl, by decide⟩ tk_1678 tp_80 tk_1676 dX12_sinking_55 rfl ⟨by decide, by decide, by decide, by decide⟩ ⟨fun _ => rfl, fun _ => Or.inl rfl⟩ rfl (Nat.le_of_ble_eq_true rfl) (fun r11 => ?_)
          show X E _ _ _ _ 0 0 _ _ _ [aI r11] _
          refine x_if_eq (pc := 58) 121 dX12_sinking_58 (by decide) (fun _ => ?_) (fun _ => ?_)
          ·
            exact hj8 v3 v4 v5
          ·
            refine x_iinc (pc := 61) (als' := [(3, aI (v3 + 1)), (0, aR 12 (some 0)), (1, aI h1), (2, aI h2), (4, aI v4), (5, aI v5), (6, aI v6)]) 3 3 (c := 1) dX12_sinking_61 rfl rfl (by decide) rfl ?_
            refine x_nameV (g := fun y13 => [(3, aI y13), (0, aR 12 (some 0)), (1, aI h1), (2, aI h2), (4, aI v4), (5, aI v5), (6, aI v6)]) (fun x12 => ?_) rfl
            refine x_iload (pc := 64) 4 dX12_sinking_64 rfl ?_
            refine x_join (P := fun (j15 : Int32 → Option Int32) => ∀ (a14 : Int32), X E cX12_sinking m12_sinking true (zQr E true eI r12_sinking σ) 0 0 σ [(0, aR 12 (some 0)), (1, aI h1), (2, aI h2), (3, aI x12), (5, aI v5), (6, aI v6)] 93 [aI a14] (j15 a14)) ?_ ?_
            · intro a14
              refine x_istore (pc := 93) (als' := [(4, aI a14), (0, aR 12 (some 0)), (1, aI h1), (2, aI h2), (3, aI x12), (5, aI v5), (6, aI v6)]) 4 dX12_sinking_93 (by decide) rfl ?_
              refine x_aload_n (pc := 95) 0 dX12_sinking_95 rfl rfl ?_
              refine x_getF (pc := 96) (j := 0) fd_12_2 rfl rfl tk_1197 dX12_sinking_96 ?_
              refine x_iload (pc := 99) 6 dX12_sinking_99 rfl ?_
              refine x_iald (pc := 101) ar_1302 dX12_sinking_101 (fun m17 => ?_)
              refine x_iload (pc := 102) 5 dX12_sinking_102 rfl ?_
              refine x_join (P := fun (j19 : Int32 → Option Int32) => ∀ (a18 : Int32), X E cX12_sinking m12_sinking true (zQr E true eI r12_sinking σ) 0 0 σ [(0, aR 12 (some 0)), (1, aI h1), (2, aI h2), (3, aI x12), (4, aI a14), (6, aI v6)] 119 [aI a18] (j19 a18)) ?_ ?_
              · intro a18
                refine x_istore (pc := 119) (als' := [(5, aI a18), (0, aR 12 (some 0)), (1, aI h1), (2, aI h2), (3, aI x12), (4, aI a14), (6, aI v6)]) 5 dX12_sinking_119 (by decide) rfl ?_
                exact x_sub [1, 2, 3, 4, 5, 0, 6] rfl (hj8 x12 a14 a18)
              · intro j19 hj20
                refine x_icmp_le (pc := 104) 117 dX12_sinking_104 (by decide) (fun _ => ?_) (fun _ => ?_)
                ·
                  refine x_iload (pc := 117) 5 dX12_sinking_117 rfl ?_
                  exact x_sub [1, 2, 3, 4, 0, 6] rfl (hj20 v5)
                ·
                  refine x_aload_n (pc := 107) 0 dX12_sinking_107 rfl rfl ?_
                  refine x_getF (pc := 108) (j := 0) fd_12_2 rfl rfl tk_1197 dX12_sinking_108 ?_
                  refine x_iload (pc := 111) 6 dX12_sinking_111 rfl ?_
                  refine x_iald (pc := 113) ar_1302 dX12_sinking_113 (fun m21 => ?_)
                  refine x_goto (pc := 114) 119 dX12_sinking_114 (by decide) ?_
                  exact x_sub [1, 2, 3, 4, 0, 6] rfl (hj20 (gI σ 1302 0 m21))
            · intro j15 hj16
              refine x_join (P := fun (j22 : Option Int32) => X E cX12_sinking m12_sinking true (zQr E true eI r12_sinking σ) 0 0 σ [(0, aR 12 (some 0)), (1, aI h1), (2, aI h2), (3, aI x12), (5, aI v5), (6, aI v6)] 81 [] j22) ?_ ?_
              ·
                refine x_aload_n (pc := 81) 0 dX12_sinking_81 rfl rfl ?_
                refine x_getF (pc := 82) (j := 0) fd_12_2 rfl rfl tk_1197 dX12_sinking_82 ?_
                refine x_iload (pc := 85) 6 dX12_sinking_85 rfl ?_
                refine x_iald (pc := 87) ar_1302 dX12_sinking_87 (fun m24 => ?_)
                refine x_goto (pc := 88) 93 dX12_sinking_88 (by decide) ?_
                exact hj16 (gI σ 1302 0 m24)
              · intro j22 hj23
                refine x_if_lt (pc := 66) 81 dX12_sinking_66 (by decide) (fun _ => ?_) (fun _ => ?_)
                ·
                  exact x_sub [1, 2, 3, 0, 5, 6] rfl (hj23)
                ·
                  refine x_aload_n (pc := 69) 0 dX12_sinking_69 rfl rfl ?_
                  refine x_getF (pc := 70) (j := 0) fd_12_2 rfl rfl tk_1197 dX12_sinking_70 ?_
                  refine x_iload (pc := 73) 6 dX12_sinking_73 rfl ?_
                  refine x_iald (pc := 75) ar_1302 dX12_sinking_75 (fun m25 => ?_)
                  refine x_iload (pc := 76) 4 dX12_sinking_76 rfl ?_
                  refine x_icmp_ge (pc := 78) 91 dX12_sinking_78 (by decide) (fun _ => ?_) (fun _ => ?_)
                  ·
                    refine x_iload (pc := 91) 4 dX12_sinking_91 rfl ?_
                    exact x_sub [1, 2, 3, 0, 5, 6] rfl (hj16 v4)
                  ·
                    exact x_sub [1, 2, 3, 0, 5, 6] rfl (hj23)
set_option maxRecDepth 20000 in
theorem x12_sinking (E : zEn)  (v1 : Int32) (v2 : Int32) (σ : zSt) : X E cX12_sinking m12_sinking true (zQr E true eI r12_sinking σ) 0 0 σ [(0, aR 12 (some 0)), (1, aI v1), (2, aI v2)] 0 [] (f12_sinking v1 v2 σ) := by
  unfold f12_sinking
  refine x_iload_n (pc := 0) 1 dX12_sinking_0 rfl rfl ?_
  refine x_iconst (pc := 1) 0 dX12_sinking_1 rfl ?_
  refine x_bipush (pc := 2) 7 dX12_sinking_2 rfl ?_
  refine x_callSr (pc := 4) (as := [aI v1, aI 0, aI 7]) (rest := []) (fun l => c_12_within l true v1 0 7 σ) md_X12_within tk_1447 tk_1446 dX12_sinking_4 rfl ⟨by decide, by decide, by decide, by decide⟩ ⟨fun _ => rfl, fun _ => Or.inl rfl⟩ rfl (Nat.le_of_ble_eq_true rfl) (fun r1 => ?_)
  show X E _ _ _ _ 0 0 _ _ _ [aI r1] _
  refine x_if_eq (pc := 7) 19 dX12_sinking_7 (by decide) (fun _ => ?_) (fun _ => ?_)
  ·
    refine x_iconst (pc := 19) (-1) dX12_sinking_19 rfl ?_
    exact x_iret (rm := r12_sinking) rfl rfl dX12_sinking_20
  ·
    refine x_iload_n (pc := 10) 2 dX12_sinking_10 rfl rfl ?_
    refine x_iconst (pc := 11) 0 dX12_sinking_11 rfl ?_
    refine x_iconst (pc := 12) 2 dX12_sinking_12 rfl ?_
    refine x_callSr (pc := 13) (as := [aI v2, aI 0, aI 2]) (rest := []) (fun l => c_12_within l true v2 0 2 σ) md_X12_within tk_1447 tk_1446 dX12_sinking_13 rfl ⟨by decide, by decide, by decide, by decide⟩ ⟨fun _ => rfl, fun _ => Or.inl rfl⟩ rfl (Nat.le_of_ble_eq_true rfl) (fun r2 => ?_)
    show X E _ _ _ _ 0 0 _ _ _ [aI r2] _
    refine x_if_ne (pc := 16) 21 dX12_sinking_16 (by decide) (fun _ => ?_) (fun _ => ?_)
    ·
      refine x_iconst (pc := 21) 0 dX12_sinking_21 rfl ?_
      refine x_istore_n (pc := 22) (als' := [(3, aI 0), (0, aR 12 (some 0)), (1, aI v1), (2, aI v2)]) 3 dX12_sinking_22 rfl (by decide) rfl ?_
      refine x_iconst (pc := 23) (-1) dX12_sinking_23 rfl ?_
      refine x_istore (pc := 24) (als' := [(4, aI (-1)), (3, aI 0), (0, aR 12 (some 0)), (1, aI v1), (2, aI v2)]) 4 dX12_sinking_24 (by decide) rfl ?_
      refine x_iconst (pc := 26) (-1) dX12_sinking_26 rfl ?_
      refine x_istore (pc := 27) (als' := [(5, aI (-1)), (4, aI (-1)), (3, aI 0), (0, aR 12 (some 0)), (1, aI v1), (2, aI v2)]) 5 dX12_sinking_27 (by decide) rfl ?_
      refine x_iconst (pc := 29) 0 dX12_sinking_29 rfl ?_
      refine x_istore (pc := 30) (als' := [(6, aI 0), (5, aI (-1)), (4, aI (-1)), (3, aI 0), (0, aR 12 (some 0)), (1, aI v1), (2, aI v2)]) 6 dX12_sinking_30 (by decide) rfl ?_
      refine x_sub [4, 5, 6, 3, 2, 1, 0] rfl (xl12_sinking_32 E v1 v2 σ (fun a26 a27 a28 => ?_) zfuel 0 (-1) (-1) 0)
      ·
        refine x_iload_n (pc := 127) 2 dX12_sinking_127 rfl rfl ?_
        refine x_if_ne (pc := 128) 135 dX12_sinking_128 (by decide) (fun _ => ?_) (fun _ => ?_)
        ·
          refine x_iload_n (pc := 135) 2 dX12_sinking_135 rfl rfl ?_
          refine x_iconst (pc := 136) 1 dX12_sinking_136 rfl ?_
          refine x_icmp_ne (pc := 137) 145 dX12_sinking_137 (by decide) (fun _ => ?_) (fun _ => ?_)
          ·
            refine x_iload (pc := 145) 5 dX12_sinking_145 rfl ?_
            exact x_iret (rm := r12_sinking) rfl rfl dX12_sinking_147
          ·
            refine x_iload (pc := 140) 4 dX12_sinking_140 rfl ?_
            refine x_goto (pc := 142) 147 dX12_sinking_142 (by decide) ?_
            exact x_iret (rm := r12_sinking) rfl rfl dX12_sinking_147
        ·
          refine x_iload_n (pc := 131) 3 dX12_sinking_131 rfl rfl ?_
          refine x_goto (pc := 132) 147 dX12_sinking_132 (by decide) ?_
          exact x_iret (rm := r12_sinking) rfl rfl dX12_sinking_147
    ·
      refine x_iconst (pc := 19) (-1) dX12_sinking_19 rfl ?_
      exact x_iret (rm := r12_sinking) rfl rfl dX12_sinking_20
theorem c_12_sinking (l : Launch)  (v1 : Int32) (v2 : Int32) (σ : zSt) : zMet l yX12_sinking cX12_sinking 7 (some .int) r12_sinking true eI [aR 12 (some 0), aI v1, aI v2] σ (zro (f12_sinking v1 v2 σ) σ) :=
  zMet_ofR [(0, aR 12 (some 0)), (1, aI v1), (2, aI v2)] (by decide +kernel) (fun h => by cases h) (Nat.le_of_ble_eq_true rfl) rfl fun E _ => x12_sinking E  v1 v2 σ
abbrev r12_men : Room := { frames := 2, cells := 0, slots := 0, locals := 42 }
abbrev m12_men : zMu := (RX12, 4, (some .int), r12_men, false)
set_option maxRecDepth 20000 in
theorem x12_men (E : zEn)  (v1 : Int32) (v2 : Int32) (σ : zSt) : X E cX12_men m12_men true (zQw E true eI r12_men) 0 0 σ [(0, aR 12 (some 0)), (1, aI v1), (2, aI v2)] 0 [] (f12_men v1 v2 σ) := by
  unfold f12_men
  refine x_iload_n (pc := 0) 1 dX12_men_0 rfl rfl ?_
  refine x_callSr (pc := 1) (as := [aI v1]) (rest := []) (fun l => c_12_isTrade l true v1 σ) md_X12_isTrade tk_1475 tk_1474 dX12_men_1 rfl ⟨by decide, by decide, by decide, by decide⟩ ⟨fun _ => rfl, fun _ => Or.inl rfl⟩ rfl (Nat.le_of_ble_eq_true rfl) (fun r1 => ?_)
  show X E _ _ _ _ 0 0 _ _ _ [aI r1] _
  refine x_if_eq (pc := 4) 17 dX12_men_4 (by decide) (fun _ => ?_) (fun _ => ?_)
  ·
    refine x_iconst (pc := 17) (-1) dX12_men_17 rfl ?_
    exact x_iret (rm := r12_men) rfl rfl dX12_men_18
  ·
    refine x_iload_n (pc := 7) 2 dX12_men_7 rfl rfl ?_
    refine x_iconst (pc := 8) 0 dX12_men_8 rfl ?_
    refine x_bipush (pc := 9) 9 dX12_men_9 rfl ?_
    refine x_callSr (pc := 11) (as := [aI v2, aI 0, aI 9]) (rest := []) (fun l => c_12_within l true v2 0 9 σ) md_X12_within tk_1447 tk_1446 dX12_men_11 rfl ⟨by decide, by decide, by decide, by decide⟩ ⟨fun _ => rfl, fun _ => Or.inl rfl⟩ rfl (Nat.le_of_ble_eq_true rfl) (fun r2 => ?_)
    show X E _ _ _ _ 0 0 _ _ _ [aI r2] _
    refine x_if_ne (pc := 14) 19 dX12_men_14 (by decide) (fun _ => ?_) (fun _ => ?_)
    ·
      refine x_aload_n (pc := 19) 0 dX12_men_19 rfl rfl ?_
      refine x_getF (pc := 20) (j := 0) fd_12_45 rfl rfl tk_1240 dX12_men_20 ?_
      refine x_iload_n (pc := 23) 1 dX12_men_23 rfl rfl ?_
      refine x_iald (pc := 24) ar_1345 dX12_men_24 (fun m3 => ?_)
      refine x_nameI (fun x4 => ?_)
      refine x_istore_n (pc := 25) (als' := [(3, aI x4), (0, aR 12 (some 0)), (1, aI v1), (2, aI v2)]) 3 dX12_men_25 rfl (by decide) rfl ?_
      refine x_aload_n (pc := 26) 0 dX12_men_26 rfl rfl ?_
      refine x_getF (pc := 27) (j := 0) fd_12_45 rfl rfl tk_1240 dX12_men_27 ?_
      refine x_iload_n (pc := 30) 1 dX12_men_30 rfl rfl ?_
      refine x_iload_n (pc := 31) 2 dX12_men_31 rfl rfl ?_
      refine x_iast (pc := 32) ar_1345 dX12_men_32 (fun m5 => ?_)
      refine x_nameS (fun s6 => ?_)
      refine x_iload_n (pc := 33) 3 dX12_men_33 rfl rfl ?_
      exact x_iret (rm := r12_men) rfl rfl dX12_men_34
    ·
      refine x_iconst (pc := 17) (-1) dX12_men_17 rfl ?_
      exact x_iret (rm := r12_men) rfl rfl dX12_men_18
theorem c_12_men (l : Launch)  (v1 : Int32) (v2 : Int32) (σ : zSt) : zMet l yX12_men cX12_men 4 (some .int) r12_men true eI [aR 12 (some 0), aI v1, aI v2] σ (f12_men v1 v2 σ) :=
  zMet_of [(0, aR 12 (some 0)), (1, aI v1), (2, aI v2)] (by decide +kernel) (fun h => by cases h) (Nat.le_of_ble_eq_true rfl) rfl fun E _ => x12_men E  v1 v2 σ
abbrev r12_job : Room := { frames := 1, cells := 0, slots := 0, locals := 21 }
abbrev m12_job : zMu := (RX12, 4, (some .int), r12_job, false)
set_option maxRecDepth 20000 in
theorem xl12_job_27 (E : zEn)   (h1 : Int32) (σ : zSt) {K61 : Int32 → Option (Int32 × zSt)} (hK61 : ∀ (v2 : Int32), X E cX12_job m12_job true (zQw E true eI r12_job) 0 0 σ [(0, aR 12 (some 0)), (1, aI h1), (2, aI v2)] 61 [] (K61 v2)) : ∀ (n : Nat) (v2 : Int32) (v3 : Int32), X E cX12_job m12_job true (zQw E true eI r12_job) 0 0 σ [(0, aR 12 (some 0)), (1, aI h1), (2, aI v2), (3, aI v3)] 27 [] (f12_job_L27 h1 σ K61 n v2 v3) := by
  intro n
  induction n with
  | zero => intros; exact x_none
  | succ n ih =>
    intro v2 v3
    rw [f12_job_L27]
    refine x_iload_n (pc := 27) 3 dX12_job_27 rfl rfl ?_
    refine x_aload_n (pc := 28) 0 dX12_job_28 rfl rfl ?_
    refine x_getI (pc := 29) fd_12_47 tk_1242 dX12_job_29 ?_
    refine x_icmp_ge (pc := 32) 61 dX12_job_32 (by decide) (fun _ => ?_) (fun _ => ?_)
    ·
      exact x_sub [0, 1, 2] rfl (hK61 v2)
    ·
      refine x_iload_n (pc := 35) 2 dX12_job_35 rfl rfl ?_
      refine x_join (P := fun (j9 : Int32 → Option (Int32 × zSt)) => ∀ (a8 : Int32), X E cX12_job m12_job true (zQw E true eI r12_job) 0 0 σ [(0, aR 12 (some 0)), (1, aI h1), (3, aI v3)] 54 [aI a8] (j9 a8)) ?_ ?_
      · intro a8
        refine x_istore_n (pc := 54) (als' := [(2, aI a8), (0, aR 12 (some 0)), (1, aI h1), (3, aI v3)]) 2 dX12_job_54 rfl (by decide) rfl ?_
        refine x_iinc (pc := 55) (als' := [(3, aI (v3 + 1)), (2, aI a8), (0, aR 12 (some 0)), (1, aI h1)]) 3 3 (c := 1) dX12_job_55 rfl rfl (by decide) rfl ?_
        refine x_nameV (g := fun y12 => [(3, aI y12), (2, aI a8), (0, aR 12 (some 0)), (1, aI h1)]) (fun x11 => ?_) rfl
        refine x_goto (pc := 58) 27 dX12_job_58 (by decide) ?_
        exact x_sub [2, 3, 1, 0] rfl (ih a8 x11)
      · intro j9 hj10
        refine x_join (P := fun (j13 : Option (Int32 × zSt)) => X E cX12_job m12_job true (zQw E true eI r12_job) 0 0 σ [(0, aR 12 (some 0)), (1, aI h1), (3, aI v3)] 49 [] j13) ?_ ?_
        ·
          refine x_iconst (pc := 49) 1 dX12_job_49 rfl ?_
          refine x_goto (pc := 50) 54 dX12_job_50 (by decide) ?_
          exact hj10 1
        · intro j13 hj14
          refine x_if_ne (pc := 36) 49 dX12_job_36 (by decide) (fun _ => ?_) (fun _ => ?_)
          ·
            exact x_sub [0, 1, 3] rfl (hj14)
          ·
            refine x_aload_n (pc := 39) 0 dX12_job_39 rfl rfl ?_
            refine x_getF (pc := 40) (j := 0) fd_12_46 rfl rfl tk_1241 dX12_job_40 ?_
            refine x_iload_n (pc := 43) 3 dX12_job_43 rfl rfl ?_
            refine x_iald (pc := 44) ar_1346 dX12_job_44 (fun m15 => ?_)
            refine x_iload_n (pc := 45) 1 dX12_job_45 rfl rfl ?_
            refine x_icmp_ne (pc := 46) 53 dX12_job_46 (by decide) (fun _ => ?_) (fun _ => ?_)
            ·
              refine x_iconst (pc := 53) 0 dX12_job_53 rfl ?_
              exact x_sub [0, 1, 3] rfl (hj10 0)
            ·
              exact x_sub [0, 1, 3] rfl (hj14)
set_option maxRecDepth 20000 in
theorem x12_job (E : zEn)  (v1 : Int32) (σ : zSt) : X E cX12_job m12_job true (zQw E true eI r12_job) 0 0 σ [(0, aR 12 (some 0)), (1, aI v1)] 0 [] (f12_job v1 σ) := by
  unfold f12_job
  refine x_aload_n (pc := 0) 0 dX12_job_0 rfl rfl ?_
  refine x_iload_n (pc := 1) 1 dX12_job_1 rfl rfl ?_
  refine x_callVr (pc := 2) (as := [aI v1]) (rest := []) (fun l => c_12_isFault l true v1 σ) md_X12_isFault ⟨_, _, rfl, by decide⟩ tk_1532 tp_63 tk_1530 dX12_job_2 rfl ⟨by decide, by decide, by decide, by decide⟩ ⟨fun _ => rfl, fun _ => Or.inl rfl⟩ rfl (Nat.le_of_ble_eq_true rfl) (fun r1 => ?_)
  show X E _ _ _ _ 0 0 _ _ _ [aI r1] _
  refine x_if_ne (pc := 5) 10 dX12_job_5 (by decide) (fun _ => ?_) (fun _ => ?_)
  ·
    refine x_aload_n (pc := 10) 0 dX12_job_10 rfl rfl ?_
    refine x_iload_n (pc := 11) 1 dX12_job_11 rfl rfl ?_
    refine x_callVr (pc := 12) (as := [aI v1]) (rest := []) (fun l => c_12_stateNow l v1 σ) md_X12_stateNow ⟨_, _, rfl, by decide⟩ tk_1520 tp_61 tk_1518 dX12_job_12 rfl ⟨by decide, by decide, by decide, by decide⟩ ⟨fun _ => rfl, fun _ => Or.inl rfl⟩ rfl (Nat.le_of_ble_eq_true rfl) (fun r2 => ?_)
    show X E _ _ _ _ 0 0 _ _ _ [aI r2] _
    refine x_iconst (pc := 15) 1 dX12_job_15 rfl ?_
    refine x_mg (c := r2 = 1) (a := 0) (b := 1) 24 [] ?_ (fun hm3 => ?_)
    ·
      refine x_nameI (fun x7 => ?_)
      refine x_istore_n (pc := 24) (als' := [(2, aI x7), (0, aR 12 (some 0)), (1, aI v1)]) 2 dX12_job_24 rfl (by decide) rfl ?_
      refine x_iconst (pc := 25) 0 dX12_job_25 rfl ?_
      refine x_istore_n (pc := 26) (als' := [(3, aI 0), (2, aI x7), (0, aR 12 (some 0)), (1, aI v1)]) 3 dX12_job_26 rfl (by decide) rfl ?_
      refine x_sub [2, 3, 1, 0] rfl (xl12_job_27 E v1 σ (fun a16 => ?_) zfuel x7 0)
      ·
        refine x_iload_n (pc := 61) 2 dX12_job_61 rfl rfl ?_
        refine x_if_eq (pc := 62) 68 dX12_job_62 (by decide) (fun _ => ?_) (fun _ => ?_)
        ·
          refine x_aload_n (pc := 68) 0 dX12_job_68 rfl rfl ?_
          refine x_getI (pc := 69) fd_12_47 tk_1242 dX12_job_69 ?_
          refine x_bipush (pc := 72) 7 dX12_job_72 rfl ?_
          refine x_icmp_ne (pc := 74) 80 dX12_job_74 (by decide) (fun _ => ?_) (fun _ => ?_)
          ·
            refine x_aload_n (pc := 80) 0 dX12_job_80 rfl rfl ?_
            refine x_getF (pc := 81) (j := 0) fd_12_46 rfl rfl tk_1241 dX12_job_81 ?_
            refine x_aload_n (pc := 84) 0 dX12_job_84 rfl rfl ?_
            refine x_getI (pc := 85) fd_12_47 tk_1242 dX12_job_85 ?_
            refine x_iload_n (pc := 88) 1 dX12_job_88 rfl rfl ?_
            refine x_iast (pc := 89) ar_1346 dX12_job_89 (fun m17 => ?_)
            refine x_nameS (fun s18 => ?_)
            refine x_aload_n (pc := 90) 0 dX12_job_90 rfl rfl ?_
            refine x_dup (pc := 91) dX12_job_91 rfl ?_
            refine x_getI (pc := 92) fd_12_47 tk_1242 dX12_job_92 ?_
            refine x_iconst (pc := 95) 1 dX12_job_95 rfl ?_
            refine x_iadd (pc := 96) dX12_job_96 ?_
            refine x_putI (pc := 97) fd_12_47 pt_12_47 tk_1242 dX12_job_97 (Or.inl rfl) ?_
            refine x_nameS (fun s19 => ?_)
            refine x_aload_n (pc := 100) 0 dX12_job_100 rfl rfl ?_
            refine x_getI (pc := 101) fd_12_47 tk_1242 dX12_job_101 ?_
            exact x_iret (rm := r12_job) rfl rfl dX12_job_104
          ·
            refine x_bipush (pc := 77) (-2) dX12_job_77 rfl ?_
            exact x_iret (rm := r12_job) rfl rfl dX12_job_79
        ·
          refine x_bipush (pc := 65) (-3) dX12_job_65 rfl ?_
          exact x_iret (rm := r12_job) rfl rfl dX12_job_67
    ·
      refine x_same (c := r2 = 1) ?_
      refine x_icmp_eq (pc := 16) 23 dX12_job_16 (by decide) (fun hc4 => ?_) (fun hc4 => ?_)
      ·
        have hm5 := x_topT hc4 hm3
        refine x_iconst (pc := 23) 0 dX12_job_23 rfl ?_
        exact hm5
      ·
        have hm6 := x_topF hc4 hm3
        refine x_iconst (pc := 19) 1 dX12_job_19 rfl ?_
        refine x_goto (pc := 20) 24 dX12_job_20 (by decide) ?_
        exact hm6
  ·
    refine x_iconst (pc := 8) (-1) dX12_job_8 rfl ?_
    exact x_iret (rm := r12_job) rfl rfl dX12_job_9
theorem c_12_job (l : Launch)  (v1 : Int32) (σ : zSt) : zMet l yX12_job cX12_job 4 (some .int) r12_job true eI [aR 12 (some 0), aI v1] σ (f12_job v1 σ) :=
  zMet_of [(0, aR 12 (some 0)), (1, aI v1)] (by decide +kernel) (fun h => by cases h) (Nat.le_of_ble_eq_true rfl) rfl fun E _ => x12_job E  v1 σ
abbrev r12_mayBe : Room := { frames := 0, cells := 0, slots := 0, locals := 0 }
abbrev m12_mayBe : zMu := (RX12, 3, (some .boolean), r12_mayBe, false)
set_option maxRecDepth 20000 in
theorem x12_mayBe (E : zEn)  (v1 : Int32) (v2 : Int32) (σ : zSt) : X E cX12_mayBe m12_mayBe true (zQr E true eI r12_mayBe σ) 0 0 σ [(0, aR 12 (some 0)), (1, aI v1), (2, aI v2)] 0 [] (f12_mayBe v1 v2 σ) := by
  unfold f12_mayBe
  refine x_aload_n (pc := 0) 0 dX12_mayBe_0 rfl rfl ?_
  refine x_getF (pc := 1) (j := 0) fd_12_8 rfl rfl tk_1203 dX12_mayBe_1 ?_
  refine x_aload_n (pc := 4) 0 dX12_mayBe_4 rfl rfl ?_
  refine x_getF (pc := 5) (j := 0) fd_12_18 rfl rfl tk_1213 dX12_mayBe_5 ?_
  refine x_iload_n (pc := 8) 1 dX12_mayBe_8 rfl rfl ?_
  refine x_iald (pc := 9) ar_1318 dX12_mayBe_9 (fun m1 => ?_)
  refine x_iald (pc := 10) ar_1308 dX12_mayBe_10 (fun m2 => ?_)
  refine x_iload_n (pc := 11) 2 dX12_mayBe_11 rfl rfl ?_
  refine x_bipush (pc := 12) 7 dX12_mayBe_12 rfl ?_
  refine x_iremC (pc := 14) dX12_mayBe_14 (by decide) ?_
  refine x_ishr (pc := 15) dX12_mayBe_15 ?_
  refine x_iconst (pc := 16) 1 dX12_mayBe_16 rfl ?_
  refine x_iand (pc := 17) dX12_mayBe_17 ?_
  refine x_iconst (pc := 18) 1 dX12_mayBe_18 rfl ?_
  refine x_join (P := fun (j3 : Option Int32) => X E cX12_mayBe m12_mayBe true (zQr E true eI r12_mayBe σ) 0 0 σ [] 45 [] j3) ?_ ?_
  ·
    refine x_iconst (pc := 45) 0 dX12_mayBe_45 rfl ?_
    exact x_zretC (rm := r12_mayBe) rfl rfl (by decide) dX12_mayBe_46
  · intro j3 hj4
    refine x_icmp_ne (pc := 19) 45 dX12_mayBe_19 (by decide) (fun _ => ?_) (fun _ => ?_)
    ·
      exact x_sub [] rfl (hj4)
    ·
      refine x_aload_n (pc := 22) 0 dX12_mayBe_22 rfl rfl ?_
      refine x_getF (pc := 23) (j := 0) fd_12_45 rfl rfl tk_1240 dX12_mayBe_23 ?_
      refine x_aload_n (pc := 26) 0 dX12_mayBe_26 rfl rfl ?_
      refine x_getF (pc := 27) (j := 0) fd_12_14 rfl rfl tk_1209 dX12_mayBe_27 ?_
      refine x_aload_n (pc := 30) 0 dX12_mayBe_30 rfl rfl ?_
      refine x_getF (pc := 31) (j := 0) fd_12_20 rfl rfl tk_1215 dX12_mayBe_31 ?_
      refine x_iload_n (pc := 34) 1 dX12_mayBe_34 rfl rfl ?_
      refine x_iald (pc := 35) ar_1320 dX12_mayBe_35 (fun m5 => ?_)
      refine x_iald (pc := 36) ar_1314 dX12_mayBe_36 (fun m6 => ?_)
      refine x_iald (pc := 37) ar_1345 dX12_mayBe_37 (fun m7 => ?_)
      refine x_if_le (pc := 38) 45 dX12_mayBe_38 (by decide) (fun _ => ?_) (fun _ => ?_)
      ·
        exact x_sub [] rfl (hj4)
      ·
        refine x_iconst (pc := 41) 1 dX12_mayBe_41 rfl ?_
        refine x_goto (pc := 42) 46 dX12_mayBe_42 (by decide) ?_
        exact x_zretC (rm := r12_mayBe) rfl rfl (by decide) dX12_mayBe_46
theorem c_12_mayBe (l : Launch)  (v1 : Int32) (v2 : Int32) (σ : zSt) : zMet l yX12_mayBe cX12_mayBe 3 (some .boolean) r12_mayBe true eI [aR 12 (some 0), aI v1, aI v2] σ (zro (f12_mayBe v1 v2 σ) σ) :=
  zMet_ofR [(0, aR 12 (some 0)), (1, aI v1), (2, aI v2)] (by decide +kernel) (fun h => by cases h) (Nat.le_of_ble_eq_true rfl) rfl fun E _ => x12_mayBe E  v1 v2 σ
abbrev r12_lastDay : Room := { frames := 0, cells := 0, slots := 0, locals := 0 }
abbrev m12_lastDay : zMu := (RX12, 1, (some .int), r12_lastDay, false)
set_option maxRecDepth 20000 in
theorem x12_lastDay (E : zEn)  (q : Bool)  (σ : zSt) : X E cX12_lastDay m12_lastDay q (zQr E q eI r12_lastDay σ) 0 0 σ [(0, aR 12 (some 0))] 0 [] (f12_lastDay σ) := by
  unfold f12_lastDay
  refine x_aload_n (pc := 0) 0 dX12_lastDay_0 rfl rfl ?_
  refine x_getI (pc := 1) fd_12_0 tk_1195 dX12_lastDay_1 ?_
  refine x_aload_n (pc := 4) 0 dX12_lastDay_4 rfl rfl ?_
  refine x_getI (pc := 5) fd_12_59 tk_1254 dX12_lastDay_5 ?_
  refine x_iadd (pc := 8) dX12_lastDay_8 ?_
  refine x_iconst (pc := 9) 1 dX12_lastDay_9 rfl ?_
  refine x_isub (pc := 10) dX12_lastDay_10 ?_
  refine x_sipush (pc := 11) 9999 dX12_lastDay_11 rfl ?_
  refine x_icmp_ge (pc := 14) 31 dX12_lastDay_14 (by decide) (fun _ => ?_) (fun _ => ?_)
  ·
    refine x_sipush (pc := 31) 9999 dX12_lastDay_31 rfl ?_
    exact x_iret (rm := r12_lastDay) rfl rfl dX12_lastDay_34
  ·
    refine x_aload_n (pc := 17) 0 dX12_lastDay_17 rfl rfl ?_
    refine x_getI (pc := 18) fd_12_0 tk_1195 dX12_lastDay_18 ?_
    refine x_aload_n (pc := 21) 0 dX12_lastDay_21 rfl rfl ?_
    refine x_getI (pc := 22) fd_12_59 tk_1254 dX12_lastDay_22 ?_
    refine x_iadd (pc := 25) dX12_lastDay_25 ?_
    refine x_iconst (pc := 26) 1 dX12_lastDay_26 rfl ?_
    refine x_isub (pc := 27) dX12_lastDay_27 ?_
    refine x_goto (pc := 28) 34 dX12_lastDay_28 (by decide) ?_
    exact x_iret (rm := r12_lastDay) rfl rfl dX12_lastDay_34
theorem c_12_lastDay (l : Launch)  (q : Bool)  (σ : zSt) : zMet l yX12_lastDay cX12_lastDay 1 (some .int) r12_lastDay q eI [aR 12 (some 0)] σ (zro (f12_lastDay σ) σ) :=
  zMet_ofR [(0, aR 12 (some 0))] (by decide +kernel) (fun h => by cases h) (Nat.le_of_ble_eq_true rfl) rfl fun E _ => x12_lastDay E  q  σ
abbrev r12_firstDay : Room := { frames := 1, cells := 0, slots := 0, locals := 22 }
abbrev m12_firstDay : zMu := (RX12, 4, (some .int), r12_firstDay, false)
set_option maxRecDepth 20000 in
theorem xl12_firstDay_7 (E : zEn)   (h1 : Int32) (σ : zSt)   : ∀ (n : Nat) (v2 : Int32) (v3 : Int32), X E cX12_firstDay m12_firstDay true (zQr E true eI r12_firstDay σ) 0 0 σ [(0, aR 12 (some 0)), (1, aI h1), (2, aI v2), (3, aI v3)] 7 [] (f12_firstDay_L7 h1 σ n v2 v3) := by
  intro n
  induction n with
  | zero => intros; exact x_none
  | succ n ih =>
    intro v2 v3
    rw [f12_firstDay_L7]
    refine x_iload_n (pc := 7) 3 dX12_firstDay_7 rfl rfl ?_
    refine x_aload_n (pc := 8) 0 dX12_firstDay_8 rfl rfl ?_
    refine x_getI (pc := 9) fd_12_0 tk_1195 dX12_firstDay_9 ?_
    refine x_icmp_lt (pc := 12) 36 dX12_firstDay_12 (by decide) (fun _ => ?_) (fun _ => ?_)
    ·
      refine x_iload_n (pc := 36) 2 dX12_firstDay_36 rfl rfl ?_
      exact x_iret (rm := r12_firstDay) rfl rfl dX12_firstDay_37
    ·
      refine x_aload_n (pc := 15) 0 dX12_firstDay_15 rfl rfl ?_
      refine x_iload_n (pc := 16) 1 dX12_firstDay_16 rfl rfl ?_
      refine x_iload_n (pc := 17) 3 dX12_firstDay_17 rfl rfl ?_
      refine x_callVr (pc := 18) (as := [aI h1, aI v3]) (rest := []) (fun l => c_12_mayBe l h1 v3 σ) md_X12_mayBe ⟨_, _, rfl, by decide⟩ tk_1706 tp_84 tk_1704 dX12_firstDay_18 rfl ⟨by decide, by decide, by decide, by decide⟩ ⟨fun _ => rfl, fun _ => Or.inl rfl⟩ rfl (Nat.le_of_ble_eq_true rfl) (fun r2 => ?_)
      show X E _ _ _ _ 0 0 _ _ _ [aI r2] _
      refine x_mg (c := r2 = 0) (a := v2) (b := v3) 29 [] ?_ (fun hm3 => ?_)
      ·
        refine x_nameI (fun x7 => ?_)
        refine x_istore_n (pc := 29) (als' := [(2, aI x7), (0, aR 12 (some 0)), (1, aI h1), (3, aI v3)]) 2 dX12_firstDay_29 rfl (by decide) rfl ?_
        refine x_iinc (pc := 30) (als' := [(3, aI (v3 + (-1))), (2, aI x7), (0, aR 12 (some 0)), (1, aI h1)]) 3 3 (c := (-1)) dX12_firstDay_30 rfl rfl (by decide) rfl ?_
        refine x_nameV (g := fun y9 => [(3, aI y9), (2, aI x7), (0, aR 12 (some 0)), (1, aI h1)]) (fun x8 => ?_) rfl
        refine x_goto (pc := 33) 7 dX12_firstDay_33 (by decide) ?_
        exact x_sub [2, 3, 1, 0] rfl (ih x7 x8)
      ·
        refine x_same (c := r2 = 0) ?_
        refine x_if_eq (pc := 21) 28 dX12_firstDay_21 (by decide) (fun hc4 => ?_) (fun hc4 => ?_)
        ·
          have hm5 := x_topT hc4 hm3
          refine x_iload_n (pc := 28) 2 dX12_firstDay_28 rfl rfl ?_
          exact hm5
        ·
          have hm6 := x_topF hc4 hm3
          refine x_iload_n (pc := 24) 3 dX12_firstDay_24 rfl rfl ?_
          refine x_goto (pc := 25) 29 dX12_firstDay_25 (by decide) ?_
          exact hm6
set_option maxRecDepth 20000 in
theorem x12_firstDay (E : zEn)  (v1 : Int32) (σ : zSt) : X E cX12_firstDay m12_firstDay true (zQr E true eI r12_firstDay σ) 0 0 σ [(0, aR 12 (some 0)), (1, aI v1)] 0 [] (f12_firstDay v1 σ) := by
  unfold f12_firstDay
  refine x_iconst (pc := 0) (-1) dX12_firstDay_0 rfl ?_
  refine x_istore_n (pc := 1) (als' := [(2, aI (-1)), (0, aR 12 (some 0)), (1, aI v1)]) 2 dX12_firstDay_1 rfl (by decide) rfl ?_
  refine x_aload_n (pc := 2) 0 dX12_firstDay_2 rfl rfl ?_
  refine x_callVr (pc := 3) (as := []) (rest := []) (fun l => c_12_lastDay l true σ) md_X12_lastDay ⟨_, _, rfl, by decide⟩ tk_1702 tp_83 tk_1700 dX12_firstDay_3 rfl ⟨by decide, by decide, by decide, by decide⟩ ⟨fun _ => rfl, fun _ => Or.inl rfl⟩ rfl (Nat.le_of_ble_eq_true rfl) (fun r1 => ?_)
  show X E _ _ _ _ 0 0 _ _ _ [aI r1] _
  refine x_istore_n (pc := 6) (als' := [(3, aI r1), (2, aI (-1)), (0, aR 12 (some 0)), (1, aI v1)]) 3 dX12_firstDay_6 rfl (by decide) rfl ?_
  refine x_sub [2, 3, 1, 0] rfl (xl12_firstDay_7 E v1 σ zfuel (-1) r1)
theorem c_12_firstDay (l : Launch)  (v1 : Int32) (σ : zSt) : zMet l yX12_firstDay cX12_firstDay 4 (some .int) r12_firstDay true eI [aR 12 (some 0), aI v1] σ (zro (f12_firstDay v1 σ) σ) :=
  zMet_ofR [(0, aR 12 (some 0)), (1, aI v1)] (by decide +kernel) (fun h => by cases h) (Nat.le_of_ble_eq_true rfl) rfl fun E _ => x12_firstDay E  v1 σ
abbrev r12_busy : Room := { frames := 0, cells := 0, slots := 0, locals := 0 }
abbrev m12_busy : zMu := (RX12, 6, (some .int), r12_busy, false)
set_option maxRecDepth 20000 in
theorem xl12_busy_6 (E : zEn)   (h1 : Int32) (h2 : Int32) (h3 : Int32) (σ : zSt)   : ∀ (n : Nat) (v4 : Int32) (v5 : Int32), X E cX12_busy m12_busy true (zQr E true eI r12_busy σ) 0 0 σ [(0, aR 12 (some 0)), (1, aI h1), (2, aI h2), (3, aI h3), (4, aI v4), (5, aI v5)] 6 [] (f12_busy_L6 h1 h2 h3 σ n v4 v5) := by
  intro n
  induction n with
  | zero => intros; exact x_none
  | succ n ih =>
    intro v4 v5
    rw [f12_busy_L6]
    refine x_iload (pc := 6) 5 dX12_busy_6 rfl ?_
    refine x_iload_n (pc := 8) 3 dX12_busy_8 rfl rfl ?_
    refine x_icmp_ge (pc := 9) 60 dX12_busy_9 (by decide) (fun _ => ?_) (fun _ => ?_)
    ·
      refine x_iload (pc := 60) 4 dX12_busy_60 rfl ?_
      exact x_iret (rm := r12_busy) rfl rfl dX12_busy_62
    ·
      refine x_iload (pc := 12) 4 dX12_busy_12 rfl ?_
      refine x_aload_n (pc := 14) 0 dX12_busy_14 rfl rfl ?_
      refine x_getF (pc := 15) (j := 0) fd_12_60 rfl rfl tk_1255 dX12_busy_15 ?_
      refine x_iload (pc := 18) 5 dX12_busy_18 rfl ?_
      refine x_iald (pc := 20) ar_1360 dX12_busy_20 (fun m1 => ?_)
      refine x_iload_n (pc := 21) 2 dX12_busy_21 rfl rfl ?_
      refine x_join (P := fun (j3 : Int32 → Option Int32) => ∀ (a2 : Int32), X E cX12_busy m12_busy true (zQr E true eI r12_busy σ) 0 0 σ [(0, aR 12 (some 0)), (1, aI h1), (2, aI h2), (3, aI h3), (5, aI v5)] 51 [aI a2, aI v4] (j3 a2)) ?_ ?_
      · intro a2
        refine x_iadd (pc := 51) dX12_busy_51 ?_
        refine x_nameI (fun x5 => ?_)
        refine x_istore (pc := 52) (als' := [(4, aI x5), (0, aR 12 (some 0)), (1, aI h1), (2, aI h2), (3, aI h3), (5, aI v5)]) 4 dX12_busy_52 (by decide) rfl ?_
        refine x_iinc (pc := 54) (als' := [(5, aI (v5 + 1)), (4, aI x5), (0, aR 12 (some 0)), (1, aI h1), (2, aI h2), (3, aI h3)]) 5 5 (c := 1) dX12_busy_54 rfl rfl (by decide) rfl ?_
        refine x_nameV (g := fun y7 => [(5, aI y7), (4, aI x5), (0, aR 12 (some 0)), (1, aI h1), (2, aI h2), (3, aI h3)]) (fun x6 => ?_) rfl
        refine x_goto (pc := 57) 6 dX12_busy_57 (by decide) ?_
        exact x_sub [2, 3, 4, 5, 1, 0] rfl (ih x5 x6)
      · intro j3 hj4
        refine x_join (P := fun (j8 : Option Int32) => X E cX12_busy m12_busy true (zQr E true eI r12_busy σ) 0 0 σ [(0, aR 12 (some 0)), (1, aI h1), (2, aI h2), (3, aI h3), (5, aI v5)] 50 [aI v4] j8) ?_ ?_
        ·
          refine x_iconst (pc := 50) 0 dX12_busy_50 rfl ?_
          exact hj4 0
        · intro j8 hj9
          refine x_icmp_ne (pc := 22) 50 dX12_busy_22 (by decide) (fun _ => ?_) (fun _ => ?_)
          ·
            exact x_sub [0, 1, 2, 3, 5] rfl (hj9)
          ·
            refine x_aload_n (pc := 25) 0 dX12_busy_25 rfl rfl ?_
            refine x_getF (pc := 26) (j := 0) fd_12_14 rfl rfl tk_1209 dX12_busy_26 ?_
            refine x_aload_n (pc := 29) 0 dX12_busy_29 rfl rfl ?_
            refine x_getF (pc := 30) (j := 0) fd_12_20 rfl rfl tk_1215 dX12_busy_30 ?_
            refine x_aload_n (pc := 33) 0 dX12_busy_33 rfl rfl ?_
            refine x_getF (pc := 34) (j := 0) fd_12_46 rfl rfl tk_1241 dX12_busy_34 ?_
            refine x_iload (pc := 37) 5 dX12_busy_37 rfl ?_
            refine x_iald (pc := 39) ar_1346 dX12_busy_39 (fun m10 => ?_)
            refine x_iald (pc := 40) ar_1320 dX12_busy_40 (fun m11 => ?_)
            refine x_iald (pc := 41) ar_1314 dX12_busy_41 (fun m12 => ?_)
            refine x_iload_n (pc := 42) 1 dX12_busy_42 rfl rfl ?_
            refine x_icmp_ne (pc := 43) 50 dX12_busy_43 (by decide) (fun _ => ?_) (fun _ => ?_)
            ·
              exact x_sub [0, 1, 2, 3, 5] rfl (hj9)
            ·
              refine x_iconst (pc := 46) 1 dX12_busy_46 rfl ?_
              refine x_goto (pc := 47) 51 dX12_busy_47 (by decide) ?_
              exact x_sub [0, 1, 2, 3, 5] rfl (hj4 1)
set_option maxRecDepth 20000 in
theorem x12_busy (E : zEn)  (v1 : Int32) (v2 : Int32) (v3 : Int32) (σ : zSt) : X E cX12_busy m12_busy true (zQr E true eI r12_busy σ) 0 0 σ [(0, aR 12 (some 0)), (1, aI v1), (2, aI v2), (3, aI v3)] 0 [] (f12_busy v1 v2 v3 σ) := by
  unfold f12_busy
  refine x_iconst (pc := 0) 0 dX12_busy_0 rfl ?_
  refine x_istore (pc := 1) (als' := [(4, aI 0), (0, aR 12 (some 0)), (1, aI v1), (2, aI v2), (3, aI v3)]) 4 dX12_busy_1 (by decide) rfl ?_
  refine x_iconst (pc := 3) 0 dX12_busy_3 rfl ?_
  refine x_istore (pc := 4) (als' := [(5, aI 0), (4, aI 0), (0, aR 12 (some 0)), (1, aI v1), (2, aI v2), (3, aI v3)]) 5 dX12_busy_4 (by decide) rfl ?_
  refine x_sub [2, 3, 4, 5, 1, 0] rfl (xl12_busy_6 E v1 v2 v3 σ zfuel 0 0)
theorem c_12_busy (l : Launch)  (v1 : Int32) (v2 : Int32) (v3 : Int32) (σ : zSt) : zMet l yX12_busy cX12_busy 6 (some .int) r12_busy true eI [aR 12 (some 0), aI v1, aI v2, aI v3] σ (zro (f12_busy v1 v2 v3 σ) σ) :=
  zMet_ofR [(0, aR 12 (some 0)), (1, aI v1), (2, aI v2), (3, aI v3)] (by decide +kernel) (fun h => by cases h) (Nat.le_of_ble_eq_true rfl) rfl fun E _ => x12_busy E  v1 v2 v3 σ
abbrev r12_isLess : Room := { frames := 0, cells := 0, slots := 0, locals := 0 }
abbrev m12_isLess : zMu := (RX12, 4, (some .boolean), r12_isLess, false)
set_option maxRecDepth 20000 in
theorem x12_isLess (E : zEn)  (q : Bool) (v1 : Int32) (v2 : Int32) (v3 : Int32) (σ : zSt) : X E cX12_isLess m12_isLess q (zQr E q eI r12_isLess σ) 0 0 σ [(0, aR 12 (some 0)), (1, aI v1), (2, aI v2), (3, aI v3)] 0 [] (f12_isLess v1 v2 v3 σ) := by
  unfold f12_isLess
  refine x_aload_n (pc := 0) 0 dX12_isLess_0 rfl rfl ?_
  refine x_getI (pc := 1) fd_12_63 tk_1258 dX12_isLess_1 ?_
  refine x_join (P := fun (j1 : Option Int32) => X E cX12_isLess m12_isLess q (zQr E q eI r12_isLess σ) 0 0 σ [] 47 [] j1) ?_ ?_
  ·
    refine x_iconst (pc := 47) 1 dX12_isLess_47 rfl ?_
    refine x_goto (pc := 48) 52 dX12_isLess_48 (by decide) ?_
    exact x_zretC (rm := r12_isLess) rfl rfl (by decide) dX12_isLess_52
  · intro j1 hj2
    refine x_if_lt (pc := 4) 47 dX12_isLess_4 (by decide) (fun _ => ?_) (fun _ => ?_)
    ·
      exact x_sub [] rfl (hj2)
    ·
      refine x_iload_n (pc := 7) 1 dX12_isLess_7 rfl rfl ?_
      refine x_aload_n (pc := 8) 0 dX12_isLess_8 rfl rfl ?_
      refine x_getI (pc := 9) fd_12_63 tk_1258 dX12_isLess_9 ?_
      refine x_icmp_lt (pc := 12) 47 dX12_isLess_12 (by decide) (fun _ => ?_) (fun _ => ?_)
      ·
        exact x_sub [] rfl (hj2)
      ·
        refine x_iload_n (pc := 15) 1 dX12_isLess_15 rfl rfl ?_
        refine x_aload_n (pc := 16) 0 dX12_isLess_16 rfl rfl ?_
        refine x_getI (pc := 17) fd_12_63 tk_1258 dX12_isLess_17 ?_
        refine x_join (P := fun (j3 : Option Int32) => X E cX12_isLess m12_isLess q (zQr E q eI r12_isLess σ) 0 0 σ [] 51 [] j3) ?_ ?_
        ·
          refine x_iconst (pc := 51) 0 dX12_isLess_51 rfl ?_
          exact x_zretC (rm := r12_isLess) rfl rfl (by decide) dX12_isLess_52
        · intro j3 hj4
          refine x_icmp_ne (pc := 20) 51 dX12_isLess_20 (by decide) (fun _ => ?_) (fun _ => ?_)
          ·
            exact x_sub [] rfl (hj4)
          ·
            refine x_iload_n (pc := 23) 2 dX12_isLess_23 rfl rfl ?_
            refine x_aload_n (pc := 24) 0 dX12_isLess_24 rfl rfl ?_
            refine x_getI (pc := 25) fd_12_64 tk_1259 dX12_isLess_25 ?_
            refine x_icmp_lt (pc := 28) 47 dX12_isLess_28 (by decide) (fun _ => ?_) (fun _ => ?_)
            ·
              exact x_sub [] rfl (hj2)
            ·
              refine x_iload_n (pc := 31) 2 dX12_isLess_31 rfl rfl ?_
              refine x_aload_n (pc := 32) 0 dX12_isLess_32 rfl rfl ?_
              refine x_getI (pc := 33) fd_12_64 tk_1259 dX12_isLess_33 ?_
              refine x_icmp_ne (pc := 36) 51 dX12_isLess_36 (by decide) (fun _ => ?_) (fun _ => ?_)
              ·
                exact x_sub [] rfl (hj4)
              ·
                refine x_iload_n (pc := 39) 3 dX12_isLess_39 rfl rfl ?_
                refine x_aload_n (pc := 40) 0 dX12_isLess_40 rfl rfl ?_
                refine x_getI (pc := 41) fd_12_65 tk_1260 dX12_isLess_41 ?_
                refine x_icmp_ge (pc := 44) 51 dX12_isLess_44 (by decide) (fun _ => ?_) (fun _ => ?_)
                ·
                  exact x_sub [] rfl (hj4)
                ·
                  exact x_sub [] rfl (hj2)
theorem c_12_isLess (l : Launch)  (q : Bool) (v1 : Int32) (v2 : Int32) (v3 : Int32) (σ : zSt) : zMet l yX12_isLess cX12_isLess 4 (some .boolean) r12_isLess q eI [aR 12 (some 0), aI v1, aI v2, aI v3] σ (zro (f12_isLess v1 v2 v3 σ) σ) :=
  zMet_ofR [(0, aR 12 (some 0)), (1, aI v1), (2, aI v2), (3, aI v3)] (by decide +kernel) (fun h => by cases h) (Nat.le_of_ble_eq_true rfl) rfl fun E _ => x12_isLess E  q v1 v2 v3 σ
set_option maxRecDepth 20000 in
theorem xl12_go_13 (E : zEn) (fr lo fr2 lo2 : Nat) (hfr : 2 ≤ fr ∧ 45 ≤ lo) (go : Int32 → Int32 → Int32 → Int32 → zSt → Option (Unit × zSt)) (hgo : ∀ (l : Launch) (w0 : Int32) (w1 : Int32) (w2 : Int32) (w3 : Int32) (σ : zSt), zMet l yX12_go cX12_go 11 none { frames := fr2, cells := 0, slots := 0, locals := lo2 } true eV [aR 12 (some 0), aI w0, aI w1, aI w2, aI w3] σ (go w0 w1 w2 w3 σ)) (hroom : zRm (RX12, 11, none, { frames := fr, cells := 0, slots := 0, locals := lo }, false) { frames := fr2, cells := 0, slots := 0, locals := lo2 } 11 0 0)  (h1 : Int32) (h2 : Int32) (h3 : Int32) (h4 : Int32) (σ : zSt) {K115 : Int32 → Int32 → Int32 → Option (Unit × zSt)} (hK115 : ∀ (v5 : Int32) (v6 : Int32) (v7 : Int32), X E cX12_go (RX12, 11, none, { frames := fr, cells := 0, slots := 0, locals := lo }, false) true (zQw E true eV { frames := fr, cells := 0, slots := 0, locals := lo }) 0 0 σ [(0, aR 12 (some 0)), (1, aI h1), (2, aI h2), (3, aI h3), (4, aI h4), (5, aI v5), (6, aI v6), (7, aI v7)] 115 [] (K115 v5 v6 v7)) : ∀ (n : Nat) (v5 : Int32) (v6 : Int32) (v7 : Int32) (v8 : Int32), X E cX12_go (RX12, 11, none, { frames := fr, cells := 0, slots := 0, locals := lo }, false) true (zQw E true eV { frames := fr, cells := 0, slots := 0, locals := lo }) 0 0 σ [(0, aR 12 (some 0)), (1, aI h1), (2, aI h2), (3, aI h3), (4, aI h4), (5, aI v5), (6, aI v6), (7, aI v7), (8, aI v8)] 13 [] (b12_go_L13 go h1 h2 h3 h4 σ K115 n v5 v6 v7 v8) := by
  intro n
  induction n with
  | zero => intros; exact x_none
  | succ n ih =>
    intro v5 v6 v7 v8
    rw [b12_go_L13]
    refine x_iload (pc := 13) 8 dX12_go_13 rfl ?_
    refine x_aload_n (pc := 15) 0 dX12_go_15 rfl rfl ?_
    refine x_getI (pc := 16) fd_12_47 tk_1242 dX12_go_16 ?_
    refine x_icmp_ge (pc := 19) 115 dX12_go_19 (by decide) (fun _ => ?_) (fun _ => ?_)
    ·
      exact x_sub [0, 1, 2, 3, 4, 5, 6, 7] rfl (hK115 v5 v6 v7)
    ·
      refine x_aload_n (pc := 22) 0 dX12_go_22 rfl rfl ?_
      refine x_aload_n (pc := 23) 0 dX12_go_23 rfl rfl ?_
      refine x_getF (pc := 24) (j := 0) fd_12_46 rfl rfl tk_1241 dX12_go_24 ?_
      refine x_iload (pc := 27) 8 dX12_go_27 rfl ?_
      refine x_iald (pc := 29) ar_1346 dX12_go_29 (fun m1 => ?_)
      refine x_callVr (pc := 30) (as := [aI (gI σ 1346 0 m1)]) (rest := []) (fun l => c_12_firstDay l (gI σ 1346 0 m1) σ) md_X12_firstDay ⟨_, _, rfl, by decide⟩ tk_1698 tp_82 tk_1696 dX12_go_30 rfl ⟨Nat.le_trans (by decide) hfr.1, Nat.le_trans (by decide) hfr.2, Nat.zero_le _, Nat.zero_le _⟩ ⟨fun _ => rfl, fun _ => Or.inl rfl⟩ rfl (Nat.le_of_ble_eq_true rfl) (fun r2 => ?_)
      show X E _ _ _ _ 0 0 _ _ _ [aI r2] _
      refine x_istore (pc := 33) (als' := [(9, aI r2), (0, aR 12 (some 0)), (1, aI h1), (2, aI h2), (3, aI h3), (4, aI h4), (5, aI v5), (6, aI v6), (7, aI v7), (8, aI v8)]) 9 dX12_go_33 (Nat.le_of_ble_eq_true rfl) rfl ?_
      refine x_iload (pc := 35) 5 dX12_go_35 rfl ?_
      refine x_iload (pc := 37) 9 dX12_go_37 rfl ?_
      refine x_join (P := fun (j4 : Int32 → Option (Unit × zSt)) => ∀ (a3 : Int32), X E cX12_go (RX12, 11, none, { frames := fr, cells := 0, slots := 0, locals := lo }, false) true (zQw E true eV { frames := fr, cells := 0, slots := 0, locals := lo }) 0 0 σ [(0, aR 12 (some 0)), (1, aI h1), (2, aI h2), (3, aI h3), (4, aI h4), (6, aI v6), (7, aI v7), (8, aI v8), (9, aI r2)] 75 [aI a3, aI v5] (j4 a3)) ?_ ?_
      · intro a3
        refine x_iadd (pc := 75) dX12_go_75 ?_
        refine x_nameI (fun x6 => ?_)
        refine x_istore (pc := 76) (als' := [(5, aI x6), (0, aR 12 (some 0)), (1, aI h1), (2, aI h2), (3, aI h3), (4, aI h4), (6, aI v6), (7, aI v7), (8, aI v8), (9, aI r2)]) 5 dX12_go_76 (Nat.le_of_ble_eq_true rfl) rfl ?_
        refine x_iload (pc := 78) 6 dX12_go_78 rfl ?_
        refine x_iload (pc := 80) 9 dX12_go_80 rfl ?_
        refine x_mg (c := 0 ≤ r2) (a := 0) (b := 1) 90 [aI v6] ?_ (fun hm7 => ?_)
        ·
          refine x_iadd (pc := 90) dX12_go_90 ?_
          refine x_nameI (fun x11 => ?_)
          refine x_istore (pc := 91) (als' := [(6, aI x11), (5, aI x6), (0, aR 12 (some 0)), (1, aI h1), (2, aI h2), (3, aI h3), (4, aI h4), (7, aI v7), (8, aI v8), (9, aI r2)]) 6 dX12_go_91 (Nat.le_of_ble_eq_true rfl) rfl ?_
          refine x_iload (pc := 93) 7 dX12_go_93 rfl ?_
          refine x_iload (pc := 95) 9 dX12_go_95 rfl ?_
          refine x_mg (c := 0 ≤ r2) (a := r2) (b := 0) 106 [aI v7] ?_ (fun hm12 => ?_)
          ·
            refine x_iadd (pc := 106) dX12_go_106 ?_
            refine x_nameI (fun x16 => ?_)
            refine x_istore (pc := 107) (als' := [(7, aI x16), (6, aI x11), (5, aI x6), (0, aR 12 (some 0)), (1, aI h1), (2, aI h2), (3, aI h3), (4, aI h4), (8, aI v8), (9, aI r2)]) 7 dX12_go_107 (Nat.le_of_ble_eq_true rfl) rfl ?_
            refine x_iinc (pc := 109) (als' := [(8, aI (v8 + 1)), (7, aI x16), (6, aI x11), (5, aI x6), (0, aR 12 (some 0)), (1, aI h1), (2, aI h2), (3, aI h3), (4, aI h4), (9, aI r2)]) 8 8 (c := 1) dX12_go_109 rfl rfl (Nat.le_of_ble_eq_true rfl) rfl ?_
            refine x_nameV (g := fun y18 => [(8, aI y18), (7, aI x16), (6, aI x11), (5, aI x6), (0, aR 12 (some 0)), (1, aI h1), (2, aI h2), (3, aI h3), (4, aI h4), (9, aI r2)]) (fun x17 => ?_) rfl
            refine x_goto (pc := 112) 13 dX12_go_112 (by decide) ?_
            exact x_sub [4, 5, 6, 7, 8, 3, 2, 1, 0] rfl (ih x6 x11 x16 x17)
          ·
            refine x_same (c := 0 ≤ r2) ?_
            refine x_if_ge (pc := 97) 104 dX12_go_97 (by decide) (fun hc13 => ?_) (fun hc13 => ?_)
            ·
              have hm14 := x_topT hc13 hm12
              refine x_iload (pc := 104) 9 dX12_go_104 rfl ?_
              exact hm14
            ·
              have hm15 := x_topF hc13 hm12
              refine x_iconst (pc := 100) 0 dX12_go_100 rfl ?_
              refine x_goto (pc := 101) 106 dX12_go_101 (by decide) ?_
              exact hm15
        ·
          refine x_same (c := 0 ≤ r2) ?_
          refine x_if_ge (pc := 82) 89 dX12_go_82 (by decide) (fun hc8 => ?_) (fun hc8 => ?_)
          ·
            have hm9 := x_topT hc8 hm7
            refine x_iconst (pc := 89) 0 dX12_go_89 rfl ?_
            exact hm9
          ·
            have hm10 := x_topF hc8 hm7
            refine x_iconst (pc := 85) 1 dX12_go_85 rfl ?_
            refine x_goto (pc := 86) 90 dX12_go_86 (by decide) ?_
            exact hm10
      · intro j4 hj5
        refine x_join (P := fun (j19 : Option (Unit × zSt)) => X E cX12_go (RX12, 11, none, { frames := fr, cells := 0, slots := 0, locals := lo }, false) true (zQw E true eV { frames := fr, cells := 0, slots := 0, locals := lo }) 0 0 σ [(0, aR 12 (some 0)), (1, aI h1), (2, aI h2), (3, aI h3), (4, aI h4), (6, aI v6), (7, aI v7), (8, aI v8), (9, aI r2)] 59 [aI v5] j19) ?_ ?_
        ·
          refine x_aload_n (pc := 59) 0 dX12_go_59 rfl rfl ?_
          refine x_getF (pc := 60) (j := 0) fd_12_21 rfl rfl tk_1216 dX12_go_60 ?_
          refine x_aload_n (pc := 63) 0 dX12_go_63 rfl rfl ?_
          refine x_getF (pc := 64) (j := 0) fd_12_46 rfl rfl tk_1241 dX12_go_64 ?_
          refine x_iload (pc := 67) 8 dX12_go_67 rfl ?_
          refine x_iald (pc := 69) ar_1346 dX12_go_69 (fun m21 => ?_)
          refine x_iald (pc := 70) ar_1321 dX12_go_70 (fun m22 => ?_)
          refine x_goto (pc := 71) 75 dX12_go_71 (by decide) ?_
          exact hj5 (gI σ 1321 0 m22)
        · intro j19 hj20
          refine x_if_lt (pc := 39) 59 dX12_go_39 (by decide) (fun _ => ?_) (fun _ => ?_)
          ·
            exact x_sub [1, 2, 3, 4, 5, 7, 8, 9, 0] rfl (hj20)
          ·
            refine x_iload (pc := 42) 9 dX12_go_42 rfl ?_
            refine x_aload_n (pc := 44) 0 dX12_go_44 rfl rfl ?_
            refine x_getF (pc := 45) (j := 0) fd_12_31 rfl rfl tk_1226 dX12_go_45 ?_
            refine x_aload_n (pc := 48) 0 dX12_go_48 rfl rfl ?_
            refine x_getF (pc := 49) (j := 0) fd_12_46 rfl rfl tk_1241 dX12_go_49 ?_
            refine x_iload (pc := 52) 8 dX12_go_52 rfl ?_
            refine x_iald (pc := 54) ar_1346 dX12_go_54 (fun m23 => ?_)
            refine x_iald (pc := 55) ar_1331 dX12_go_55 (fun m24 => ?_)
            refine x_icmp_le (pc := 56) 74 dX12_go_56 (by decide) (fun _ => ?_) (fun _ => ?_)
            ·
              refine x_iconst (pc := 74) 0 dX12_go_74 rfl ?_
              exact x_sub [1, 2, 3, 4, 5, 7, 8, 9, 0] rfl (hj5 0)
            ·
              exact x_sub [1, 2, 3, 4, 5, 7, 8, 9, 0] rfl (hj20)
set_option maxRecDepth 20000 in
theorem xl12_go_206 (E : zEn) (fr lo fr2 lo2 : Nat) (hfr : 2 ≤ fr ∧ 45 ≤ lo) (go : Int32 → Int32 → Int32 → Int32 → zSt → Option (Unit × zSt)) (hgo : ∀ (l : Launch) (w0 : Int32) (w1 : Int32) (w2 : Int32) (w3 : Int32) (σ : zSt), zMet l yX12_go cX12_go 11 none { frames := fr2, cells := 0, slots := 0, locals := lo2 } true eV [aR 12 (some 0), aI w0, aI w1, aI w2, aI w3] σ (go w0 w1 w2 w3 σ)) (hroom : zRm (RX12, 11, none, { frames := fr, cells := 0, slots := 0, locals := lo }, false) { frames := fr2, cells := 0, slots := 0, locals := lo2 } 11 0 0)     : ∀ (n : Nat) (v8 : Int32) (σ : zSt), X E cX12_go (RX12, 11, none, { frames := fr, cells := 0, slots := 0, locals := lo }, false) true (zQw E true eV { frames := fr, cells := 0, slots := 0, locals := lo }) 0 0 σ [(0, aR 12 (some 0)), (8, aI v8)] 206 [] (b12_go_L206 go n v8 σ) := by
  intro n
  induction n with
  | zero => intros; exact x_none
  | succ n ih =>
    intro v8 σ
    rw [b12_go_L206]
    refine x_iload (pc := 206) 8 dX12_go_206 rfl ?_
    refine x_aload_n (pc := 208) 0 dX12_go_208 rfl rfl ?_
    refine x_getI (pc := 209) fd_12_47 tk_1242 dX12_go_209 ?_
    refine x_icmp_ge (pc := 212) 235 dX12_go_212 (by decide) (fun _ => ?_) (fun _ => ?_)
    ·
      exact x_vret (rm := { frames := fr, cells := 0, slots := 0, locals := lo }) rfl rfl dX12_go_235
    ·
      refine x_aload_n (pc := 215) 0 dX12_go_215 rfl rfl ?_
      refine x_getF (pc := 216) (j := 0) fd_12_61 rfl rfl tk_1256 dX12_go_216 ?_
      refine x_iload (pc := 219) 8 dX12_go_219 rfl ?_
      refine x_aload_n (pc := 221) 0 dX12_go_221 rfl rfl ?_
      refine x_getF (pc := 222) (j := 0) fd_12_60 rfl rfl tk_1255 dX12_go_222 ?_
      refine x_iload (pc := 225) 8 dX12_go_225 rfl ?_
      refine x_iald (pc := 227) ar_1360 dX12_go_227 (fun m34 => ?_)
      refine x_iast (pc := 228) ar_1361 dX12_go_228 (fun m35 => ?_)
      refine x_nameS (fun s36 => ?_)
      refine x_iinc (pc := 229) (als' := [(8, aI (v8 + 1)), (0, aR 12 (some 0))]) 8 1 (c := 1) dX12_go_229 rfl rfl (Nat.le_of_ble_eq_true rfl) rfl ?_
      refine x_nameV (g := fun y38 => [(8, aI y38), (0, aR 12 (some 0))]) (fun x37 => ?_) rfl
      refine x_goto (pc := 232) 206 dX12_go_232 (by decide) ?_
      exact x_sub [1, 0] rfl (ih x37 s36)
set_option maxRecDepth 20000 in
theorem xl12_go_264 (E : zEn) (fr lo fr2 lo2 : Nat) (hfr : 2 ≤ fr ∧ 45 ≤ lo) (go : Int32 → Int32 → Int32 → Int32 → zSt → Option (Unit × zSt)) (hgo : ∀ (l : Launch) (w0 : Int32) (w1 : Int32) (w2 : Int32) (w3 : Int32) (σ : zSt), zMet l yX12_go cX12_go 11 none { frames := fr2, cells := 0, slots := 0, locals := lo2 } true eV [aR 12 (some 0), aI w0, aI w1, aI w2, aI w3] σ (go w0 w1 w2 w3 σ)) (hroom : zRm (RX12, 11, none, { frames := fr, cells := 0, slots := 0, locals := lo }, false) { frames := fr2, cells := 0, slots := 0, locals := lo2 } 11 0 0)  (h1 : Int32) (h2 : Int32) (h3 : Int32) (h4 : Int32) (h8 : Int32) (h9 : Int32) {K355 : zSt → Option (Unit × zSt)} (hK355 : ∀ (σ : zSt), X E cX12_go (RX12, 11, none, { frames := fr, cells := 0, slots := 0, locals := lo }, false) true (zQw E true eV { frames := fr, cells := 0, slots := 0, locals := lo }) 0 0 σ [(0, aR 12 (some 0)), (1, aI h1), (2, aI h2), (3, aI h3), (4, aI h4), (8, aI h8)] 355 [] (K355 σ)) : ∀ (n : Nat) (v10 : Int32) (σ : zSt), X E cX12_go (RX12, 11, none, { frames := fr, cells := 0, slots := 0, locals := lo }, false) true (zQw E true eV { frames := fr, cells := 0, slots := 0, locals := lo }) 0 0 σ [(0, aR 12 (some 0)), (1, aI h1), (2, aI h2), (3, aI h3), (4, aI h4), (8, aI h8), (9, aI h9), (10, aI v10)] 264 [] (b12_go_L264 go h1 h2 h3 h4 h8 h9 K355 n v10 σ) := by
  intro n
  induction n with
  | zero => intros; exact x_none
  | succ n ih =>
    intro v10 σ
    rw [b12_go_L264]
    refine x_iload (pc := 264) 10 dX12_go_264 rfl ?_
    refine x_aload_n (pc := 266) 0 dX12_go_266 rfl rfl ?_
    refine x_callVr (pc := 267) (as := []) (rest := [aI v10]) (fun l => c_12_lastDay l true σ) md_X12_lastDay ⟨_, _, rfl, by decide⟩ tk_1702 tp_83 tk_1700 dX12_go_267 rfl ⟨Nat.le_trans (by decide) hfr.1, Nat.le_trans (by decide) hfr.2, Nat.zero_le _, Nat.zero_le _⟩ ⟨fun _ => rfl, fun _ => Or.inl rfl⟩ rfl (Nat.le_of_ble_eq_true rfl) (fun r45 => ?_)
    show X E _ _ _ _ 0 0 _ _ _ [aI r45, aI v10] _
    refine x_icmp_gt (pc := 270) 355 dX12_go_270 (by decide) (fun _ => ?_) (fun _ => ?_)
    ·
      exact x_sub [0, 1, 2, 3, 4, 5] rfl (hK355 σ)
    ·
      refine x_aload_n (pc := 273) 0 dX12_go_273 rfl rfl ?_
      refine x_iload (pc := 274) 8 dX12_go_274 rfl ?_
      refine x_iload (pc := 276) 10 dX12_go_276 rfl ?_
      refine x_callVr (pc := 278) (as := [aI h8, aI v10]) (rest := []) (fun l => c_12_mayBe l h8 v10 σ) md_X12_mayBe ⟨_, _, rfl, by decide⟩ tk_1706 tp_84 tk_1704 dX12_go_278 rfl ⟨Nat.le_trans (by decide) hfr.1, Nat.le_trans (by decide) hfr.2, Nat.zero_le _, Nat.zero_le _⟩ ⟨fun _ => rfl, fun _ => Or.inl rfl⟩ rfl (Nat.le_of_ble_eq_true rfl) (fun r46 => ?_)
      show X E _ _ _ _ 0 0 _ _ _ [aI r46] _
      refine x_join (P := fun (j48 : zSt → Option (Unit × zSt)) => ∀ (s47 : zSt), X E cX12_go (RX12, 11, none, { frames := fr, cells := 0, slots := 0, locals := lo }, false) true (zQw E true eV { frames := fr, cells := 0, slots := 0, locals := lo }) 0 0 s47 [(0, aR 12 (some 0)), (1, aI h1), (2, aI h2), (3, aI h3), (4, aI h4), (8, aI h8), (9, aI h9), (10, aI v10)] 349 [] (j48 s47)) ?_ ?_
      · intro s47
        refine x_iinc (pc := 349) (als' := [(10, aI (v10 + 1)), (0, aR 12 (some 0)), (1, aI h1), (2, aI h2), (3, aI h3), (4, aI h4), (8, aI h8), (9, aI h9)]) 10 7 (c := 1) dX12_go_349 rfl rfl (Nat.le_of_ble_eq_true rfl) rfl ?_
        refine x_nameV (g := fun y51 => [(10, aI y51), (0, aR 12 (some 0)), (1, aI h1), (2, aI h2), (3, aI h3), (4, aI h4), (8, aI h8), (9, aI h9)]) (fun x50 => ?_) rfl
        refine x_goto (pc := 352) 264 dX12_go_352 (by decide) ?_
        exact x_sub [1, 2, 3, 4, 5, 6, 7, 0] rfl (ih x50 s47)
      · intro j48 hj49
        refine x_if_eq (pc := 281) 349 dX12_go_281 (by decide) (fun _ => ?_) (fun _ => ?_)
        ·
          exact hj49 σ
        ·
          refine x_aload_n (pc := 284) 0 dX12_go_284 rfl rfl ?_
          refine x_iload (pc := 285) 9 dX12_go_285 rfl ?_
          refine x_iload (pc := 287) 10 dX12_go_287 rfl ?_
          refine x_iload_n (pc := 289) 1 dX12_go_289 rfl rfl ?_
          refine x_callVr (pc := 290) (as := [aI h9, aI v10, aI h1]) (rest := []) (fun l => c_12_busy l h9 v10 h1 σ) md_X12_busy ⟨_, _, rfl, by decide⟩ tk_1714 tp_86 tk_1712 dX12_go_290 rfl ⟨Nat.le_trans (by decide) hfr.1, Nat.le_trans (by decide) hfr.2, Nat.zero_le _, Nat.zero_le _⟩ ⟨fun _ => rfl, fun _ => Or.inl rfl⟩ rfl (Nat.le_of_ble_eq_true rfl) (fun r52 => ?_)
          show X E _ _ _ _ 0 0 _ _ _ [aI r52] _
          refine x_aload_n (pc := 293) 0 dX12_go_293 rfl rfl ?_
          refine x_getF (pc := 294) (j := 0) fd_12_45 rfl rfl tk_1240 dX12_go_294 ?_
          refine x_iload (pc := 297) 9 dX12_go_297 rfl ?_
          refine x_iald (pc := 299) ar_1345 dX12_go_299 (fun m53 => ?_)
          refine x_icmp_ge (pc := 300) 349 dX12_go_300 (by decide) (fun _ => ?_) (fun _ => ?_)
          ·
            exact hj49 σ
          ·
            refine x_aload_n (pc := 303) 0 dX12_go_303 rfl rfl ?_
            refine x_getF (pc := 304) (j := 0) fd_12_60 rfl rfl tk_1255 dX12_go_304 ?_
            refine x_iload_n (pc := 307) 1 dX12_go_307 rfl rfl ?_
            refine x_iload (pc := 308) 10 dX12_go_308 rfl ?_
            refine x_iast (pc := 310) ar_1360 dX12_go_310 (fun m54 => ?_)
            refine x_nameS (fun s55 => ?_)
            refine x_aload_n (pc := 311) 0 dX12_go_311 rfl rfl ?_
            refine x_iload_n (pc := 312) 1 dX12_go_312 rfl rfl ?_
            refine x_iconst (pc := 313) 1 dX12_go_313 rfl ?_
            refine x_iadd (pc := 314) dX12_go_314 ?_
            refine x_iload_n (pc := 315) 2 dX12_go_315 rfl rfl ?_
            refine x_iload (pc := 316) 10 dX12_go_316 rfl ?_
            refine x_aload_n (pc := 318) 0 dX12_go_318 rfl rfl ?_
            refine x_getF (pc := 319) (j := 0) fd_12_31 rfl rfl tk_1226 dX12_go_319 ?_
            refine x_iload (pc := 322) 8 dX12_go_322 rfl ?_
            refine x_iald (pc := 324) ar_1331 dX12_go_324 (fun m56 => ?_)
            refine x_join (P := fun (j58 : Int32 → Option (Unit × zSt)) => ∀ (a57 : Int32), X E cX12_go (RX12, 11, none, { frames := fr, cells := 0, slots := 0, locals := lo }, false) true (zQw E true eV { frames := fr, cells := 0, slots := 0, locals := lo }) 0 0 s55 [(0, aR 12 (some 0)), (1, aI h1), (2, aI h2), (3, aI h3), (4, aI h4), (8, aI h8), (9, aI h9), (10, aI v10)] 339 [aI a57, aI h2, aI (h1 + 1), aR 12 (some 0)] (j58 a57)) ?_ ?_
            · intro a57
              refine x_iadd (pc := 339) dX12_go_339 ?_
              refine x_iload_n (pc := 340) 3 dX12_go_340 rfl rfl ?_
              refine x_iload (pc := 341) 4 dX12_go_341 rfl ?_
              refine x_iload (pc := 343) 10 dX12_go_343 rfl ?_
              refine x_iadd (pc := 345) dX12_go_345 ?_
              refine x_callV (pc := 346) (as := [aI (h1 + 1), aI (h2 + a57), aI h3, aI (h4 + v10)]) (rest := []) (fun l => hgo l (h1 + 1) (h2 + a57) h3 (h4 + v10) s55) md_X12_go ⟨_, _, rfl, by decide⟩ tk_1694 tp_81 tk_1692 dX12_go_346 rfl hroom ⟨fun _ => rfl, fun _ => Or.inl rfl⟩ rfl (Nat.le_of_ble_eq_true rfl) (fun _ s61 => ?_)
              show X E _ _ _ _ 0 0 _ _ _ [] _
              exact hj49 s61
            · intro j58 hj59
              refine x_icmp_le (pc := 325) 338 dX12_go_325 (by decide) (fun _ => ?_) (fun _ => ?_)
              ·
                refine x_iconst (pc := 338) 0 dX12_go_338 rfl ?_
                exact hj59 0
              ·
                refine x_aload_n (pc := 328) 0 dX12_go_328 rfl rfl ?_
                refine x_getF (pc := 329) (j := 0) fd_12_21 rfl rfl tk_1216 dX12_go_329 ?_
                refine x_iload (pc := 332) 8 dX12_go_332 rfl ?_
                refine x_iald (pc := 334) ar_1321 dX12_go_334 (fun m62 => ?_)
                refine x_goto (pc := 335) 339 dX12_go_335 (by decide) ?_
                exact hj59 (gI s55 1321 0 m62)
set_option maxRecDepth 20000 in
theorem x12_go (E : zEn) (fr lo fr2 lo2 : Nat) (hfr : 2 ≤ fr ∧ 45 ≤ lo) (go : Int32 → Int32 → Int32 → Int32 → zSt → Option (Unit × zSt)) (hgo : ∀ (l : Launch) (w0 : Int32) (w1 : Int32) (w2 : Int32) (w3 : Int32) (σ : zSt), zMet l yX12_go cX12_go 11 none { frames := fr2, cells := 0, slots := 0, locals := lo2 } true eV [aR 12 (some 0), aI w0, aI w1, aI w2, aI w3] σ (go w0 w1 w2 w3 σ)) (hroom : zRm (RX12, 11, none, { frames := fr, cells := 0, slots := 0, locals := lo }, false) { frames := fr2, cells := 0, slots := 0, locals := lo2 } 11 0 0) (v1 : Int32) (v2 : Int32) (v3 : Int32) (v4 : Int32) (σ : zSt) : X E cX12_go (RX12, 11, none, { frames := fr, cells := 0, slots := 0, locals := lo }, false) true (zQw E true eV { frames := fr, cells := 0, slots := 0, locals := lo }) 0 0 σ [(0, aR 12 (some 0)), (1, aI v1), (2, aI v2), (3, aI v3), (4, aI v4)] 0 [] (b12_go go v1 v2 v3 v4 σ) := by
  unfold b12_go
  refine x_iload_n (pc := 0) 2 dX12_go_0 rfl rfl ?_
  refine x_istore (pc := 1) (als' := [(5, aI v2), (0, aR 12 (some 0)), (1, aI v1), (2, aI v2), (3, aI v3), (4, aI v4)]) 5 dX12_go_1 (Nat.le_of_ble_eq_true rfl) rfl ?_
  refine x_iload_n (pc := 3) 3 dX12_go_3 rfl rfl ?_
  refine x_istore (pc := 4) (als' := [(6, aI v3), (5, aI v2), (0, aR 12 (some 0)), (1, aI v1), (2, aI v2), (3, aI v3), (4, aI v4)]) 6 dX12_go_4 (Nat.le_of_ble_eq_true rfl) rfl ?_
  refine x_iload (pc := 6) 4 dX12_go_6 rfl ?_
  refine x_istore (pc := 8) (als' := [(7, aI v4), (6, aI v3), (5, aI v2), (0, aR 12 (some 0)), (1, aI v1), (2, aI v2), (3, aI v3), (4, aI v4)]) 7 dX12_go_8 (Nat.le_of_ble_eq_true rfl) rfl ?_
  refine x_iload_n (pc := 10) 1 dX12_go_10 rfl rfl ?_
  refine x_istore (pc := 11) (als' := [(8, aI v1), (7, aI v4), (6, aI v3), (5, aI v2), (0, aR 12 (some 0)), (1, aI v1), (2, aI v2), (3, aI v3), (4, aI v4)]) 8 dX12_go_11 (Nat.le_of_ble_eq_true rfl) rfl ?_
  refine x_sub [4, 5, 6, 7, 8, 3, 2, 1, 0] rfl (xl12_go_13 E fr lo fr2 lo2 hfr go hgo hroom v1 v2 v3 v4 σ (fun a25 a26 a27 => ?_) zfuel v2 v3 v4 v1)
  ·
    refine x_aload_n (pc := 115) 0 dX12_go_115 rfl rfl ?_
    refine x_getI (pc := 116) fd_12_63 tk_1258 dX12_go_116 ?_
    refine x_join (P := fun (j28 : Option (Unit × zSt)) => X E cX12_go (RX12, 11, none, { frames := fr, cells := 0, slots := 0, locals := lo }, false) true (zQw E true eV { frames := fr, cells := 0, slots := 0, locals := lo }) 0 0 σ [(0, aR 12 (some 0)), (1, aI v1), (2, aI v2), (3, aI v3), (4, aI v4)] 168 [] j28) ?_ ?_
    ·
      refine x_iload_n (pc := 168) 1 dX12_go_168 rfl rfl ?_
      refine x_aload_n (pc := 169) 0 dX12_go_169 rfl rfl ?_
      refine x_getI (pc := 170) fd_12_47 tk_1242 dX12_go_170 ?_
      refine x_icmp_ne (pc := 173) 236 dX12_go_173 (by decide) (fun _ => ?_) (fun _ => ?_)
      ·
        refine x_aload_n (pc := 236) 0 dX12_go_236 rfl rfl ?_
        refine x_getF (pc := 237) (j := 0) fd_12_46 rfl rfl tk_1241 dX12_go_237 ?_
        refine x_iload_n (pc := 240) 1 dX12_go_240 rfl rfl ?_
        refine x_iald (pc := 241) ar_1346 dX12_go_241 (fun m39 => ?_)
        refine x_nameI (fun x40 => ?_)
        refine x_istore (pc := 242) (als' := [(8, aI x40), (0, aR 12 (some 0)), (1, aI v1), (2, aI v2), (3, aI v3), (4, aI v4)]) 8 dX12_go_242 (Nat.le_of_ble_eq_true rfl) rfl ?_
        refine x_aload_n (pc := 244) 0 dX12_go_244 rfl rfl ?_
        refine x_getF (pc := 245) (j := 0) fd_12_14 rfl rfl tk_1209 dX12_go_245 ?_
        refine x_aload_n (pc := 248) 0 dX12_go_248 rfl rfl ?_
        refine x_getF (pc := 249) (j := 0) fd_12_20 rfl rfl tk_1215 dX12_go_249 ?_
        refine x_iload (pc := 252) 8 dX12_go_252 rfl ?_
        refine x_iald (pc := 254) ar_1320 dX12_go_254 (fun m41 => ?_)
        refine x_iald (pc := 255) ar_1314 dX12_go_255 (fun m42 => ?_)
        refine x_nameI (fun x43 => ?_)
        refine x_istore (pc := 256) (als' := [(9, aI x43), (8, aI x40), (0, aR 12 (some 0)), (1, aI v1), (2, aI v2), (3, aI v3), (4, aI v4)]) 9 dX12_go_256 (Nat.le_of_ble_eq_true rfl) rfl ?_
        refine x_aload_n (pc := 258) 0 dX12_go_258 rfl rfl ?_
        refine x_getI (pc := 259) fd_12_0 tk_1195 dX12_go_259 ?_
        refine x_nameI (fun x44 => ?_)
        refine x_istore (pc := 262) (als' := [(10, aI x44), (9, aI x43), (8, aI x40), (0, aR 12 (some 0)), (1, aI v1), (2, aI v2), (3, aI v3), (4, aI v4)]) 10 dX12_go_262 (Nat.le_of_ble_eq_true rfl) rfl ?_
        refine x_sub [3, 4, 5, 6, 7, 2, 1, 0] rfl (xl12_go_264 E fr lo fr2 lo2 hfr go hgo hroom v1 v2 v3 v4 x40 x43 (fun s63 => ?_) zfuel x44 σ)
        ·
          refine x_aload_n (pc := 355) 0 dX12_go_355 rfl rfl ?_
          refine x_getF (pc := 356) (j := 0) fd_12_60 rfl rfl tk_1255 dX12_go_356 ?_
          refine x_iload_n (pc := 359) 1 dX12_go_359 rfl rfl ?_
          refine x_iconst (pc := 360) (-1) dX12_go_360 rfl ?_
          refine x_iast (pc := 361) ar_1360 dX12_go_361 (fun m64 => ?_)
          refine x_nameS (fun s65 => ?_)
          refine x_aload_n (pc := 362) 0 dX12_go_362 rfl rfl ?_
          refine x_iload_n (pc := 363) 1 dX12_go_363 rfl rfl ?_
          refine x_iconst (pc := 364) 1 dX12_go_364 rfl ?_
          refine x_iadd (pc := 365) dX12_go_365 ?_
          refine x_iload_n (pc := 366) 2 dX12_go_366 rfl rfl ?_
          refine x_aload_n (pc := 367) 0 dX12_go_367 rfl rfl ?_
          refine x_getF (pc := 368) (j := 0) fd_12_21 rfl rfl tk_1216 dX12_go_368 ?_
          refine x_iload (pc := 371) 8 dX12_go_371 rfl ?_
          refine x_iald (pc := 373) ar_1321 dX12_go_373 (fun m66 => ?_)
          refine x_iadd (pc := 374) dX12_go_374 ?_
          refine x_iload_n (pc := 375) 3 dX12_go_375 rfl rfl ?_
          refine x_iconst (pc := 376) 1 dX12_go_376 rfl ?_
          refine x_iadd (pc := 377) dX12_go_377 ?_
          refine x_iload (pc := 378) 4 dX12_go_378 rfl ?_
          refine x_callV (pc := 380) (as := [aI (v1 + 1), aI (v2 + (gI s65 1321 0 m66)), aI (v3 + 1), aI v4]) (rest := []) (fun l => hgo l (v1 + 1) (v2 + (gI s65 1321 0 m66)) (v3 + 1) v4 s65) md_X12_go ⟨_, _, rfl, by decide⟩ tk_1694 tp_81 tk_1692 dX12_go_380 rfl hroom ⟨fun _ => rfl, fun _ => Or.inl rfl⟩ rfl (Nat.le_of_ble_eq_true rfl) (fun _ s68 => ?_)
          show X E _ _ _ _ 0 0 _ _ _ [] _
          exact x_vret (rm := { frames := fr, cells := 0, slots := 0, locals := lo }) rfl rfl dX12_go_383
      ·
        refine x_aload_n (pc := 176) 0 dX12_go_176 rfl rfl ?_
        refine x_iload_n (pc := 177) 2 dX12_go_177 rfl rfl ?_
        refine x_iload_n (pc := 178) 3 dX12_go_178 rfl rfl ?_
        refine x_iload (pc := 179) 4 dX12_go_179 rfl ?_
        refine x_callVr (pc := 181) (as := [aI v2, aI v3, aI v4]) (rest := []) (fun l => c_12_isLess l true v2 v3 v4 σ) md_X12_isLess ⟨_, _, rfl, by decide⟩ tk_1710 tp_85 tk_1708 dX12_go_181 rfl ⟨Nat.le_trans (by decide) hfr.1, Nat.le_trans (by decide) hfr.2, Nat.zero_le _, Nat.zero_le _⟩ ⟨fun _ => rfl, fun _ => Or.inl rfl⟩ rfl (Nat.le_of_ble_eq_true rfl) (fun r30 => ?_)
        show X E _ _ _ _ 0 0 _ _ _ [aI r30] _
        refine x_if_eq (pc := 184) 235 dX12_go_184 (by decide) (fun _ => ?_) (fun _ => ?_)
        ·
          exact x_vret (rm := { frames := fr, cells := 0, slots := 0, locals := lo }) rfl rfl dX12_go_235
        ·
          refine x_aload_n (pc := 187) 0 dX12_go_187 rfl rfl ?_
          refine x_iload_n (pc := 188) 2 dX12_go_188 rfl rfl ?_
          refine x_putI (pc := 189) fd_12_63 pt_12_63 tk_1258 dX12_go_189 (Or.inl rfl) ?_
          refine x_nameS (fun s31 => ?_)
          refine x_aload_n (pc := 192) 0 dX12_go_192 rfl rfl ?_
          refine x_iload_n (pc := 193) 3 dX12_go_193 rfl rfl ?_
          refine x_putI (pc := 194) fd_12_64 pt_12_64 tk_1259 dX12_go_194 (Or.inl rfl) ?_
          refine x_nameS (fun s32 => ?_)
          refine x_aload_n (pc := 197) 0 dX12_go_197 rfl rfl ?_
          refine x_iload (pc := 198) 4 dX12_go_198 rfl ?_
          refine x_putI (pc := 200) fd_12_65 pt_12_65 tk_1260 dX12_go_200 (Or.inl rfl) ?_
          refine x_nameS (fun s33 => ?_)
          refine x_iconst (pc := 203) 0 dX12_go_203 rfl ?_
          refine x_istore (pc := 204) (als' := [(8, aI 0), (0, aR 12 (some 0)), (1, aI v1), (2, aI v2), (3, aI v3), (4, aI v4)]) 8 dX12_go_204 (Nat.le_of_ble_eq_true rfl) rfl ?_
          refine x_sub [1, 0] rfl (xl12_go_206 E fr lo fr2 lo2 hfr go hgo hroom zfuel 0 s33)
    · intro j28 hj29
      refine x_if_lt (pc := 119) 168 dX12_go_119 (by decide) (fun _ => ?_) (fun _ => ?_)
      ·
        exact x_sub [0, 1, 2, 3, 4] rfl (hj29)
      ·
        refine x_iload (pc := 122) 5 dX12_go_122 rfl ?_
        refine x_aload_n (pc := 124) 0 dX12_go_124 rfl rfl ?_
        refine x_getI (pc := 125) fd_12_63 tk_1258 dX12_go_125 ?_
        refine x_icmp_gt (pc := 128) 167 dX12_go_128 (by decide) (fun _ => ?_) (fun _ => ?_)
        ·
          exact x_vret (rm := { frames := fr, cells := 0, slots := 0, locals := lo }) rfl rfl dX12_go_167
        ·
          refine x_iload (pc := 131) 5 dX12_go_131 rfl ?_
          refine x_aload_n (pc := 133) 0 dX12_go_133 rfl rfl ?_
          refine x_getI (pc := 134) fd_12_63 tk_1258 dX12_go_134 ?_
          refine x_icmp_ne (pc := 137) 168 dX12_go_137 (by decide) (fun _ => ?_) (fun _ => ?_)
          ·
            exact x_sub [0, 1, 2, 3, 4] rfl (hj29)
          ·
            refine x_iload (pc := 140) 6 dX12_go_140 rfl ?_
            refine x_aload_n (pc := 142) 0 dX12_go_142 rfl rfl ?_
            refine x_getI (pc := 143) fd_12_64 tk_1259 dX12_go_143 ?_
            refine x_icmp_gt (pc := 146) 167 dX12_go_146 (by decide) (fun _ => ?_) (fun _ => ?_)
            ·
              exact x_vret (rm := { frames := fr, cells := 0, slots := 0, locals := lo }) rfl rfl dX12_go_167
            ·
              refine x_iload (pc := 149) 6 dX12_go_149 rfl ?_
              refine x_aload_n (pc := 151) 0 dX12_go_151 rfl rfl ?_
              refine x_getI (pc := 152) fd_12_64 tk_1259 dX12_go_152 ?_
              refine x_icmp_ne (pc := 155) 168 dX12_go_155 (by decide) (fun _ => ?_) (fun _ => ?_)
              ·
                exact x_sub [0, 1, 2, 3, 4] rfl (hj29)
              ·
                refine x_iload (pc := 158) 7 dX12_go_158 rfl ?_
                refine x_aload_n (pc := 160) 0 dX12_go_160 rfl rfl ?_
                refine x_getI (pc := 161) fd_12_65 tk_1260 dX12_go_161 ?_
                refine x_icmp_lt (pc := 164) 168 dX12_go_164 (by decide) (fun _ => ?_) (fun _ => ?_)
                ·
                  exact x_sub [0, 1, 2, 3, 4] rfl (hj29)
                ·
                  exact x_vret (rm := { frames := fr, cells := 0, slots := 0, locals := lo }) rfl rfl dX12_go_167
theorem c_b12_go (l : Launch) (fr lo fr2 lo2 : Nat) (hfr : 2 ≤ fr ∧ 45 ≤ lo) (go : Int32 → Int32 → Int32 → Int32 → zSt → Option (Unit × zSt)) (hgo : ∀ (l : Launch) (w0 : Int32) (w1 : Int32) (w2 : Int32) (w3 : Int32) (σ : zSt), zMet l yX12_go cX12_go 11 none { frames := fr2, cells := 0, slots := 0, locals := lo2 } true eV [aR 12 (some 0), aI w0, aI w1, aI w2, aI w3] σ (go w0 w1 w2 w3 σ)) (hroom : zRm (RX12, 11, none, { frames := fr, cells := 0, slots := 0, locals := lo }, false) { frames := fr2, cells := 0, slots := 0, locals := lo2 } 11 0 0) (v1 : Int32) (v2 : Int32) (v3 : Int32) (v4 : Int32) (σ : zSt) : zMet l yX12_go cX12_go 11 none { frames := fr, cells := 0, slots := 0, locals := lo } true eV [aR 12 (some 0), aI v1, aI v2, aI v3, aI v4] σ (b12_go go v1 v2 v3 v4 σ) :=
  zMet_of [(0, aR 12 (some 0)), (1, aI v1), (2, aI v2), (3, aI v3), (4, aI v4)] (by decide +kernel) (fun h => by cases h) (Nat.le_of_ble_eq_true rfl) rfl fun E _ => x12_go E fr lo fr2 lo2 hfr go hgo hroom v1 v2 v3 v4 σ
theorem zMet_none {l : Launch} {y : MethodName} {bytes : ByteArray} {nL : Nat} {rt : Option FieldType} {rm : Room} {q : Bool} {ρ : Type} {enc : ρ → Option zAV} {as : List zAV} {σ : zSt} : zMet l y bytes nL rt rm q enc as σ (none : Option (ρ × zSt)) := fun _ _ _ _ h => by cases h
theorem c_g12_go : ∀ (d : Nat) (l : Launch) (w0 : Int32) (w1 : Int32) (w2 : Int32) (w3 : Int32) (σ : zSt), zMet l yX12_go cX12_go 11 none { frames := 2 + d, cells := 0, slots := 0, locals := 45 + d * 30 } true eV [aR 12 (some 0), aI w0, aI w1, aI w2, aI w3] σ (g12_go d w0 w1 w2 w3 σ)
  | 0, l, w0, w1, w2, w3, σ => zMet_none
  | d + 1, l, w0, w1, w2, w3, σ => c_b12_go l (2 + (d + 1)) (45 + (d + 1) * 30) (2 + d) (45 + d * 30) ⟨by omega, by omega⟩ (g12_go d) (c_g12_go d) ⟨by show 2 + d + 1 ≤ 2 + (d + 1); omega, by show 8 + (11 + 11) + (45 + d * 30) ≤ 45 + (d + 1) * 30; omega, Nat.le_refl _, Nat.le_refl _⟩ w0 w1 w2 w3 σ
theorem c_12_go (l : Launch) (w0 : Int32) (w1 : Int32) (w2 : Int32) (w3 : Int32) (σ : zSt) : zMet l yX12_go cX12_go 11 none { frames := 12, cells := 0, slots := 0, locals := 345 } true eV [aR 12 (some 0), aI w0, aI w1, aI w2, aI w3] σ (f12_go w0 w1 w2 w3 σ) := c_g12_go 10 l w0 w1 w2 w3 σ
abbrev r12_plan : Room := { frames := 13, cells := 0, slots := 0, locals := 375 }
abbrev m12_plan : zMu := (RX12, 2, (some .int), r12_plan, false)
set_option maxRecDepth 20000 in
theorem x12_plan (E : zEn)  (v1 : Int32) (σ : zSt) : X E cX12_plan m12_plan true (zQw E true eI r12_plan) 0 0 σ [(0, aR 12 (some 0)), (1, aI v1)] 0 [] (f12_plan v1 σ) := by
  unfold f12_plan
  refine x_iload_n (pc := 0) 1 dX12_plan_0 rfl rfl ?_
  refine x_iconst (pc := 1) 1 dX12_plan_1 rfl ?_
  refine x_bipush (pc := 2) 14 dX12_plan_2 rfl ?_
  refine x_callSr (pc := 4) (as := [aI v1, aI 1, aI 14]) (rest := []) (fun l => c_12_within l true v1 1 14 σ) md_X12_within tk_1447 tk_1446 dX12_plan_4 rfl ⟨by decide, by decide, by decide, by decide⟩ ⟨fun _ => rfl, fun _ => Or.inl rfl⟩ rfl (Nat.le_of_ble_eq_true rfl) (fun r1 => ?_)
  show X E _ _ _ _ 0 0 _ _ _ [aI r1] _
  refine x_if_ne (pc := 7) 12 dX12_plan_7 (by decide) (fun _ => ?_) (fun _ => ?_)
  ·
    refine x_aload_n (pc := 12) 0 dX12_plan_12 rfl rfl ?_
    refine x_getI (pc := 13) fd_12_47 tk_1242 dX12_plan_13 ?_
    refine x_if_ne (pc := 16) 22 dX12_plan_16 (by decide) (fun _ => ?_) (fun _ => ?_)
    ·
      refine x_aload_n (pc := 22) 0 dX12_plan_22 rfl rfl ?_
      refine x_iload_n (pc := 23) 1 dX12_plan_23 rfl rfl ?_
      refine x_putI (pc := 24) fd_12_59 pt_12_59 tk_1254 dX12_plan_24 (Or.inl rfl) ?_
      refine x_nameS (fun s2 => ?_)
      refine x_aload_n (pc := 27) 0 dX12_plan_27 rfl rfl ?_
      refine x_iconst (pc := 28) (-1) dX12_plan_28 rfl ?_
      refine x_putI (pc := 29) fd_12_63 pt_12_63 tk_1258 dX12_plan_29 (Or.inl rfl) ?_
      refine x_nameS (fun s3 => ?_)
      refine x_aload_n (pc := 32) 0 dX12_plan_32 rfl rfl ?_
      refine x_iconst (pc := 33) 0 dX12_plan_33 rfl ?_
      refine x_iconst (pc := 34) 0 dX12_plan_34 rfl ?_
      refine x_iconst (pc := 35) 0 dX12_plan_35 rfl ?_
      refine x_iconst (pc := 36) 0 dX12_plan_36 rfl ?_
      refine x_callV (pc := 37) (as := [aI 0, aI 0, aI 0, aI 0]) (rest := []) (fun l => c_12_go l 0 0 0 0 s3) md_X12_go ⟨_, _, rfl, by decide⟩ tk_1694 tp_81 tk_1692 dX12_plan_37 rfl ⟨by decide, by decide, by decide, by decide⟩ ⟨fun _ => rfl, fun _ => Or.inl rfl⟩ rfl (Nat.le_of_ble_eq_true rfl) (fun _ s5 => ?_)
      show X E _ _ _ _ 0 0 _ _ _ [] _
      refine x_aload_n (pc := 40) 0 dX12_plan_40 rfl rfl ?_
      refine x_aload_n (pc := 41) 0 dX12_plan_41 rfl rfl ?_
      refine x_getI (pc := 42) fd_12_47 tk_1242 dX12_plan_42 ?_
      refine x_putI (pc := 45) fd_12_62 pt_12_62 tk_1257 dX12_plan_45 (Or.inl rfl) ?_
      refine x_nameS (fun s6 => ?_)
      refine x_aload_n (pc := 48) 0 dX12_plan_48 rfl rfl ?_
      refine x_iconst (pc := 49) 0 dX12_plan_49 rfl ?_
      refine x_putI (pc := 50) fd_12_47 pt_12_47 tk_1242 dX12_plan_50 (Or.inl rfl) ?_
      refine x_nameS (fun s7 => ?_)
      refine x_aload_n (pc := 53) 0 dX12_plan_53 rfl rfl ?_
      refine x_getI (pc := 54) fd_12_63 tk_1258 dX12_plan_54 ?_
      exact x_iret (rm := r12_plan) rfl rfl dX12_plan_57
    ·
      refine x_bipush (pc := 19) (-3) dX12_plan_19 rfl ?_
      exact x_iret (rm := r12_plan) rfl rfl dX12_plan_21
  ·
    refine x_iconst (pc := 10) (-1) dX12_plan_10 rfl ?_
    exact x_iret (rm := r12_plan) rfl rfl dX12_plan_11
theorem c_12_plan (l : Launch)  (v1 : Int32) (σ : zSt) : zMet l yX12_plan cX12_plan 2 (some .int) r12_plan true eI [aR 12 (some 0), aI v1] σ (f12_plan v1 σ) :=
  zMet_of [(0, aR 12 (some 0)), (1, aI v1)] (by decide +kernel) (fun h => by cases h) (Nat.le_of_ble_eq_true rfl) rfl fun E _ => x12_plan E  v1 σ
abbrev r12_planned : Room := { frames := 0, cells := 0, slots := 0, locals := 0 }
abbrev m12_planned : zMu := (RX12, 2, (some .int), r12_planned, false)
set_option maxRecDepth 20000 in
theorem x12_planned (E : zEn)  (v1 : Int32) (σ : zSt) : X E cX12_planned m12_planned true (zQr E true eI r12_planned σ) 0 0 σ [(0, aR 12 (some 0)), (1, aI v1)] 0 [] (f12_planned v1 σ) := by
  unfold f12_planned
  refine x_iload_n (pc := 0) 1 dX12_planned_0 rfl rfl ?_
  refine x_if_lt (pc := 1) 12 dX12_planned_1 (by decide) (fun _ => ?_) (fun _ => ?_)
  ·
    refine x_iconst (pc := 12) (-1) dX12_planned_12 rfl ?_
    exact x_iret (rm := r12_planned) rfl rfl dX12_planned_13
  ·
    refine x_iload_n (pc := 4) 1 dX12_planned_4 rfl rfl ?_
    refine x_aload_n (pc := 5) 0 dX12_planned_5 rfl rfl ?_
    refine x_getI (pc := 6) fd_12_62 tk_1257 dX12_planned_6 ?_
    refine x_icmp_lt (pc := 9) 14 dX12_planned_9 (by decide) (fun _ => ?_) (fun _ => ?_)
    ·
      refine x_aload_n (pc := 14) 0 dX12_planned_14 rfl rfl ?_
      refine x_getF (pc := 15) (j := 0) fd_12_61 rfl rfl tk_1256 dX12_planned_15 ?_
      refine x_iload_n (pc := 18) 1 dX12_planned_18 rfl rfl ?_
      refine x_iald (pc := 19) ar_1361 dX12_planned_19 (fun m1 => ?_)
      refine x_if_ge (pc := 20) 28 dX12_planned_20 (by decide) (fun _ => ?_) (fun _ => ?_)
      ·
        refine x_aload_n (pc := 28) 0 dX12_planned_28 rfl rfl ?_
        refine x_getF (pc := 29) (j := 0) fd_12_61 rfl rfl tk_1256 dX12_planned_29 ?_
        refine x_iload_n (pc := 32) 1 dX12_planned_32 rfl rfl ?_
        refine x_iald (pc := 33) ar_1361 dX12_planned_33 (fun m2 => ?_)
        exact x_iret (rm := r12_planned) rfl rfl dX12_planned_34
      ·
        refine x_bipush (pc := 23) (-4) dX12_planned_23 rfl ?_
        refine x_goto (pc := 25) 34 dX12_planned_25 (by decide) ?_
        exact x_iret (rm := r12_planned) rfl rfl dX12_planned_34
    ·
      refine x_iconst (pc := 12) (-1) dX12_planned_12 rfl ?_
      exact x_iret (rm := r12_planned) rfl rfl dX12_planned_13
theorem c_12_planned (l : Launch)  (v1 : Int32) (σ : zSt) : zMet l yX12_planned cX12_planned 2 (some .int) r12_planned true eI [aR 12 (some 0), aI v1] σ (zro (f12_planned v1 σ) σ) :=
  zMet_ofR [(0, aR 12 (some 0)), (1, aI v1)] (by decide +kernel) (fun h => by cases h) (Nat.le_of_ble_eq_true rfl) rfl fun E _ => x12_planned E  v1 σ
abbrev r12_feed : Room := { frames := 1, cells := 0, slots := 0, locals := 22 }
abbrev m12_feed : zMu := (RX12, 4, (some .int), r12_feed, false)
set_option maxRecDepth 20000 in
theorem xl12_feed_28 (E : zEn)   (h1 : Int32) (h2 : Int32) {K68 : zSt → Option (Int32 × zSt)} (hK68 : ∀ (σ : zSt), X E cX12_feed m12_feed true (zQw E true eI r12_feed) 0 0 σ [(0, aR 12 (some 0))] 68 [] (K68 σ)) : ∀ (n : Nat) (v3 : Int32) (σ : zSt), X E cX12_feed m12_feed true (zQw E true eI r12_feed) 0 0 σ [(0, aR 12 (some 0)), (1, aI h1), (2, aI h2), (3, aI v3)] 28 [] (f12_feed_L28 h1 h2 K68 n v3 σ) := by
  intro n
  induction n with
  | zero => intros; exact x_none
  | succ n ih =>
    intro v3 σ
    rw [f12_feed_L28]
    refine x_iload_n (pc := 28) 3 dX12_feed_28 rfl rfl ?_
    refine x_iload_n (pc := 29) 1 dX12_feed_29 rfl rfl ?_
    refine x_icmp_ge (pc := 30) 68 dX12_feed_30 (by decide) (fun _ => ?_) (fun _ => ?_)
    ·
      exact x_sub [0] rfl (hK68 σ)
    ·
      refine x_aload_n (pc := 33) 0 dX12_feed_33 rfl rfl ?_
      refine x_getF (pc := 34) (j := 0) fd_12_48 rfl rfl tk_1243 dX12_feed_34 ?_
      refine x_aload_n (pc := 37) 0 dX12_feed_37 rfl rfl ?_
      refine x_getI (pc := 38) fd_12_49 tk_1244 dX12_feed_38 ?_
      refine x_iload_n (pc := 41) 2 dX12_feed_41 rfl rfl ?_
      refine x_bipush (pc := 42) 8 dX12_feed_42 rfl ?_
      refine x_iload_n (pc := 44) 3 dX12_feed_44 rfl rfl ?_
      refine x_imul (pc := 45) dX12_feed_45 ?_
      refine x_ishr (pc := 46) dX12_feed_46 ?_
      refine x_sipush (pc := 47) 255 dX12_feed_47 rfl ?_
      refine x_iand (pc := 50) dX12_feed_50 ?_
      refine x_iast (pc := 51) ar_1348 dX12_feed_51 (fun m2 => ?_)
      refine x_nameS (fun s3 => ?_)
      refine x_aload_n (pc := 52) 0 dX12_feed_52 rfl rfl ?_
      refine x_dup (pc := 53) dX12_feed_53 rfl ?_
      refine x_getI (pc := 54) fd_12_49 tk_1244 dX12_feed_54 ?_
      refine x_iconst (pc := 57) 1 dX12_feed_57 rfl ?_
      refine x_iadd (pc := 58) dX12_feed_58 ?_
      refine x_putI (pc := 59) fd_12_49 pt_12_49 tk_1244 dX12_feed_59 (Or.inl rfl) ?_
      refine x_nameS (fun s4 => ?_)
      refine x_iinc (pc := 62) (als' := [(3, aI (v3 + 1)), (0, aR 12 (some 0)), (1, aI h1), (2, aI h2)]) 3 3 (c := 1) dX12_feed_62 rfl rfl (by decide) rfl ?_
      refine x_nameV (g := fun y6 => [(3, aI y6), (0, aR 12 (some 0)), (1, aI h1), (2, aI h2)]) (fun x5 => ?_) rfl
      refine x_goto (pc := 65) 28 dX12_feed_65 (by decide) ?_
      exact x_sub [1, 2, 3, 0] rfl (ih x5 s4)
set_option maxRecDepth 20000 in
theorem x12_feed (E : zEn)  (v1 : Int32) (v2 : Int32) (σ : zSt) : X E cX12_feed m12_feed true (zQw E true eI r12_feed) 0 0 σ [(0, aR 12 (some 0)), (1, aI v1), (2, aI v2)] 0 [] (f12_feed v1 v2 σ) := by
  unfold f12_feed
  refine x_iload_n (pc := 0) 1 dX12_feed_0 rfl rfl ?_
  refine x_iconst (pc := 1) 1 dX12_feed_1 rfl ?_
  refine x_iconst (pc := 2) 4 dX12_feed_2 rfl ?_
  refine x_callSr (pc := 3) (as := [aI v1, aI 1, aI 4]) (rest := []) (fun l => c_12_within l true v1 1 4 σ) md_X12_within tk_1447 tk_1446 dX12_feed_3 rfl ⟨by decide, by decide, by decide, by decide⟩ ⟨fun _ => rfl, fun _ => Or.inl rfl⟩ rfl (Nat.le_of_ble_eq_true rfl) (fun r1 => ?_)
  show X E _ _ _ _ 0 0 _ _ _ [aI r1] _
  refine x_if_ne (pc := 6) 11 dX12_feed_6 (by decide) (fun _ => ?_) (fun _ => ?_)
  ·
    refine x_aload_n (pc := 11) 0 dX12_feed_11 rfl rfl ?_
    refine x_getI (pc := 12) fd_12_49 tk_1244 dX12_feed_12 ?_
    refine x_iload_n (pc := 15) 1 dX12_feed_15 rfl rfl ?_
    refine x_iadd (pc := 16) dX12_feed_16 ?_
    refine x_sipush (pc := 17) 160 dX12_feed_17 rfl ?_
    refine x_icmp_le (pc := 20) 26 dX12_feed_20 (by decide) (fun _ => ?_) (fun _ => ?_)
    ·
      refine x_iconst (pc := 26) 0 dX12_feed_26 rfl ?_
      refine x_istore_n (pc := 27) (als' := [(3, aI 0), (0, aR 12 (some 0)), (1, aI v1), (2, aI v2)]) 3 dX12_feed_27 rfl (by decide) rfl ?_
      refine x_sub [1, 2, 3, 0] rfl (xl12_feed_28 E v1 v2 (fun s7 => ?_) zfuel 0 σ)
      ·
        refine x_aload_n (pc := 68) 0 dX12_feed_68 rfl rfl ?_
        refine x_getI (pc := 69) fd_12_49 tk_1244 dX12_feed_69 ?_
        exact x_iret (rm := r12_feed) rfl rfl dX12_feed_72
    ·
      refine x_bipush (pc := 23) (-2) dX12_feed_23 rfl ?_
      exact x_iret (rm := r12_feed) rfl rfl dX12_feed_25
  ·
    refine x_iconst (pc := 9) (-1) dX12_feed_9 rfl ?_
    exact x_iret (rm := r12_feed) rfl rfl dX12_feed_10
theorem c_12_feed (l : Launch)  (v1 : Int32) (v2 : Int32) (σ : zSt) : zMet l yX12_feed cX12_feed 4 (some .int) r12_feed true eI [aR 12 (some 0), aI v1, aI v2] σ (f12_feed v1 v2 σ) :=
  zMet_of [(0, aR 12 (some 0)), (1, aI v1), (2, aI v2)] (by decide +kernel) (fun h => by cases h) (Nat.le_of_ble_eq_true rfl) rfl fun E _ => x12_feed E  v1 v2 σ
