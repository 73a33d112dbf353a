abbrev r12_text : Room := { frames := 24, cells := 0, slots := 0, locals := 553 }
abbrev m12_text : zMu := (RX12, 6, (some .int), r12_text, false)
set_option maxRecDepth 20000 in
theorem xl12_text_99 (E : zEn)   (h1 : Int32) (h2 : Int32) (h3 : Int32) (h4 : Int32) {K132 : zSt → Option (Int32 × zSt)} (hK132 : ∀ (σ : zSt), X E cX12_text m12_text true (zQw E true eI r12_text) 0 0 σ [(0, aR 12 (some 0)), (1, aI h1), (2, aI h2), (3, aI h3), (4, aI h4)] 132 [] (K132 σ)) : ∀ (n : Nat) (v5 : Int32) (σ : zSt), X E cX12_text m12_text true (zQw E true eI r12_text) 0 0 σ [(0, aR 12 (some 0)), (1, aI h1), (2, aI h2), (3, aI h3), (4, aI h4), (5, aI v5)] 99 [] (f12_text_L99 h1 h2 h3 h4 K132 n v5 σ) := by
  intro n
  induction n with
  | zero => intros; exact x_none
  | succ n ih =>
    intro v5 σ
    rw [f12_text_L99]
    refine x_iload (pc := 99) 5 dX12_text_99 rfl ?_
    refine x_iload_n (pc := 101) 3 dX12_text_101 rfl rfl ?_
    refine x_icmp_ge (pc := 102) 132 dX12_text_102 (by decide) (fun _ => ?_) (fun _ => ?_)
    ·
      exact x_sub [0, 1, 2, 3, 4] rfl (hK132 σ)
    ·
      refine x_aload_n (pc := 105) 0 dX12_text_105 rfl rfl ?_
      refine x_getF (pc := 106) (j := 0) fd_12_50 rfl rfl tk_1245 dX12_text_106 ?_
      refine x_sipush (pc := 109) 160 dX12_text_109 rfl ?_
      refine x_iload (pc := 112) 4 dX12_text_112 rfl ?_
      refine x_imul (pc := 114) dX12_text_114 ?_
      refine x_iload (pc := 115) 5 dX12_text_115 rfl ?_
      refine x_iadd (pc := 117) dX12_text_117 ?_
      refine x_aload_n (pc := 118) 0 dX12_text_118 rfl rfl ?_
      refine x_getF (pc := 119) (j := 0) fd_12_48 rfl rfl tk_1243 dX12_text_119 ?_
      refine x_iload (pc := 122) 5 dX12_text_122 rfl ?_
      refine x_iald (pc := 124) ar_1348 dX12_text_124 (fun m11 => ?_)
      refine x_iast (pc := 125) ar_1350 dX12_text_125 (fun m12 => ?_)
      refine x_nameS (fun s13 => ?_)
      refine x_iinc (pc := 126) (als' := [(5, aI (v5 + 1)), (0, aR 12 (some 0)), (1, aI h1), (2, aI h2), (3, aI h3), (4, aI h4)]) 5 5 (c := 1) dX12_text_126 rfl rfl (by decide) rfl ?_
      refine x_nameV (g := fun y15 => [(5, aI y15), (0, aR 12 (some 0)), (1, aI h1), (2, aI h2), (3, aI h3), (4, aI h4)]) (fun x14 => ?_) rfl
      refine x_goto (pc := 129) 99 dX12_text_129 (by decide) ?_
      exact x_sub [1, 2, 3, 4, 5, 0] rfl (ih x14 s13)
set_option maxRecDepth 20000 in
theorem x12_text (E : zEn)  (v1 : Int32) (v2 : Int32) (σ : zSt) : X E cX12_text m12_text true (zQw E true eI r12_text) 0 0 σ [(0, aR 12 (some 0)), (1, aI v1), (2, aI v2)] 0 [] (f12_text v1 v2 σ) := by
  unfold f12_text
  refine x_iload_n (pc := 0) 1 dX12_text_0 rfl rfl ?_
  refine x_iconst (pc := 1) 0 dX12_text_1 rfl ?_
  refine x_iconst (pc := 2) 1 dX12_text_2 rfl ?_
  refine x_callSr (pc := 3) (as := [aI v1, aI 0, aI 1]) (rest := []) (fun l => c_12_within l true v1 0 1 σ) md_X12_within tk_1447 tk_1446 dX12_text_3 rfl ⟨by decide, by decide, by decide, by decide⟩ ⟨fun _ => rfl, fun _ => Or.inl rfl⟩ rfl (Nat.le_of_ble_eq_true rfl) (fun r1 => ?_)
  show X E _ _ _ _ 0 0 _ _ _ [aI r1] _
  refine x_if_eq (pc := 6) 16 dX12_text_6 (by decide) (fun _ => ?_) (fun _ => ?_)
  ·
    refine x_iconst (pc := 16) (-1) dX12_text_16 rfl ?_
    exact x_iret (rm := r12_text) rfl rfl dX12_text_17
  ·
    refine x_iload_n (pc := 9) 2 dX12_text_9 rfl rfl ?_
    refine x_callSr (pc := 10) (as := [aI v2]) (rest := []) (fun l => c_12_isDay l true v2 σ) md_X12_isDay tk_1566 tk_1565 dX12_text_10 rfl ⟨by decide, by decide, by decide, by decide⟩ ⟨fun _ => rfl, fun _ => Or.inl rfl⟩ rfl (Nat.le_of_ble_eq_true rfl) (fun r2 => ?_)
    show X E _ _ _ _ 0 0 _ _ _ [aI r2] _
    refine x_if_ne (pc := 13) 18 dX12_text_13 (by decide) (fun _ => ?_) (fun _ => ?_)
    ·
      refine x_aload_n (pc := 18) 0 dX12_text_18 rfl rfl ?_
      refine x_getF (pc := 19) (j := 0) fd_12_54 rfl rfl tk_1249 dX12_text_19 ?_
      refine x_iload_n (pc := 22) 1 dX12_text_22 rfl rfl ?_
      refine x_iald (pc := 23) ar_1354 dX12_text_23 (fun m3 => ?_)
      refine x_bipush (pc := 24) 10 dX12_text_24 rfl ?_
      refine x_icmp_ne (pc := 26) 32 dX12_text_26 (by decide) (fun _ => ?_) (fun _ => ?_)
      ·
        refine x_iload_n (pc := 32) 1 dX12_text_32 rfl rfl ?_
        refine x_join (P := fun (j5 : zSt → Option (Int32 × zSt)) => ∀ (s4 : zSt), X E cX12_text m12_text true (zQw E true eI r12_text) 0 0 s4 [(0, aR 12 (some 0)), (1, aI v1), (2, aI v2)] 58 [] (j5 s4)) ?_ ?_
        · intro s4
          refine x_aload_n (pc := 58) 0 dX12_text_58 rfl rfl ?_
          refine x_getI (pc := 59) fd_12_49 tk_1244 dX12_text_59 ?_
          refine x_nameI (fun x7 => ?_)
          refine x_istore_n (pc := 62) (als' := [(3, aI x7), (0, aR 12 (some 0)), (1, aI v1), (2, aI v2)]) 3 dX12_text_62 rfl (by decide) rfl ?_
          refine x_aload_n (pc := 63) 0 dX12_text_63 rfl rfl ?_
          refine x_iconst (pc := 64) 0 dX12_text_64 rfl ?_
          refine x_putI (pc := 65) fd_12_49 pt_12_49 tk_1244 dX12_text_65 (Or.inl rfl) ?_
          refine x_nameS (fun s8 => ?_)
          refine x_aload_n (pc := 68) 0 dX12_text_68 rfl rfl ?_
          refine x_getI (pc := 69) fd_12_69 tk_1264 dX12_text_69 ?_
          refine x_if_lt (pc := 72) 83 dX12_text_72 (by decide) (fun _ => ?_) (fun _ => ?_)
          ·
            refine x_bipush (pc := 83) 10 dX12_text_83 rfl ?_
            refine x_iload_n (pc := 85) 1 dX12_text_85 rfl rfl ?_
            refine x_imul (pc := 86) dX12_text_86 ?_
            refine x_aload_n (pc := 87) 0 dX12_text_87 rfl rfl ?_
            refine x_getF (pc := 88) (j := 0) fd_12_54 rfl rfl tk_1249 dX12_text_88 ?_
            refine x_iload_n (pc := 91) 1 dX12_text_91 rfl rfl ?_
            refine x_iald (pc := 92) ar_1354 dX12_text_92 (fun m9 => ?_)
            refine x_iadd (pc := 93) dX12_text_93 ?_
            refine x_nameI (fun x10 => ?_)
            refine x_istore (pc := 94) (als' := [(4, aI x10), (3, aI x7), (0, aR 12 (some 0)), (1, aI v1), (2, aI v2)]) 4 dX12_text_94 (by decide) rfl ?_
            refine x_iconst (pc := 96) 0 dX12_text_96 rfl ?_
            refine x_istore (pc := 97) (als' := [(5, aI 0), (4, aI x10), (3, aI x7), (0, aR 12 (some 0)), (1, aI v1), (2, aI v2)]) 5 dX12_text_97 (by decide) rfl ?_
            refine x_sub [3, 4, 5, 2, 1, 0] rfl (xl12_text_99 E v1 v2 x7 x10 (fun s16 => ?_) zfuel 0 s8)
            ·
              refine x_aload_n (pc := 132) 0 dX12_text_132 rfl rfl ?_
              refine x_getF (pc := 133) (j := 0) fd_12_51 rfl rfl tk_1246 dX12_text_133 ?_
              refine x_iload (pc := 136) 4 dX12_text_136 rfl ?_
              refine x_iload_n (pc := 138) 3 dX12_text_138 rfl rfl ?_
              refine x_iast (pc := 139) ar_1351 dX12_text_139 (fun m17 => ?_)
              refine x_nameS (fun s18 => ?_)
              refine x_aload_n (pc := 140) 0 dX12_text_140 rfl rfl ?_
              refine x_getF (pc := 141) (j := 0) fd_12_52 rfl rfl tk_1247 dX12_text_141 ?_
              refine x_iload (pc := 144) 4 dX12_text_144 rfl ?_
              refine x_iload_n (pc := 146) 2 dX12_text_146 rfl rfl ?_
              refine x_iast (pc := 147) ar_1352 dX12_text_147 (fun m19 => ?_)
              refine x_nameS (fun s20 => ?_)
              refine x_aload_n (pc := 148) 0 dX12_text_148 rfl rfl ?_
              refine x_getF (pc := 149) (j := 0) fd_12_53 rfl rfl tk_1248 dX12_text_149 ?_
              refine x_iload (pc := 152) 4 dX12_text_152 rfl ?_
              refine x_aload_n (pc := 154) 0 dX12_text_154 rfl rfl ?_
              refine x_getI (pc := 155) fd_12_0 tk_1195 dX12_text_155 ?_
              refine x_iast (pc := 158) ar_1353 dX12_text_158 (fun m21 => ?_)
              refine x_nameS (fun s22 => ?_)
              refine x_aload_n (pc := 159) 0 dX12_text_159 rfl rfl ?_
              refine x_getF (pc := 160) (j := 0) fd_12_54 rfl rfl tk_1249 dX12_text_160 ?_
              refine x_iload_n (pc := 163) 1 dX12_text_163 rfl rfl ?_
              refine x_dup2 (pc := 164) dX12_text_164 rfl rfl ?_
              refine x_iald (pc := 165) ar_1354 dX12_text_165 (fun m23 => ?_)
              refine x_iconst (pc := 166) 1 dX12_text_166 rfl ?_
              refine x_iadd (pc := 167) dX12_text_167 ?_
              refine x_iast (pc := 168) ar_1354 dX12_text_168 (fun m24 => ?_)
              refine x_nameS (fun s25 => ?_)
              refine x_aload_n (pc := 169) 0 dX12_text_169 rfl rfl ?_
              refine x_getF (pc := 170) (j := 0) fd_12_54 rfl rfl tk_1249 dX12_text_170 ?_
              refine x_iload_n (pc := 173) 1 dX12_text_173 rfl rfl ?_
              refine x_iald (pc := 174) ar_1354 dX12_text_174 (fun m26 => ?_)
              refine x_iconst (pc := 175) 1 dX12_text_175 rfl ?_
              refine x_isub (pc := 176) dX12_text_176 ?_
              exact x_iret (rm := r12_text) rfl rfl dX12_text_177
          ·
            refine x_bipush (pc := 75) (-100) dX12_text_75 rfl ?_
            refine x_aload_n (pc := 77) 0 dX12_text_77 rfl rfl ?_
            refine x_getI (pc := 78) fd_12_69 tk_1264 dX12_text_78 ?_
            refine x_isub (pc := 81) dX12_text_81 ?_
            exact x_iret (rm := r12_text) rfl rfl dX12_text_82
        · intro j5 hj6
          refine x_if_ne (pc := 33) 48 dX12_text_33 (by decide) (fun _ => ?_) (fun _ => ?_)
          ·
            refine x_aload_n (pc := 48) 0 dX12_text_48 rfl rfl ?_
            refine x_iconst (pc := 49) (-1) dX12_text_49 rfl ?_
            refine x_aload_n (pc := 50) 0 dX12_text_50 rfl rfl ?_
            refine x_getI (pc := 51) fd_12_49 tk_1244 dX12_text_51 ?_
            refine x_callV (pc := 54) (as := [aI (-1), aI (gI σ 12 0 49)]) (rest := []) (fun l => c_12_readFreeing l (-1) (gI σ 12 0 49) σ) md_X12_readFreeing ⟨_, _, rfl, by decide⟩ tk_1761 tp_94 tk_1759 dX12_text_54 rfl ⟨by decide, by decide, by decide, by decide⟩ ⟨fun _ => rfl, fun _ => Or.inl rfl⟩ rfl (Nat.le_of_ble_eq_true rfl) (fun r29 s30 => ?_)
            show X E _ _ _ _ 0 0 _ _ _ [aI r29] _
            refine x_istore_n (pc := 57) (als' := [(3, aI r29), (0, aR 12 (some 0)), (1, aI v1), (2, aI v2)]) 3 dX12_text_57 rfl (by decide) rfl ?_
            exact x_sub [1, 2, 3] rfl (hj6 s30)
          ·
            refine x_aload_n (pc := 36) 0 dX12_text_36 rfl rfl ?_
            refine x_iconst (pc := 37) (-1) dX12_text_37 rfl ?_
            refine x_aload_n (pc := 38) 0 dX12_text_38 rfl rfl ?_
            refine x_getI (pc := 39) fd_12_49 tk_1244 dX12_text_39 ?_
            refine x_callV (pc := 42) (as := [aI (-1), aI (gI σ 12 0 49)]) (rest := []) (fun l => c_12_readWarranty l (-1) (gI σ 12 0 49) σ) md_X12_readWarranty ⟨_, _, rfl, by decide⟩ tk_1730 tp_87 tk_1728 dX12_text_42 rfl ⟨by decide, by decide, by decide, by decide⟩ ⟨fun _ => rfl, fun _ => Or.inl rfl⟩ rfl (Nat.le_of_ble_eq_true rfl) (fun _ s28 => ?_)
            show X E _ _ _ _ 0 0 _ _ _ [] _
            refine x_goto (pc := 45) 58 dX12_text_45 (by decide) ?_
            exact hj6 s28
      ·
        refine x_bipush (pc := 29) (-2) dX12_text_29 rfl ?_
        exact x_iret (rm := r12_text) rfl rfl dX12_text_31
    ·
      refine x_iconst (pc := 16) (-1) dX12_text_16 rfl ?_
      exact x_iret (rm := r12_text) rfl rfl dX12_text_17
theorem c_12_text (l : Launch)  (v1 : Int32) (v2 : Int32) (σ : zSt) : zMet l yX12_text cX12_text 6 (some .int) r12_text true eI [aR 12 (some 0), aI v1, aI v2] σ (f12_text v1 v2 σ) :=
  zMet_of [(0, aR 12 (some 0)), (1, aI v1), (2, aI v2)] (by decide +kernel) (fun h => by cases h) (Nat.le_of_ble_eq_true rfl) rfl fun E _ => x12_text E  v1 v2 σ
abbrev r12_force : Room := { frames := 0, cells := 0, slots := 0, locals := 0 }
abbrev m12_force : zMu := (RX12, 7, (some .int), r12_force, false)
set_option maxRecDepth 20000 in
theorem xl12_force_6 (E : zEn)   (h1 : Int32) (h2 : Int32) (h3 : Int32) (σ : zSt)   : ∀ (n : Nat) (v4 : Int32) (v5 : Int32), X E cX12_force m12_force true (zQr E true eI r12_force σ) 0 0 σ [(0, aR 12 (some 0)), (1, aI h1), (2, aI h2), (3, aI h3), (4, aI v4), (5, aI v5)] 6 [] (f12_force_L6 h1 h2 h3 σ n v4 v5) := by
  intro n
  induction n with
  | zero => intros; exact x_none
  | succ n ih =>
    intro v4 v5
    rw [f12_force_L6]
    refine x_iload (pc := 6) 5 dX12_force_6 rfl ?_
    refine x_aload_n (pc := 8) 0 dX12_force_8 rfl rfl ?_
    refine x_getF (pc := 9) (j := 0) fd_12_54 rfl rfl tk_1249 dX12_force_9 ?_
    refine x_iload_n (pc := 12) 1 dX12_force_12 rfl rfl ?_
    refine x_iald (pc := 13) ar_1354 dX12_force_13 (fun m1 => ?_)
    refine x_icmp_ge (pc := 14) 68 dX12_force_14 (by decide) (fun _ => ?_) (fun _ => ?_)
    ·
      refine x_iload (pc := 68) 4 dX12_force_68 rfl ?_
      exact x_iret (rm := r12_force) rfl rfl dX12_force_70
    ·
      refine x_bipush (pc := 17) 10 dX12_force_17 rfl ?_
      refine x_iload_n (pc := 19) 1 dX12_force_19 rfl rfl ?_
      refine x_imul (pc := 20) dX12_force_20 ?_
      refine x_iload (pc := 21) 5 dX12_force_21 rfl ?_
      refine x_iadd (pc := 23) dX12_force_23 ?_
      refine x_nameI (fun x2 => ?_)
      refine x_istore (pc := 24) (als' := [(6, aI x2), (0, aR 12 (some 0)), (1, aI h1), (2, aI h2), (3, aI h3), (4, aI v4), (5, aI v5)]) 6 dX12_force_24 (by decide) rfl ?_
      refine x_aload_n (pc := 26) 0 dX12_force_26 rfl rfl ?_
      refine x_getF (pc := 27) (j := 0) fd_12_53 rfl rfl tk_1248 dX12_force_27 ?_
      refine x_iload (pc := 30) 6 dX12_force_30 rfl ?_
      refine x_iald (pc := 32) ar_1353 dX12_force_32 (fun m3 => ?_)
      refine x_iload_n (pc := 33) 3 dX12_force_33 rfl rfl ?_
      refine x_join (P := fun (j5 : Int32 → Option Int32) => ∀ (a4 : Int32), X E cX12_force m12_force true (zQr E true eI r12_force σ) 0 0 σ [(0, aR 12 (some 0)), (1, aI h1), (2, aI h2), (3, aI h3), (5, aI v5)] 60 [aI a4] (j5 a4)) ?_ ?_
      · intro a4
        refine x_istore (pc := 60) (als' := [(4, aI a4), (0, aR 12 (some 0)), (1, aI h1), (2, aI h2), (3, aI h3), (5, aI v5)]) 4 dX12_force_60 (by decide) rfl ?_
        refine x_iinc (pc := 62) (als' := [(5, aI (v5 + 1)), (4, aI a4), (0, aR 12 (some 0)), (1, aI h1), (2, aI h2), (3, aI h3)]) 5 5 (c := 1) dX12_force_62 rfl rfl (by decide) rfl ?_
        refine x_nameV (g := fun y8 => [(5, aI y8), (4, aI a4), (0, aR 12 (some 0)), (1, aI h1), (2, aI h2), (3, aI h3)]) (fun x7 => ?_) rfl
        refine x_goto (pc := 65) 6 dX12_force_65 (by decide) ?_
        exact x_sub [2, 3, 4, 5, 1, 0] rfl (ih a4 x7)
      · intro j5 hj6
        refine x_join (P := fun (j9 : Option Int32) => X E cX12_force m12_force true (zQr E true eI r12_force σ) 0 0 σ [(0, aR 12 (some 0)), (1, aI h1), (2, aI h2), (3, aI h3), (4, aI v4), (5, aI v5)] 58 [] j9) ?_ ?_
        ·
          refine x_iload (pc := 58) 4 dX12_force_58 rfl ?_
          exact x_sub [0, 1, 2, 3, 5] rfl (hj6 v4)
        · intro j9 hj10
          refine x_icmp_gt (pc := 34) 58 dX12_force_34 (by decide) (fun _ => ?_) (fun _ => ?_)
          ·
            exact x_sub [1, 2, 3, 4, 5, 6] rfl (hj10)
          ·
            refine x_aload_n (pc := 37) 0 dX12_force_37 rfl rfl ?_
            refine x_getF (pc := 38) (j := 0) fd_12_52 rfl rfl tk_1247 dX12_force_38 ?_
            refine x_iload (pc := 41) 6 dX12_force_41 rfl ?_
            refine x_iald (pc := 43) ar_1352 dX12_force_43 (fun m11 => ?_)
            refine x_aload_n (pc := 44) 0 dX12_force_44 rfl rfl ?_
            refine x_getF (pc := 45) (j := 0) fd_12_5 rfl rfl tk_1200 dX12_force_45 ?_
            refine x_iload_n (pc := 48) 2 dX12_force_48 rfl rfl ?_
            refine x_iald (pc := 49) ar_1305 dX12_force_49 (fun m12 => ?_)
            refine x_icmp_gt (pc := 50) 58 dX12_force_50 (by decide) (fun _ => ?_) (fun _ => ?_)
            ·
              exact x_sub [1, 2, 3, 4, 5, 6] rfl (hj10)
            ·
              refine x_iload (pc := 53) 5 dX12_force_53 rfl ?_
              refine x_goto (pc := 55) 60 dX12_force_55 (by decide) ?_
              exact x_sub [1, 2, 3, 4, 6] rfl (hj6 v5)
set_option maxRecDepth 20000 in
theorem x12_force (E : zEn)  (v1 : Int32) (v2 : Int32) (v3 : Int32) (σ : zSt) : X E cX12_force m12_force true (zQr E true eI r12_force σ) 0 0 σ [(0, aR 12 (some 0)), (1, aI v1), (2, aI v2), (3, aI v3)] 0 [] (f12_force v1 v2 v3 σ) := by
  unfold f12_force
  refine x_iconst (pc := 0) (-1) dX12_force_0 rfl ?_
  refine x_istore (pc := 1) (als' := [(4, aI (-1)), (0, aR 12 (some 0)), (1, aI v1), (2, aI v2), (3, aI v3)]) 4 dX12_force_1 (by decide) rfl ?_
  refine x_iconst (pc := 3) 0 dX12_force_3 rfl ?_
  refine x_istore (pc := 4) (als' := [(5, aI 0), (4, aI (-1)), (0, aR 12 (some 0)), (1, aI v1), (2, aI v2), (3, aI v3)]) 5 dX12_force_4 (by decide) rfl ?_
  refine x_sub [2, 3, 4, 5, 1, 0] rfl (xl12_force_6 E v1 v2 v3 σ zfuel (-1) 0)
theorem c_12_force (l : Launch)  (v1 : Int32) (v2 : Int32) (v3 : Int32) (σ : zSt) : zMet l yX12_force cX12_force 7 (some .int) r12_force true eI [aR 12 (some 0), aI v1, aI v2, aI v3] σ (zro (f12_force v1 v2 v3 σ) σ) :=
  zMet_ofR [(0, aR 12 (some 0)), (1, aI v1), (2, aI v2), (3, aI v3)] (by decide +kernel) (fun h => by cases h) (Nat.le_of_ble_eq_true rfl) rfl fun E _ => x12_force E  v1 v2 v3 σ
abbrev r12_inForce : Room := { frames := 2, cells := 0, slots := 0, locals := 42 }
abbrev m12_inForce : zMu := (RX12, 5, (some .int), r12_inForce, false)
set_option maxRecDepth 20000 in
theorem x12_inForce (E : zEn)  (v1 : Int32) (v2 : Int32) (v3 : Int32) (σ : zSt) : X E cX12_inForce m12_inForce true (zQr E true eI r12_inForce σ) 0 0 σ [(0, aR 12 (some 0)), (1, aI v1), (2, aI v2), (3, aI v3)] 0 [] (f12_inForce v1 v2 v3 σ) := by
  unfold f12_inForce
  refine x_iload_n (pc := 0) 1 dX12_inForce_0 rfl rfl ?_
  refine x_iconst (pc := 1) 0 dX12_inForce_1 rfl ?_
  refine x_iconst (pc := 2) 1 dX12_inForce_2 rfl ?_
  refine x_callSr (pc := 3) (as := [aI v1, aI 0, aI 1]) (rest := []) (fun l => c_12_within l true v1 0 1 σ) md_X12_within tk_1447 tk_1446 dX12_inForce_3 rfl ⟨by decide, by decide, by decide, by decide⟩ ⟨fun _ => rfl, fun _ => Or.inl rfl⟩ rfl (Nat.le_of_ble_eq_true rfl) (fun r1 => ?_)
  show X E _ _ _ _ 0 0 _ _ _ [aI r1] _
  refine x_if_eq (pc := 6) 33 dX12_inForce_6 (by decide) (fun _ => ?_) (fun _ => ?_)
  ·
    refine x_iconst (pc := 33) (-1) dX12_inForce_33 rfl ?_
    exact x_iret (rm := r12_inForce) rfl rfl dX12_inForce_34
  ·
    refine x_aload_n (pc := 9) 0 dX12_inForce_9 rfl rfl ?_
    refine x_iload_n (pc := 10) 2 dX12_inForce_10 rfl rfl ?_
    refine x_callVr (pc := 11) (as := [aI v2]) (rest := []) (fun l => c_12_isHome l true v2 σ) md_X12_isHome ⟨_, _, rfl, by decide⟩ tk_1459 tp_53 tk_1457 dX12_inForce_11 rfl ⟨by decide, by decide, by decide, by decide⟩ ⟨fun _ => rfl, fun _ => Or.inl rfl⟩ rfl (Nat.le_of_ble_eq_true rfl) (fun r2 => ?_)
    show X E _ _ _ _ 0 0 _ _ _ [aI r2] _
    refine x_if_eq (pc := 14) 33 dX12_inForce_14 (by decide) (fun _ => ?_) (fun _ => ?_)
    ·
      refine x_iconst (pc := 33) (-1) dX12_inForce_33 rfl ?_
      exact x_iret (rm := r12_inForce) rfl rfl dX12_inForce_34
    ·
      refine x_aload_n (pc := 17) 0 dX12_inForce_17 rfl rfl ?_
      refine x_getF (pc := 18) (j := 0) fd_12_5 rfl rfl tk_1200 dX12_inForce_18 ?_
      refine x_iload_n (pc := 21) 2 dX12_inForce_21 rfl rfl ?_
      refine x_iald (pc := 22) ar_1305 dX12_inForce_22 (fun m3 => ?_)
      refine x_if_lt (pc := 23) 33 dX12_inForce_23 (by decide) (fun _ => ?_) (fun _ => ?_)
      ·
        refine x_iconst (pc := 33) (-1) dX12_inForce_33 rfl ?_
        exact x_iret (rm := r12_inForce) rfl rfl dX12_inForce_34
      ·
        refine x_iload_n (pc := 26) 3 dX12_inForce_26 rfl rfl ?_
        refine x_callSr (pc := 27) (as := [aI v3]) (rest := []) (fun l => c_12_isDay l true v3 σ) md_X12_isDay tk_1566 tk_1565 dX12_inForce_27 rfl ⟨by decide, by decide, by decide, by decide⟩ ⟨fun _ => rfl, fun _ => Or.inl rfl⟩ rfl (Nat.le_of_ble_eq_true rfl) (fun r4 => ?_)
        show X E _ _ _ _ 0 0 _ _ _ [aI r4] _
        refine x_if_ne (pc := 30) 35 dX12_inForce_30 (by decide) (fun _ => ?_) (fun _ => ?_)
        ·
          refine x_aload_n (pc := 35) 0 dX12_inForce_35 rfl rfl ?_
          refine x_iload_n (pc := 36) 1 dX12_inForce_36 rfl rfl ?_
          refine x_iload_n (pc := 37) 2 dX12_inForce_37 rfl rfl ?_
          refine x_iload_n (pc := 38) 3 dX12_inForce_38 rfl rfl ?_
          refine x_callVr (pc := 39) (as := [aI v1, aI v2, aI v3]) (rest := []) (fun l => c_12_force l v1 v2 v3 σ) md_X12_force ⟨_, _, rfl, by decide⟩ tk_1777 tp_97 tk_1775 dX12_inForce_39 rfl ⟨by decide, by decide, by decide, by decide⟩ ⟨fun _ => rfl, fun _ => Or.inl rfl⟩ rfl (Nat.le_of_ble_eq_true rfl) (fun r5 => ?_)
          show X E _ _ _ _ 0 0 _ _ _ [aI r5] _
          refine x_istore (pc := 42) (als' := [(4, aI r5), (0, aR 12 (some 0)), (1, aI v1), (2, aI v2), (3, aI v3)]) 4 dX12_inForce_42 (by decide) rfl ?_
          refine x_iload (pc := 44) 4 dX12_inForce_44 rfl ?_
          refine x_if_ge (pc := 46) 54 dX12_inForce_46 (by decide) (fun _ => ?_) (fun _ => ?_)
          ·
            refine x_iload (pc := 54) 4 dX12_inForce_54 rfl ?_
            exact x_iret (rm := r12_inForce) rfl rfl dX12_inForce_56
          ·
            refine x_bipush (pc := 49) (-4) dX12_inForce_49 rfl ?_
            refine x_goto (pc := 51) 56 dX12_inForce_51 (by decide) ?_
            exact x_iret (rm := r12_inForce) rfl rfl dX12_inForce_56
        ·
          refine x_iconst (pc := 33) (-1) dX12_inForce_33 rfl ?_
          exact x_iret (rm := r12_inForce) rfl rfl dX12_inForce_34
theorem c_12_inForce (l : Launch)  (v1 : Int32) (v2 : Int32) (v3 : Int32) (σ : zSt) : zMet l yX12_inForce cX12_inForce 5 (some .int) r12_inForce true eI [aR 12 (some 0), aI v1, aI v2, aI v3] σ (zro (f12_inForce v1 v2 v3 σ) σ) :=
  zMet_ofR [(0, aR 12 (some 0)), (1, aI v1), (2, aI v2), (3, aI v3)] (by decide +kernel) (fun h => by cases h) (Nat.le_of_ble_eq_true rfl) rfl fun E _ => x12_inForce E  v1 v2 v3 σ
abbrev r12_nameFault : Room := { frames := 2, cells := 0, slots := 0, locals := 56 }
abbrev m12_nameFault : zMu := (RX12, 5, none, r12_nameFault, false)
set_option maxRecDepth 20000 in
theorem xl12_nameFault_104 (E : zEn)   (h1 : Int32) (h2 : Int32) (h3 : Int32) {K156 : zSt → Option (Unit × zSt)} (hK156 : ∀ (σ : zSt), X E cX12_nameFault m12_nameFault true (zQw E true eV r12_nameFault) 0 0 σ [(0, aR 12 (some 0)), (1, aI h1), (2, aI h2)] 156 [] (K156 σ)) : ∀ (n : Nat) (v4 : Int32) (σ : zSt), X E cX12_nameFault m12_nameFault true (zQw E true eV r12_nameFault) 0 0 σ [(0, aR 12 (some 0)), (1, aI h1), (2, aI h2), (3, aI h3), (4, aI v4)] 104 [] (f12_nameFault_L104 h1 h2 h3 K156 n v4 σ) := by
  intro n
  induction n with
  | zero => intros; exact x_none
  | succ n ih =>
    intro v4 σ
    rw [f12_nameFault_L104]
    refine x_iload (pc := 104) 4 dX12_nameFault_104 rfl ?_
    refine x_bipush (pc := 106) 20 dX12_nameFault_106 rfl ?_
    refine x_iload_n (pc := 108) 3 dX12_nameFault_108 rfl rfl ?_
    refine x_imul (pc := 109) dX12_nameFault_109 ?_
    refine x_aload_n (pc := 110) 0 dX12_nameFault_110 rfl rfl ?_
    refine x_getF (pc := 111) (j := 0) fd_12_7 rfl rfl tk_1202 dX12_nameFault_111 ?_
    refine x_iload_n (pc := 114) 3 dX12_nameFault_114 rfl rfl ?_
    refine x_iald (pc := 115) ar_1307 dX12_nameFault_115 (fun m27 => ?_)
    refine x_iadd (pc := 116) dX12_nameFault_116 ?_
    refine x_icmp_ge (pc := 117) 156 dX12_nameFault_117 (by decide) (fun _ => ?_) (fun _ => ?_)
    ·
      exact x_sub [0, 1, 2] rfl (hK156 σ)
    ·
      refine x_aload_n (pc := 120) 0 dX12_nameFault_120 rfl rfl ?_
      refine x_getF (pc := 121) (j := 0) fd_12_71 rfl rfl tk_1266 dX12_nameFault_121 ?_
      refine x_iconst (pc := 124) 5 dX12_nameFault_124 rfl ?_
      refine x_dup2 (pc := 125) dX12_nameFault_125 rfl rfl ?_
      refine x_iald (pc := 126) ar_1371 dX12_nameFault_126 (fun m28 => ?_)
      refine x_aload_n (pc := 127) 0 dX12_nameFault_127 rfl rfl ?_
      refine x_getF (pc := 128) (j := 0) fd_12_6 rfl rfl tk_1201 dX12_nameFault_128 ?_
      refine x_iload (pc := 131) 4 dX12_nameFault_131 rfl ?_
      refine x_iald (pc := 133) ar_1306 dX12_nameFault_133 (fun m29 => ?_)
      refine x_aload_n (pc := 134) 0 dX12_nameFault_134 rfl rfl ?_
      refine x_getF (pc := 135) (j := 0) fd_12_22 rfl rfl tk_1217 dX12_nameFault_135 ?_
      refine x_iload_n (pc := 138) 1 dX12_nameFault_138 rfl rfl ?_
      refine x_iald (pc := 139) ar_1322 dX12_nameFault_139 (fun m30 => ?_)
      refine x_mg (c := (gI σ 1322 0 m30) < (gI σ 1306 0 m29)) (a := 0) (b := 1) 148 [aI (gI σ 1371 0 m28), aI 5, aR 1371 (some 0)] ?_ (fun hm31 => ?_)
      ·
        refine x_iadd (pc := 148) dX12_nameFault_148 ?_
        refine x_iast (pc := 149) ar_1371 dX12_nameFault_149 (fun m35 => ?_)
        refine x_nameS (fun s36 => ?_)
        refine x_iinc (pc := 150) (als' := [(4, aI (v4 + 1)), (0, aR 12 (some 0)), (1, aI h1), (2, aI h2), (3, aI h3)]) 4 4 (c := 1) dX12_nameFault_150 rfl rfl (by decide) rfl ?_
        refine x_nameV (g := fun y38 => [(4, aI y38), (0, aR 12 (some 0)), (1, aI h1), (2, aI h2), (3, aI h3)]) (fun x37 => ?_) rfl
        refine x_goto (pc := 153) 104 dX12_nameFault_153 (by decide) ?_
        exact x_sub [1, 2, 3, 4, 0] rfl (ih x37 s36)
      ·
        refine x_same (c := (gI σ 1322 0 m30) < (gI σ 1306 0 m29)) ?_
        refine x_icmp_gt (pc := 140) 147 dX12_nameFault_140 (by decide) (fun hc32 => ?_) (fun hc32 => ?_)
        ·
          have hm33 := x_topT hc32 hm31
          refine x_iconst (pc := 147) 0 dX12_nameFault_147 rfl ?_
          exact hm33
        ·
          have hm34 := x_topF hc32 hm31
          refine x_iconst (pc := 143) 1 dX12_nameFault_143 rfl ?_
          refine x_goto (pc := 144) 148 dX12_nameFault_144 (by decide) ?_
          exact hm34
set_option maxRecDepth 20000 in
theorem x12_nameFault (E : zEn)  (v1 : Int32) (v2 : Int32) (σ : zSt) : X E cX12_nameFault m12_nameFault true (zQw E true eV r12_nameFault) 0 0 σ [(0, aR 12 (some 0)), (1, aI v1), (2, aI v2)] 0 [] (f12_nameFault v1 v2 σ) := by
  unfold f12_nameFault
  refine x_aload_n (pc := 0) 0 dX12_nameFault_0 rfl rfl ?_
  refine x_getF (pc := 1) (j := 0) fd_12_18 rfl rfl tk_1213 dX12_nameFault_1 ?_
  refine x_iload_n (pc := 4) 1 dX12_nameFault_4 rfl rfl ?_
  refine x_iald (pc := 5) ar_1318 dX12_nameFault_5 (fun m1 => ?_)
  refine x_nameI (fun x2 => ?_)
  refine x_istore_n (pc := 6) (als' := [(3, aI x2), (0, aR 12 (some 0)), (1, aI v1), (2, aI v2)]) 3 dX12_nameFault_6 rfl (by decide) rfl ?_
  refine x_aload_n (pc := 7) 0 dX12_nameFault_7 rfl rfl ?_
  refine x_getF (pc := 8) (j := 0) fd_12_71 rfl rfl tk_1266 dX12_nameFault_8 ?_
  refine x_iconst (pc := 11) 0 dX12_nameFault_11 rfl ?_
  refine x_aload_n (pc := 12) 0 dX12_nameFault_12 rfl rfl ?_
  refine x_getF (pc := 13) (j := 0) fd_12_22 rfl rfl tk_1217 dX12_nameFault_13 ?_
  refine x_iload_n (pc := 16) 1 dX12_nameFault_16 rfl rfl ?_
  refine x_iald (pc := 17) ar_1322 dX12_nameFault_17 (fun m3 => ?_)
  refine x_aload_n (pc := 18) 0 dX12_nameFault_18 rfl rfl ?_
  refine x_getF (pc := 19) (j := 0) fd_12_5 rfl rfl tk_1200 dX12_nameFault_19 ?_
  refine x_iload_n (pc := 22) 3 dX12_nameFault_22 rfl rfl ?_
  refine x_iald (pc := 23) ar_1305 dX12_nameFault_23 (fun m4 => ?_)
  refine x_isub (pc := 24) dX12_nameFault_24 ?_
  refine x_sipush (pc := 25) 360 dX12_nameFault_25 rfl ?_
  refine x_idivC (pc := 28) dX12_nameFault_28 (by decide) ?_
  refine x_iast (pc := 29) ar_1371 dX12_nameFault_29 (fun m5 => ?_)
  refine x_nameS (fun s6 => ?_)
  refine x_aload_n (pc := 30) 0 dX12_nameFault_30 rfl rfl ?_
  refine x_getF (pc := 31) (j := 0) fd_12_71 rfl rfl tk_1266 dX12_nameFault_31 ?_
  refine x_iconst (pc := 34) 1 dX12_nameFault_34 rfl ?_
  refine x_aload_n (pc := 35) 0 dX12_nameFault_35 rfl rfl ?_
  refine x_getF (pc := 36) (j := 0) fd_12_20 rfl rfl tk_1215 dX12_nameFault_36 ?_
  refine x_iload_n (pc := 39) 1 dX12_nameFault_39 rfl rfl ?_
  refine x_iald (pc := 40) ar_1320 dX12_nameFault_40 (fun m7 => ?_)
  refine x_iast (pc := 41) ar_1371 dX12_nameFault_41 (fun m8 => ?_)
  refine x_nameS (fun s9 => ?_)
  refine x_aload_n (pc := 42) 0 dX12_nameFault_42 rfl rfl ?_
  refine x_getF (pc := 43) (j := 0) fd_12_71 rfl rfl tk_1266 dX12_nameFault_43 ?_
  refine x_iconst (pc := 46) 2 dX12_nameFault_46 rfl ?_
  refine x_aload_n (pc := 47) 0 dX12_nameFault_47 rfl rfl ?_
  refine x_getF (pc := 48) (j := 0) fd_12_14 rfl rfl tk_1209 dX12_nameFault_48 ?_
  refine x_aload_n (pc := 51) 0 dX12_nameFault_51 rfl rfl ?_
  refine x_getF (pc := 52) (j := 0) fd_12_20 rfl rfl tk_1215 dX12_nameFault_52 ?_
  refine x_iload_n (pc := 55) 1 dX12_nameFault_55 rfl rfl ?_
  refine x_iald (pc := 56) ar_1320 dX12_nameFault_56 (fun m10 => ?_)
  refine x_iald (pc := 57) ar_1314 dX12_nameFault_57 (fun m11 => ?_)
  refine x_iast (pc := 58) ar_1371 dX12_nameFault_58 (fun m12 => ?_)
  refine x_nameS (fun s13 => ?_)
  refine x_aload_n (pc := 59) 0 dX12_nameFault_59 rfl rfl ?_
  refine x_getF (pc := 60) (j := 0) fd_12_71 rfl rfl tk_1266 dX12_nameFault_60 ?_
  refine x_iconst (pc := 63) 3 dX12_nameFault_63 rfl ?_
  refine x_aload_n (pc := 64) 0 dX12_nameFault_64 rfl rfl ?_
  refine x_getF (pc := 65) (j := 0) fd_12_21 rfl rfl tk_1216 dX12_nameFault_65 ?_
  refine x_iload_n (pc := 68) 1 dX12_nameFault_68 rfl rfl ?_
  refine x_iald (pc := 69) ar_1321 dX12_nameFault_69 (fun m14 => ?_)
  refine x_iast (pc := 70) ar_1371 dX12_nameFault_70 (fun m15 => ?_)
  refine x_nameS (fun s16 => ?_)
  refine x_aload_n (pc := 71) 0 dX12_nameFault_71 rfl rfl ?_
  refine x_getF (pc := 72) (j := 0) fd_12_71 rfl rfl tk_1266 dX12_nameFault_72 ?_
  refine x_iconst (pc := 75) 4 dX12_nameFault_75 rfl ?_
  refine x_aload_n (pc := 76) 0 dX12_nameFault_76 rfl rfl ?_
  refine x_getF (pc := 77) (j := 0) fd_12_25 rfl rfl tk_1220 dX12_nameFault_77 ?_
  refine x_iload_n (pc := 80) 1 dX12_nameFault_80 rfl rfl ?_
  refine x_zald (pc := 81) ar_1325 dX12_nameFault_81 (fun m17 => ?_)
  refine x_mg (c := (gI s16 1325 0 m17) = 0) (a := 0) (b := 1) 90 [aI 4, aR 1371 (some 0)] ?_ (fun hm18 => ?_)
  ·
    refine x_iast (pc := 90) ar_1371 dX12_nameFault_90 (fun m22 => ?_)
    refine x_nameS (fun s23 => ?_)
    refine x_aload_n (pc := 91) 0 dX12_nameFault_91 rfl rfl ?_
    refine x_getF (pc := 92) (j := 0) fd_12_71 rfl rfl tk_1266 dX12_nameFault_92 ?_
    refine x_iconst (pc := 95) 5 dX12_nameFault_95 rfl ?_
    refine x_iconst (pc := 96) 0 dX12_nameFault_96 rfl ?_
    refine x_iast (pc := 97) ar_1371 dX12_nameFault_97 (fun m24 => ?_)
    refine x_nameS (fun s25 => ?_)
    refine x_bipush (pc := 98) 20 dX12_nameFault_98 rfl ?_
    refine x_iload_n (pc := 100) 3 dX12_nameFault_100 rfl rfl ?_
    refine x_imul (pc := 101) dX12_nameFault_101 ?_
    refine x_nameI (fun x26 => ?_)
    refine x_istore (pc := 102) (als' := [(4, aI x26), (3, aI x2), (0, aR 12 (some 0)), (1, aI v1), (2, aI v2)]) 4 dX12_nameFault_102 (by decide) rfl ?_
    refine x_sub [2, 3, 4, 1, 0] rfl (xl12_nameFault_104 E v1 v2 x2 (fun s39 => ?_) zfuel x26 s25)
    ·
      refine x_aload_n (pc := 156) 0 dX12_nameFault_156 rfl rfl ?_
      refine x_getF (pc := 157) (j := 0) fd_12_71 rfl rfl tk_1266 dX12_nameFault_157 ?_
      refine x_bipush (pc := 160) 6 dX12_nameFault_160 rfl ?_
      refine x_aload_n (pc := 162) 0 dX12_nameFault_162 rfl rfl ?_
      refine x_iload_n (pc := 163) 1 dX12_nameFault_163 rfl rfl ?_
      refine x_aload_n (pc := 164) 0 dX12_nameFault_164 rfl rfl ?_
      refine x_getI (pc := 165) fd_12_0 tk_1195 dX12_nameFault_165 ?_
      refine x_callVr (pc := 168) (as := [aI v1, aI (gI s39 12 0 0)]) (rest := [aI 6, aR 1371 (some 0)]) (fun l => c_12_gaugeOf l v1 (gI s39 12 0 0) s39) md_X12_gaugeOf ⟨_, _, rfl, by decide⟩ tk_1661 tp_78 tk_1659 dX12_nameFault_168 rfl ⟨by decide, by decide, by decide, by decide⟩ ⟨fun _ => rfl, fun _ => Or.inl rfl⟩ rfl (Nat.le_of_ble_eq_true rfl) (fun r40 => ?_)
      show X E _ _ _ _ 0 0 _ _ _ [aI r40, aI 6, aR 1371 (some 0)] _
      refine x_iast (pc := 171) ar_1371 dX12_nameFault_171 (fun m41 => ?_)
      refine x_nameS (fun s42 => ?_)
      refine x_aload_n (pc := 172) 0 dX12_nameFault_172 rfl rfl ?_
      refine x_getF (pc := 173) (j := 0) fd_12_71 rfl rfl tk_1266 dX12_nameFault_173 ?_
      refine x_bipush (pc := 176) 7 dX12_nameFault_176 rfl ?_
      refine x_iload_n (pc := 178) 2 dX12_nameFault_178 rfl rfl ?_
      refine x_mg (c := v2 < 0) (a := 0) (b := 1) 187 [aI 7, aR 1371 (some 0)] ?_ (fun hm43 => ?_)
      ·
        refine x_iast (pc := 187) ar_1371 dX12_nameFault_187 (fun m47 => ?_)
        refine x_nameS (fun s48 => ?_)
        refine x_aload_n (pc := 188) 0 dX12_nameFault_188 rfl rfl ?_
        refine x_getF (pc := 189) (j := 0) fd_12_71 rfl rfl tk_1266 dX12_nameFault_189 ?_
        refine x_bipush (pc := 192) 8 dX12_nameFault_192 rfl ?_
        refine x_aload_n (pc := 194) 0 dX12_nameFault_194 rfl rfl ?_
        refine x_getF (pc := 195) (j := 0) fd_12_19 rfl rfl tk_1214 dX12_nameFault_195 ?_
        refine x_iload_n (pc := 198) 1 dX12_nameFault_198 rfl rfl ?_
        refine x_iald (pc := 199) ar_1319 dX12_nameFault_199 (fun m49 => ?_)
        refine x_iconst (pc := 200) 4 dX12_nameFault_200 rfl ?_
        refine x_idivC (pc := 201) dX12_nameFault_201 (by decide) ?_
        refine x_iast (pc := 202) ar_1371 dX12_nameFault_202 (fun m50 => ?_)
        refine x_nameS (fun s51 => ?_)
        exact x_vret (rm := r12_nameFault) rfl rfl dX12_nameFault_203
      ·
        refine x_same (c := v2 < 0) ?_
        refine x_if_lt (pc := 179) 186 dX12_nameFault_179 (by decide) (fun hc44 => ?_) (fun hc44 => ?_)
        ·
          have hm45 := x_topT hc44 hm43
          refine x_iconst (pc := 186) 0 dX12_nameFault_186 rfl ?_
          exact hm45
        ·
          have hm46 := x_topF hc44 hm43
          refine x_iconst (pc := 182) 1 dX12_nameFault_182 rfl ?_
          refine x_goto (pc := 183) 187 dX12_nameFault_183 (by decide) ?_
          exact hm46
  ·
    refine x_same (c := (gI s16 1325 0 m17) = 0) ?_
    refine x_if_eq (pc := 82) 89 dX12_nameFault_82 (by decide) (fun hc19 => ?_) (fun hc19 => ?_)
    ·
      have hm20 := x_topT hc19 hm18
      refine x_iconst (pc := 89) 0 dX12_nameFault_89 rfl ?_
      exact hm20
    ·
      have hm21 := x_topF hc19 hm18
      refine x_iconst (pc := 85) 1 dX12_nameFault_85 rfl ?_
      refine x_goto (pc := 86) 90 dX12_nameFault_86 (by decide) ?_
      exact hm21
theorem c_12_nameFault (l : Launch)  (v1 : Int32) (v2 : Int32) (σ : zSt) : zMet l yX12_nameFault cX12_nameFault 5 none r12_nameFault true eV [aR 12 (some 0), aI v1, aI v2] σ (f12_nameFault v1 v2 σ) :=
  zMet_of [(0, aR 12 (some 0)), (1, aI v1), (2, aI v2)] (by decide +kernel) (fun h => by cases h) (Nat.le_of_ble_eq_true rfl) rfl fun E _ => x12_nameFault E  v1 v2 σ
abbrev r12_judged : Room := { frames := 5, cells := 0, slots := 0, locals := 117 }
abbrev m12_judged : zMu := (RX12, 8, none, r12_judged, false)
set_option maxRecDepth 20000 in
theorem x12_judged (E : zEn)  (v1 : Int32) (σ : zSt) : X E cX12_judged m12_judged true (zQw E true eV r12_judged) 0 0 σ [(0, aR 12 (some 0)), (1, aI v1)] 0 [] (f12_judged v1 σ) := by
  unfold f12_judged
  refine x_aload_n (pc := 0) 0 dX12_judged_0 rfl rfl ?_
  refine x_getF (pc := 1) (j := 0) fd_12_18 rfl rfl tk_1213 dX12_judged_1 ?_
  refine x_iload_n (pc := 4) 1 dX12_judged_4 rfl rfl ?_
  refine x_iald (pc := 5) ar_1318 dX12_judged_5 (fun m1 => ?_)
  refine x_nameI (fun x2 => ?_)
  refine x_istore_n (pc := 6) (als' := [(2, aI x2), (0, aR 12 (some 0)), (1, aI v1)]) 2 dX12_judged_6 rfl (by decide) rfl ?_
  refine x_aload_n (pc := 7) 0 dX12_judged_7 rfl rfl ?_
  refine x_iload_n (pc := 8) 1 dX12_judged_8 rfl rfl ?_
  refine x_callVr (pc := 9) (as := [aI v1]) (rest := []) (fun l => c_12_priceOf l v1 σ) md_X12_priceOf ⟨_, _, rfl, by decide⟩ tk_1574 tp_67 tk_1572 dX12_judged_9 rfl ⟨by decide, by decide, by decide, by decide⟩ ⟨fun _ => rfl, fun _ => Or.inl rfl⟩ rfl (Nat.le_of_ble_eq_true rfl) (fun r3 => ?_)
  show X E _ _ _ _ 0 0 _ _ _ [aI r3] _
  refine x_istore_n (pc := 12) (als' := [(3, aI r3), (2, aI x2), (0, aR 12 (some 0)), (1, aI v1)]) 3 dX12_judged_12 rfl (by decide) rfl ?_
  refine x_aload_n (pc := 13) 0 dX12_judged_13 rfl rfl ?_
  refine x_iconst (pc := 14) 0 dX12_judged_14 rfl ?_
  refine x_putI (pc := 15) fd_12_78 pt_12_78 tk_1273 dX12_judged_15 (Or.inl rfl) ?_
  refine x_nameS (fun s4 => ?_)
  refine x_aload_n (pc := 18) 0 dX12_judged_18 rfl rfl ?_
  refine x_iconst (pc := 19) 0 dX12_judged_19 rfl ?_
  refine x_putI (pc := 20) fd_12_79 pt_12_79 tk_1274 dX12_judged_20 (Or.inl rfl) ?_
  refine x_nameS (fun s5 => ?_)
  refine x_aload_n (pc := 23) 0 dX12_judged_23 rfl rfl ?_
  refine x_iload_n (pc := 24) 3 dX12_judged_24 rfl rfl ?_
  refine x_putI (pc := 25) fd_12_80 pt_12_80 tk_1275 dX12_judged_25 (Or.inl rfl) ?_
  refine x_nameS (fun s6 => ?_)
  refine x_aload_n (pc := 28) 0 dX12_judged_28 rfl rfl ?_
  refine x_iconst (pc := 29) (-1) dX12_judged_29 rfl ?_
  refine x_putI (pc := 30) fd_12_81 pt_12_81 tk_1276 dX12_judged_30 (Or.inl rfl) ?_
  refine x_nameS (fun s7 => ?_)
  refine x_aload_n (pc := 33) 0 dX12_judged_33 rfl rfl ?_
  refine x_getF (pc := 34) (j := 0) fd_12_5 rfl rfl tk_1200 dX12_judged_34 ?_
  refine x_iload_n (pc := 37) 2 dX12_judged_37 rfl rfl ?_
  refine x_iald (pc := 38) ar_1305 dX12_judged_38 (fun m8 => ?_)
  refine x_if_lt (pc := 39) 57 dX12_judged_39 (by decide) (fun _ => ?_) (fun _ => ?_)
  ·
    exact x_vret (rm := r12_judged) rfl rfl dX12_judged_57
  ·
    refine x_aload_n (pc := 42) 0 dX12_judged_42 rfl rfl ?_
    refine x_getF (pc := 43) (j := 0) fd_12_22 rfl rfl tk_1217 dX12_judged_43 ?_
    refine x_iload_n (pc := 46) 1 dX12_judged_46 rfl rfl ?_
    refine x_iald (pc := 47) ar_1322 dX12_judged_47 (fun m9 => ?_)
    refine x_aload_n (pc := 48) 0 dX12_judged_48 rfl rfl ?_
    refine x_getF (pc := 49) (j := 0) fd_12_5 rfl rfl tk_1200 dX12_judged_49 ?_
    refine x_iload_n (pc := 52) 2 dX12_judged_52 rfl rfl ?_
    refine x_iald (pc := 53) ar_1305 dX12_judged_53 (fun m10 => ?_)
    refine x_icmp_ge (pc := 54) 58 dX12_judged_54 (by decide) (fun _ => ?_) (fun _ => ?_)
    ·
      refine x_aload_n (pc := 58) 0 dX12_judged_58 rfl rfl ?_
      refine x_iconst (pc := 59) 0 dX12_judged_59 rfl ?_
      refine x_iload_n (pc := 60) 2 dX12_judged_60 rfl rfl ?_
      refine x_aload_n (pc := 61) 0 dX12_judged_61 rfl rfl ?_
      refine x_getI (pc := 62) fd_12_0 tk_1195 dX12_judged_62 ?_
      refine x_callVr (pc := 65) (as := [aI 0, aI x2, aI (gI s7 12 0 0)]) (rest := []) (fun l => c_12_force l 0 x2 (gI s7 12 0 0) s7) md_X12_force ⟨_, _, rfl, by decide⟩ tk_1777 tp_97 tk_1775 dX12_judged_65 rfl ⟨by decide, by decide, by decide, by decide⟩ ⟨fun _ => rfl, fun _ => Or.inl rfl⟩ rfl (Nat.le_of_ble_eq_true rfl) (fun r11 => ?_)
      show X E _ _ _ _ 0 0 _ _ _ [aI r11] _
      refine x_istore (pc := 68) (als' := [(4, aI r11), (3, aI r3), (2, aI x2), (0, aR 12 (some 0)), (1, aI v1)]) 4 dX12_judged_68 (by decide) rfl ?_
      refine x_aload_n (pc := 70) 0 dX12_judged_70 rfl rfl ?_
      refine x_iload_n (pc := 71) 1 dX12_judged_71 rfl rfl ?_
      refine x_callV (pc := 72) (as := [aI v1]) (rest := []) (fun l => c_12_damageBy l v1 s7) md_X12_damageBy ⟨_, _, rfl, by decide⟩ tk_1594 tp_70 tk_1592 dX12_judged_72 rfl ⟨by decide, by decide, by decide, by decide⟩ ⟨fun _ => rfl, fun _ => Or.inl rfl⟩ rfl (Nat.le_of_ble_eq_true rfl) (fun r12 s13 => ?_)
      show X E _ _ _ _ 0 0 _ _ _ [aI r12] _
      refine x_istore (pc := 75) (als' := [(5, aI r12), (4, aI r11), (3, aI r3), (2, aI x2), (0, aR 12 (some 0)), (1, aI v1)]) 5 dX12_judged_75 (by decide) rfl ?_
      refine x_iload (pc := 77) 4 dX12_judged_77 rfl ?_
      refine x_join (P := fun (j15 : zSt → Option (Unit × zSt)) => ∀ (s14 : zSt), X E cX12_judged m12_judged true (zQw E true eV r12_judged) 0 0 s14 [(0, aR 12 (some 0)), (1, aI v1), (2, aI x2), (3, aI r3), (4, aI r11), (5, aI r12)] 106 [] (j15 s14)) ?_ ?_
      · intro s14
        refine x_iload (pc := 106) 4 dX12_judged_106 rfl ?_
        refine x_join (P := fun (j17 : Option (Unit × zSt)) => X E cX12_judged m12_judged true (zQw E true eV r12_judged) 0 0 s14 [(0, aR 12 (some 0)), (3, aI r3)] 118 [] j17) ?_ ?_
        ·
          refine x_aload_n (pc := 118) 0 dX12_judged_118 rfl rfl ?_
          refine x_iconst (pc := 119) 2 dX12_judged_119 rfl ?_
          refine x_putI (pc := 120) fd_12_78 pt_12_78 tk_1273 dX12_judged_120 (Or.inl rfl) ?_
          refine x_nameS (fun s19 => ?_)
          refine x_aload_n (pc := 123) 0 dX12_judged_123 rfl rfl ?_
          refine x_iload_n (pc := 124) 3 dX12_judged_124 rfl rfl ?_
          refine x_putI (pc := 125) fd_12_79 pt_12_79 tk_1274 dX12_judged_125 (Or.inl rfl) ?_
          refine x_nameS (fun s20 => ?_)
          refine x_aload_n (pc := 128) 0 dX12_judged_128 rfl rfl ?_
          refine x_iconst (pc := 129) 0 dX12_judged_129 rfl ?_
          refine x_putI (pc := 130) fd_12_80 pt_12_80 tk_1275 dX12_judged_130 (Or.inl rfl) ?_
          refine x_nameS (fun s21 => ?_)
          exact x_vret (rm := r12_judged) rfl rfl dX12_judged_133
        · intro j17 hj18
          refine x_if_lt (pc := 108) 118 dX12_judged_108 (by decide) (fun _ => ?_) (fun _ => ?_)
          ·
            exact x_sub [0, 3] rfl (hj18)
          ·
            refine x_aload_n (pc := 111) 0 dX12_judged_111 rfl rfl ?_
            refine x_getI (pc := 112) fd_12_74 tk_1269 dX12_judged_112 ?_
            refine x_if_ge (pc := 115) 134 dX12_judged_115 (by decide) (fun _ => ?_) (fun _ => ?_)
            ·
              refine x_aload_n (pc := 134) 0 dX12_judged_134 rfl rfl ?_
              refine x_aload_n (pc := 135) 0 dX12_judged_135 rfl rfl ?_
              refine x_getI (pc := 136) fd_12_74 tk_1269 dX12_judged_136 ?_
              refine x_putI (pc := 139) fd_12_81 pt_12_81 tk_1276 dX12_judged_139 (Or.inl rfl) ?_
              refine x_nameS (fun s22 => ?_)
              refine x_aload_n (pc := 142) 0 dX12_judged_142 rfl rfl ?_
              refine x_getI (pc := 143) fd_12_76 tk_1271 dX12_judged_143 ?_
              refine x_iload_n (pc := 146) 3 dX12_judged_146 rfl rfl ?_
              refine x_mg (c := r3 ≤ (gI s22 12 0 76)) (a := r3) (b := (gI s22 12 0 76)) 158 [] ?_ (fun hm23 => ?_)
              ·
                refine x_nameI (fun x27 => ?_)
                refine x_istore (pc := 158) (als' := [(6, aI x27), (0, aR 12 (some 0)), (1, aI v1), (2, aI x2), (3, aI r3), (4, aI r11), (5, aI r12)]) 6 dX12_judged_158 (by decide) rfl ?_
                refine x_iload (pc := 160) 5 dX12_judged_160 rfl ?_
                refine x_join (P := fun (j29 : Int32 → Option (Unit × zSt)) => ∀ (a28 : Int32), X E cX12_judged m12_judged true (zQw E true eV r12_judged) 0 0 s22 [(0, aR 12 (some 0)), (3, aI r3), (6, aI x27)] 193 [aI a28] (j29 a28)) ?_ ?_
                · intro a28
                  refine x_istore (pc := 193) (als' := [(7, aI a28), (0, aR 12 (some 0)), (3, aI r3), (6, aI x27)]) 7 dX12_judged_193 (by decide) rfl ?_
                  refine x_aload_n (pc := 195) 0 dX12_judged_195 rfl rfl ?_
                  refine x_aload_n (pc := 196) 0 dX12_judged_196 rfl rfl ?_
                  refine x_getI (pc := 197) fd_12_75 tk_1270 dX12_judged_197 ?_
                  refine x_mg (c := (gI s22 12 0 75) = 0) (a := 0) (b := (if (gI s22 12 0 75) = 3 then (if 0 ≤ a28 then (if (gI s22 12 0 75) = 1 then 1 else (if (gI s22 12 0 75) = 2 then 2 else (if (gI s22 12 0 75) = 4 then 3 else (10 + a28)))) else 0) else (if (gI s22 12 0 75) = 1 then 1 else (if (gI s22 12 0 75) = 2 then 2 else (if (gI s22 12 0 75) = 4 then 3 else (10 + a28)))))) 261 [aR 12 (some 0)] ?_ (fun hm31 => ?_)
                  ·
                    refine x_putI (pc := 261) fd_12_78 pt_12_78 tk_1273 dX12_judged_261 (Or.inl rfl) ?_
                    refine x_nameS (fun s59 => ?_)
                    refine x_aload_n (pc := 264) 0 dX12_judged_264 rfl rfl ?_
                    refine x_aload_n (pc := 265) 0 dX12_judged_265 rfl rfl ?_
                    refine x_getI (pc := 266) fd_12_78 tk_1273 dX12_judged_266 ?_
                    refine x_iconst (pc := 269) 3 dX12_judged_269 rfl ?_
                    refine x_mg (c := (gI s59 12 0 78) = 3) (a := 0) (b := (if (gI s59 12 0 78) = 2 then r3 else x27)) 291 [aR 12 (some 0)] ?_ (fun hm60 => ?_)
                    ·
                      refine x_putI (pc := 291) fd_12_79 pt_12_79 tk_1274 dX12_judged_291 (Or.inl rfl) ?_
                      refine x_nameS (fun s67 => ?_)
                      refine x_aload_n (pc := 294) 0 dX12_judged_294 rfl rfl ?_
                      refine x_aload_n (pc := 295) 0 dX12_judged_295 rfl rfl ?_
                      refine x_getI (pc := 296) fd_12_78 tk_1273 dX12_judged_296 ?_
                      refine x_iconst (pc := 299) 3 dX12_judged_299 rfl ?_
                      refine x_mg (c := (gI s67 12 0 78) = 3) (a := 0) (b := (if (gI s67 12 0 78) = 2 then 0 else (r3 - x27))) 319 [aR 12 (some 0)] ?_ (fun hm68 => ?_)
                      ·
                        refine x_putI (pc := 319) fd_12_80 pt_12_80 tk_1275 dX12_judged_319 (Or.inl rfl) ?_
                        refine x_nameS (fun s75 => ?_)
                        exact x_vret (rm := r12_judged) rfl rfl dX12_judged_322
                      ·
                        refine x_same (c := (gI s67 12 0 78) = 3) ?_
                        refine x_icmp_eq (pc := 300) 311 dX12_judged_300 (by decide) (fun hc69 => ?_) (fun hc69 => ?_)
                        ·
                          have hm70 := x_topT hc69 hm68
                          refine x_iconst (pc := 311) 0 dX12_judged_311 rfl ?_
                          refine x_goto (pc := 312) 319 dX12_judged_312 (by decide) ?_
                          exact hm70
                        ·
                          have hm71 := x_topF hc69 hm68
                          refine x_aload_n (pc := 303) 0 dX12_judged_303 rfl rfl ?_
                          refine x_getI (pc := 304) fd_12_78 tk_1273 dX12_judged_304 ?_
                          refine x_iconst (pc := 307) 2 dX12_judged_307 rfl ?_
                          refine x_same (c := (gI s67 12 0 78) = 2) ?_
                          refine x_icmp_ne (pc := 308) 315 dX12_judged_308 (by decide) (fun hc72 => ?_) (fun hc72 => ?_)
                          ·
                            have hm74 := x_topF hc72 hm71
                            refine x_iload_n (pc := 315) 3 dX12_judged_315 rfl rfl ?_
                            refine x_iload (pc := 316) 6 dX12_judged_316 rfl ?_
                            refine x_isub (pc := 318) dX12_judged_318 ?_
                            exact hm74
                          ·
                            have hm73 := x_topT hc72 hm71
                            refine x_iconst (pc := 311) 0 dX12_judged_311 rfl ?_
                            refine x_goto (pc := 312) 319 dX12_judged_312 (by decide) ?_
                            exact hm73
                    ·
                      refine x_same (c := (gI s59 12 0 78) = 3) ?_
                      refine x_icmp_ne (pc := 270) 277 dX12_judged_270 (by decide) (fun hc61 => ?_) (fun hc61 => ?_)
                      ·
                        have hm63 := x_topF hc61 hm60
                        refine x_aload_n (pc := 277) 0 dX12_judged_277 rfl rfl ?_
                        refine x_getI (pc := 278) fd_12_78 tk_1273 dX12_judged_278 ?_
                        refine x_iconst (pc := 281) 2 dX12_judged_281 rfl ?_
                        refine x_same (c := (gI s59 12 0 78) = 2) ?_
                        refine x_icmp_ne (pc := 282) 289 dX12_judged_282 (by decide) (fun hc64 => ?_) (fun hc64 => ?_)
                        ·
                          have hm66 := x_topF hc64 hm63
                          refine x_iload (pc := 289) 6 dX12_judged_289 rfl ?_
                          exact hm66
                        ·
                          have hm65 := x_topT hc64 hm63
                          refine x_iload_n (pc := 285) 3 dX12_judged_285 rfl rfl ?_
                          refine x_goto (pc := 286) 291 dX12_judged_286 (by decide) ?_
                          exact hm65
                      ·
                        have hm62 := x_topT hc61 hm60
                        refine x_iconst (pc := 273) 0 dX12_judged_273 rfl ?_
                        refine x_goto (pc := 274) 291 dX12_judged_274 (by decide) ?_
                        exact hm62
                  ·
                    refine x_same (c := (gI s22 12 0 75) = 0) ?_
                    refine x_if_eq (pc := 200) 216 dX12_judged_200 (by decide) (fun hc32 => ?_) (fun hc32 => ?_)
                    ·
                      have hm33 := x_topT hc32 hm31
                      refine x_iconst (pc := 216) 0 dX12_judged_216 rfl ?_
                      refine x_goto (pc := 217) 261 dX12_judged_217 (by decide) ?_
                      exact hm33
                    ·
                      have hm34 := x_topF hc32 hm31
                      refine x_aload_n (pc := 203) 0 dX12_judged_203 rfl rfl ?_
                      refine x_getI (pc := 204) fd_12_75 tk_1270 dX12_judged_204 ?_
                      refine x_iconst (pc := 207) 3 dX12_judged_207 rfl ?_
                      refine x_same (c := (gI s22 12 0 75) = 3) ?_
                      refine x_icmp_ne (pc := 208) 220 dX12_judged_208 (by decide) (fun hc35 => ?_) (fun hc35 => ?_)
                      ·
                        have hm37 := x_topF hc35 hm34
                        refine x_aload_n (pc := 220) 0 dX12_judged_220 rfl rfl ?_
                        refine x_getI (pc := 221) fd_12_75 tk_1270 dX12_judged_221 ?_
                        refine x_iconst (pc := 224) 1 dX12_judged_224 rfl ?_
                        refine x_same (c := (gI s22 12 0 75) = 1) ?_
                        refine x_icmp_ne (pc := 225) 232 dX12_judged_225 (by decide) (fun hc50 => ?_) (fun hc50 => ?_)
                        ·
                          have hm52 := x_topF hc50 hm37
                          refine x_aload_n (pc := 232) 0 dX12_judged_232 rfl rfl ?_
                          refine x_getI (pc := 233) fd_12_75 tk_1270 dX12_judged_233 ?_
                          refine x_iconst (pc := 236) 2 dX12_judged_236 rfl ?_
                          refine x_same (c := (gI s22 12 0 75) = 2) ?_
                          refine x_icmp_ne (pc := 237) 244 dX12_judged_237 (by decide) (fun hc53 => ?_) (fun hc53 => ?_)
                          ·
                            have hm55 := x_topF hc53 hm52
                            refine x_aload_n (pc := 244) 0 dX12_judged_244 rfl rfl ?_
                            refine x_getI (pc := 245) fd_12_75 tk_1270 dX12_judged_245 ?_
                            refine x_iconst (pc := 248) 4 dX12_judged_248 rfl ?_
                            refine x_same (c := (gI s22 12 0 75) = 4) ?_
                            refine x_icmp_ne (pc := 249) 256 dX12_judged_249 (by decide) (fun hc56 => ?_) (fun hc56 => ?_)
                            ·
                              have hm58 := x_topF hc56 hm55
                              refine x_bipush (pc := 256) 10 dX12_judged_256 rfl ?_
                              refine x_iload (pc := 258) 7 dX12_judged_258 rfl ?_
                              refine x_iadd (pc := 260) dX12_judged_260 ?_
                              exact hm58
                            ·
                              have hm57 := x_topT hc56 hm55
                              refine x_iconst (pc := 252) 3 dX12_judged_252 rfl ?_
                              refine x_goto (pc := 253) 261 dX12_judged_253 (by decide) ?_
                              exact hm57
                          ·
                            have hm54 := x_topT hc53 hm52
                            refine x_iconst (pc := 240) 2 dX12_judged_240 rfl ?_
                            refine x_goto (pc := 241) 261 dX12_judged_241 (by decide) ?_
                            exact hm54
                        ·
                          have hm51 := x_topT hc50 hm37
                          refine x_iconst (pc := 228) 1 dX12_judged_228 rfl ?_
                          refine x_goto (pc := 229) 261 dX12_judged_229 (by decide) ?_
                          exact hm51
                      ·
                        have hm36 := x_topT hc35 hm34
                        refine x_iload (pc := 211) 7 dX12_judged_211 rfl ?_
                        refine x_same (c := 0 ≤ a28) ?_
                        refine x_if_ge (pc := 213) 220 dX12_judged_213 (by decide) (fun hc38 => ?_) (fun hc38 => ?_)
                        ·
                          have hm39 := x_topT hc38 hm36
                          refine x_aload_n (pc := 220) 0 dX12_judged_220 rfl rfl ?_
                          refine x_getI (pc := 221) fd_12_75 tk_1270 dX12_judged_221 ?_
                          refine x_iconst (pc := 224) 1 dX12_judged_224 rfl ?_
                          refine x_same (c := (gI s22 12 0 75) = 1) ?_
                          refine x_icmp_ne (pc := 225) 232 dX12_judged_225 (by decide) (fun hc41 => ?_) (fun hc41 => ?_)
                          ·
                            have hm43 := x_topF hc41 hm39
                            refine x_aload_n (pc := 232) 0 dX12_judged_232 rfl rfl ?_
                            refine x_getI (pc := 233) fd_12_75 tk_1270 dX12_judged_233 ?_
                            refine x_iconst (pc := 236) 2 dX12_judged_236 rfl ?_
                            refine x_same (c := (gI s22 12 0 75) = 2) ?_
                            refine x_icmp_ne (pc := 237) 244 dX12_judged_237 (by decide) (fun hc44 => ?_) (fun hc44 => ?_)
                            ·
                              have hm46 := x_topF hc44 hm43
                              refine x_aload_n (pc := 244) 0 dX12_judged_244 rfl rfl ?_
                              refine x_getI (pc := 245) fd_12_75 tk_1270 dX12_judged_245 ?_
                              refine x_iconst (pc := 248) 4 dX12_judged_248 rfl ?_
                              refine x_same (c := (gI s22 12 0 75) = 4) ?_
                              refine x_icmp_ne (pc := 249) 256 dX12_judged_249 (by decide) (fun hc47 => ?_) (fun hc47 => ?_)
                              ·
                                have hm49 := x_topF hc47 hm46
                                refine x_bipush (pc := 256) 10 dX12_judged_256 rfl ?_
                                refine x_iload (pc := 258) 7 dX12_judged_258 rfl ?_
                                refine x_iadd (pc := 260) dX12_judged_260 ?_
                                exact hm49
                              ·
                                have hm48 := x_topT hc47 hm46
                                refine x_iconst (pc := 252) 3 dX12_judged_252 rfl ?_
                                refine x_goto (pc := 253) 261 dX12_judged_253 (by decide) ?_
                                exact hm48
                            ·
                              have hm45 := x_topT hc44 hm43
                              refine x_iconst (pc := 240) 2 dX12_judged_240 rfl ?_
                              refine x_goto (pc := 241) 261 dX12_judged_241 (by decide) ?_
                              exact hm45
                          ·
                            have hm42 := x_topT hc41 hm39
                            refine x_iconst (pc := 228) 1 dX12_judged_228 rfl ?_
                            refine x_goto (pc := 229) 261 dX12_judged_229 (by decide) ?_
                            exact hm42
                        ·
                          have hm40 := x_topF hc38 hm36
                          refine x_iconst (pc := 216) 0 dX12_judged_216 rfl ?_
                          refine x_goto (pc := 217) 261 dX12_judged_217 (by decide) ?_
                          exact hm40
                · intro j29 hj30
                  refine x_if_lt (pc := 162) 172 dX12_judged_162 (by decide) (fun _ => ?_) (fun _ => ?_)
                  ·
                    refine x_aload_n (pc := 172) 0 dX12_judged_172 rfl rfl ?_
                    refine x_getF (pc := 173) (j := 0) fd_12_9 rfl rfl tk_1204 dX12_judged_173 ?_
                    refine x_bipush (pc := 176) 10 dX12_judged_176 rfl ?_
                    refine x_iload_n (pc := 178) 2 dX12_judged_178 rfl rfl ?_
                    refine x_imul (pc := 179) dX12_judged_179 ?_
                    refine x_aload_n (pc := 180) 0 dX12_judged_180 rfl rfl ?_
                    refine x_getF (pc := 181) (j := 0) fd_12_14 rfl rfl tk_1209 dX12_judged_181 ?_
                    refine x_aload_n (pc := 184) 0 dX12_judged_184 rfl rfl ?_
                    refine x_getF (pc := 185) (j := 0) fd_12_20 rfl rfl tk_1215 dX12_judged_185 ?_
                    refine x_iload_n (pc := 188) 1 dX12_judged_188 rfl rfl ?_
                    refine x_iald (pc := 189) ar_1320 dX12_judged_189 (fun m76 => ?_)
                    refine x_iald (pc := 190) ar_1314 dX12_judged_190 (fun m77 => ?_)
                    refine x_iadd (pc := 191) dX12_judged_191 ?_
                    refine x_iald (pc := 192) ar_1309 dX12_judged_192 (fun m78 => ?_)
                    exact x_sub [1, 4, 0] rfl (hj30 (gI s22 1309 0 m78))
                  ·
                    refine x_aload_n (pc := 165) 0 dX12_judged_165 rfl rfl ?_
                    refine x_getI (pc := 166) fd_12_56 tk_1251 dX12_judged_166 ?_
                    refine x_goto (pc := 169) 193 dX12_judged_169 (by decide) ?_
                    exact x_sub [1, 4, 0] rfl (hj30 (gI s22 12 0 56))
              ·
                refine x_same (c := r3 ≤ (gI s22 12 0 76)) ?_
                refine x_icmp_ge (pc := 147) 157 dX12_judged_147 (by decide) (fun hc24 => ?_) (fun hc24 => ?_)
                ·
                  have hm25 := x_topT hc24 hm23
                  refine x_iload_n (pc := 157) 3 dX12_judged_157 rfl rfl ?_
                  exact hm25
                ·
                  have hm26 := x_topF hc24 hm23
                  refine x_aload_n (pc := 150) 0 dX12_judged_150 rfl rfl ?_
                  refine x_getI (pc := 151) fd_12_76 tk_1271 dX12_judged_151 ?_
                  refine x_goto (pc := 154) 158 dX12_judged_154 (by decide) ?_
                  exact hm26
            ·
              exact x_sub [0, 3] rfl (hj18)
      · intro j15 hj16
        refine x_if_lt (pc := 79) 106 dX12_judged_79 (by decide) (fun _ => ?_) (fun _ => ?_)
        ·
          exact x_sub [4, 5, 3, 2, 1, 0] rfl (hj16 s13)
        ·
          refine x_aload_n (pc := 82) 0 dX12_judged_82 rfl rfl ?_
          refine x_iload_n (pc := 83) 1 dX12_judged_83 rfl rfl ?_
          refine x_iload (pc := 84) 5 dX12_judged_84 rfl ?_
          refine x_callV (pc := 86) (as := [aI v1, aI r12]) (rest := []) (fun l => c_12_nameFault l v1 r12 s13) md_X12_nameFault ⟨_, _, rfl, by decide⟩ tk_1789 tp_99 tk_1787 dX12_judged_86 rfl ⟨by decide, by decide, by decide, by decide⟩ ⟨fun _ => rfl, fun _ => Or.inl rfl⟩ rfl (Nat.le_of_ble_eq_true rfl) (fun _ s80 => ?_)
          show X E _ _ _ _ 0 0 _ _ _ [] _
          refine x_aload_n (pc := 89) 0 dX12_judged_89 rfl rfl ?_
          refine x_sipush (pc := 90) 160 dX12_judged_90 rfl ?_
          refine x_iload (pc := 93) 4 dX12_judged_93 rfl ?_
          refine x_imul (pc := 95) dX12_judged_95 ?_
          refine x_aload_n (pc := 96) 0 dX12_judged_96 rfl rfl ?_
          refine x_getF (pc := 97) (j := 0) fd_12_51 rfl rfl tk_1246 dX12_judged_97 ?_
          refine x_iload (pc := 100) 4 dX12_judged_100 rfl ?_
          refine x_iald (pc := 102) ar_1351 dX12_judged_102 (fun m81 => ?_)
          refine x_callV (pc := 103) (as := [aI (160 * r11), aI (gI s80 1351 0 m81)]) (rest := []) (fun l => c_12_readWarranty l (160 * r11) (gI s80 1351 0 m81) s80) md_X12_readWarranty ⟨_, _, rfl, by decide⟩ tk_1730 tp_87 tk_1728 dX12_judged_103 rfl ⟨by decide, by decide, by decide, by decide⟩ ⟨fun _ => rfl, fun _ => Or.inl rfl⟩ rfl (Nat.le_of_ble_eq_true rfl) (fun _ s83 => ?_)
          show X E _ _ _ _ 0 0 _ _ _ [] _
          exact x_sub [4, 5, 3, 2, 1, 0] rfl (hj16 s83)
    ·
      exact x_vret (rm := r12_judged) rfl rfl dX12_judged_57
theorem c_12_judged (l : Launch)  (v1 : Int32) (σ : zSt) : zMet l yX12_judged cX12_judged 8 none r12_judged true eV [aR 12 (some 0), aI v1] σ (f12_judged v1 σ) :=
  zMet_of [(0, aR 12 (some 0)), (1, aI v1)] (by decide +kernel) (fun h => by cases h) (Nat.le_of_ble_eq_true rfl) rfl fun E _ => x12_judged E  v1 σ
abbrev r12_judge : Room := { frames := 6, cells := 0, slots := 0, locals := 144 }
abbrev m12_judge : zMu := (RX12, 3, (some .int), r12_judge, false)
set_option maxRecDepth 20000 in
theorem x12_judge (E : zEn)  (v1 : Int32) (v2 : Int32) (σ : zSt) : X E cX12_judge m12_judge true (zQw E true eI r12_judge) 0 0 σ [(0, aR 12 (some 0)), (1, aI v1), (2, aI v2)] 0 [] (f12_judge v1 v2 σ) := by
  unfold f12_judge
  refine x_aload_n (pc := 0) 0 dX12_judge_0 rfl rfl ?_
  refine x_iload_n (pc := 1) 1 dX12_judge_1 rfl rfl ?_
  refine x_callVr (pc := 2) (as := [aI v1]) (rest := []) (fun l => c_12_isFault l true v1 σ) md_X12_isFault ⟨_, _, rfl, by decide⟩ tk_1532 tp_63 tk_1530 dX12_judge_2 rfl ⟨by decide, by decide, by decide, by decide⟩ ⟨fun _ => rfl, fun _ => Or.inl rfl⟩ rfl (Nat.le_of_ble_eq_true rfl) (fun r1 => ?_)
  show X E _ _ _ _ 0 0 _ _ _ [aI r1] _
  refine x_if_eq (pc := 5) 17 dX12_judge_5 (by decide) (fun _ => ?_) (fun _ => ?_)
  ·
    refine x_iconst (pc := 17) (-1) dX12_judge_17 rfl ?_
    exact x_iret (rm := r12_judge) rfl rfl dX12_judge_18
  ·
    refine x_iload_n (pc := 8) 2 dX12_judge_8 rfl rfl ?_
    refine x_iconst (pc := 9) 0 dX12_judge_9 rfl ?_
    refine x_iconst (pc := 10) 3 dX12_judge_10 rfl ?_
    refine x_callSr (pc := 11) (as := [aI v2, aI 0, aI 3]) (rest := []) (fun l => c_12_within l true v2 0 3 σ) md_X12_within tk_1447 tk_1446 dX12_judge_11 rfl ⟨by decide, by decide, by decide, by decide⟩ ⟨fun _ => rfl, fun _ => Or.inl rfl⟩ rfl (Nat.le_of_ble_eq_true rfl) (fun r2 => ?_)
    show X E _ _ _ _ 0 0 _ _ _ [aI r2] _
    refine x_if_ne (pc := 14) 19 dX12_judge_14 (by decide) (fun _ => ?_) (fun _ => ?_)
    ·
      refine x_aload_n (pc := 19) 0 dX12_judge_19 rfl rfl ?_
      refine x_iload_n (pc := 20) 1 dX12_judge_20 rfl rfl ?_
      refine x_callV (pc := 21) (as := [aI v1]) (rest := []) (fun l => c_12_judged l v1 σ) md_X12_judged ⟨_, _, rfl, by decide⟩ tk_1785 tp_98 tk_1783 dX12_judge_21 rfl ⟨by decide, by decide, by decide, by decide⟩ ⟨fun _ => rfl, fun _ => Or.inl rfl⟩ rfl (Nat.le_of_ble_eq_true rfl) (fun _ s4 => ?_)
      show X E _ _ _ _ 0 0 _ _ _ [] _
      refine x_iload_n (pc := 24) 2 dX12_judge_24 rfl rfl ?_
      refine x_if_ne (pc := 25) 35 dX12_judge_25 (by decide) (fun _ => ?_) (fun _ => ?_)
      ·
        refine x_iload_n (pc := 35) 2 dX12_judge_35 rfl rfl ?_
        refine x_iconst (pc := 36) 1 dX12_judge_36 rfl ?_
        refine x_icmp_ne (pc := 37) 47 dX12_judge_37 (by decide) (fun _ => ?_) (fun _ => ?_)
        ·
          refine x_iload_n (pc := 47) 2 dX12_judge_47 rfl rfl ?_
          refine x_iconst (pc := 48) 2 dX12_judge_48 rfl ?_
          refine x_icmp_ne (pc := 49) 59 dX12_judge_49 (by decide) (fun _ => ?_) (fun _ => ?_)
          ·
            refine x_aload_n (pc := 59) 0 dX12_judge_59 rfl rfl ?_
            refine x_getI (pc := 60) fd_12_81 tk_1276 dX12_judge_60 ?_
            exact x_iret (rm := r12_judge) rfl rfl dX12_judge_63
          ·
            refine x_aload_n (pc := 52) 0 dX12_judge_52 rfl rfl ?_
            refine x_getI (pc := 53) fd_12_80 tk_1275 dX12_judge_53 ?_
            refine x_goto (pc := 56) 63 dX12_judge_56 (by decide) ?_
            exact x_iret (rm := r12_judge) rfl rfl dX12_judge_63
        ·
          refine x_aload_n (pc := 40) 0 dX12_judge_40 rfl rfl ?_
          refine x_getI (pc := 41) fd_12_79 tk_1274 dX12_judge_41 ?_
          refine x_goto (pc := 44) 63 dX12_judge_44 (by decide) ?_
          exact x_iret (rm := r12_judge) rfl rfl dX12_judge_63
      ·
        refine x_aload_n (pc := 28) 0 dX12_judge_28 rfl rfl ?_
        refine x_getI (pc := 29) fd_12_78 tk_1273 dX12_judge_29 ?_
        refine x_goto (pc := 32) 63 dX12_judge_32 (by decide) ?_
        exact x_iret (rm := r12_judge) rfl rfl dX12_judge_63
    ·
      refine x_iconst (pc := 17) (-1) dX12_judge_17 rfl ?_
      exact x_iret (rm := r12_judge) rfl rfl dX12_judge_18
theorem c_12_judge (l : Launch)  (v1 : Int32) (v2 : Int32) (σ : zSt) : zMet l yX12_judge cX12_judge 3 (some .int) r12_judge true eI [aR 12 (some 0), aI v1, aI v2] σ (f12_judge v1 v2 σ) :=
  zMet_of [(0, aR 12 (some 0)), (1, aI v1), (2, aI v2)] (by decide +kernel) (fun h => by cases h) (Nat.le_of_ble_eq_true rfl) rfl fun E _ => x12_judge E  v1 v2 σ
abbrev r12_free : Room := { frames := 24, cells := 0, slots := 0, locals := 553 }
abbrev m12_free : zMu := (RX12, 4, (some .int), r12_free, false)
set_option maxRecDepth 20000 in
theorem x12_free (E : zEn)  (v1 : Int32) (σ : zSt) : X E cX12_free m12_free true (zQw E true eI r12_free) 0 0 σ [(0, aR 12 (some 0)), (1, aI v1)] 0 [] (f12_free v1 σ) := by
  unfold f12_free
  refine x_aload_n (pc := 0) 0 dX12_free_0 rfl rfl ?_
  refine x_iload_n (pc := 1) 1 dX12_free_1 rfl rfl ?_
  refine x_callVr (pc := 2) (as := [aI v1]) (rest := []) (fun l => c_12_isHome l true v1 σ) md_X12_isHome ⟨_, _, rfl, by decide⟩ tk_1459 tp_53 tk_1457 dX12_free_2 rfl ⟨by decide, by decide, by decide, by decide⟩ ⟨fun _ => rfl, fun _ => Or.inl rfl⟩ rfl (Nat.le_of_ble_eq_true rfl) (fun r1 => ?_)
  show X E _ _ _ _ 0 0 _ _ _ [aI r1] _
  refine x_if_ne (pc := 5) 10 dX12_free_5 (by decide) (fun _ => ?_) (fun _ => ?_)
  ·
    refine x_aload_n (pc := 10) 0 dX12_free_10 rfl rfl ?_
    refine x_getF (pc := 11) (j := 0) fd_12_5 rfl rfl tk_1200 dX12_free_11 ?_
    refine x_iload_n (pc := 14) 1 dX12_free_14 rfl rfl ?_
    refine x_iald (pc := 15) ar_1305 dX12_free_15 (fun m2 => ?_)
    refine x_if_ge (pc := 16) 22 dX12_free_16 (by decide) (fun _ => ?_) (fun _ => ?_)
    ·
      refine x_aload_n (pc := 22) 0 dX12_free_22 rfl rfl ?_
      refine x_iconst (pc := 23) 1 dX12_free_23 rfl ?_
      refine x_iload_n (pc := 24) 1 dX12_free_24 rfl rfl ?_
      refine x_aload_n (pc := 25) 0 dX12_free_25 rfl rfl ?_
      refine x_getI (pc := 26) fd_12_0 tk_1195 dX12_free_26 ?_
      refine x_callVr (pc := 29) (as := [aI 1, aI v1, aI (gI σ 12 0 0)]) (rest := []) (fun l => c_12_force l 1 v1 (gI σ 12 0 0) σ) md_X12_force ⟨_, _, rfl, by decide⟩ tk_1777 tp_97 tk_1775 dX12_free_29 rfl ⟨by decide, by decide, by decide, by decide⟩ ⟨fun _ => rfl, fun _ => Or.inl rfl⟩ rfl (Nat.le_of_ble_eq_true rfl) (fun r3 => ?_)
      show X E _ _ _ _ 0 0 _ _ _ [aI r3] _
      refine x_istore_n (pc := 32) (als' := [(2, aI r3), (0, aR 12 (some 0)), (1, aI v1)]) 2 dX12_free_32 rfl (by decide) rfl ?_
      refine x_aload_n (pc := 33) 0 dX12_free_33 rfl rfl ?_
      refine x_getF (pc := 34) (j := 0) fd_12_77 rfl rfl tk_1272 dX12_free_34 ?_
      refine x_iconst (pc := 37) 0 dX12_free_37 rfl ?_
      refine x_aload_n (pc := 38) 0 dX12_free_38 rfl rfl ?_
      refine x_iload_n (pc := 39) 1 dX12_free_39 rfl rfl ?_
      refine x_callVr (pc := 40) (as := [aI v1]) (rest := [aI 0, aR 1377 (some 0)]) (fun l => c_12_leftOf l v1 σ) md_X12_leftOf ⟨_, _, rfl, by decide⟩ tk_1484 tp_54 tk_1482 dX12_free_40 rfl ⟨by decide, by decide, by decide, by decide⟩ ⟨fun _ => rfl, fun _ => Or.inl rfl⟩ rfl (Nat.le_of_ble_eq_true rfl) (fun r4 => ?_)
      show X E _ _ _ _ 0 0 _ _ _ [aI r4, aI 0, aR 1377 (some 0)] _
      refine x_iast (pc := 43) ar_1377 dX12_free_43 (fun m5 => ?_)
      refine x_nameS (fun s6 => ?_)
      refine x_aload_n (pc := 44) 0 dX12_free_44 rfl rfl ?_
      refine x_getF (pc := 45) (j := 0) fd_12_77 rfl rfl tk_1272 dX12_free_45 ?_
      refine x_iconst (pc := 48) 1 dX12_free_48 rfl ?_
      refine x_aload_n (pc := 49) 0 dX12_free_49 rfl rfl ?_
      refine x_getI (pc := 50) fd_12_0 tk_1195 dX12_free_50 ?_
      refine x_aload_n (pc := 53) 0 dX12_free_53 rfl rfl ?_
      refine x_getF (pc := 54) (j := 0) fd_12_5 rfl rfl tk_1200 dX12_free_54 ?_
      refine x_iload_n (pc := 57) 1 dX12_free_57 rfl rfl ?_
      refine x_iald (pc := 58) ar_1305 dX12_free_58 (fun m7 => ?_)
      refine x_isub (pc := 59) dX12_free_59 ?_
      refine x_iast (pc := 60) ar_1377 dX12_free_60 (fun m8 => ?_)
      refine x_nameS (fun s9 => ?_)
      refine x_aload_n (pc := 61) 0 dX12_free_61 rfl rfl ?_
      refine x_getF (pc := 62) (j := 0) fd_12_77 rfl rfl tk_1272 dX12_free_62 ?_
      refine x_iconst (pc := 65) 2 dX12_free_65 rfl ?_
      refine x_aload_n (pc := 66) 0 dX12_free_66 rfl rfl ?_
      refine x_iload_n (pc := 67) 1 dX12_free_67 rfl rfl ?_
      refine x_callVr (pc := 68) (as := [aI v1]) (rest := [aI 2, aR 1377 (some 0)]) (fun l => c_12_falseOf l v1 s9) md_X12_falseOf ⟨_, _, rfl, by decide⟩ tk_1496 tp_57 tk_1494 dX12_free_68 rfl ⟨by decide, by decide, by decide, by decide⟩ ⟨fun _ => rfl, fun _ => Or.inl rfl⟩ rfl (Nat.le_of_ble_eq_true rfl) (fun r10 => ?_)
      show X E _ _ _ _ 0 0 _ _ _ [aI r10, aI 2, aR 1377 (some 0)] _
      refine x_iast (pc := 71) ar_1377 dX12_free_71 (fun m11 => ?_)
      refine x_nameS (fun s12 => ?_)
      refine x_aload_n (pc := 72) 0 dX12_free_72 rfl rfl ?_
      refine x_getF (pc := 73) (j := 0) fd_12_77 rfl rfl tk_1272 dX12_free_73 ?_
      refine x_iconst (pc := 76) 3 dX12_free_76 rfl ?_
      refine x_aload_n (pc := 77) 0 dX12_free_77 rfl rfl ?_
      refine x_iload_n (pc := 78) 1 dX12_free_78 rfl rfl ?_
      refine x_callVr (pc := 79) (as := [aI v1]) (rest := [aI 3, aR 1377 (some 0)]) (fun l => c_12_brokenOf l v1 s12) md_X12_brokenOf ⟨_, _, rfl, by decide⟩ tk_1500 tp_58 tk_1498 dX12_free_79 rfl ⟨by decide, by decide, by decide, by decide⟩ ⟨fun _ => rfl, fun _ => Or.inl rfl⟩ rfl (Nat.le_of_ble_eq_true rfl) (fun r13 => ?_)
      show X E _ _ _ _ 0 0 _ _ _ [aI r13, aI 3, aR 1377 (some 0)] _
      refine x_iast (pc := 82) ar_1377 dX12_free_82 (fun m14 => ?_)
      refine x_nameS (fun s15 => ?_)
      refine x_aload_n (pc := 83) 0 dX12_free_83 rfl rfl ?_
      refine x_getF (pc := 84) (j := 0) fd_12_77 rfl rfl tk_1272 dX12_free_84 ?_
      refine x_iconst (pc := 87) 4 dX12_free_87 rfl ?_
      refine x_aload_n (pc := 88) 0 dX12_free_88 rfl rfl ?_
      refine x_getF (pc := 89) (j := 0) fd_12_10 rfl rfl tk_1205 dX12_free_89 ?_
      refine x_iload_n (pc := 92) 1 dX12_free_92 rfl rfl ?_
      refine x_iald (pc := 93) ar_1310 dX12_free_93 (fun m16 => ?_)
      refine x_iast (pc := 94) ar_1377 dX12_free_94 (fun m17 => ?_)
      refine x_nameS (fun s18 => ?_)
      refine x_iload_n (pc := 95) 2 dX12_free_95 rfl rfl ?_
      refine x_join (P := fun (j21 : Int32 → zSt → Option (Int32 × zSt)) => ∀ (a19 : Int32) (s20 : zSt), X E cX12_free m12_free true (zQw E true eI r12_free) 0 0 s20 [(0, aR 12 (some 0)), (1, aI v1)] 124 [aI a19] (j21 a19 s20)) ?_ ?_
      · intro a19 s20
        refine x_istore_n (pc := 124) (als' := [(3, aI a19), (0, aR 12 (some 0)), (1, aI v1)]) 3 dX12_free_124 rfl (by decide) rfl ?_
        refine x_iload_n (pc := 125) 3 dX12_free_125 rfl rfl ?_
        refine x_join (P := fun (j24 : Int32 → Option (Int32 × zSt)) => ∀ (a23 : Int32), X E cX12_free m12_free true (zQw E true eI r12_free) 0 0 s20 [(0, aR 12 (some 0)), (1, aI v1)] 153 [aI a23] (j24 a23)) ?_ ?_
        · intro a23
          refine x_istore_n (pc := 153) (als' := [(3, aI a23), (0, aR 12 (some 0)), (1, aI v1)]) 3 dX12_free_153 rfl (by decide) rfl ?_
          refine x_aload_n (pc := 154) 0 dX12_free_154 rfl rfl ?_
          refine x_getF (pc := 155) (j := 0) fd_12_10 rfl rfl tk_1205 dX12_free_155 ?_
          refine x_iload_n (pc := 158) 1 dX12_free_158 rfl rfl ?_
          refine x_dup2 (pc := 159) dX12_free_159 rfl rfl ?_
          refine x_iald (pc := 160) ar_1310 dX12_free_160 (fun m26 => ?_)
          refine x_iload_n (pc := 161) 3 dX12_free_161 rfl rfl ?_
          refine x_isub (pc := 162) dX12_free_162 ?_
          refine x_iast (pc := 163) ar_1310 dX12_free_163 (fun m27 => ?_)
          refine x_nameS (fun s28 => ?_)
          refine x_aload_n (pc := 164) 0 dX12_free_164 rfl rfl ?_
          refine x_getF (pc := 165) (j := 0) fd_12_11 rfl rfl tk_1206 dX12_free_165 ?_
          refine x_iload_n (pc := 168) 1 dX12_free_168 rfl rfl ?_
          refine x_dup2 (pc := 169) dX12_free_169 rfl rfl ?_
          refine x_iald (pc := 170) ar_1311 dX12_free_170 (fun m29 => ?_)
          refine x_iload_n (pc := 171) 3 dX12_free_171 rfl rfl ?_
          refine x_iadd (pc := 172) dX12_free_172 ?_
          refine x_iast (pc := 173) ar_1311 dX12_free_173 (fun m30 => ?_)
          refine x_nameS (fun s31 => ?_)
          refine x_iload_n (pc := 174) 3 dX12_free_174 rfl rfl ?_
          exact x_iret (rm := r12_free) rfl rfl dX12_free_175
        · intro j24 hj25
          refine x_if_ge (pc := 126) 133 dX12_free_126 (by decide) (fun _ => ?_) (fun _ => ?_)
          ·
            refine x_iload_n (pc := 133) 3 dX12_free_133 rfl rfl ?_
            refine x_aload_n (pc := 134) 0 dX12_free_134 rfl rfl ?_
            refine x_getF (pc := 135) (j := 0) fd_12_10 rfl rfl tk_1205 dX12_free_135 ?_
            refine x_iload_n (pc := 138) 1 dX12_free_138 rfl rfl ?_
            refine x_iald (pc := 139) ar_1310 dX12_free_139 (fun m32 => ?_)
            refine x_icmp_le (pc := 140) 152 dX12_free_140 (by decide) (fun _ => ?_) (fun _ => ?_)
            ·
              refine x_iload_n (pc := 152) 3 dX12_free_152 rfl rfl ?_
              exact x_sub [1, 2] rfl (hj25 a19)
            ·
              refine x_aload_n (pc := 143) 0 dX12_free_143 rfl rfl ?_
              refine x_getF (pc := 144) (j := 0) fd_12_10 rfl rfl tk_1205 dX12_free_144 ?_
              refine x_iload_n (pc := 147) 1 dX12_free_147 rfl rfl ?_
              refine x_iald (pc := 148) ar_1310 dX12_free_148 (fun m33 => ?_)
              refine x_goto (pc := 149) 153 dX12_free_149 (by decide) ?_
              exact x_sub [1, 2] rfl (hj25 (gI s20 1310 0 m33))
          ·
            refine x_iconst (pc := 129) 0 dX12_free_129 rfl ?_
            refine x_goto (pc := 130) 153 dX12_free_130 (by decide) ?_
            exact x_sub [1, 2] rfl (hj25 0)
      · intro j21 hj22
        refine x_if_ge (pc := 96) 103 dX12_free_96 (by decide) (fun _ => ?_) (fun _ => ?_)
        ·
          refine x_aload_n (pc := 103) 0 dX12_free_103 rfl rfl ?_
          refine x_sipush (pc := 104) 160 dX12_free_104 rfl ?_
          refine x_bipush (pc := 107) 10 dX12_free_107 rfl ?_
          refine x_iload_n (pc := 109) 2 dX12_free_109 rfl rfl ?_
          refine x_iadd (pc := 110) dX12_free_110 ?_
          refine x_imul (pc := 111) dX12_free_111 ?_
          refine x_aload_n (pc := 112) 0 dX12_free_112 rfl rfl ?_
          refine x_getF (pc := 113) (j := 0) fd_12_51 rfl rfl tk_1246 dX12_free_113 ?_
          refine x_bipush (pc := 116) 10 dX12_free_116 rfl ?_
          refine x_iload_n (pc := 118) 2 dX12_free_118 rfl rfl ?_
          refine x_iadd (pc := 119) dX12_free_119 ?_
          refine x_iald (pc := 120) ar_1351 dX12_free_120 (fun m34 => ?_)
          refine x_callV (pc := 121) (as := [aI (160 * (10 + r3)), aI (gI s18 1351 0 m34)]) (rest := []) (fun l => c_12_readFreeing l (160 * (10 + r3)) (gI s18 1351 0 m34) s18) md_X12_readFreeing ⟨_, _, rfl, by decide⟩ tk_1761 tp_94 tk_1759 dX12_free_121 rfl ⟨by decide, by decide, by decide, by decide⟩ ⟨fun _ => rfl, fun _ => Or.inl rfl⟩ rfl (Nat.le_of_ble_eq_true rfl) (fun r35 s36 => ?_)
          show X E _ _ _ _ 0 0 _ _ _ [aI r35] _
          exact x_sub [1, 2] rfl (hj22 r35 s36)
        ·
          refine x_iconst (pc := 99) 0 dX12_free_99 rfl ?_
          refine x_goto (pc := 100) 124 dX12_free_100 (by decide) ?_
          exact x_sub [1, 2] rfl (hj22 0 s18)
    ·
      refine x_bipush (pc := 19) (-3) dX12_free_19 rfl ?_
      exact x_iret (rm := r12_free) rfl rfl dX12_free_21
  ·
    refine x_iconst (pc := 8) (-1) dX12_free_8 rfl ?_
    exact x_iret (rm := r12_free) rfl rfl dX12_free_9
theorem c_12_free (l : Launch)  (v1 : Int32) (σ : zSt) : zMet l yX12_free cX12_free 4 (some .int) r12_free true eI [aR 12 (some 0), aI v1] σ (f12_free v1 σ) :=
  zMet_of [(0, aR 12 (some 0)), (1, aI v1)] (by decide +kernel) (fun h => by cases h) (Nat.le_of_ble_eq_true rfl) rfl fun E _ => x12_free E  v1 σ
abbrev r12_take : Room := { frames := 6, cells := 0, slots := 0, locals := 144 }
abbrev m12_take : zMu := (RX12, 3, (some .int), r12_take, false)
set_option maxRecDepth 20000 in
theorem x12_take (E : zEn)  (v1 : Int32) (σ : zSt) : X E cX12_take m12_take true (zQw E true eI r12_take) 0 0 σ [(0, aR 12 (some 0)), (1, aI v1)] 0 [] (f12_take v1 σ) := by
  unfold f12_take
  refine x_aload_n (pc := 0) 0 dX12_take_0 rfl rfl ?_
  refine x_iload_n (pc := 1) 1 dX12_take_1 rfl rfl ?_
  refine x_callVr (pc := 2) (as := [aI v1]) (rest := []) (fun l => c_12_isFault l true v1 σ) md_X12_isFault ⟨_, _, rfl, by decide⟩ tk_1532 tp_63 tk_1530 dX12_take_2 rfl ⟨by decide, by decide, by decide, by decide⟩ ⟨fun _ => rfl, fun _ => Or.inl rfl⟩ rfl (Nat.le_of_ble_eq_true rfl) (fun r1 => ?_)
  show X E _ _ _ _ 0 0 _ _ _ [aI r1] _
  refine x_if_ne (pc := 5) 10 dX12_take_5 (by decide) (fun _ => ?_) (fun _ => ?_)
  ·
    refine x_aload_n (pc := 10) 0 dX12_take_10 rfl rfl ?_
    refine x_iload_n (pc := 11) 1 dX12_take_11 rfl rfl ?_
    refine x_callV (pc := 12) (as := [aI v1]) (rest := []) (fun l => c_12_judged l v1 σ) md_X12_judged ⟨_, _, rfl, by decide⟩ tk_1785 tp_98 tk_1783 dX12_take_12 rfl ⟨by decide, by decide, by decide, by decide⟩ ⟨fun _ => rfl, fun _ => Or.inl rfl⟩ rfl (Nat.le_of_ble_eq_true rfl) (fun _ s3 => ?_)
    show X E _ _ _ _ 0 0 _ _ _ [] _
    refine x_aload_n (pc := 15) 0 dX12_take_15 rfl rfl ?_
    refine x_getF (pc := 16) (j := 0) fd_12_18 rfl rfl tk_1213 dX12_take_16 ?_
    refine x_iload_n (pc := 19) 1 dX12_take_19 rfl rfl ?_
    refine x_iald (pc := 20) ar_1318 dX12_take_20 (fun m4 => ?_)
    refine x_nameI (fun x5 => ?_)
    refine x_istore_n (pc := 21) (als' := [(2, aI x5), (0, aR 12 (some 0)), (1, aI v1)]) 2 dX12_take_21 rfl (by decide) rfl ?_
    refine x_aload_n (pc := 22) 0 dX12_take_22 rfl rfl ?_
    refine x_iload_n (pc := 23) 1 dX12_take_23 rfl rfl ?_
    refine x_callVr (pc := 24) (as := [aI v1]) (rest := []) (fun l => c_12_isOpen l v1 s3) md_X12_isOpen ⟨_, _, rfl, by decide⟩ tk_1536 tp_64 tk_1534 dX12_take_24 rfl ⟨by decide, by decide, by decide, by decide⟩ ⟨fun _ => rfl, fun _ => Or.inl rfl⟩ rfl (Nat.le_of_ble_eq_true rfl) (fun r6 => ?_)
    show X E _ _ _ _ 0 0 _ _ _ [aI r6] _
    refine x_if_eq (pc := 27) 61 dX12_take_27 (by decide) (fun _ => ?_) (fun _ => ?_)
    ·
      refine x_bipush (pc := 61) (-3) dX12_take_61 rfl ?_
      exact x_iret (rm := r12_take) rfl rfl dX12_take_63
    ·
      refine x_aload_n (pc := 30) 0 dX12_take_30 rfl rfl ?_
      refine x_getI (pc := 31) fd_12_78 tk_1273 dX12_take_31 ?_
      refine x_if_ne (pc := 34) 61 dX12_take_34 (by decide) (fun _ => ?_) (fun _ => ?_)
      ·
        refine x_bipush (pc := 61) (-3) dX12_take_61 rfl ?_
        exact x_iret (rm := r12_take) rfl rfl dX12_take_63
      ·
        refine x_aload_n (pc := 37) 0 dX12_take_37 rfl rfl ?_
        refine x_getI (pc := 38) fd_12_80 tk_1275 dX12_take_38 ?_
        refine x_aload_n (pc := 41) 0 dX12_take_41 rfl rfl ?_
        refine x_getF (pc := 42) (j := 0) fd_12_10 rfl rfl tk_1205 dX12_take_42 ?_
        refine x_iload_n (pc := 45) 2 dX12_take_45 rfl rfl ?_
        refine x_iald (pc := 46) ar_1310 dX12_take_46 (fun m7 => ?_)
        refine x_icmp_gt (pc := 47) 61 dX12_take_47 (by decide) (fun _ => ?_) (fun _ => ?_)
        ·
          refine x_bipush (pc := 61) (-3) dX12_take_61 rfl ?_
          exact x_iret (rm := r12_take) rfl rfl dX12_take_63
        ·
          refine x_aload_n (pc := 50) 0 dX12_take_50 rfl rfl ?_
          refine x_getF (pc := 51) (j := 0) fd_12_29 rfl rfl tk_1224 dX12_take_51 ?_
          refine x_iload_n (pc := 54) 1 dX12_take_54 rfl rfl ?_
          refine x_iald (pc := 55) ar_1329 dX12_take_55 (fun m8 => ?_)
          refine x_bipush (pc := 56) 30 dX12_take_56 rfl ?_
          refine x_icmp_ne (pc := 58) 64 dX12_take_58 (by decide) (fun _ => ?_) (fun _ => ?_)
          ·
            refine x_aload_n (pc := 64) 0 dX12_take_64 rfl rfl ?_
            refine x_getF (pc := 65) (j := 0) fd_12_10 rfl rfl tk_1205 dX12_take_65 ?_
            refine x_iload_n (pc := 68) 2 dX12_take_68 rfl rfl ?_
            refine x_dup2 (pc := 69) dX12_take_69 rfl rfl ?_
            refine x_iald (pc := 70) ar_1310 dX12_take_70 (fun m9 => ?_)
            refine x_aload_n (pc := 71) 0 dX12_take_71 rfl rfl ?_
            refine x_getI (pc := 72) fd_12_80 tk_1275 dX12_take_72 ?_
            refine x_isub (pc := 75) dX12_take_75 ?_
            refine x_iast (pc := 76) ar_1310 dX12_take_76 (fun m10 => ?_)
            refine x_nameS (fun s11 => ?_)
            refine x_aload_n (pc := 77) 0 dX12_take_77 rfl rfl ?_
            refine x_getF (pc := 78) (j := 0) fd_12_12 rfl rfl tk_1207 dX12_take_78 ?_
            refine x_iload_n (pc := 81) 2 dX12_take_81 rfl rfl ?_
            refine x_dup2 (pc := 82) dX12_take_82 rfl rfl ?_
            refine x_iald (pc := 83) ar_1312 dX12_take_83 (fun m12 => ?_)
            refine x_aload_n (pc := 84) 0 dX12_take_84 rfl rfl ?_
            refine x_getI (pc := 85) fd_12_80 tk_1275 dX12_take_85 ?_
            refine x_iadd (pc := 88) dX12_take_88 ?_
            refine x_iast (pc := 89) ar_1312 dX12_take_89 (fun m13 => ?_)
            refine x_nameS (fun s14 => ?_)
            refine x_aload_n (pc := 90) 0 dX12_take_90 rfl rfl ?_
            refine x_iload_n (pc := 91) 1 dX12_take_91 rfl rfl ?_
            refine x_callV (pc := 92) (as := [aI v1]) (rest := []) (fun l => c_12_endPromise l v1 s14) md_X12_endPromise ⟨_, _, rfl, by decide⟩ tk_1559 tp_66 tk_1557 dX12_take_92 rfl ⟨by decide, by decide, by decide, by decide⟩ ⟨fun _ => rfl, fun _ => Or.inl rfl⟩ rfl (Nat.le_of_ble_eq_true rfl) (fun _ s16 => ?_)
            show X E _ _ _ _ 0 0 _ _ _ [] _
            refine x_aload_n (pc := 95) 0 dX12_take_95 rfl rfl ?_
            refine x_iload_n (pc := 96) 1 dX12_take_96 rfl rfl ?_
            refine x_iconst (pc := 97) 3 dX12_take_97 rfl ?_
            refine x_iconst (pc := 98) (-1) dX12_take_98 rfl ?_
            refine x_callV (pc := 99) (as := [aI v1, aI 3, aI (-1)]) (rest := []) (fun l => c_12_become l v1 3 (-1) s16) md_X12_become ⟨_, _, rfl, by decide⟩ tk_1524 tp_62 tk_1522 dX12_take_99 rfl ⟨by decide, by decide, by decide, by decide⟩ ⟨fun _ => rfl, fun _ => Or.inl rfl⟩ rfl (Nat.le_of_ble_eq_true rfl) (fun _ s18 => ?_)
            show X E _ _ _ _ 0 0 _ _ _ [] _
            refine x_aload_n (pc := 102) 0 dX12_take_102 rfl rfl ?_
            refine x_getI (pc := 103) fd_12_80 tk_1275 dX12_take_103 ?_
            exact x_iret (rm := r12_take) rfl rfl dX12_take_106
          ·
            refine x_bipush (pc := 61) (-3) dX12_take_61 rfl ?_
            exact x_iret (rm := r12_take) rfl rfl dX12_take_63
  ·
    refine x_iconst (pc := 8) (-1) dX12_take_8 rfl ?_
    exact x_iret (rm := r12_take) rfl rfl dX12_take_9
theorem c_12_take (l : Launch)  (v1 : Int32) (σ : zSt) : zMet l yX12_take cX12_take 3 (some .int) r12_take true eI [aR 12 (some 0), aI v1] σ (f12_take v1 σ) :=
  zMet_of [(0, aR 12 (some 0)), (1, aI v1)] (by decide +kernel) (fun h => by cases h) (Nat.le_of_ble_eq_true rfl) rfl fun E _ => x12_take E  v1 σ
abbrev r12_isEyeIn : Room := { frames := 0, cells := 0, slots := 0, locals := 0 }
abbrev m12_isEyeIn : zMu := (RX12, 5, (some .boolean), r12_isEyeIn, false)
set_option maxRecDepth 20000 in
theorem xl12_isEyeIn_5 (E : zEn)   (h1 : Int32) (h2 : Int32) (σ : zSt)   : ∀ (n : Nat) (v3 : Int32) (v4 : Int32), X E cX12_isEyeIn m12_isEyeIn true (zQr E true eI r12_isEyeIn σ) 0 0 σ [(0, aR 12 (some 0)), (1, aI h1), (2, aI h2), (3, aI v3), (4, aI v4)] 5 [] (f12_isEyeIn_L5 h1 h2 σ n v3 v4) := by
  intro n
  induction n with
  | zero => intros; exact x_none
  | succ n ih =>
    intro v3 v4
    rw [f12_isEyeIn_L5]
    refine x_iload (pc := 5) 4 dX12_isEyeIn_5 rfl ?_
    refine x_aload_n (pc := 7) 0 dX12_isEyeIn_7 rfl rfl ?_
    refine x_getI (pc := 8) fd_12_36 tk_1231 dX12_isEyeIn_8 ?_
    refine x_icmp_ge (pc := 11) 62 dX12_isEyeIn_11 (by decide) (fun _ => ?_) (fun _ => ?_)
    ·
      refine x_iload_n (pc := 62) 3 dX12_isEyeIn_62 rfl rfl ?_
      exact x_zret (rm := r12_isEyeIn) rfl rfl dX12_isEyeIn_63
    ·
      refine x_iload_n (pc := 14) 3 dX12_isEyeIn_14 rfl rfl ?_
      refine x_join (P := fun (j2 : Int32 → Option Int32) => ∀ (a1 : Int32), X E cX12_isEyeIn m12_isEyeIn true (zQr E true eI r12_isEyeIn σ) 0 0 σ [(0, aR 12 (some 0)), (1, aI h1), (2, aI h2), (4, aI v4)] 55 [aI a1] (j2 a1)) ?_ ?_
      · intro a1
        refine x_istore_n (pc := 55) (als' := [(3, aI a1), (0, aR 12 (some 0)), (1, aI h1), (2, aI h2), (4, aI v4)]) 3 dX12_isEyeIn_55 rfl (by decide) rfl ?_
        refine x_iinc (pc := 56) (als' := [(4, aI (v4 + 1)), (3, aI a1), (0, aR 12 (some 0)), (1, aI h1), (2, aI h2)]) 4 4 (c := 1) dX12_isEyeIn_56 rfl rfl (by decide) rfl ?_
        refine x_nameV (g := fun y5 => [(4, aI y5), (3, aI a1), (0, aR 12 (some 0)), (1, aI h1), (2, aI h2)]) (fun x4 => ?_) rfl
        refine x_goto (pc := 59) 5 dX12_isEyeIn_59 (by decide) ?_
        exact x_sub [2, 3, 4, 1, 0] rfl (ih a1 x4)
      · intro j2 hj3
        refine x_join (P := fun (j6 : Option Int32) => X E cX12_isEyeIn m12_isEyeIn true (zQr E true eI r12_isEyeIn σ) 0 0 σ [(0, aR 12 (some 0)), (1, aI h1), (2, aI h2), (4, aI v4)] 50 [] j6) ?_ ?_
        ·
          refine x_iconst (pc := 50) 1 dX12_isEyeIn_50 rfl ?_
          refine x_goto (pc := 51) 55 dX12_isEyeIn_51 (by decide) ?_
          exact hj3 1
        · intro j6 hj7
          refine x_if_ne (pc := 15) 50 dX12_isEyeIn_15 (by decide) (fun _ => ?_) (fun _ => ?_)
          ·
            exact x_sub [0, 1, 2, 4] rfl (hj7)
          ·
            refine x_aload_n (pc := 18) 0 dX12_isEyeIn_18 rfl rfl ?_
            refine x_getF (pc := 19) (j := 0) fd_12_24 rfl rfl tk_1219 dX12_isEyeIn_19 ?_
            refine x_iload (pc := 22) 4 dX12_isEyeIn_22 rfl ?_
            refine x_zald (pc := 24) ar_1324 dX12_isEyeIn_24 (fun m8 => ?_)
            refine x_join (P := fun (j9 : Option Int32) => X E cX12_isEyeIn m12_isEyeIn true (zQr E true eI r12_isEyeIn σ) 0 0 σ [(0, aR 12 (some 0)), (1, aI h1), (2, aI h2), (4, aI v4)] 54 [] j9) ?_ ?_
            ·
              refine x_iconst (pc := 54) 0 dX12_isEyeIn_54 rfl ?_
              exact hj3 0
            · intro j9 hj10
              refine x_if_eq (pc := 25) 54 dX12_isEyeIn_25 (by decide) (fun _ => ?_) (fun _ => ?_)
              ·
                exact x_sub [0, 1, 2, 4] rfl (hj10)
              ·
                refine x_aload_n (pc := 28) 0 dX12_isEyeIn_28 rfl rfl ?_
                refine x_getF (pc := 29) (j := 0) fd_12_23 rfl rfl tk_1218 dX12_isEyeIn_29 ?_
                refine x_iload (pc := 32) 4 dX12_isEyeIn_32 rfl ?_
                refine x_iald (pc := 34) ar_1323 dX12_isEyeIn_34 (fun m11 => ?_)
                refine x_iload_n (pc := 35) 1 dX12_isEyeIn_35 rfl rfl ?_
                refine x_icmp_ne (pc := 36) 54 dX12_isEyeIn_36 (by decide) (fun _ => ?_) (fun _ => ?_)
                ·
                  exact x_sub [0, 1, 2, 4] rfl (hj10)
                ·
                  refine x_aload_n (pc := 39) 0 dX12_isEyeIn_39 rfl rfl ?_
                  refine x_getF (pc := 40) (j := 0) fd_12_18 rfl rfl tk_1213 dX12_isEyeIn_40 ?_
                  refine x_iload (pc := 43) 4 dX12_isEyeIn_43 rfl ?_
                  refine x_iald (pc := 45) ar_1318 dX12_isEyeIn_45 (fun m12 => ?_)
                  refine x_iload_n (pc := 46) 2 dX12_isEyeIn_46 rfl rfl ?_
                  refine x_icmp_ne (pc := 47) 54 dX12_isEyeIn_47 (by decide) (fun _ => ?_) (fun _ => ?_)
                  ·
                    exact x_sub [0, 1, 2, 4] rfl (hj10)
                  ·
                    exact x_sub [0, 1, 2, 4] rfl (hj7)
set_option maxRecDepth 20000 in
theorem x12_isEyeIn (E : zEn)  (v1 : Int32) (v2 : Int32) (σ : zSt) : X E cX12_isEyeIn m12_isEyeIn true (zQr E true eI r12_isEyeIn σ) 0 0 σ [(0, aR 12 (some 0)), (1, aI v1), (2, aI v2)] 0 [] (f12_isEyeIn v1 v2 σ) := by
  unfold f12_isEyeIn
  refine x_iconst (pc := 0) 0 dX12_isEyeIn_0 rfl ?_
  refine x_istore_n (pc := 1) (als' := [(3, aI 0), (0, aR 12 (some 0)), (1, aI v1), (2, aI v2)]) 3 dX12_isEyeIn_1 rfl (by decide) rfl ?_
  refine x_iconst (pc := 2) 0 dX12_isEyeIn_2 rfl ?_
  refine x_istore (pc := 3) (als' := [(4, aI 0), (3, aI 0), (0, aR 12 (some 0)), (1, aI v1), (2, aI v2)]) 4 dX12_isEyeIn_3 (by decide) rfl ?_
  refine x_sub [2, 3, 4, 1, 0] rfl (xl12_isEyeIn_5 E v1 v2 σ zfuel 0 0)
theorem c_12_isEyeIn (l : Launch)  (v1 : Int32) (v2 : Int32) (σ : zSt) : zMet l yX12_isEyeIn cX12_isEyeIn 5 (some .boolean) r12_isEyeIn true eI [aR 12 (some 0), aI v1, aI v2] σ (zro (f12_isEyeIn v1 v2 σ) σ) :=
  zMet_ofR [(0, aR 12 (some 0)), (1, aI v1), (2, aI v2)] (by decide +kernel) (fun h => by cases h) (Nat.le_of_ble_eq_true rfl) rfl fun E _ => x12_isEyeIn E  v1 v2 σ
abbrev r12_firstTold : Room := { frames := 0, cells := 0, slots := 0, locals := 0 }
abbrev m12_firstTold : zMu := (RX12, 6, (some .int), r12_firstTold, false)
set_option maxRecDepth 20000 in
theorem xl12_firstTold_3 (E : zEn)   (h1 : Int32) (h2 : Int32) (h3 : Int32) (h4 : Int32) (σ : zSt)   : ∀ (n : Nat) (v5 : Int32), X E cX12_firstTold m12_firstTold true (zQr E true eI r12_firstTold σ) 0 0 σ [(0, aR 12 (some 0)), (1, aI h1), (2, aI h2), (3, aI h3), (4, aI h4), (5, aI v5)] 3 [] (f12_firstTold_L3 h1 h2 h3 h4 σ n v5) := by
  intro n
  induction n with
  | zero => intros; exact x_none
  | succ n ih =>
    intro v5
    rw [f12_firstTold_L3]
    refine x_iload (pc := 3) 5 dX12_firstTold_3 rfl ?_
    refine x_aload_n (pc := 5) 0 dX12_firstTold_5 rfl rfl ?_
    refine x_getI (pc := 6) fd_12_36 tk_1231 dX12_firstTold_6 ?_
    refine x_icmp_ge (pc := 9) 76 dX12_firstTold_9 (by decide) (fun _ => ?_) (fun _ => ?_)
    ·
      refine x_iconst (pc := 76) (-1) dX12_firstTold_76 rfl ?_
      exact x_iret (rm := r12_firstTold) rfl rfl dX12_firstTold_77
    ·
      refine x_aload_n (pc := 12) 0 dX12_firstTold_12 rfl rfl ?_
      refine x_getF (pc := 13) (j := 0) fd_12_24 rfl rfl tk_1219 dX12_firstTold_13 ?_
      refine x_iload (pc := 16) 5 dX12_firstTold_16 rfl ?_
      refine x_zald (pc := 18) ar_1324 dX12_firstTold_18 (fun m1 => ?_)
      refine x_join (P := fun (j2 : Option Int32) => X E cX12_firstTold m12_firstTold true (zQr E true eI r12_firstTold σ) 0 0 σ [(0, aR 12 (some 0)), (1, aI h1), (2, aI h2), (3, aI h3), (4, aI h4), (5, aI v5)] 70 [] j2) ?_ ?_
      ·
        refine x_iinc (pc := 70) (als' := [(5, aI (v5 + 1)), (0, aR 12 (some 0)), (1, aI h1), (2, aI h2), (3, aI h3), (4, aI h4)]) 5 5 (c := 1) dX12_firstTold_70 rfl rfl (by decide) rfl ?_
        refine x_nameV (g := fun y5 => [(5, aI y5), (0, aR 12 (some 0)), (1, aI h1), (2, aI h2), (3, aI h3), (4, aI h4)]) (fun x4 => ?_) rfl
        refine x_goto (pc := 73) 3 dX12_firstTold_73 (by decide) ?_
        exact x_sub [1, 2, 3, 4, 5, 0] rfl (ih x4)
      · intro j2 hj3
        refine x_if_eq (pc := 19) 70 dX12_firstTold_19 (by decide) (fun _ => ?_) (fun _ => ?_)
        ·
          exact hj3
        ·
          refine x_aload_n (pc := 22) 0 dX12_firstTold_22 rfl rfl ?_
          refine x_getF (pc := 23) (j := 0) fd_12_23 rfl rfl tk_1218 dX12_firstTold_23 ?_
          refine x_iload (pc := 26) 5 dX12_firstTold_26 rfl ?_
          refine x_iald (pc := 28) ar_1323 dX12_firstTold_28 (fun m6 => ?_)
          refine x_iload_n (pc := 29) 1 dX12_firstTold_29 rfl rfl ?_
          refine x_icmp_ne (pc := 30) 70 dX12_firstTold_30 (by decide) (fun _ => ?_) (fun _ => ?_)
          ·
            exact hj3
          ·
            refine x_aload_n (pc := 33) 0 dX12_firstTold_33 rfl rfl ?_
            refine x_getF (pc := 34) (j := 0) fd_12_18 rfl rfl tk_1213 dX12_firstTold_34 ?_
            refine x_iload (pc := 37) 5 dX12_firstTold_37 rfl ?_
            refine x_iald (pc := 39) ar_1318 dX12_firstTold_39 (fun m7 => ?_)
            refine x_iload_n (pc := 40) 2 dX12_firstTold_40 rfl rfl ?_
            refine x_icmp_ne (pc := 41) 70 dX12_firstTold_41 (by decide) (fun _ => ?_) (fun _ => ?_)
            ·
              exact hj3
            ·
              refine x_aload_n (pc := 44) 0 dX12_firstTold_44 rfl rfl ?_
              refine x_getF (pc := 45) (j := 0) fd_12_19 rfl rfl tk_1214 dX12_firstTold_45 ?_
              refine x_iload (pc := 48) 5 dX12_firstTold_48 rfl ?_
              refine x_iald (pc := 50) ar_1319 dX12_firstTold_50 (fun m8 => ?_)
              refine x_iload_n (pc := 51) 3 dX12_firstTold_51 rfl rfl ?_
              refine x_icmp_ne (pc := 52) 70 dX12_firstTold_52 (by decide) (fun _ => ?_) (fun _ => ?_)
              ·
                exact hj3
              ·
                refine x_aload_n (pc := 55) 0 dX12_firstTold_55 rfl rfl ?_
                refine x_getF (pc := 56) (j := 0) fd_12_20 rfl rfl tk_1215 dX12_firstTold_56 ?_
                refine x_iload (pc := 59) 5 dX12_firstTold_59 rfl ?_
                refine x_iald (pc := 61) ar_1320 dX12_firstTold_61 (fun m9 => ?_)
                refine x_iload (pc := 62) 4 dX12_firstTold_62 rfl ?_
                refine x_icmp_ne (pc := 64) 70 dX12_firstTold_64 (by decide) (fun _ => ?_) (fun _ => ?_)
                ·
                  exact hj3
                ·
                  refine x_iload (pc := 67) 5 dX12_firstTold_67 rfl ?_
                  exact x_iret (rm := r12_firstTold) rfl rfl dX12_firstTold_69
set_option maxRecDepth 20000 in
theorem x12_firstTold (E : zEn)  (v1 : Int32) (v2 : Int32) (v3 : Int32) (v4 : Int32) (σ : zSt) : X E cX12_firstTold m12_firstTold true (zQr E true eI r12_firstTold σ) 0 0 σ [(0, aR 12 (some 0)), (1, aI v1), (2, aI v2), (3, aI v3), (4, aI v4)] 0 [] (f12_firstTold v1 v2 v3 v4 σ) := by
  unfold f12_firstTold
  refine x_iconst (pc := 0) 0 dX12_firstTold_0 rfl ?_
  refine x_istore (pc := 1) (als' := [(5, aI 0), (0, aR 12 (some 0)), (1, aI v1), (2, aI v2), (3, aI v3), (4, aI v4)]) 5 dX12_firstTold_1 (by decide) rfl ?_
  refine x_sub [1, 2, 3, 4, 5, 0] rfl (xl12_firstTold_3 E v1 v2 v3 v4 σ zfuel 0)
theorem c_12_firstTold (l : Launch)  (v1 : Int32) (v2 : Int32) (v3 : Int32) (v4 : Int32) (σ : zSt) : zMet l yX12_firstTold cX12_firstTold 6 (some .int) r12_firstTold true eI [aR 12 (some 0), aI v1, aI v2, aI v3, aI v4] σ (zro (f12_firstTold v1 v2 v3 v4 σ) σ) :=
  zMet_ofR [(0, aR 12 (some 0)), (1, aI v1), (2, aI v2), (3, aI v3), (4, aI v4)] (by decide +kernel) (fun h => by cases h) (Nat.le_of_ble_eq_true rfl) rfl fun E _ => x12_firstTold E  v1 v2 v3 v4 σ
