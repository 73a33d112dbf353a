abbrev r12_doubles : Room := { frames := 1, cells := 0, slots := 0, locals := 25 }
abbrev m12_doubles : zMu := (RX12, 15, (some .int), r12_doubles, false)
set_option maxRecDepth 20000 in
theorem xl12_doubles_124 (E : zEn)   (h1 : Int32) (h2 : Int32) (h3 : Int32) (h4 : Int32) (h9 : Int32) (h10 : Int32) (h11 : Int32) (σ : zSt) {K259 : Int32 → Int32 → Int32 → Int32 → Option Int32} (hK259 : ∀ (v5 : Int32) (v6 : Int32) (v7 : Int32) (v8 : Int32), X E cX12_doubles m12_doubles true (zQr E true eI r12_doubles σ) 0 0 σ [(0, aR 12 (some 0)), (1, aI h1), (2, aI h2), (3, aI h3), (4, aI h4), (5, aI v5), (6, aI v6), (7, aI v7), (8, aI v8), (9, aI h9), (10, aI h10), (11, aI h11)] 259 [] (K259 v5 v6 v7 v8)) : ∀ (n : Nat) (v5 : Int32) (v6 : Int32) (v7 : Int32) (v8 : Int32) (v12 : Int32), X E cX12_doubles m12_doubles true (zQr E true eI r12_doubles σ) 0 0 σ [(0, aR 12 (some 0)), (1, aI h1), (2, aI h2), (3, aI h3), (4, aI h4), (5, aI v5), (6, aI v6), (7, aI v7), (8, aI v8), (9, aI h9), (10, aI h10), (11, aI h11), (12, aI v12)] 124 [] (f12_doubles_L124 h1 h2 h3 h4 h9 h10 h11 σ K259 n v5 v6 v7 v8 v12) := by
  intro n
  induction n with
  | zero => intros; exact x_none
  | succ n ih =>
    intro v5 v6 v7 v8 v12
    rw [f12_doubles_L124]
    refine x_iload (pc := 124) 12 dX12_doubles_124 rfl ?_
    refine x_aload_n (pc := 126) 0 dX12_doubles_126 rfl rfl ?_
    refine x_getI (pc := 127) fd_12_17 tk_1212 dX12_doubles_127 ?_
    refine x_icmp_ge (pc := 130) 259 dX12_doubles_130 (by decide) (fun _ => ?_) (fun _ => ?_)
    ·
      exact x_sub [0, 1, 2, 3, 4, 5, 6, 7, 8, 9, 10, 11] rfl (hK259 v5 v6 v7 v8)
    ·
      refine x_aload_n (pc := 133) 0 dX12_doubles_133 rfl rfl ?_
      refine x_iload_n (pc := 134) 1 dX12_doubles_134 rfl rfl ?_
      refine x_iload (pc := 135) 9 dX12_doubles_135 rfl ?_
      refine x_iload (pc := 137) 11 dX12_doubles_137 rfl ?_
      refine x_iload (pc := 139) 12 dX12_doubles_139 rfl ?_
      refine x_callVr (pc := 141) (as := [aI h1, aI h9, aI h11, aI v12]) (rest := []) (fun l => c_12_firstTold l h1 h9 h11 v12 σ) md_X12_firstTold ⟨_, _, rfl, by decide⟩ tk_1809 tp_101 tk_1807 dX12_doubles_141 rfl ⟨by decide, by decide, by decide, by decide⟩ ⟨fun _ => rfl, fun _ => Or.inl rfl⟩ rfl (Nat.le_of_ble_eq_true rfl) (fun r13 => ?_)
      show X E _ _ _ _ 0 0 _ _ _ [aI r13] _
      refine x_istore (pc := 144) (als' := [(13, aI r13), (0, aR 12 (some 0)), (1, aI h1), (2, aI h2), (3, aI h3), (4, aI h4), (5, aI v5), (6, aI v6), (7, aI v7), (8, aI v8), (9, aI h9), (10, aI h10), (11, aI h11), (12, aI v12)]) 13 dX12_doubles_144 (by decide) rfl ?_
      refine x_aload_n (pc := 146) 0 dX12_doubles_146 rfl rfl ?_
      refine x_iload_n (pc := 147) 2 dX12_doubles_147 rfl rfl ?_
      refine x_iload (pc := 148) 9 dX12_doubles_148 rfl ?_
      refine x_iload (pc := 150) 11 dX12_doubles_150 rfl ?_
      refine x_iload (pc := 152) 12 dX12_doubles_152 rfl ?_
      refine x_callVr (pc := 154) (as := [aI h2, aI h9, aI h11, aI v12]) (rest := []) (fun l => c_12_firstTold l h2 h9 h11 v12 σ) md_X12_firstTold ⟨_, _, rfl, by decide⟩ tk_1809 tp_101 tk_1807 dX12_doubles_154 rfl ⟨by decide, by decide, by decide, by decide⟩ ⟨fun _ => rfl, fun _ => Or.inl rfl⟩ rfl (Nat.le_of_ble_eq_true rfl) (fun r14 => ?_)
      show X E _ _ _ _ 0 0 _ _ _ [aI r14] _
      refine x_istore (pc := 157) (als' := [(14, aI r14), (13, aI r13), (0, aR 12 (some 0)), (1, aI h1), (2, aI h2), (3, aI h3), (4, aI h4), (5, aI v5), (6, aI v6), (7, aI v7), (8, aI v8), (9, aI h9), (10, aI h10), (11, aI h11), (12, aI v12)]) 14 dX12_doubles_157 (by decide) rfl ?_
      refine x_iload (pc := 159) 5 dX12_doubles_159 rfl ?_
      refine x_iload (pc := 161) 13 dX12_doubles_161 rfl ?_
      refine x_mg (c := r13 < 0) (a := 0) (b := (if r14 < 0 then 0 else 1)) 176 [aI v5] ?_ (fun hm15 => ?_)
      ·
        refine x_iadd (pc := 176) dX12_doubles_176 ?_
        refine x_nameI (fun x22 => ?_)
        refine x_istore (pc := 177) (als' := [(5, aI x22), (14, aI r14), (13, aI r13), (0, aR 12 (some 0)), (1, aI h1), (2, aI h2), (3, aI h3), (4, aI h4), (6, aI v6), (7, aI v7), (8, aI v8), (9, aI h9), (10, aI h10), (11, aI h11), (12, aI v12)]) 5 dX12_doubles_177 (by decide) rfl ?_
        refine x_iload (pc := 179) 6 dX12_doubles_179 rfl ?_
        refine x_iload (pc := 181) 13 dX12_doubles_181 rfl ?_
        refine x_mg (c := r13 < 0) (a := 0) (b := (if 0 ≤ r14 then 0 else 1)) 196 [aI v6] ?_ (fun hm23 => ?_)
        ·
          refine x_iadd (pc := 196) dX12_doubles_196 ?_
          refine x_nameI (fun x30 => ?_)
          refine x_istore (pc := 197) (als' := [(6, aI x30), (5, aI x22), (14, aI r14), (13, aI r13), (0, aR 12 (some 0)), (1, aI h1), (2, aI h2), (3, aI h3), (4, aI h4), (7, aI v7), (8, aI v8), (9, aI h9), (10, aI h10), (11, aI h11), (12, aI v12)]) 6 dX12_doubles_197 (by decide) rfl ?_
          refine x_iload (pc := 199) 7 dX12_doubles_199 rfl ?_
          refine x_iload (pc := 201) 13 dX12_doubles_201 rfl ?_
          refine x_mg (c := 0 ≤ r13) (a := 0) (b := (if r14 < 0 then 0 else 1)) 216 [aI v7] ?_ (fun hm31 => ?_)
          ·
            refine x_iadd (pc := 216) dX12_doubles_216 ?_
            refine x_nameI (fun x38 => ?_)
            refine x_istore (pc := 217) (als' := [(7, aI x38), (6, aI x30), (5, aI x22), (14, aI r14), (13, aI r13), (0, aR 12 (some 0)), (1, aI h1), (2, aI h2), (3, aI h3), (4, aI h4), (8, aI v8), (9, aI h9), (10, aI h10), (11, aI h11), (12, aI v12)]) 7 dX12_doubles_217 (by decide) rfl ?_
            refine x_iload (pc := 219) 8 dX12_doubles_219 rfl ?_
            refine x_iload (pc := 221) 13 dX12_doubles_221 rfl ?_
            refine x_join (P := fun (j40 : Int32 → Option Int32) => ∀ (a39 : Int32), X E cX12_doubles m12_doubles true (zQr E true eI r12_doubles σ) 0 0 σ [(0, aR 12 (some 0)), (1, aI h1), (2, aI h2), (3, aI h3), (4, aI h4), (5, aI x22), (6, aI x30), (7, aI x38), (9, aI h9), (10, aI h10), (11, aI h11), (12, aI v12)] 250 [aI a39, aI v8] (j40 a39)) ?_ ?_
            · intro a39
              refine x_iadd (pc := 250) dX12_doubles_250 ?_
              refine x_nameI (fun x42 => ?_)
              refine x_istore (pc := 251) (als' := [(8, aI x42), (0, aR 12 (some 0)), (1, aI h1), (2, aI h2), (3, aI h3), (4, aI h4), (5, aI x22), (6, aI x30), (7, aI x38), (9, aI h9), (10, aI h10), (11, aI h11), (12, aI v12)]) 8 dX12_doubles_251 (by decide) rfl ?_
              refine x_iinc (pc := 253) (als' := [(12, aI (v12 + 1)), (8, aI x42), (0, aR 12 (some 0)), (1, aI h1), (2, aI h2), (3, aI h3), (4, aI h4), (5, aI x22), (6, aI x30), (7, aI x38), (9, aI h9), (10, aI h10), (11, aI h11)]) 12 12 (c := 1) dX12_doubles_253 rfl rfl (by decide) rfl ?_
              refine x_nameV (g := fun y44 => [(12, aI y44), (8, aI x42), (0, aR 12 (some 0)), (1, aI h1), (2, aI h2), (3, aI h3), (4, aI h4), (5, aI x22), (6, aI x30), (7, aI x38), (9, aI h9), (10, aI h10), (11, aI h11)]) (fun x43 => ?_) rfl
              refine x_goto (pc := 256) 124 dX12_doubles_256 (by decide) ?_
              exact x_sub [2, 3, 4, 5, 6, 7, 8, 9, 1, 10, 11, 12, 0] rfl (ih x22 x30 x38 x42 x43)
            · intro j40 hj41
              refine x_join (P := fun (j45 : Option Int32) => X E cX12_doubles m12_doubles true (zQr E true eI r12_doubles σ) 0 0 σ [(0, aR 12 (some 0)), (1, aI h1), (2, aI h2), (3, aI h3), (4, aI h4), (5, aI x22), (6, aI x30), (7, aI x38), (9, aI h9), (10, aI h10), (11, aI h11), (12, aI v12)] 249 [aI v8] j45) ?_ ?_
              ·
                refine x_iconst (pc := 249) 0 dX12_doubles_249 rfl ?_
                exact hj41 0
              · intro j45 hj46
                refine x_if_lt (pc := 223) 249 dX12_doubles_223 (by decide) (fun _ => ?_) (fun _ => ?_)
                ·
                  exact x_sub [5, 6, 7, 8, 9, 2, 1, 0, 11, 12, 13, 14] rfl (hj46)
                ·
                  refine x_iload (pc := 226) 14 dX12_doubles_226 rfl ?_
                  refine x_if_lt (pc := 228) 249 dX12_doubles_228 (by decide) (fun _ => ?_) (fun _ => ?_)
                  ·
                    exact x_sub [5, 6, 7, 8, 9, 2, 1, 0, 11, 12, 13, 14] rfl (hj46)
                  ·
                    refine x_aload_n (pc := 231) 0 dX12_doubles_231 rfl rfl ?_
                    refine x_getF (pc := 232) (j := 0) fd_12_21 rfl rfl tk_1216 dX12_doubles_232 ?_
                    refine x_iload (pc := 235) 13 dX12_doubles_235 rfl ?_
                    refine x_iald (pc := 237) ar_1321 dX12_doubles_237 (fun m47 => ?_)
                    refine x_aload_n (pc := 238) 0 dX12_doubles_238 rfl rfl ?_
                    refine x_getF (pc := 239) (j := 0) fd_12_21 rfl rfl tk_1216 dX12_doubles_239 ?_
                    refine x_iload (pc := 242) 14 dX12_doubles_242 rfl ?_
                    refine x_iald (pc := 244) ar_1321 dX12_doubles_244 (fun m48 => ?_)
                    refine x_isub (pc := 245) dX12_doubles_245 ?_
                    refine x_goto (pc := 246) 250 dX12_doubles_246 (by decide) ?_
                    exact x_sub [5, 6, 7, 8, 9, 2, 1, 0, 11, 12, 13, 14] rfl (hj41 ((gI σ 1321 0 m47) - (gI σ 1321 0 m48)))
          ·
            refine x_same (c := 0 ≤ r13) ?_
            refine x_if_ge (pc := 203) 215 dX12_doubles_203 (by decide) (fun hc32 => ?_) (fun hc32 => ?_)
            ·
              have hm33 := x_topT hc32 hm31
              refine x_iconst (pc := 215) 0 dX12_doubles_215 rfl ?_
              exact hm33
            ·
              have hm34 := x_topF hc32 hm31
              refine x_iload (pc := 206) 14 dX12_doubles_206 rfl ?_
              refine x_same (c := r14 < 0) ?_
              refine x_if_lt (pc := 208) 215 dX12_doubles_208 (by decide) (fun hc35 => ?_) (fun hc35 => ?_)
              ·
                have hm36 := x_topT hc35 hm34
                refine x_iconst (pc := 215) 0 dX12_doubles_215 rfl ?_
                exact hm36
              ·
                have hm37 := x_topF hc35 hm34
                refine x_iconst (pc := 211) 1 dX12_doubles_211 rfl ?_
                refine x_goto (pc := 212) 216 dX12_doubles_212 (by decide) ?_
                exact hm37
        ·
          refine x_same (c := r13 < 0) ?_
          refine x_if_lt (pc := 183) 195 dX12_doubles_183 (by decide) (fun hc24 => ?_) (fun hc24 => ?_)
          ·
            have hm25 := x_topT hc24 hm23
            refine x_iconst (pc := 195) 0 dX12_doubles_195 rfl ?_
            exact hm25
          ·
            have hm26 := x_topF hc24 hm23
            refine x_iload (pc := 186) 14 dX12_doubles_186 rfl ?_
            refine x_same (c := 0 ≤ r14) ?_
            refine x_if_ge (pc := 188) 195 dX12_doubles_188 (by decide) (fun hc27 => ?_) (fun hc27 => ?_)
            ·
              have hm28 := x_topT hc27 hm26
              refine x_iconst (pc := 195) 0 dX12_doubles_195 rfl ?_
              exact hm28
            ·
              have hm29 := x_topF hc27 hm26
              refine x_iconst (pc := 191) 1 dX12_doubles_191 rfl ?_
              refine x_goto (pc := 192) 196 dX12_doubles_192 (by decide) ?_
              exact hm29
      ·
        refine x_same (c := r13 < 0) ?_
        refine x_if_lt (pc := 163) 175 dX12_doubles_163 (by decide) (fun hc16 => ?_) (fun hc16 => ?_)
        ·
          have hm17 := x_topT hc16 hm15
          refine x_iconst (pc := 175) 0 dX12_doubles_175 rfl ?_
          exact hm17
        ·
          have hm18 := x_topF hc16 hm15
          refine x_iload (pc := 166) 14 dX12_doubles_166 rfl ?_
          refine x_same (c := r14 < 0) ?_
          refine x_if_lt (pc := 168) 175 dX12_doubles_168 (by decide) (fun hc19 => ?_) (fun hc19 => ?_)
          ·
            have hm20 := x_topT hc19 hm18
            refine x_iconst (pc := 175) 0 dX12_doubles_175 rfl ?_
            exact hm20
          ·
            have hm21 := x_topF hc19 hm18
            refine x_iconst (pc := 171) 1 dX12_doubles_171 rfl ?_
            refine x_goto (pc := 172) 176 dX12_doubles_172 (by decide) ?_
            exact hm21
set_option maxRecDepth 20000 in
theorem xl12_doubles_109 (E : zEn)   (h1 : Int32) (h2 : Int32) (h3 : Int32) (h4 : Int32) (h9 : Int32) (h10 : Int32) (σ : zSt) {K265 : Int32 → Int32 → Int32 → Int32 → Option Int32} (hK265 : ∀ (v5 : Int32) (v6 : Int32) (v7 : Int32) (v8 : Int32), X E cX12_doubles m12_doubles true (zQr E true eI r12_doubles σ) 0 0 σ [(0, aR 12 (some 0)), (1, aI h1), (2, aI h2), (3, aI h3), (4, aI h4), (5, aI v5), (6, aI v6), (7, aI v7), (8, aI v8), (9, aI h9)] 265 [] (K265 v5 v6 v7 v8)) : ∀ (n : Nat) (v5 : Int32) (v6 : Int32) (v7 : Int32) (v8 : Int32) (v11 : Int32), X E cX12_doubles m12_doubles true (zQr E true eI r12_doubles σ) 0 0 σ [(0, aR 12 (some 0)), (1, aI h1), (2, aI h2), (3, aI h3), (4, aI h4), (5, aI v5), (6, aI v6), (7, aI v7), (8, aI v8), (9, aI h9), (10, aI h10), (11, aI v11)] 109 [] (f12_doubles_L109 h1 h2 h3 h4 h9 h10 σ K265 n v5 v6 v7 v8 v11) := by
  intro n
  induction n with
  | zero => intros; exact x_none
  | succ n ih =>
    intro v5 v6 v7 v8 v11
    rw [f12_doubles_L109]
    refine x_iload (pc := 109) 11 dX12_doubles_109 rfl ?_
    refine x_bipush (pc := 111) 12 dX12_doubles_111 rfl ?_
    refine x_icmp_ge (pc := 113) 265 dX12_doubles_113 (by decide) (fun _ => ?_) (fun _ => ?_)
    ·
      exact x_sub [0, 1, 2, 3, 4, 5, 6, 7, 8, 9] rfl (hK265 v5 v6 v7 v8)
    ·
      refine x_iload (pc := 116) 10 dX12_doubles_116 rfl ?_
      refine x_if_eq (pc := 118) 265 dX12_doubles_118 (by decide) (fun _ => ?_) (fun _ => ?_)
      ·
        exact x_sub [0, 1, 2, 3, 4, 5, 6, 7, 8, 9] rfl (hK265 v5 v6 v7 v8)
      ·
        refine x_iconst (pc := 121) 0 dX12_doubles_121 rfl ?_
        refine x_istore (pc := 122) (als' := [(12, aI 0), (0, aR 12 (some 0)), (1, aI h1), (2, aI h2), (3, aI h3), (4, aI h4), (5, aI v5), (6, aI v6), (7, aI v7), (8, aI v8), (9, aI h9), (10, aI h10), (11, aI v11)]) 12 dX12_doubles_122 (by decide) rfl ?_
        refine x_sub [1, 2, 3, 4, 5, 6, 7, 8, 9, 10, 11, 12, 0] rfl (xl12_doubles_124 E h1 h2 h3 h4 h9 h10 v11 σ (fun a49 a50 a51 a52 => ?_) zfuel v5 v6 v7 v8 0)
        ·
          refine x_iinc (pc := 259) (als' := [(11, aI (v11 + 1)), (0, aR 12 (some 0)), (1, aI h1), (2, aI h2), (3, aI h3), (4, aI h4), (5, aI a49), (6, aI a50), (7, aI a51), (8, aI a52), (9, aI h9), (10, aI h10)]) 11 11 (c := 1) dX12_doubles_259 rfl rfl (by decide) rfl ?_
          refine x_nameV (g := fun y54 => [(11, aI y54), (0, aR 12 (some 0)), (1, aI h1), (2, aI h2), (3, aI h3), (4, aI h4), (5, aI a49), (6, aI a50), (7, aI a51), (8, aI a52), (9, aI h9), (10, aI h10)]) (fun x53 => ?_) rfl
          refine x_goto (pc := 262) 109 dX12_doubles_262 (by decide) ?_
          exact x_sub [1, 2, 3, 4, 5, 6, 7, 8, 9, 10, 11, 0] rfl (ih a49 a50 a51 a52 x53)
set_option maxRecDepth 20000 in
theorem xl12_doubles_55 (E : zEn)   (h1 : Int32) (h2 : Int32) (h3 : Int32) (σ : zSt) {K271 : Int32 → Int32 → Int32 → Int32 → Int32 → Option Int32} (hK271 : ∀ (v4 : Int32) (v5 : Int32) (v6 : Int32) (v7 : Int32) (v8 : Int32), X E cX12_doubles m12_doubles true (zQr E true eI r12_doubles σ) 0 0 σ [(3, aI h3), (4, aI v4), (5, aI v5), (6, aI v6), (7, aI v7), (8, aI v8)] 271 [] (K271 v4 v5 v6 v7 v8)) : ∀ (n : Nat) (v4 : Int32) (v5 : Int32) (v6 : Int32) (v7 : Int32) (v8 : Int32) (v9 : Int32), X E cX12_doubles m12_doubles true (zQr E true eI r12_doubles σ) 0 0 σ [(0, aR 12 (some 0)), (1, aI h1), (2, aI h2), (3, aI h3), (4, aI v4), (5, aI v5), (6, aI v6), (7, aI v7), (8, aI v8), (9, aI v9)] 55 [] (f12_doubles_L55 h1 h2 h3 σ K271 n v4 v5 v6 v7 v8 v9) := by
  intro n
  induction n with
  | zero => intros; exact x_none
  | succ n ih =>
    intro v4 v5 v6 v7 v8 v9
    rw [f12_doubles_L55]
    refine x_iload (pc := 55) 9 dX12_doubles_55 rfl ?_
    refine x_aload_n (pc := 57) 0 dX12_doubles_57 rfl rfl ?_
    refine x_getI (pc := 58) fd_12_13 tk_1208 dX12_doubles_58 ?_
    refine x_icmp_ge (pc := 61) 271 dX12_doubles_61 (by decide) (fun _ => ?_) (fun _ => ?_)
    ·
      exact x_sub [3, 4, 5, 6, 7, 8] rfl (hK271 v4 v5 v6 v7 v8)
    ·
      refine x_aload_n (pc := 64) 0 dX12_doubles_64 rfl rfl ?_
      refine x_iload_n (pc := 65) 1 dX12_doubles_65 rfl rfl ?_
      refine x_iload (pc := 66) 9 dX12_doubles_66 rfl ?_
      refine x_callVr (pc := 68) (as := [aI h1, aI v9]) (rest := []) (fun l => c_12_isEyeIn l h1 v9 σ) md_X12_isEyeIn ⟨_, _, rfl, by decide⟩ tk_1805 tp_100 tk_1803 dX12_doubles_68 rfl ⟨by decide, by decide, by decide, by decide⟩ ⟨fun _ => rfl, fun _ => Or.inl rfl⟩ rfl (Nat.le_of_ble_eq_true rfl) (fun r4 => ?_)
      show X E _ _ _ _ 0 0 _ _ _ [aI r4] _
      refine x_join (P := fun (j6 : Int32 → Option Int32) => ∀ (a5 : Int32), X E cX12_doubles m12_doubles true (zQr E true eI r12_doubles σ) 0 0 σ [(0, aR 12 (some 0)), (1, aI h1), (2, aI h2), (3, aI h3), (4, aI v4), (5, aI v5), (6, aI v6), (7, aI v7), (8, aI v8), (9, aI v9)] 89 [aI a5] (j6 a5)) ?_ ?_
      · intro a5
        refine x_istore (pc := 89) (als' := [(10, aI a5), (0, aR 12 (some 0)), (1, aI h1), (2, aI h2), (3, aI h3), (4, aI v4), (5, aI v5), (6, aI v6), (7, aI v7), (8, aI v8), (9, aI v9)]) 10 dX12_doubles_89 (by decide) rfl ?_
        refine x_iload (pc := 91) 4 dX12_doubles_91 rfl ?_
        refine x_iload (pc := 93) 10 dX12_doubles_93 rfl ?_
        refine x_mg (c := a5 = 0) (a := 0) (b := 1) 103 [aI v4] ?_ (fun hm8 => ?_)
        ·
          refine x_iadd (pc := 103) dX12_doubles_103 ?_
          refine x_nameI (fun x12 => ?_)
          refine x_istore (pc := 104) (als' := [(4, aI x12), (10, aI a5), (0, aR 12 (some 0)), (1, aI h1), (2, aI h2), (3, aI h3), (5, aI v5), (6, aI v6), (7, aI v7), (8, aI v8), (9, aI v9)]) 4 dX12_doubles_104 (by decide) rfl ?_
          refine x_iconst (pc := 106) 0 dX12_doubles_106 rfl ?_
          refine x_istore (pc := 107) (als' := [(11, aI 0), (4, aI x12), (10, aI a5), (0, aR 12 (some 0)), (1, aI h1), (2, aI h2), (3, aI h3), (5, aI v5), (6, aI v6), (7, aI v7), (8, aI v8), (9, aI v9)]) 11 dX12_doubles_107 (by decide) rfl ?_
          refine x_sub [3, 4, 5, 6, 1, 7, 8, 9, 10, 11, 2, 0] rfl (xl12_doubles_109 E h1 h2 h3 x12 v9 a5 σ (fun a55 a56 a57 a58 => ?_) zfuel v5 v6 v7 v8 0)
          ·
            refine x_iinc (pc := 265) (als' := [(9, aI (v9 + 1)), (0, aR 12 (some 0)), (1, aI h1), (2, aI h2), (3, aI h3), (4, aI x12), (5, aI a55), (6, aI a56), (7, aI a57), (8, aI a58)]) 9 9 (c := 1) dX12_doubles_265 rfl rfl (by decide) rfl ?_
            refine x_nameV (g := fun y60 => [(9, aI y60), (0, aR 12 (some 0)), (1, aI h1), (2, aI h2), (3, aI h3), (4, aI x12), (5, aI a55), (6, aI a56), (7, aI a57), (8, aI a58)]) (fun x59 => ?_) rfl
            refine x_goto (pc := 268) 55 dX12_doubles_268 (by decide) ?_
            exact x_sub [1, 2, 3, 4, 5, 6, 7, 8, 9, 0] rfl (ih x12 a55 a56 a57 a58 x59)
        ·
          refine x_same (c := a5 = 0) ?_
          refine x_if_eq (pc := 95) 102 dX12_doubles_95 (by decide) (fun hc9 => ?_) (fun hc9 => ?_)
          ·
            have hm10 := x_topT hc9 hm8
            refine x_iconst (pc := 102) 0 dX12_doubles_102 rfl ?_
            exact hm10
          ·
            have hm11 := x_topF hc9 hm8
            refine x_iconst (pc := 98) 1 dX12_doubles_98 rfl ?_
            refine x_goto (pc := 99) 103 dX12_doubles_99 (by decide) ?_
            exact hm11
      · intro j6 hj7
        refine x_join (P := fun (j61 : Option Int32) => X E cX12_doubles m12_doubles true (zQr E true eI r12_doubles σ) 0 0 σ [(0, aR 12 (some 0)), (1, aI h1), (2, aI h2), (3, aI h3), (4, aI v4), (5, aI v5), (6, aI v6), (7, aI v7), (8, aI v8), (9, aI v9)] 88 [] j61) ?_ ?_
        ·
          refine x_iconst (pc := 88) 0 dX12_doubles_88 rfl ?_
          exact hj7 0
        · intro j61 hj62
          refine x_if_eq (pc := 71) 88 dX12_doubles_71 (by decide) (fun _ => ?_) (fun _ => ?_)
          ·
            exact hj62
          ·
            refine x_aload_n (pc := 74) 0 dX12_doubles_74 rfl rfl ?_
            refine x_iload_n (pc := 75) 2 dX12_doubles_75 rfl rfl ?_
            refine x_iload (pc := 76) 9 dX12_doubles_76 rfl ?_
            refine x_callVr (pc := 78) (as := [aI h2, aI v9]) (rest := []) (fun l => c_12_isEyeIn l h2 v9 σ) md_X12_isEyeIn ⟨_, _, rfl, by decide⟩ tk_1805 tp_100 tk_1803 dX12_doubles_78 rfl ⟨by decide, by decide, by decide, by decide⟩ ⟨fun _ => rfl, fun _ => Or.inl rfl⟩ rfl (Nat.le_of_ble_eq_true rfl) (fun r63 => ?_)
            show X E _ _ _ _ 0 0 _ _ _ [aI r63] _
            refine x_if_eq (pc := 81) 88 dX12_doubles_81 (by decide) (fun _ => ?_) (fun _ => ?_)
            ·
              exact hj62
            ·
              refine x_iconst (pc := 84) 1 dX12_doubles_84 rfl ?_
              refine x_goto (pc := 85) 89 dX12_doubles_85 (by decide) ?_
              exact hj7 1
set_option maxRecDepth 20000 in
theorem x12_doubles (E : zEn)  (v1 : Int32) (v2 : Int32) (v3 : Int32) (σ : zSt) : X E cX12_doubles m12_doubles true (zQr E true eI r12_doubles σ) 0 0 σ [(0, aR 12 (some 0)), (1, aI v1), (2, aI v2), (3, aI v3)] 0 [] (f12_doubles v1 v2 v3 σ) := by
  unfold f12_doubles
  refine x_iload_n (pc := 0) 1 dX12_doubles_0 rfl rfl ?_
  refine x_iconst (pc := 1) 0 dX12_doubles_1 rfl ?_
  refine x_bipush (pc := 2) 9 dX12_doubles_2 rfl ?_
  refine x_callSr (pc := 4) (as := [aI v1, aI 0, aI 9]) (rest := []) (fun l => c_12_within l true v1 0 9 σ) md_X12_within tk_1447 tk_1446 dX12_doubles_4 rfl ⟨by decide, by decide, by decide, by decide⟩ ⟨fun _ => rfl, fun _ => Or.inl rfl⟩ rfl (Nat.le_of_ble_eq_true rfl) (fun r1 => ?_)
  show X E _ _ _ _ 0 0 _ _ _ [aI r1] _
  refine x_if_eq (pc := 7) 34 dX12_doubles_7 (by decide) (fun _ => ?_) (fun _ => ?_)
  ·
    refine x_ldc (pc := 34) (v := (-2000000000)) dX12_doubles_34 tk_1477 ?_
    exact x_iret (rm := r12_doubles) rfl rfl dX12_doubles_36
  ·
    refine x_iload_n (pc := 10) 2 dX12_doubles_10 rfl rfl ?_
    refine x_iconst (pc := 11) 0 dX12_doubles_11 rfl ?_
    refine x_bipush (pc := 12) 9 dX12_doubles_12 rfl ?_
    refine x_callSr (pc := 14) (as := [aI v2, aI 0, aI 9]) (rest := []) (fun l => c_12_within l true v2 0 9 σ) md_X12_within tk_1447 tk_1446 dX12_doubles_14 rfl ⟨by decide, by decide, by decide, by decide⟩ ⟨fun _ => rfl, fun _ => Or.inl rfl⟩ rfl (Nat.le_of_ble_eq_true rfl) (fun r2 => ?_)
    show X E _ _ _ _ 0 0 _ _ _ [aI r2] _
    refine x_if_eq (pc := 17) 34 dX12_doubles_17 (by decide) (fun _ => ?_) (fun _ => ?_)
    ·
      refine x_ldc (pc := 34) (v := (-2000000000)) dX12_doubles_34 tk_1477 ?_
      exact x_iret (rm := r12_doubles) rfl rfl dX12_doubles_36
    ·
      refine x_iload_n (pc := 20) 1 dX12_doubles_20 rfl rfl ?_
      refine x_iload_n (pc := 21) 2 dX12_doubles_21 rfl rfl ?_
      refine x_icmp_eq (pc := 22) 34 dX12_doubles_22 (by decide) (fun _ => ?_) (fun _ => ?_)
      ·
        refine x_ldc (pc := 34) (v := (-2000000000)) dX12_doubles_34 tk_1477 ?_
        exact x_iret (rm := r12_doubles) rfl rfl dX12_doubles_36
      ·
        refine x_iload_n (pc := 25) 3 dX12_doubles_25 rfl rfl ?_
        refine x_iconst (pc := 26) 0 dX12_doubles_26 rfl ?_
        refine x_iconst (pc := 27) 5 dX12_doubles_27 rfl ?_
        refine x_callSr (pc := 28) (as := [aI v3, aI 0, aI 5]) (rest := []) (fun l => c_12_within l true v3 0 5 σ) md_X12_within tk_1447 tk_1446 dX12_doubles_28 rfl ⟨by decide, by decide, by decide, by decide⟩ ⟨fun _ => rfl, fun _ => Or.inl rfl⟩ rfl (Nat.le_of_ble_eq_true rfl) (fun r3 => ?_)
        show X E _ _ _ _ 0 0 _ _ _ [aI r3] _
        refine x_if_ne (pc := 31) 37 dX12_doubles_31 (by decide) (fun _ => ?_) (fun _ => ?_)
        ·
          refine x_iconst (pc := 37) 0 dX12_doubles_37 rfl ?_
          refine x_istore (pc := 38) (als' := [(4, aI 0), (0, aR 12 (some 0)), (1, aI v1), (2, aI v2), (3, aI v3)]) 4 dX12_doubles_38 (by decide) rfl ?_
          refine x_iconst (pc := 40) 0 dX12_doubles_40 rfl ?_
          refine x_istore (pc := 41) (als' := [(5, aI 0), (4, aI 0), (0, aR 12 (some 0)), (1, aI v1), (2, aI v2), (3, aI v3)]) 5 dX12_doubles_41 (by decide) rfl ?_
          refine x_iconst (pc := 43) 0 dX12_doubles_43 rfl ?_
          refine x_istore (pc := 44) (als' := [(6, aI 0), (5, aI 0), (4, aI 0), (0, aR 12 (some 0)), (1, aI v1), (2, aI v2), (3, aI v3)]) 6 dX12_doubles_44 (by decide) rfl ?_
          refine x_iconst (pc := 46) 0 dX12_doubles_46 rfl ?_
          refine x_istore (pc := 47) (als' := [(7, aI 0), (6, aI 0), (5, aI 0), (4, aI 0), (0, aR 12 (some 0)), (1, aI v1), (2, aI v2), (3, aI v3)]) 7 dX12_doubles_47 (by decide) rfl ?_
          refine x_iconst (pc := 49) 0 dX12_doubles_49 rfl ?_
          refine x_istore (pc := 50) (als' := [(8, aI 0), (7, aI 0), (6, aI 0), (5, aI 0), (4, aI 0), (0, aR 12 (some 0)), (1, aI v1), (2, aI v2), (3, aI v3)]) 8 dX12_doubles_50 (by decide) rfl ?_
          refine x_iconst (pc := 52) 0 dX12_doubles_52 rfl ?_
          refine x_istore (pc := 53) (als' := [(9, aI 0), (8, aI 0), (7, aI 0), (6, aI 0), (5, aI 0), (4, aI 0), (0, aR 12 (some 0)), (1, aI v1), (2, aI v2), (3, aI v3)]) 9 dX12_doubles_53 (by decide) rfl ?_
          refine x_sub [6, 7, 8, 9, 5, 4, 3, 2, 1, 0] rfl (xl12_doubles_55 E v1 v2 v3 σ (fun a64 a65 a66 a67 a68 => ?_) zfuel 0 0 0 0 0 0)
          ·
            refine x_iload (pc := 271) 5 dX12_doubles_271 rfl ?_
            refine x_iload (pc := 273) 7 dX12_doubles_273 rfl ?_
            refine x_iadd (pc := 275) dX12_doubles_275 ?_
            refine x_join (P := fun (j70 : Int32 → Option Int32) => ∀ (a69 : Int32), X E cX12_doubles m12_doubles true (zQr E true eI r12_doubles σ) 0 0 σ [(3, aI v3), (4, aI a64), (5, aI a65), (6, aI a66), (7, aI a67), (8, aI a68)] 295 [aI a69] (j70 a69)) ?_ ?_
            · intro a69
              refine x_istore (pc := 295) (als' := [(9, aI a69), (3, aI v3), (4, aI a64), (5, aI a65), (6, aI a66), (7, aI a67), (8, aI a68)]) 9 dX12_doubles_295 (by decide) rfl ?_
              refine x_iload_n (pc := 297) 3 dX12_doubles_297 rfl rfl ?_
              refine x_if_ne (pc := 298) 306 dX12_doubles_298 (by decide) (fun _ => ?_) (fun _ => ?_)
              ·
                refine x_iload_n (pc := 306) 3 dX12_doubles_306 rfl rfl ?_
                refine x_iconst (pc := 307) 1 dX12_doubles_307 rfl ?_
                refine x_icmp_ne (pc := 308) 316 dX12_doubles_308 (by decide) (fun _ => ?_) (fun _ => ?_)
                ·
                  refine x_iload_n (pc := 316) 3 dX12_doubles_316 rfl rfl ?_
                  refine x_iconst (pc := 317) 2 dX12_doubles_317 rfl ?_
                  refine x_icmp_ne (pc := 318) 326 dX12_doubles_318 (by decide) (fun _ => ?_) (fun _ => ?_)
                  ·
                    refine x_iload_n (pc := 326) 3 dX12_doubles_326 rfl rfl ?_
                    refine x_iconst (pc := 327) 3 dX12_doubles_327 rfl ?_
                    refine x_icmp_ne (pc := 328) 336 dX12_doubles_328 (by decide) (fun _ => ?_) (fun _ => ?_)
                    ·
                      refine x_iload_n (pc := 336) 3 dX12_doubles_336 rfl rfl ?_
                      refine x_iconst (pc := 337) 4 dX12_doubles_337 rfl ?_
                      refine x_icmp_ne (pc := 338) 346 dX12_doubles_338 (by decide) (fun _ => ?_) (fun _ => ?_)
                      ·
                        refine x_iload (pc := 346) 8 dX12_doubles_346 rfl ?_
                        exact x_iret (rm := r12_doubles) rfl rfl dX12_doubles_348
                      ·
                        refine x_iload (pc := 341) 9 dX12_doubles_341 rfl ?_
                        refine x_goto (pc := 343) 348 dX12_doubles_343 (by decide) ?_
                        exact x_iret (rm := r12_doubles) rfl rfl dX12_doubles_348
                    ·
                      refine x_iload (pc := 331) 7 dX12_doubles_331 rfl ?_
                      refine x_goto (pc := 333) 348 dX12_doubles_333 (by decide) ?_
                      exact x_iret (rm := r12_doubles) rfl rfl dX12_doubles_348
                  ·
                    refine x_iload (pc := 321) 6 dX12_doubles_321 rfl ?_
                    refine x_goto (pc := 323) 348 dX12_doubles_323 (by decide) ?_
                    exact x_iret (rm := r12_doubles) rfl rfl dX12_doubles_348
                ·
                  refine x_iload (pc := 311) 5 dX12_doubles_311 rfl ?_
                  refine x_goto (pc := 313) 348 dX12_doubles_313 (by decide) ?_
                  exact x_iret (rm := r12_doubles) rfl rfl dX12_doubles_348
              ·
                refine x_iload (pc := 301) 4 dX12_doubles_301 rfl ?_
                refine x_goto (pc := 303) 348 dX12_doubles_303 (by decide) ?_
                exact x_iret (rm := r12_doubles) rfl rfl dX12_doubles_348
            · intro j70 hj71
              refine x_if_ne (pc := 276) 283 dX12_doubles_276 (by decide) (fun _ => ?_) (fun _ => ?_)
              ·
                refine x_sipush (pc := 283) 10000 dX12_doubles_283 rfl ?_
                refine x_iload (pc := 286) 7 dX12_doubles_286 rfl ?_
                refine x_imul (pc := 288) dX12_doubles_288 ?_
                refine x_iload (pc := 289) 5 dX12_doubles_289 rfl ?_
                refine x_iload (pc := 291) 7 dX12_doubles_291 rfl ?_
                refine x_iadd (pc := 293) dX12_doubles_293 ?_
                refine x_idiv (pc := 294) dX12_doubles_294 ?_
                exact hj71 (zop_idiv (10000 * a67) (a65 + a67))
              ·
                refine x_iconst (pc := 279) 0 dX12_doubles_279 rfl ?_
                refine x_goto (pc := 280) 295 dX12_doubles_280 (by decide) ?_
                exact hj71 0
        ·
          refine x_ldc (pc := 34) (v := (-2000000000)) dX12_doubles_34 tk_1477 ?_
          exact x_iret (rm := r12_doubles) rfl rfl dX12_doubles_36
theorem c_12_doubles (l : Launch)  (v1 : Int32) (v2 : Int32) (v3 : Int32) (σ : zSt) : zMet l yX12_doubles cX12_doubles 15 (some .int) r12_doubles true eI [aR 12 (some 0), aI v1, aI v2, aI v3] σ (zro (f12_doubles v1 v2 v3 σ) σ) :=
  zMet_ofR [(0, aR 12 (some 0)), (1, aI v1), (2, aI v2), (3, aI v3)] (by decide +kernel) (fun h => by cases h) (Nat.le_of_ble_eq_true rfl) rfl fun E _ => x12_doubles E  v1 v2 v3 σ
abbrev r12_lots : Room := { frames := 0, cells := 0, slots := 0, locals := 0 }
abbrev m12_lots : zMu := (RX12, 2, (some .int), r12_lots, false)
set_option maxRecDepth 20000 in
theorem x12_lots (E : zEn)  (q : Bool) (v1 : Int32) (σ : zSt) : X E cX12_lots m12_lots q (zQw E q eI r12_lots) 0 0 σ [(0, aR 12 (some 0)), (1, aI v1)] 0 [] (f12_lots v1 σ) := by
  unfold f12_lots
  refine x_aload_n (pc := 0) 0 dX12_lots_0 rfl rfl ?_
  refine x_iload_n (pc := 1) 1 dX12_lots_1 rfl rfl ?_
  refine x_putI (pc := 2) fd_12_55 pt_12_55 tk_1250 dX12_lots_2 (Or.inl rfl) ?_
  refine x_nameS (fun s1 => ?_)
  refine x_iconst (pc := 5) 1 dX12_lots_5 rfl ?_
  exact x_iret (rm := r12_lots) rfl rfl dX12_lots_6
theorem c_12_lots (l : Launch)  (q : Bool) (v1 : Int32) (σ : zSt) : zMet l yX12_lots cX12_lots 2 (some .int) r12_lots q eI [aR 12 (some 0), aI v1] σ (f12_lots v1 σ) :=
  zMet_of [(0, aR 12 (some 0)), (1, aI v1)] (by decide +kernel) (fun h => by cases h) (Nat.le_of_ble_eq_true rfl) rfl fun E _ => x12_lots E  q v1 σ
abbrev r12_isSaidBy : Room := { frames := 1, cells := 0, slots := 0, locals := 23 }
abbrev m12_isSaidBy : zMu := (RX12, 3, (some .boolean), r12_isSaidBy, false)
set_option maxRecDepth 20000 in
theorem x12_isSaidBy (E : zEn)  (v1 : Int32) (v2 : Int32) (σ : zSt) : X E cX12_isSaidBy m12_isSaidBy true (zQr E true eI r12_isSaidBy σ) 0 0 σ [(0, aR 12 (some 0)), (1, aI v1), (2, aI v2)] 0 [] (f12_isSaidBy v1 v2 σ) := by
  unfold f12_isSaidBy
  refine x_aload_n (pc := 0) 0 dX12_isSaidBy_0 rfl rfl ?_
  refine x_iload_n (pc := 1) 1 dX12_isSaidBy_1 rfl rfl ?_
  refine x_callVr (pc := 2) (as := [aI v1]) (rest := []) (fun l => c_12_stateNow l v1 σ) md_X12_stateNow ⟨_, _, rfl, by decide⟩ tk_1520 tp_61 tk_1518 dX12_isSaidBy_2 rfl ⟨by decide, by decide, by decide, by decide⟩ ⟨fun _ => rfl, fun _ => Or.inl rfl⟩ rfl (Nat.le_of_ble_eq_true rfl) (fun r1 => ?_)
  show X E _ _ _ _ 0 0 _ _ _ [aI r1] _
  refine x_iconst (pc := 5) 2 dX12_isSaidBy_5 rfl ?_
  refine x_join (P := fun (j2 : Option Int32) => X E cX12_isSaidBy m12_isSaidBy true (zQr E true eI r12_isSaidBy σ) 0 0 σ [] 22 [] j2) ?_ ?_
  ·
    refine x_iconst (pc := 22) 0 dX12_isSaidBy_22 rfl ?_
    exact x_zretC (rm := r12_isSaidBy) rfl rfl (by decide) dX12_isSaidBy_23
  · intro j2 hj3
    refine x_icmp_ne (pc := 6) 22 dX12_isSaidBy_6 (by decide) (fun _ => ?_) (fun _ => ?_)
    ·
      exact x_sub [] rfl (hj3)
    ·
      refine x_aload_n (pc := 9) 0 dX12_isSaidBy_9 rfl rfl ?_
      refine x_iload_n (pc := 10) 1 dX12_isSaidBy_10 rfl rfl ?_
      refine x_callVr (pc := 11) (as := [aI v1]) (rest := []) (fun l => c_12_lastCrew l v1 σ) md_X12_lastCrew ⟨_, _, rfl, by decide⟩ tk_1551 tp_65 tk_1549 dX12_isSaidBy_11 rfl ⟨by decide, by decide, by decide, by decide⟩ ⟨fun _ => rfl, fun _ => Or.inl rfl⟩ rfl (Nat.le_of_ble_eq_true rfl) (fun r4 => ?_)
      show X E _ _ _ _ 0 0 _ _ _ [aI r4] _
      refine x_iload_n (pc := 14) 2 dX12_isSaidBy_14 rfl rfl ?_
      refine x_icmp_ne (pc := 15) 22 dX12_isSaidBy_15 (by decide) (fun _ => ?_) (fun _ => ?_)
      ·
        exact x_sub [] rfl (hj3)
      ·
        refine x_iconst (pc := 18) 1 dX12_isSaidBy_18 rfl ?_
        refine x_goto (pc := 19) 23 dX12_isSaidBy_19 (by decide) ?_
        exact x_zretC (rm := r12_isSaidBy) rfl rfl (by decide) dX12_isSaidBy_23
theorem c_12_isSaidBy (l : Launch)  (v1 : Int32) (v2 : Int32) (σ : zSt) : zMet l yX12_isSaidBy cX12_isSaidBy 3 (some .boolean) r12_isSaidBy true eI [aR 12 (some 0), aI v1, aI v2] σ (zro (f12_isSaidBy v1 v2 σ) σ) :=
  zMet_ofR [(0, aR 12 (some 0)), (1, aI v1), (2, aI v2)] (by decide +kernel) (fun h => by cases h) (Nat.le_of_ble_eq_true rfl) rfl fun E _ => x12_isSaidBy E  v1 v2 σ
abbrev r12_draw : Room := { frames := 2, cells := 0, slots := 0, locals := 45 }
abbrev m12_draw : zMu := (RX12, 5, (some .int), r12_draw, false)
set_option maxRecDepth 20000 in
theorem xl12_draw_13 (E : zEn)   (h1 : Int32) (σ : zSt) {K44 : Int32 → Option (Int32 × zSt)} (hK44 : ∀ (v2 : Int32), X E cX12_draw m12_draw true (zQw E true eI r12_draw) 0 0 σ [(0, aR 12 (some 0)), (1, aI h1), (2, aI v2)] 44 [] (K44 v2)) : ∀ (n : Nat) (v2 : Int32) (v3 : Int32), X E cX12_draw m12_draw true (zQw E true eI r12_draw) 0 0 σ [(0, aR 12 (some 0)), (1, aI h1), (2, aI v2), (3, aI v3)] 13 [] (f12_draw_L13 h1 σ K44 n v2 v3) := by
  intro n
  induction n with
  | zero => intros; exact x_none
  | succ n ih =>
    intro v2 v3
    rw [f12_draw_L13]
    refine x_iload_n (pc := 13) 3 dX12_draw_13 rfl rfl ?_
    refine x_aload_n (pc := 14) 0 dX12_draw_14 rfl rfl ?_
    refine x_getI (pc := 15) fd_12_36 tk_1231 dX12_draw_15 ?_
    refine x_icmp_ge (pc := 18) 44 dX12_draw_18 (by decide) (fun _ => ?_) (fun _ => ?_)
    ·
      exact x_sub [0, 1, 2] rfl (hK44 v2)
    ·
      refine x_iload_n (pc := 21) 2 dX12_draw_21 rfl rfl ?_
      refine x_aload_n (pc := 22) 0 dX12_draw_22 rfl rfl ?_
      refine x_iload_n (pc := 23) 3 dX12_draw_23 rfl rfl ?_
      refine x_iload_n (pc := 24) 1 dX12_draw_24 rfl rfl ?_
      refine x_callVr (pc := 25) (as := [aI v3, aI h1]) (rest := [aI v2]) (fun l => c_12_isSaidBy l v3 h1 σ) md_X12_isSaidBy ⟨_, _, rfl, by decide⟩ tk_1821 tp_102 tk_1819 dX12_draw_25 rfl ⟨by decide, by decide, by decide, by decide⟩ ⟨fun _ => rfl, fun _ => Or.inl rfl⟩ rfl (Nat.le_of_ble_eq_true rfl) (fun r2 => ?_)
      show X E _ _ _ _ 0 0 _ _ _ [aI r2, aI v2] _
      refine x_mg (c := r2 = 0) (a := 0) (b := 1) 36 [aI v2] ?_ (fun hm3 => ?_)
      ·
        refine x_iadd (pc := 36) dX12_draw_36 ?_
        refine x_nameI (fun x7 => ?_)
        refine x_istore_n (pc := 37) (als' := [(2, aI x7), (0, aR 12 (some 0)), (1, aI h1), (3, aI v3)]) 2 dX12_draw_37 rfl (by decide) rfl ?_
        refine x_iinc (pc := 38) (als' := [(3, aI (v3 + 1)), (2, aI x7), (0, aR 12 (some 0)), (1, aI h1)]) 3 3 (c := 1) dX12_draw_38 rfl rfl (by decide) rfl ?_
        refine x_nameV (g := fun y9 => [(3, aI y9), (2, aI x7), (0, aR 12 (some 0)), (1, aI h1)]) (fun x8 => ?_) rfl
        refine x_goto (pc := 41) 13 dX12_draw_41 (by decide) ?_
        exact x_sub [2, 3, 1, 0] rfl (ih x7 x8)
      ·
        refine x_same (c := r2 = 0) ?_
        refine x_if_eq (pc := 28) 35 dX12_draw_28 (by decide) (fun hc4 => ?_) (fun hc4 => ?_)
        ·
          have hm5 := x_topT hc4 hm3
          refine x_iconst (pc := 35) 0 dX12_draw_35 rfl ?_
          exact hm5
        ·
          have hm6 := x_topF hc4 hm3
          refine x_iconst (pc := 31) 1 dX12_draw_31 rfl ?_
          refine x_goto (pc := 32) 36 dX12_draw_32 (by decide) ?_
          exact hm6
set_option maxRecDepth 20000 in
theorem xl12_draw_80 (E : zEn)   (h1 : Int32) (σ : zSt)   : ∀ (n : Nat) (v3 : Int32) (v4 : Int32), X E cX12_draw m12_draw true (zQw E true eI r12_draw) 0 0 σ [(0, aR 12 (some 0)), (1, aI h1), (3, aI v3), (4, aI v4)] 80 [] (f12_draw_L80 h1 σ n v3 v4) := by
  intro n
  induction n with
  | zero => intros; exact x_none
  | succ n ih =>
    intro v3 v4
    rw [f12_draw_L80]
    refine x_aload_n (pc := 80) 0 dX12_draw_80 rfl rfl ?_
    refine x_iload (pc := 81) 4 dX12_draw_81 rfl ?_
    refine x_iload_n (pc := 83) 1 dX12_draw_83 rfl rfl ?_
    refine x_callVr (pc := 84) (as := [aI v4, aI h1]) (rest := []) (fun l => c_12_isSaidBy l v4 h1 σ) md_X12_isSaidBy ⟨_, _, rfl, by decide⟩ tk_1821 tp_102 tk_1819 dX12_draw_84 rfl ⟨by decide, by decide, by decide, by decide⟩ ⟨fun _ => rfl, fun _ => Or.inl rfl⟩ rfl (Nat.le_of_ble_eq_true rfl) (fun r13 => ?_)
    show X E _ _ _ _ 0 0 _ _ _ [aI r13] _
    refine x_join (P := fun (j14 : Option (Int32 × zSt)) => X E cX12_draw m12_draw true (zQw E true eI r12_draw) 0 0 σ [(0, aR 12 (some 0)), (1, aI h1), (3, aI v3), (4, aI v4)] 94 [] j14) ?_ ?_
    ·
      refine x_iload_n (pc := 94) 3 dX12_draw_94 rfl rfl ?_
      refine x_aload_n (pc := 95) 0 dX12_draw_95 rfl rfl ?_
      refine x_iload (pc := 96) 4 dX12_draw_96 rfl ?_
      refine x_iload_n (pc := 98) 1 dX12_draw_98 rfl rfl ?_
      refine x_callVr (pc := 99) (as := [aI v4, aI h1]) (rest := [aI v3]) (fun l => c_12_isSaidBy l v4 h1 σ) md_X12_isSaidBy ⟨_, _, rfl, by decide⟩ tk_1821 tp_102 tk_1819 dX12_draw_99 rfl ⟨by decide, by decide, by decide, by decide⟩ ⟨fun _ => rfl, fun _ => Or.inl rfl⟩ rfl (Nat.le_of_ble_eq_true rfl) (fun r16 => ?_)
      show X E _ _ _ _ 0 0 _ _ _ [aI r16, aI v3] _
      refine x_mg (c := r16 = 0) (a := 0) (b := 1) 110 [aI v3] ?_ (fun hm17 => ?_)
      ·
        refine x_isub (pc := 110) dX12_draw_110 ?_
        refine x_nameI (fun x21 => ?_)
        refine x_istore_n (pc := 111) (als' := [(3, aI x21), (0, aR 12 (some 0)), (1, aI h1), (4, aI v4)]) 3 dX12_draw_111 rfl (by decide) rfl ?_
        refine x_iinc (pc := 112) (als' := [(4, aI (v4 + 1)), (3, aI x21), (0, aR 12 (some 0)), (1, aI h1)]) 4 3 (c := 1) dX12_draw_112 rfl rfl (by decide) rfl ?_
        refine x_nameV (g := fun y23 => [(4, aI y23), (3, aI x21), (0, aR 12 (some 0)), (1, aI h1)]) (fun x22 => ?_) rfl
        refine x_goto (pc := 115) 80 dX12_draw_115 (by decide) ?_
        exact x_sub [2, 3, 1, 0] rfl (ih x21 x22)
      ·
        refine x_same (c := r16 = 0) ?_
        refine x_if_eq (pc := 102) 109 dX12_draw_102 (by decide) (fun hc18 => ?_) (fun hc18 => ?_)
        ·
          have hm19 := x_topT hc18 hm17
          refine x_iconst (pc := 109) 0 dX12_draw_109 rfl ?_
          exact hm19
        ·
          have hm20 := x_topF hc18 hm17
          refine x_iconst (pc := 105) 1 dX12_draw_105 rfl ?_
          refine x_goto (pc := 106) 110 dX12_draw_106 (by decide) ?_
          exact hm20
    · intro j14 hj15
      refine x_if_eq (pc := 87) 94 dX12_draw_87 (by decide) (fun _ => ?_) (fun _ => ?_)
      ·
        exact hj15
      ·
        refine x_iload_n (pc := 90) 3 dX12_draw_90 rfl rfl ?_
        refine x_if_le (pc := 91) 118 dX12_draw_91 (by decide) (fun _ => ?_) (fun _ => ?_)
        ·
          refine x_iload (pc := 118) 4 dX12_draw_118 rfl ?_
          exact x_iret (rm := r12_draw) rfl rfl dX12_draw_120
        ·
          exact hj15
set_option maxRecDepth 20000 in
theorem x12_draw (E : zEn)  (v1 : Int32) (σ : zSt) : X E cX12_draw m12_draw true (zQw E true eI r12_draw) 0 0 σ [(0, aR 12 (some 0)), (1, aI v1)] 0 [] (f12_draw v1 σ) := by
  unfold f12_draw
  refine x_iload_n (pc := 0) 1 dX12_draw_0 rfl rfl ?_
  refine x_callSr (pc := 1) (as := [aI v1]) (rest := []) (fun l => c_12_isCrew l true v1 σ) md_X12_isCrew tk_1543 tk_1542 dX12_draw_1 rfl ⟨by decide, by decide, by decide, by decide⟩ ⟨fun _ => rfl, fun _ => Or.inl rfl⟩ rfl (Nat.le_of_ble_eq_true rfl) (fun r1 => ?_)
  show X E _ _ _ _ 0 0 _ _ _ [aI r1] _
  refine x_if_ne (pc := 4) 9 dX12_draw_4 (by decide) (fun _ => ?_) (fun _ => ?_)
  ·
    refine x_iconst (pc := 9) 0 dX12_draw_9 rfl ?_
    refine x_istore_n (pc := 10) (als' := [(2, aI 0), (0, aR 12 (some 0)), (1, aI v1)]) 2 dX12_draw_10 rfl (by decide) rfl ?_
    refine x_iconst (pc := 11) 0 dX12_draw_11 rfl ?_
    refine x_istore_n (pc := 12) (als' := [(3, aI 0), (2, aI 0), (0, aR 12 (some 0)), (1, aI v1)]) 3 dX12_draw_12 rfl (by decide) rfl ?_
    refine x_sub [2, 3, 1, 0] rfl (xl12_draw_13 E v1 σ (fun a10 => ?_) zfuel 0 0)
    ·
      refine x_iload_n (pc := 44) 2 dX12_draw_44 rfl rfl ?_
      refine x_if_ne (pc := 45) 51 dX12_draw_45 (by decide) (fun _ => ?_) (fun _ => ?_)
      ·
        refine x_aload_n (pc := 51) 0 dX12_draw_51 rfl rfl ?_
        refine x_aload_n (pc := 52) 0 dX12_draw_52 rfl rfl ?_
        refine x_getI (pc := 53) fd_12_55 tk_1250 dX12_draw_53 ?_
        refine x_ldcw (pc := 56) (v := 1103515245) dX12_draw_56 tk_1823 ?_
        refine x_imul (pc := 59) dX12_draw_59 ?_
        refine x_sipush (pc := 60) 12345 dX12_draw_60 rfl ?_
        refine x_iadd (pc := 63) dX12_draw_63 ?_
        refine x_putI (pc := 64) fd_12_55 pt_12_55 tk_1250 dX12_draw_64 (Or.inl rfl) ?_
        refine x_nameS (fun s11 => ?_)
        refine x_aload_n (pc := 67) 0 dX12_draw_67 rfl rfl ?_
        refine x_getI (pc := 68) fd_12_55 tk_1250 dX12_draw_68 ?_
        refine x_bipush (pc := 71) 8 dX12_draw_71 rfl ?_
        refine x_iushr (pc := 73) dX12_draw_73 ?_
        refine x_iload_n (pc := 74) 2 dX12_draw_74 rfl rfl ?_
        refine x_irem (pc := 75) dX12_draw_75 ?_
        refine x_nameI (fun x12 => ?_)
        refine x_istore_n (pc := 76) (als' := [(3, aI x12), (0, aR 12 (some 0)), (1, aI v1), (2, aI a10)]) 3 dX12_draw_76 rfl (by decide) rfl ?_
        refine x_iconst (pc := 77) 0 dX12_draw_77 rfl ?_
        refine x_istore (pc := 78) (als' := [(4, aI 0), (3, aI x12), (0, aR 12 (some 0)), (1, aI v1), (2, aI a10)]) 4 dX12_draw_78 (by decide) rfl ?_
        refine x_sub [2, 3, 1, 0] rfl (xl12_draw_80 E v1 s11 zfuel x12 0)
      ·
        refine x_bipush (pc := 48) (-4) dX12_draw_48 rfl ?_
        exact x_iret (rm := r12_draw) rfl rfl dX12_draw_50
  ·
    refine x_iconst (pc := 7) (-1) dX12_draw_7 rfl ?_
    exact x_iret (rm := r12_draw) rfl rfl dX12_draw_8
theorem c_12_draw (l : Launch)  (v1 : Int32) (σ : zSt) : zMet l yX12_draw cX12_draw 5 (some .int) r12_draw true eI [aR 12 (some 0), aI v1] σ (f12_draw v1 σ) :=
  zMet_of [(0, aR 12 (some 0)), (1, aI v1)] (by decide +kernel) (fun h => by cases h) (Nat.le_of_ble_eq_true rfl) rfl fun E _ => x12_draw E  v1 σ
abbrev r12_ofCrew : Room := { frames := 2, cells := 0, slots := 0, locals := 42 }
abbrev m12_ofCrew : zMu := (RX12, 5, (some .int), r12_ofCrew, false)
set_option maxRecDepth 20000 in
theorem xl12_ofCrew_62 (E : zEn)   (h1 : Int32)   : ∀ (n : Nat) (v3 : Int32) (v4 : Int32) (σ : zSt), X E cX12_ofCrew m12_ofCrew true (zQw E true eI r12_ofCrew) 0 0 σ [(0, aR 12 (some 0)), (1, aI h1), (3, aI v3), (4, aI v4)] 62 [] (f12_ofCrew_L62 h1 n v3 v4 σ) := by
  intro n
  induction n with
  | zero => intros; exact x_none
  | succ n ih =>
    intro v3 v4 σ
    rw [f12_ofCrew_L62]
    refine x_iload (pc := 62) 4 dX12_ofCrew_62 rfl ?_
    refine x_aload_n (pc := 64) 0 dX12_ofCrew_64 rfl rfl ?_
    refine x_getI (pc := 65) fd_12_36 tk_1231 dX12_ofCrew_65 ?_
    refine x_icmp_ge (pc := 68) 102 dX12_ofCrew_68 (by decide) (fun _ => ?_) (fun _ => ?_)
    ·
      refine x_iload_n (pc := 102) 3 dX12_ofCrew_102 rfl rfl ?_
      exact x_iret (rm := r12_ofCrew) rfl rfl dX12_ofCrew_103
    ·
      refine x_iload_n (pc := 71) 3 dX12_ofCrew_71 rfl rfl ?_
      refine x_aload_n (pc := 72) 0 dX12_ofCrew_72 rfl rfl ?_
      refine x_iload (pc := 73) 4 dX12_ofCrew_73 rfl ?_
      refine x_callV (pc := 75) (as := [aI v4]) (rest := [aI v3]) (fun l => c_12_damageBy l v4 σ) md_X12_damageBy ⟨_, _, rfl, by decide⟩ tk_1594 tp_70 tk_1592 dX12_ofCrew_75 rfl ⟨by decide, by decide, by decide, by decide⟩ ⟨fun _ => rfl, fun _ => Or.inl rfl⟩ rfl (Nat.le_of_ble_eq_true rfl) (fun r3 s4 => ?_)
      show X E _ _ _ _ 0 0 _ _ _ [aI r3, aI v3] _
      refine x_mg (c := r3 < 0) (a := 0) (b := (if (gI s4 12 0 56) = h1 then 1 else 0)) 94 [aI v3] ?_ (fun hm5 => ?_)
      ·
        refine x_iadd (pc := 94) dX12_ofCrew_94 ?_
        refine x_nameI (fun x12 => ?_)
        refine x_istore_n (pc := 95) (als' := [(3, aI x12), (0, aR 12 (some 0)), (1, aI h1), (4, aI v4)]) 3 dX12_ofCrew_95 rfl (by decide) rfl ?_
        refine x_iinc (pc := 96) (als' := [(4, aI (v4 + 1)), (3, aI x12), (0, aR 12 (some 0)), (1, aI h1)]) 4 3 (c := 1) dX12_ofCrew_96 rfl rfl (by decide) rfl ?_
        refine x_nameV (g := fun y14 => [(4, aI y14), (3, aI x12), (0, aR 12 (some 0)), (1, aI h1)]) (fun x13 => ?_) rfl
        refine x_goto (pc := 99) 62 dX12_ofCrew_99 (by decide) ?_
        exact x_sub [2, 3, 1, 0] rfl (ih x12 x13 s4)
      ·
        refine x_same (c := r3 < 0) ?_
        refine x_if_lt (pc := 78) 93 dX12_ofCrew_78 (by decide) (fun hc6 => ?_) (fun hc6 => ?_)
        ·
          have hm7 := x_topT hc6 hm5
          refine x_iconst (pc := 93) 0 dX12_ofCrew_93 rfl ?_
          exact hm7
        ·
          have hm8 := x_topF hc6 hm5
          refine x_aload_n (pc := 81) 0 dX12_ofCrew_81 rfl rfl ?_
          refine x_getI (pc := 82) fd_12_56 tk_1251 dX12_ofCrew_82 ?_
          refine x_iload_n (pc := 85) 1 dX12_ofCrew_85 rfl rfl ?_
          refine x_same (c := (gI s4 12 0 56) = h1) ?_
          refine x_icmp_ne (pc := 86) 93 dX12_ofCrew_86 (by decide) (fun hc9 => ?_) (fun hc9 => ?_)
          ·
            have hm11 := x_topF hc9 hm8
            refine x_iconst (pc := 93) 0 dX12_ofCrew_93 rfl ?_
            exact hm11
          ·
            have hm10 := x_topT hc9 hm8
            refine x_iconst (pc := 89) 1 dX12_ofCrew_89 rfl ?_
            refine x_goto (pc := 90) 94 dX12_ofCrew_90 (by decide) ?_
            exact hm10
set_option maxRecDepth 20000 in
theorem x12_ofCrew (E : zEn)  (v1 : Int32) (v2 : Int32) (σ : zSt) : X E cX12_ofCrew m12_ofCrew true (zQw E true eI r12_ofCrew) 0 0 σ [(0, aR 12 (some 0)), (1, aI v1), (2, aI v2)] 0 [] (f12_ofCrew v1 v2 σ) := by
  unfold f12_ofCrew
  refine x_iload_n (pc := 0) 1 dX12_ofCrew_0 rfl rfl ?_
  refine x_callSr (pc := 1) (as := [aI v1]) (rest := []) (fun l => c_12_isCrew l true v1 σ) md_X12_isCrew tk_1543 tk_1542 dX12_ofCrew_1 rfl ⟨by decide, by decide, by decide, by decide⟩ ⟨fun _ => rfl, fun _ => Or.inl rfl⟩ rfl (Nat.le_of_ble_eq_true rfl) (fun r1 => ?_)
  show X E _ _ _ _ 0 0 _ _ _ [aI r1] _
  refine x_if_eq (pc := 4) 16 dX12_ofCrew_4 (by decide) (fun _ => ?_) (fun _ => ?_)
  ·
    refine x_iconst (pc := 16) (-1) dX12_ofCrew_16 rfl ?_
    exact x_iret (rm := r12_ofCrew) rfl rfl dX12_ofCrew_17
  ·
    refine x_iload_n (pc := 7) 2 dX12_ofCrew_7 rfl rfl ?_
    refine x_iconst (pc := 8) 0 dX12_ofCrew_8 rfl ?_
    refine x_iconst (pc := 9) 3 dX12_ofCrew_9 rfl ?_
    refine x_callSr (pc := 10) (as := [aI v2, aI 0, aI 3]) (rest := []) (fun l => c_12_within l true v2 0 3 σ) md_X12_within tk_1447 tk_1446 dX12_ofCrew_10 rfl ⟨by decide, by decide, by decide, by decide⟩ ⟨fun _ => rfl, fun _ => Or.inl rfl⟩ rfl (Nat.le_of_ble_eq_true rfl) (fun r2 => ?_)
    show X E _ _ _ _ 0 0 _ _ _ [aI r2] _
    refine x_if_ne (pc := 13) 18 dX12_ofCrew_13 (by decide) (fun _ => ?_) (fun _ => ?_)
    ·
      refine x_iload_n (pc := 18) 2 dX12_ofCrew_18 rfl rfl ?_
      refine x_iconst (pc := 19) 3 dX12_ofCrew_19 rfl ?_
      refine x_icmp_ge (pc := 20) 57 dX12_ofCrew_20 (by decide) (fun _ => ?_) (fun _ => ?_)
      ·
        refine x_iconst (pc := 57) 0 dX12_ofCrew_57 rfl ?_
        refine x_istore_n (pc := 58) (als' := [(3, aI 0), (0, aR 12 (some 0)), (1, aI v1), (2, aI v2)]) 3 dX12_ofCrew_58 rfl (by decide) rfl ?_
        refine x_iconst (pc := 59) 0 dX12_ofCrew_59 rfl ?_
        refine x_istore (pc := 60) (als' := [(4, aI 0), (3, aI 0), (0, aR 12 (some 0)), (1, aI v1), (2, aI v2)]) 4 dX12_ofCrew_60 (by decide) rfl ?_
        refine x_sub [2, 3, 1, 0] rfl (xl12_ofCrew_62 E v1 zfuel 0 0 σ)
      ·
        refine x_iload_n (pc := 23) 2 dX12_ofCrew_23 rfl rfl ?_
        refine x_if_ne (pc := 24) 36 dX12_ofCrew_24 (by decide) (fun _ => ?_) (fun _ => ?_)
        ·
          refine x_iload_n (pc := 36) 2 dX12_ofCrew_36 rfl rfl ?_
          refine x_iconst (pc := 37) 1 dX12_ofCrew_37 rfl ?_
          refine x_icmp_ne (pc := 38) 50 dX12_ofCrew_38 (by decide) (fun _ => ?_) (fun _ => ?_)
          ·
            refine x_aload_n (pc := 50) 0 dX12_ofCrew_50 rfl rfl ?_
            refine x_getF (pc := 51) (j := 0) fd_12_38 rfl rfl tk_1233 dX12_ofCrew_51 ?_
            refine x_iload_n (pc := 54) 1 dX12_ofCrew_54 rfl rfl ?_
            refine x_iald (pc := 55) ar_1338 dX12_ofCrew_55 (fun m17 => ?_)
            exact x_iret (rm := r12_ofCrew) rfl rfl dX12_ofCrew_56
          ·
            refine x_aload_n (pc := 41) 0 dX12_ofCrew_41 rfl rfl ?_
            refine x_getF (pc := 42) (j := 0) fd_12_37 rfl rfl tk_1232 dX12_ofCrew_42 ?_
            refine x_iload_n (pc := 45) 1 dX12_ofCrew_45 rfl rfl ?_
            refine x_iald (pc := 46) ar_1337 dX12_ofCrew_46 (fun m16 => ?_)
            refine x_goto (pc := 47) 56 dX12_ofCrew_47 (by decide) ?_
            exact x_iret (rm := r12_ofCrew) rfl rfl dX12_ofCrew_56
        ·
          refine x_aload_n (pc := 27) 0 dX12_ofCrew_27 rfl rfl ?_
          refine x_getF (pc := 28) (j := 0) fd_12_39 rfl rfl tk_1234 dX12_ofCrew_28 ?_
          refine x_iload_n (pc := 31) 1 dX12_ofCrew_31 rfl rfl ?_
          refine x_iald (pc := 32) ar_1339 dX12_ofCrew_32 (fun m15 => ?_)
          refine x_goto (pc := 33) 56 dX12_ofCrew_33 (by decide) ?_
          exact x_iret (rm := r12_ofCrew) rfl rfl dX12_ofCrew_56
    ·
      refine x_iconst (pc := 16) (-1) dX12_ofCrew_16 rfl ?_
      exact x_iret (rm := r12_ofCrew) rfl rfl dX12_ofCrew_17
theorem c_12_ofCrew (l : Launch)  (v1 : Int32) (v2 : Int32) (σ : zSt) : zMet l yX12_ofCrew cX12_ofCrew 5 (some .int) r12_ofCrew true eI [aR 12 (some 0), aI v1, aI v2] σ (f12_ofCrew v1 v2 σ) :=
  zMet_of [(0, aR 12 (some 0)), (1, aI v1), (2, aI v2)] (by decide +kernel) (fun h => by cases h) (Nat.le_of_ble_eq_true rfl) rfl fun E _ => x12_ofCrew E  v1 v2 σ
abbrev r12_ways : Room := { frames := 1, cells := 0, slots := 0, locals := 24 }
abbrev m12_ways : zMu := (RX12, 8, (some .long), r12_ways, false)
set_option maxRecDepth 20000 in
theorem xl12_ways_15 (E : zEn)  (q : Bool) (h0 : Int32) (h1 : Int32) (h2 : Int32) (h3 : Int32) (h4 : Int32) (σ : zSt)   : ∀ (n : Nat) (v5 : Int64) (v7 : Int32), X E cX12_ways m12_ways q (zQr E q eL r12_ways σ) 0 0 σ [(0, aI h0), (1, aI h1), (2, aI h2), (3, aI h3), (4, aI h4), (5, aL v5), (7, aI v7)] 15 [] (f12_ways_L15 h0 h1 h2 h3 h4 σ n v5 v7) := by
  intro n
  induction n with
  | zero => intros; exact x_none
  | succ n ih =>
    intro v5 v7
    rw [f12_ways_L15]
    refine x_iload (pc := 15) 7 dX12_ways_15 rfl ?_
    refine x_iload (pc := 17) 4 dX12_ways_17 rfl ?_
    refine x_mg (c := h4 = 0) (a := h3) (b := h2) 27 [aI v7] ?_ (fun hm6 => ?_)
    ·
      refine x_icmp_gt (pc := 27) 58 dX12_ways_27 (by decide) (fun _ => ?_) (fun _ => ?_)
      ·
        refine x_lload (pc := 58) 5 dX12_ways_58 rfl ?_
        exact x_lret (rm := r12_ways) rfl rfl dX12_ways_60
      ·
        refine x_lload (pc := 30) 5 dX12_ways_30 rfl ?_
        refine x_iload_n (pc := 32) 1 dX12_ways_32 rfl rfl ?_
        refine x_iload (pc := 33) 7 dX12_ways_33 rfl ?_
        refine x_callSr (pc := 35) (as := [aI h1, aI v7]) (rest := [aL v5]) (fun l => c_12_choose l q h1 v7 σ) md_X12_choose tk_1632 tk_1631 dX12_ways_35 rfl ⟨by decide, by decide, by decide, by decide⟩ ⟨fun h => h, fun h => Or.inl h⟩ rfl (Nat.le_of_ble_eq_true rfl) (fun r10 => ?_)
        show X E _ _ _ _ 0 0 _ _ _ [aL r10, aL v5] _
        refine x_iload_n (pc := 38) 0 dX12_ways_38 rfl rfl ?_
        refine x_iload_n (pc := 39) 1 dX12_ways_39 rfl rfl ?_
        refine x_isub (pc := 40) dX12_ways_40 ?_
        refine x_iload_n (pc := 41) 2 dX12_ways_41 rfl rfl ?_
        refine x_iload (pc := 42) 7 dX12_ways_42 rfl ?_
        refine x_isub (pc := 44) dX12_ways_44 ?_
        refine x_callSr (pc := 45) (as := [aI (h0 - h1), aI (h2 - v7)]) (rest := [aL r10, aL v5]) (fun l => c_12_choose l q (h0 - h1) (h2 - v7) σ) md_X12_choose tk_1632 tk_1631 dX12_ways_45 rfl ⟨by decide, by decide, by decide, by decide⟩ ⟨fun h => h, fun h => Or.inl h⟩ rfl (Nat.le_of_ble_eq_true rfl) (fun r11 => ?_)
        show X E _ _ _ _ 0 0 _ _ _ [aL r11, aL r10, aL v5] _
        refine x_lmul (pc := 48) dX12_ways_48 ?_
        refine x_ladd (pc := 49) dX12_ways_49 ?_
        refine x_nameL (fun l12 => ?_)
        refine x_lstore (pc := 50) (als' := [(5, aL l12), (0, aI h0), (1, aI h1), (2, aI h2), (3, aI h3), (4, aI h4), (7, aI v7)]) 5 dX12_ways_50 (by decide) rfl ?_
        refine x_iinc (pc := 52) (als' := [(7, aI (v7 + 1)), (5, aL l12), (0, aI h0), (1, aI h1), (2, aI h2), (3, aI h3), (4, aI h4)]) 7 6 (c := 1) dX12_ways_52 rfl rfl (by decide) rfl ?_
        refine x_nameV (g := fun y14 => [(7, aI y14), (5, aL l12), (0, aI h0), (1, aI h1), (2, aI h2), (3, aI h3), (4, aI h4)]) (fun x13 => ?_) rfl
        refine x_goto (pc := 55) 15 dX12_ways_55 (by decide) ?_
        exact x_sub [2, 3, 4, 5, 6, 1, 0] rfl (ih l12 x13)
    ·
      refine x_same (c := h4 = 0) ?_
      refine x_if_eq (pc := 19) 26 dX12_ways_19 (by decide) (fun hc7 => ?_) (fun hc7 => ?_)
      ·
        have hm8 := x_topT hc7 hm6
        refine x_iload_n (pc := 26) 3 dX12_ways_26 rfl rfl ?_
        exact hm8
      ·
        have hm9 := x_topF hc7 hm6
        refine x_iload_n (pc := 22) 2 dX12_ways_22 rfl rfl ?_
        refine x_goto (pc := 23) 27 dX12_ways_23 (by decide) ?_
        exact hm9
set_option maxRecDepth 20000 in
theorem x12_ways (E : zEn)  (q : Bool) (v0 : Int32) (v1 : Int32) (v2 : Int32) (v3 : Int32) (v4 : Int32) (σ : zSt) : X E cX12_ways m12_ways q (zQr E q eL r12_ways σ) 0 0 σ [(0, aI v0), (1, aI v1), (2, aI v2), (3, aI v3), (4, aI v4)] 0 [] (f12_ways v0 v1 v2 v3 v4 σ) := by
  unfold f12_ways
  refine x_lconst (pc := 0) 0 dX12_ways_0 rfl ?_
  refine x_lstore (pc := 1) (als' := [(5, aL 0), (0, aI v0), (1, aI v1), (2, aI v2), (3, aI v3), (4, aI v4)]) 5 dX12_ways_1 (by decide) rfl ?_
  refine x_iload (pc := 3) 4 dX12_ways_3 rfl ?_
  refine x_mg (c := v4 = 0) (a := 0) (b := v3) 13 [] ?_ (fun hm1 => ?_)
  ·
    refine x_nameI (fun x5 => ?_)
    refine x_istore (pc := 13) (als' := [(7, aI x5), (5, aL 0), (0, aI v0), (1, aI v1), (2, aI v2), (3, aI v3), (4, aI v4)]) 7 dX12_ways_13 (by decide) rfl ?_
    refine x_sub [2, 3, 4, 5, 6, 1, 0] rfl (xl12_ways_15 E q v0 v1 v2 v3 v4 σ zfuel 0 x5)
  ·
    refine x_same (c := v4 = 0) ?_
    refine x_if_eq (pc := 5) 12 dX12_ways_5 (by decide) (fun hc2 => ?_) (fun hc2 => ?_)
    ·
      have hm3 := x_topT hc2 hm1
      refine x_iconst (pc := 12) 0 dX12_ways_12 rfl ?_
      exact hm3
    ·
      have hm4 := x_topF hc2 hm1
      refine x_iload_n (pc := 8) 3 dX12_ways_8 rfl rfl ?_
      refine x_goto (pc := 9) 13 dX12_ways_9 (by decide) ?_
      exact hm4
theorem c_12_ways (l : Launch)  (q : Bool) (v0 : Int32) (v1 : Int32) (v2 : Int32) (v3 : Int32) (v4 : Int32) (σ : zSt) : zMet l yX12_ways cX12_ways 8 (some .long) r12_ways q eL [aI v0, aI v1, aI v2, aI v3, aI v4] σ (zro (f12_ways v0 v1 v2 v3 v4 σ) σ) :=
  zMet_ofR [(0, aI v0), (1, aI v1), (2, aI v2), (3, aI v3), (4, aI v4)] (by decide +kernel) (fun h => by cases h) (Nat.le_of_ble_eq_true rfl) rfl fun E _ => x12_ways E  q v0 v1 v2 v3 v4 σ
abbrev r12_bounds : Room := { frames := 2, cells := 0, slots := 0, locals := 51 }
abbrev m12_bounds : zMu := (RX12, 10, (some .int), r12_bounds, false)
set_option maxRecDepth 20000 in
theorem xl12_bounds_106 (E : zEn)   (h2 : Int32) (h3 : Int32) (h4 : Int32) (h5 : Int32) (h6 : Int32) (h7 : Int64) (σ : zSt)   : ∀ (n : Nat) (v9 : Int32), X E cX12_bounds m12_bounds true (zQr E true eI r12_bounds σ) 0 0 σ [(2, aI h2), (3, aI h3), (4, aI h4), (5, aI h5), (6, aI h6), (7, aL h7), (9, aI v9)] 106 [] (f12_bounds_L106 h2 h3 h4 h5 h6 h7 σ n v9) := by
  intro n
  induction n with
  | zero => intros; exact x_none
  | succ n ih =>
    intro v9
    rw [f12_bounds_L106]
    refine x_iload (pc := 106) 4 dX12_bounds_106 rfl ?_
    refine x_iload (pc := 108) 9 dX12_bounds_108 rfl ?_
    refine x_iload (pc := 110) 5 dX12_bounds_110 rfl ?_
    refine x_iload (pc := 112) 6 dX12_bounds_112 rfl ?_
    refine x_iload_n (pc := 114) 3 dX12_bounds_114 rfl rfl ?_
    refine x_mg (c := h3 = 0) (a := 1) (b := 0) 123 [aI h6, aI h5, aI v9, aI h4] ?_ (fun hm16 => ?_)
    ·
      refine x_callSr (pc := 123) (as := [aI h4, aI v9, aI h5, aI h6, aI (if h3 = 0 then 1 else 0)]) (rest := []) (fun l => c_12_ways l true h4 v9 h5 h6 (if h3 = 0 then 1 else 0) σ) md_X12_ways tk_1833 tk_1832 dX12_bounds_123 rfl ⟨by decide, by decide, by decide, by decide⟩ ⟨fun _ => rfl, fun _ => Or.inl rfl⟩ rfl (Nat.le_of_ble_eq_true rfl) (fun r20 => ?_)
      show X E _ _ _ _ 0 0 _ _ _ [aL r20] _
      refine x_ldc2 (pc := 126) (v := 100) dX12_bounds_126 tk_1835 ?_
      refine x_lmul (pc := 129) dX12_bounds_129 ?_
      refine x_iload_n (pc := 130) 2 dX12_bounds_130 rfl rfl ?_
      refine x_i2l (pc := 131) dX12_bounds_131 ?_
      refine x_lload (pc := 132) 7 dX12_bounds_132 rfl ?_
      refine x_lmul (pc := 134) dX12_bounds_134 ?_
      refine x_lcmp (pc := 135) dX12_bounds_135 ?_
      refine x_if_ge (pc := 136) 156 dX12_bounds_136 (by decide) (fun _ => ?_) (fun _ => ?_)
      ·
        refine x_iload (pc := 156) 9 dX12_bounds_156 rfl ?_
        exact x_iret (rm := r12_bounds) rfl rfl dX12_bounds_158
      ·
        refine x_iload (pc := 139) 9 dX12_bounds_139 rfl ?_
        refine x_iload_n (pc := 141) 3 dX12_bounds_141 rfl rfl ?_
        refine x_mg (c := h3 = 0) (a := 1) (b := (-1)) 150 [aI v9] ?_ (fun hm21 => ?_)
        ·
          refine x_iadd (pc := 150) dX12_bounds_150 ?_
          refine x_nameI (fun x25 => ?_)
          refine x_istore (pc := 151) (als' := [(9, aI x25), (2, aI h2), (3, aI h3), (4, aI h4), (5, aI h5), (6, aI h6), (7, aL h7)]) 9 dX12_bounds_151 (by decide) rfl ?_
          refine x_goto (pc := 153) 106 dX12_bounds_153 (by decide) ?_
          exact x_sub [1, 2, 3, 4, 5, 6, 0] rfl (ih x25)
        ·
          refine x_same (c := h3 = 0) ?_
          refine x_if_ne (pc := 142) 149 dX12_bounds_142 (by decide) (fun hc22 => ?_) (fun hc22 => ?_)
          ·
            have hm24 := x_topF hc22 hm21
            refine x_iconst (pc := 149) (-1) dX12_bounds_149 rfl ?_
            exact hm24
          ·
            have hm23 := x_topT hc22 hm21
            refine x_iconst (pc := 145) 1 dX12_bounds_145 rfl ?_
            refine x_goto (pc := 146) 150 dX12_bounds_146 (by decide) ?_
            exact hm23
    ·
      refine x_same (c := h3 = 0) ?_
      refine x_if_ne (pc := 115) 122 dX12_bounds_115 (by decide) (fun hc17 => ?_) (fun hc17 => ?_)
      ·
        have hm19 := x_topF hc17 hm16
        refine x_iconst (pc := 122) 0 dX12_bounds_122 rfl ?_
        exact hm19
      ·
        have hm18 := x_topT hc17 hm16
        refine x_iconst (pc := 118) 1 dX12_bounds_118 rfl ?_
        refine x_goto (pc := 119) 123 dX12_bounds_119 (by decide) ?_
        exact hm18
set_option maxRecDepth 20000 in
theorem x12_bounds (E : zEn)  (v1 : Int32) (v2 : Int32) (v3 : Int32) (σ : zSt) : X E cX12_bounds m12_bounds true (zQr E true eI r12_bounds σ) 0 0 σ [(0, aR 12 (some 0)), (1, aI v1), (2, aI v2), (3, aI v3)] 0 [] (f12_bounds v1 v2 v3 σ) := by
  unfold f12_bounds
  refine x_iload_n (pc := 0) 1 dX12_bounds_0 rfl rfl ?_
  refine x_callSr (pc := 1) (as := [aI v1]) (rest := []) (fun l => c_12_isCrew l true v1 σ) md_X12_isCrew tk_1543 tk_1542 dX12_bounds_1 rfl ⟨by decide, by decide, by decide, by decide⟩ ⟨fun _ => rfl, fun _ => Or.inl rfl⟩ rfl (Nat.le_of_ble_eq_true rfl) (fun r1 => ?_)
  show X E _ _ _ _ 0 0 _ _ _ [aI r1] _
  refine x_if_eq (pc := 4) 26 dX12_bounds_4 (by decide) (fun _ => ?_) (fun _ => ?_)
  ·
    refine x_iconst (pc := 26) (-1) dX12_bounds_26 rfl ?_
    exact x_iret (rm := r12_bounds) rfl rfl dX12_bounds_27
  ·
    refine x_iload_n (pc := 7) 2 dX12_bounds_7 rfl rfl ?_
    refine x_iconst (pc := 8) 1 dX12_bounds_8 rfl ?_
    refine x_bipush (pc := 9) 49 dX12_bounds_9 rfl ?_
    refine x_callSr (pc := 11) (as := [aI v2, aI 1, aI 49]) (rest := []) (fun l => c_12_within l true v2 1 49 σ) md_X12_within tk_1447 tk_1446 dX12_bounds_11 rfl ⟨by decide, by decide, by decide, by decide⟩ ⟨fun _ => rfl, fun _ => Or.inl rfl⟩ rfl (Nat.le_of_ble_eq_true rfl) (fun r2 => ?_)
    show X E _ _ _ _ 0 0 _ _ _ [aI r2] _
    refine x_if_eq (pc := 14) 26 dX12_bounds_14 (by decide) (fun _ => ?_) (fun _ => ?_)
    ·
      refine x_iconst (pc := 26) (-1) dX12_bounds_26 rfl ?_
      exact x_iret (rm := r12_bounds) rfl rfl dX12_bounds_27
    ·
      refine x_iload_n (pc := 17) 3 dX12_bounds_17 rfl rfl ?_
      refine x_iconst (pc := 18) 0 dX12_bounds_18 rfl ?_
      refine x_iconst (pc := 19) 1 dX12_bounds_19 rfl ?_
      refine x_callSr (pc := 20) (as := [aI v3, aI 0, aI 1]) (rest := []) (fun l => c_12_within l true v3 0 1 σ) md_X12_within tk_1447 tk_1446 dX12_bounds_20 rfl ⟨by decide, by decide, by decide, by decide⟩ ⟨fun _ => rfl, fun _ => Or.inl rfl⟩ rfl (Nat.le_of_ble_eq_true rfl) (fun r3 => ?_)
      show X E _ _ _ _ 0 0 _ _ _ [aI r3] _
      refine x_if_ne (pc := 23) 28 dX12_bounds_23 (by decide) (fun _ => ?_) (fun _ => ?_)
      ·
        refine x_aload_n (pc := 28) 0 dX12_bounds_28 rfl rfl ?_
        refine x_getF (pc := 29) (j := 0) fd_12_39 rfl rfl tk_1234 dX12_bounds_29 ?_
        refine x_iload_n (pc := 32) 1 dX12_bounds_32 rfl rfl ?_
        refine x_iald (pc := 33) ar_1339 dX12_bounds_33 (fun m4 => ?_)
        refine x_nameI (fun x5 => ?_)
        refine x_istore (pc := 34) (als' := [(4, aI x5), (0, aR 12 (some 0)), (1, aI v1), (2, aI v2), (3, aI v3)]) 4 dX12_bounds_34 (by decide) rfl ?_
        refine x_aload_n (pc := 36) 0 dX12_bounds_36 rfl rfl ?_
        refine x_getF (pc := 37) (j := 0) fd_12_37 rfl rfl tk_1232 dX12_bounds_37 ?_
        refine x_iload_n (pc := 40) 1 dX12_bounds_40 rfl rfl ?_
        refine x_iald (pc := 41) ar_1337 dX12_bounds_41 (fun m6 => ?_)
        refine x_nameI (fun x7 => ?_)
        refine x_istore (pc := 42) (als' := [(5, aI x7), (4, aI x5), (0, aR 12 (some 0)), (1, aI v1), (2, aI v2), (3, aI v3)]) 5 dX12_bounds_42 (by decide) rfl ?_
        refine x_aload_n (pc := 44) 0 dX12_bounds_44 rfl rfl ?_
        refine x_getF (pc := 45) (j := 0) fd_12_38 rfl rfl tk_1233 dX12_bounds_45 ?_
        refine x_iload_n (pc := 48) 1 dX12_bounds_48 rfl rfl ?_
        refine x_iald (pc := 49) ar_1338 dX12_bounds_49 (fun m8 => ?_)
        refine x_nameI (fun x9 => ?_)
        refine x_istore (pc := 50) (als' := [(6, aI x9), (5, aI x7), (4, aI x5), (0, aR 12 (some 0)), (1, aI v1), (2, aI v2), (3, aI v3)]) 6 dX12_bounds_50 (by decide) rfl ?_
        refine x_iload (pc := 52) 4 dX12_bounds_52 rfl ?_
        refine x_bipush (pc := 54) 40 dX12_bounds_54 rfl ?_
        refine x_icmp_le (pc := 56) 62 dX12_bounds_56 (by decide) (fun _ => ?_) (fun _ => ?_)
        ·
          refine x_iload (pc := 62) 5 dX12_bounds_62 rfl ?_
          refine x_if_ne (pc := 64) 78 dX12_bounds_64 (by decide) (fun _ => ?_) (fun _ => ?_)
          ·
            refine x_iload (pc := 78) 4 dX12_bounds_78 rfl ?_
            refine x_iload (pc := 80) 5 dX12_bounds_80 rfl ?_
            refine x_callSr (pc := 82) (as := [aI x5, aI x7]) (rest := []) (fun l => c_12_choose l true x5 x7 σ) md_X12_choose tk_1632 tk_1631 dX12_bounds_82 rfl ⟨by decide, by decide, by decide, by decide⟩ ⟨fun _ => rfl, fun _ => Or.inl rfl⟩ rfl (Nat.le_of_ble_eq_true rfl) (fun r10 => ?_)
            show X E _ _ _ _ 0 0 _ _ _ [aL r10] _
            refine x_lstore (pc := 85) (als' := [(7, aL r10), (6, aI x9), (5, aI x7), (4, aI x5), (0, aR 12 (some 0)), (1, aI v1), (2, aI v2), (3, aI v3)]) 7 dX12_bounds_85 (by decide) rfl ?_
            refine x_iload_n (pc := 87) 3 dX12_bounds_87 rfl rfl ?_
            refine x_mg (c := v3 = 0) (a := x9) (b := ((x5 - x7) + x9)) 104 [] ?_ (fun hm11 => ?_)
            ·
              refine x_nameI (fun x15 => ?_)
              refine x_istore (pc := 104) (als' := [(9, aI x15), (7, aL r10), (6, aI x9), (5, aI x7), (4, aI x5), (0, aR 12 (some 0)), (1, aI v1), (2, aI v2), (3, aI v3)]) 9 dX12_bounds_104 (by decide) rfl ?_
              refine x_sub [7, 8, 4, 3, 2, 1, 0] rfl (xl12_bounds_106 E v2 v3 x5 x7 x9 r10 σ zfuel x15)
            ·
              refine x_same (c := v3 = 0) ?_
              refine x_if_ne (pc := 88) 96 dX12_bounds_88 (by decide) (fun hc12 => ?_) (fun hc12 => ?_)
              ·
                have hm14 := x_topF hc12 hm11
                refine x_iload (pc := 96) 4 dX12_bounds_96 rfl ?_
                refine x_iload (pc := 98) 5 dX12_bounds_98 rfl ?_
                refine x_isub (pc := 100) dX12_bounds_100 ?_
                refine x_iload (pc := 101) 6 dX12_bounds_101 rfl ?_
                refine x_iadd (pc := 103) dX12_bounds_103 ?_
                exact hm14
              ·
                have hm13 := x_topT hc12 hm11
                refine x_iload (pc := 91) 6 dX12_bounds_91 rfl ?_
                refine x_goto (pc := 93) 104 dX12_bounds_93 (by decide) ?_
                exact hm13
          ·
            refine x_iload_n (pc := 67) 3 dX12_bounds_67 rfl rfl ?_
            refine x_if_ne (pc := 68) 75 dX12_bounds_68 (by decide) (fun _ => ?_) (fun _ => ?_)
            ·
              refine x_iload (pc := 75) 4 dX12_bounds_75 rfl ?_
              exact x_iret (rm := r12_bounds) rfl rfl dX12_bounds_77
            ·
              refine x_iconst (pc := 71) 0 dX12_bounds_71 rfl ?_
              refine x_goto (pc := 72) 77 dX12_bounds_72 (by decide) ?_
              exact x_iret (rm := r12_bounds) rfl rfl dX12_bounds_77
        ·
          refine x_bipush (pc := 59) (-5) dX12_bounds_59 rfl ?_
          exact x_iret (rm := r12_bounds) rfl rfl dX12_bounds_61
      ·
        refine x_iconst (pc := 26) (-1) dX12_bounds_26 rfl ?_
        exact x_iret (rm := r12_bounds) rfl rfl dX12_bounds_27
theorem c_12_bounds (l : Launch)  (v1 : Int32) (v2 : Int32) (v3 : Int32) (σ : zSt) : zMet l yX12_bounds cX12_bounds 10 (some .int) r12_bounds true eI [aR 12 (some 0), aI v1, aI v2, aI v3] σ (zro (f12_bounds v1 v2 v3 σ) σ) :=
  zMet_ofR [(0, aR 12 (some 0)), (1, aI v1), (2, aI v2), (3, aI v3)] (by decide +kernel) (fun h => by cases h) (Nat.le_of_ble_eq_true rfl) rfl fun E _ => x12_bounds E  v1 v2 v3 σ
abbrev r12_weightOf : Room := { frames := 2, cells := 0, slots := 0, locals := 47 }
abbrev m12_weightOf : zMu := (RX12, 5, (some .int), r12_weightOf, false)
set_option maxRecDepth 20000 in
theorem xl12_weightOf_5 (E : zEn)   (h1 : Int32) (h2 : Int32) (σ : zSt)   : ∀ (n : Nat) (v3 : Int32) (v4 : Int32), X E cX12_weightOf m12_weightOf true (zQr E true eI r12_weightOf σ) 0 0 σ [(0, aR 12 (some 0)), (1, aI h1), (2, aI h2), (3, aI v3), (4, aI v4)] 5 [] (f12_weightOf_L5 h1 h2 σ n v3 v4) := by
  intro n
  induction n with
  | zero => intros; exact x_none
  | succ n ih =>
    intro v3 v4
    rw [f12_weightOf_L5]
    refine x_iload (pc := 5) 4 dX12_weightOf_5 rfl ?_
    refine x_aload_n (pc := 7) 0 dX12_weightOf_7 rfl rfl ?_
    refine x_getI (pc := 8) fd_12_36 tk_1231 dX12_weightOf_8 ?_
    refine x_icmp_ge (pc := 11) 60 dX12_weightOf_11 (by decide) (fun _ => ?_) (fun _ => ?_)
    ·
      refine x_iload_n (pc := 60) 3 dX12_weightOf_60 rfl rfl ?_
      exact x_iret (rm := r12_weightOf) rfl rfl dX12_weightOf_61
    ·
      refine x_iload_n (pc := 14) 3 dX12_weightOf_14 rfl rfl ?_
      refine x_aload_n (pc := 15) 0 dX12_weightOf_15 rfl rfl ?_
      refine x_getF (pc := 16) (j := 0) fd_12_1 rfl rfl tk_1196 dX12_weightOf_16 ?_
      refine x_aload_n (pc := 19) 0 dX12_weightOf_19 rfl rfl ?_
      refine x_getF (pc := 20) (j := 0) fd_12_18 rfl rfl tk_1213 dX12_weightOf_20 ?_
      refine x_iload (pc := 23) 4 dX12_weightOf_23 rfl ?_
      refine x_iald (pc := 25) ar_1318 dX12_weightOf_25 (fun m1 => ?_)
      refine x_iald (pc := 26) ar_1301 dX12_weightOf_26 (fun m2 => ?_)
      refine x_iload_n (pc := 27) 1 dX12_weightOf_27 rfl rfl ?_
      refine x_join (P := fun (j4 : Int32 → Option Int32) => ∀ (a3 : Int32), X E cX12_weightOf m12_weightOf true (zQr E true eI r12_weightOf σ) 0 0 σ [(0, aR 12 (some 0)), (1, aI h1), (2, aI h2), (4, aI v4)] 52 [aI a3, aI v3] (j4 a3)) ?_ ?_
      · intro a3
        refine x_iadd (pc := 52) dX12_weightOf_52 ?_
        refine x_nameI (fun x6 => ?_)
        refine x_istore_n (pc := 53) (als' := [(3, aI x6), (0, aR 12 (some 0)), (1, aI h1), (2, aI h2), (4, aI v4)]) 3 dX12_weightOf_53 rfl (by decide) rfl ?_
        refine x_iinc (pc := 54) (als' := [(4, aI (v4 + 1)), (3, aI x6), (0, aR 12 (some 0)), (1, aI h1), (2, aI h2)]) 4 4 (c := 1) dX12_weightOf_54 rfl rfl (by decide) rfl ?_
        refine x_nameV (g := fun y8 => [(4, aI y8), (3, aI x6), (0, aR 12 (some 0)), (1, aI h1), (2, aI h2)]) (fun x7 => ?_) rfl
        refine x_goto (pc := 57) 5 dX12_weightOf_57 (by decide) ?_
        exact x_sub [2, 3, 4, 1, 0] rfl (ih x6 x7)
      · intro j4 hj5
        refine x_join (P := fun (j9 : Option Int32) => X E cX12_weightOf m12_weightOf true (zQr E true eI r12_weightOf σ) 0 0 σ [(0, aR 12 (some 0)), (1, aI h1), (2, aI h2), (4, aI v4)] 51 [aI v3] j9) ?_ ?_
        ·
          refine x_iconst (pc := 51) 0 dX12_weightOf_51 rfl ?_
          exact hj5 0
        · intro j9 hj10
          refine x_icmp_ne (pc := 28) 51 dX12_weightOf_28 (by decide) (fun _ => ?_) (fun _ => ?_)
          ·
            exact x_sub [0, 1, 2, 4] rfl (hj10)
          ·
            refine x_aload_n (pc := 31) 0 dX12_weightOf_31 rfl rfl ?_
            refine x_iload (pc := 32) 4 dX12_weightOf_32 rfl ?_
            refine x_iload_n (pc := 34) 2 dX12_weightOf_34 rfl rfl ?_
            refine x_callVr (pc := 35) (as := [aI v4, aI h2]) (rest := [aI v3]) (fun l => c_12_isLeft l v4 h2 σ) md_X12_isLeft ⟨_, _, rfl, by decide⟩ tk_1488 tp_55 tk_1486 dX12_weightOf_35 rfl ⟨by decide, by decide, by decide, by decide⟩ ⟨fun _ => rfl, fun _ => Or.inl rfl⟩ rfl (Nat.le_of_ble_eq_true rfl) (fun r11 => ?_)
            show X E _ _ _ _ 0 0 _ _ _ [aI r11, aI v3] _
            refine x_if_eq (pc := 38) 51 dX12_weightOf_38 (by decide) (fun _ => ?_) (fun _ => ?_)
            ·
              exact x_sub [0, 1, 2, 4] rfl (hj10)
            ·
              refine x_aload_n (pc := 41) 0 dX12_weightOf_41 rfl rfl ?_
              refine x_getF (pc := 42) (j := 0) fd_12_21 rfl rfl tk_1216 dX12_weightOf_42 ?_
              refine x_iload (pc := 45) 4 dX12_weightOf_45 rfl ?_
              refine x_iald (pc := 47) ar_1321 dX12_weightOf_47 (fun m12 => ?_)
              refine x_goto (pc := 48) 52 dX12_weightOf_48 (by decide) ?_
              exact x_sub [0, 1, 2, 4] rfl (hj5 (gI σ 1321 0 m12))
set_option maxRecDepth 20000 in
theorem x12_weightOf (E : zEn)  (v1 : Int32) (v2 : Int32) (σ : zSt) : X E cX12_weightOf m12_weightOf true (zQr E true eI r12_weightOf σ) 0 0 σ [(0, aR 12 (some 0)), (1, aI v1), (2, aI v2)] 0 [] (f12_weightOf v1 v2 σ) := by
  unfold f12_weightOf
  refine x_iconst (pc := 0) 0 dX12_weightOf_0 rfl ?_
  refine x_istore_n (pc := 1) (als' := [(3, aI 0), (0, aR 12 (some 0)), (1, aI v1), (2, aI v2)]) 3 dX12_weightOf_1 rfl (by decide) rfl ?_
  refine x_iconst (pc := 2) 0 dX12_weightOf_2 rfl ?_
  refine x_istore (pc := 3) (als' := [(4, aI 0), (3, aI 0), (0, aR 12 (some 0)), (1, aI v1), (2, aI v2)]) 4 dX12_weightOf_3 (by decide) rfl ?_
  refine x_sub [2, 3, 4, 1, 0] rfl (xl12_weightOf_5 E v1 v2 σ zfuel 0 0)
theorem c_12_weightOf (l : Launch)  (v1 : Int32) (v2 : Int32) (σ : zSt) : zMet l yX12_weightOf cX12_weightOf 5 (some .int) r12_weightOf true eI [aR 12 (some 0), aI v1, aI v2] σ (zro (f12_weightOf v1 v2 σ) σ) :=
  zMet_ofR [(0, aR 12 (some 0)), (1, aI v1), (2, aI v2)] (by decide +kernel) (fun h => by cases h) (Nat.le_of_ble_eq_true rfl) rfl fun E _ => x12_weightOf E  v1 v2 σ
abbrev r12_weight : Room := { frames := 3, cells := 0, slots := 0, locals := 71 }
abbrev m12_weight : zMu := (RX12, 3, (some .int), r12_weight, false)
set_option maxRecDepth 20000 in
theorem x12_weight (E : zEn)  (v1 : Int32) (v2 : Int32) (σ : zSt) : X E cX12_weight m12_weight true (zQr E true eI r12_weight σ) 0 0 σ [(0, aR 12 (some 0)), (1, aI v1), (2, aI v2)] 0 [] (f12_weight v1 v2 σ) := by
  unfold f12_weight
  refine x_iload_n (pc := 0) 1 dX12_weight_0 rfl rfl ?_
  refine x_iconst (pc := 1) 0 dX12_weight_1 rfl ?_
  refine x_bipush (pc := 2) 7 dX12_weight_2 rfl ?_
  refine x_callSr (pc := 4) (as := [aI v1, aI 0, aI 7]) (rest := []) (fun l => c_12_within l true v1 0 7 σ) md_X12_within tk_1447 tk_1446 dX12_weight_4 rfl ⟨by decide, by decide, by decide, by decide⟩ ⟨fun _ => rfl, fun _ => Or.inl rfl⟩ rfl (Nat.le_of_ble_eq_true rfl) (fun r1 => ?_)
  show X E _ _ _ _ 0 0 _ _ _ [aI r1] _
  refine x_join (P := fun (j2 : Option Int32) => X E cX12_weight m12_weight true (zQr E true eI r12_weight σ) 0 0 σ [] 26 [] j2) ?_ ?_
  ·
    refine x_iconst (pc := 26) (-1) dX12_weight_26 rfl ?_
    exact x_iret (rm := r12_weight) rfl rfl dX12_weight_27
  · intro j2 hj3
    refine x_if_eq (pc := 7) 26 dX12_weight_7 (by decide) (fun _ => ?_) (fun _ => ?_)
    ·
      exact x_sub [] rfl (hj3)
    ·
      refine x_iload_n (pc := 10) 2 dX12_weight_10 rfl rfl ?_
      refine x_callSr (pc := 11) (as := [aI v2]) (rest := []) (fun l => c_12_isDay l true v2 σ) md_X12_isDay tk_1566 tk_1565 dX12_weight_11 rfl ⟨by decide, by decide, by decide, by decide⟩ ⟨fun _ => rfl, fun _ => Or.inl rfl⟩ rfl (Nat.le_of_ble_eq_true rfl) (fun r4 => ?_)
      show X E _ _ _ _ 0 0 _ _ _ [aI r4] _
      refine x_if_eq (pc := 14) 26 dX12_weight_14 (by decide) (fun _ => ?_) (fun _ => ?_)
      ·
        exact x_sub [] rfl (hj3)
      ·
        refine x_aload_n (pc := 17) 0 dX12_weight_17 rfl rfl ?_
        refine x_iload_n (pc := 18) 1 dX12_weight_18 rfl rfl ?_
        refine x_iload_n (pc := 19) 2 dX12_weight_19 rfl rfl ?_
        refine x_callVr (pc := 20) (as := [aI v1, aI v2]) (rest := []) (fun l => c_12_weightOf l v1 v2 σ) md_X12_weightOf ⟨_, _, rfl, by decide⟩ tk_1842 tp_103 tk_1840 dX12_weight_20 rfl ⟨by decide, by decide, by decide, by decide⟩ ⟨fun _ => rfl, fun _ => Or.inl rfl⟩ rfl (Nat.le_of_ble_eq_true rfl) (fun r5 => ?_)
        show X E _ _ _ _ 0 0 _ _ _ [aI r5] _
        refine x_goto (pc := 23) 27 dX12_weight_23 (by decide) ?_
        exact x_iret (rm := r12_weight) rfl rfl dX12_weight_27
theorem c_12_weight (l : Launch)  (v1 : Int32) (v2 : Int32) (σ : zSt) : zMet l yX12_weight cX12_weight 3 (some .int) r12_weight true eI [aR 12 (some 0), aI v1, aI v2] σ (zro (f12_weight v1 v2 σ) σ) :=
  zMet_ofR [(0, aR 12 (some 0)), (1, aI v1), (2, aI v2)] (by decide +kernel) (fun h => by cases h) (Nat.le_of_ble_eq_true rfl) rfl fun E _ => x12_weight E  v1 v2 σ
abbrev r12_worst : Room := { frames := 3, cells := 0, slots := 0, locals := 71 }
abbrev m12_worst : zMu := (RX12, 7, (some .int), r12_worst, false)
set_option maxRecDepth 20000 in
theorem xl12_worst_33 (E : zEn)   (h1 : Int32) (h2 : Int32) (h3 : Int32) (σ : zSt) {K88 : Int32 → Option Int32} (hK88 : ∀ (v4 : Int32), X E cX12_worst m12_worst true (zQr E true eI r12_worst σ) 0 0 σ [(0, aR 12 (some 0)), (1, aI h1), (2, aI h2), (3, aI h3), (4, aI v4)] 88 [] (K88 v4)) : ∀ (n : Nat) (v4 : Int32) (v5 : Int32), X E cX12_worst m12_worst true (zQr E true eI r12_worst σ) 0 0 σ [(0, aR 12 (some 0)), (1, aI h1), (2, aI h2), (3, aI h3), (4, aI v4), (5, aI v5)] 33 [] (f12_worst_L33 h1 h2 h3 σ K88 n v4 v5) := by
  intro n
  induction n with
  | zero => intros; exact x_none
  | succ n ih =>
    intro v4 v5
    rw [f12_worst_L33]
    refine x_iload (pc := 33) 5 dX12_worst_33 rfl ?_
    refine x_bipush (pc := 35) 8 dX12_worst_35 rfl ?_
    refine x_icmp_ge (pc := 37) 88 dX12_worst_37 (by decide) (fun _ => ?_) (fun _ => ?_)
    ·
      exact x_sub [0, 1, 2, 3, 4] rfl (hK88 v4)
    ·
      refine x_aload_n (pc := 40) 0 dX12_worst_40 rfl rfl ?_
      refine x_iload (pc := 41) 5 dX12_worst_41 rfl ?_
      refine x_iload_n (pc := 43) 2 dX12_worst_43 rfl rfl ?_
      refine x_callVr (pc := 44) (as := [aI v5, aI h2]) (rest := []) (fun l => c_12_weightOf l v5 h2 σ) md_X12_weightOf ⟨_, _, rfl, by decide⟩ tk_1842 tp_103 tk_1840 dX12_worst_44 rfl ⟨by decide, by decide, by decide, by decide⟩ ⟨fun _ => rfl, fun _ => Or.inl rfl⟩ rfl (Nat.le_of_ble_eq_true rfl) (fun r3 => ?_)
      show X E _ _ _ _ 0 0 _ _ _ [aI r3] _
      refine x_aload_n (pc := 47) 0 dX12_worst_47 rfl rfl ?_
      refine x_iload_n (pc := 48) 3 dX12_worst_48 rfl rfl ?_
      refine x_iload_n (pc := 49) 2 dX12_worst_49 rfl rfl ?_
      refine x_callVr (pc := 50) (as := [aI h3, aI h2]) (rest := [aI r3]) (fun l => c_12_weightOf l h3 h2 σ) md_X12_weightOf ⟨_, _, rfl, by decide⟩ tk_1842 tp_103 tk_1840 dX12_worst_50 rfl ⟨by decide, by decide, by decide, by decide⟩ ⟨fun _ => rfl, fun _ => Or.inl rfl⟩ rfl (Nat.le_of_ble_eq_true rfl) (fun r4 => ?_)
      show X E _ _ _ _ 0 0 _ _ _ [aI r4, aI r3] _
      refine x_isub (pc := 53) dX12_worst_53 ?_
      refine x_nameI (fun x5 => ?_)
      refine x_istore (pc := 54) (als' := [(6, aI x5), (0, aR 12 (some 0)), (1, aI h1), (2, aI h2), (3, aI h3), (4, aI v4), (5, aI v5)]) 6 dX12_worst_54 (by decide) rfl ?_
      refine x_iload (pc := 56) 4 dX12_worst_56 rfl ?_
      refine x_iload (pc := 58) 6 dX12_worst_58 rfl ?_
      refine x_mg (c := 0 < x5) (a := 1) (b := (if x5 = 0 then (if h3 ≤ v5 then 0 else 1) else 0)) 79 [aI v4] ?_ (fun hm6 => ?_)
      ·
        refine x_iadd (pc := 79) dX12_worst_79 ?_
        refine x_nameI (fun x16 => ?_)
        refine x_istore (pc := 80) (als' := [(4, aI x16), (6, aI x5), (0, aR 12 (some 0)), (1, aI h1), (2, aI h2), (3, aI h3), (5, aI v5)]) 4 dX12_worst_80 (by decide) rfl ?_
        refine x_iinc (pc := 82) (als' := [(5, aI (v5 + 1)), (4, aI x16), (6, aI x5), (0, aR 12 (some 0)), (1, aI h1), (2, aI h2), (3, aI h3)]) 5 6 (c := 1) dX12_worst_82 rfl rfl (by decide) rfl ?_
        refine x_nameV (g := fun y18 => [(5, aI y18), (4, aI x16), (6, aI x5), (0, aR 12 (some 0)), (1, aI h1), (2, aI h2), (3, aI h3)]) (fun x17 => ?_) rfl
        refine x_goto (pc := 85) 33 dX12_worst_85 (by decide) ?_
        exact x_sub [3, 4, 5, 6, 1, 0] rfl (ih x16 x17)
      ·
        refine x_same (c := 0 < x5) ?_
        refine x_if_gt (pc := 60) 74 dX12_worst_60 (by decide) (fun hc7 => ?_) (fun hc7 => ?_)
        ·
          have hm8 := x_topT hc7 hm6
          refine x_iconst (pc := 74) 1 dX12_worst_74 rfl ?_
          refine x_goto (pc := 75) 79 dX12_worst_75 (by decide) ?_
          exact hm8
        ·
          have hm9 := x_topF hc7 hm6
          refine x_iload (pc := 63) 6 dX12_worst_63 rfl ?_
          refine x_same (c := x5 = 0) ?_
          refine x_if_ne (pc := 65) 78 dX12_worst_65 (by decide) (fun hc10 => ?_) (fun hc10 => ?_)
          ·
            have hm12 := x_topF hc10 hm9
            refine x_iconst (pc := 78) 0 dX12_worst_78 rfl ?_
            exact hm12
          ·
            have hm11 := x_topT hc10 hm9
            refine x_iload (pc := 68) 5 dX12_worst_68 rfl ?_
            refine x_iload_n (pc := 70) 3 dX12_worst_70 rfl rfl ?_
            refine x_same (c := h3 ≤ v5) ?_
            refine x_icmp_ge (pc := 71) 78 dX12_worst_71 (by decide) (fun hc13 => ?_) (fun hc13 => ?_)
            ·
              have hm14 := x_topT hc13 hm11
              refine x_iconst (pc := 78) 0 dX12_worst_78 rfl ?_
              exact hm14
            ·
              have hm15 := x_topF hc13 hm11
              refine x_iconst (pc := 74) 1 dX12_worst_74 rfl ?_
              refine x_goto (pc := 75) 79 dX12_worst_75 (by decide) ?_
              exact hm15
set_option maxRecDepth 20000 in
theorem xl12_worst_21 (E : zEn)   (h1 : Int32) (h2 : Int32) (σ : zSt)   : ∀ (n : Nat) (v3 : Int32), X E cX12_worst m12_worst true (zQr E true eI r12_worst σ) 0 0 σ [(0, aR 12 (some 0)), (1, aI h1), (2, aI h2), (3, aI v3)] 21 [] (f12_worst_L21 h1 h2 σ n v3) := by
  intro n
  induction n with
  | zero => intros; exact x_none
  | succ n ih =>
    intro v3
    rw [f12_worst_L21]
    refine x_iload_n (pc := 21) 3 dX12_worst_21 rfl rfl ?_
    refine x_bipush (pc := 22) 8 dX12_worst_22 rfl ?_
    refine x_icmp_ge (pc := 24) 102 dX12_worst_24 (by decide) (fun _ => ?_) (fun _ => ?_)
    ·
      refine x_iconst (pc := 102) (-1) dX12_worst_102 rfl ?_
      exact x_iret (rm := r12_worst) rfl rfl dX12_worst_103
    ·
      refine x_iconst (pc := 27) 0 dX12_worst_27 rfl ?_
      refine x_istore (pc := 28) (als' := [(4, aI 0), (0, aR 12 (some 0)), (1, aI h1), (2, aI h2), (3, aI v3)]) 4 dX12_worst_28 (by decide) rfl ?_
      refine x_iconst (pc := 30) 0 dX12_worst_30 rfl ?_
      refine x_istore (pc := 31) (als' := [(5, aI 0), (4, aI 0), (0, aR 12 (some 0)), (1, aI h1), (2, aI h2), (3, aI v3)]) 5 dX12_worst_31 (by decide) rfl ?_
      refine x_sub [2, 3, 4, 5, 1, 0] rfl (xl12_worst_33 E h1 h2 v3 σ (fun a19 => ?_) zfuel 0 0)
      ·
        refine x_iload (pc := 88) 4 dX12_worst_88 rfl ?_
        refine x_iload_n (pc := 90) 1 dX12_worst_90 rfl rfl ?_
        refine x_icmp_ne (pc := 91) 96 dX12_worst_91 (by decide) (fun _ => ?_) (fun _ => ?_)
        ·
          refine x_iinc (pc := 96) (als' := [(3, aI (v3 + 1)), (0, aR 12 (some 0)), (1, aI h1), (2, aI h2), (4, aI a19)]) 3 3 (c := 1) dX12_worst_96 rfl rfl (by decide) rfl ?_
          refine x_nameV (g := fun y21 => [(3, aI y21), (0, aR 12 (some 0)), (1, aI h1), (2, aI h2), (4, aI a19)]) (fun x20 => ?_) rfl
          refine x_goto (pc := 99) 21 dX12_worst_99 (by decide) ?_
          exact x_sub [1, 2, 3, 0] rfl (ih x20)
        ·
          refine x_iload_n (pc := 94) 3 dX12_worst_94 rfl rfl ?_
          exact x_iret (rm := r12_worst) rfl rfl dX12_worst_95
set_option maxRecDepth 20000 in
theorem x12_worst (E : zEn)  (v1 : Int32) (v2 : Int32) (σ : zSt) : X E cX12_worst m12_worst true (zQr E true eI r12_worst σ) 0 0 σ [(0, aR 12 (some 0)), (1, aI v1), (2, aI v2)] 0 [] (f12_worst v1 v2 σ) := by
  unfold f12_worst
  refine x_iload_n (pc := 0) 1 dX12_worst_0 rfl rfl ?_
  refine x_iconst (pc := 1) 0 dX12_worst_1 rfl ?_
  refine x_bipush (pc := 2) 7 dX12_worst_2 rfl ?_
  refine x_callSr (pc := 4) (as := [aI v1, aI 0, aI 7]) (rest := []) (fun l => c_12_within l true v1 0 7 σ) md_X12_within tk_1447 tk_1446 dX12_worst_4 rfl ⟨by decide, by decide, by decide, by decide⟩ ⟨fun _ => rfl, fun _ => Or.inl rfl⟩ rfl (Nat.le_of_ble_eq_true rfl) (fun r1 => ?_)
  show X E _ _ _ _ 0 0 _ _ _ [aI r1] _
  refine x_if_eq (pc := 7) 17 dX12_worst_7 (by decide) (fun _ => ?_) (fun _ => ?_)
  ·
    refine x_iconst (pc := 17) (-1) dX12_worst_17 rfl ?_
    exact x_iret (rm := r12_worst) rfl rfl dX12_worst_18
  ·
    refine x_iload_n (pc := 10) 2 dX12_worst_10 rfl rfl ?_
    refine x_callSr (pc := 11) (as := [aI v2]) (rest := []) (fun l => c_12_isDay l true v2 σ) md_X12_isDay tk_1566 tk_1565 dX12_worst_11 rfl ⟨by decide, by decide, by decide, by decide⟩ ⟨fun _ => rfl, fun _ => Or.inl rfl⟩ rfl (Nat.le_of_ble_eq_true rfl) (fun r2 => ?_)
    show X E _ _ _ _ 0 0 _ _ _ [aI r2] _
    refine x_if_ne (pc := 14) 19 dX12_worst_14 (by decide) (fun _ => ?_) (fun _ => ?_)
    ·
      refine x_iconst (pc := 19) 0 dX12_worst_19 rfl ?_
      refine x_istore_n (pc := 20) (als' := [(3, aI 0), (0, aR 12 (some 0)), (1, aI v1), (2, aI v2)]) 3 dX12_worst_20 rfl (by decide) rfl ?_
      refine x_sub [1, 2, 3, 0] rfl (xl12_worst_21 E v1 v2 σ zfuel 0)
    ·
      refine x_iconst (pc := 17) (-1) dX12_worst_17 rfl ?_
      exact x_iret (rm := r12_worst) rfl rfl dX12_worst_18
theorem c_12_worst (l : Launch)  (v1 : Int32) (v2 : Int32) (σ : zSt) : zMet l yX12_worst cX12_worst 7 (some .int) r12_worst true eI [aR 12 (some 0), aI v1, aI v2] σ (zro (f12_worst v1 v2 σ) σ) :=
  zMet_ofR [(0, aR 12 (some 0)), (1, aI v1), (2, aI v2)] (by decide +kernel) (fun h => by cases h) (Nat.le_of_ble_eq_true rfl) rfl fun E _ => x12_worst E  v1 v2 σ
abbrev r12_count : Room := { frames := 0, cells := 0, slots := 0, locals := 0 }
abbrev m12_count : zMu := (RX12, 7, (some .int), r12_count, false)
set_option maxRecDepth 20000 in
theorem xl12_count_13 (E : zEn)   (h1 : Int32) (σ : zSt) {K80 : Int32 → Int32 → Int32 → Int32 → Option Int32} (hK80 : ∀ (v2 : Int32) (v3 : Int32) (v4 : Int32) (v5 : Int32), X E cX12_count m12_count true (zQr E true eI r12_count σ) 0 0 σ [(0, aR 12 (some 0)), (1, aI h1), (2, aI v2), (3, aI v3), (4, aI v4), (5, aI v5)] 80 [] (K80 v2 v3 v4 v5)) : ∀ (n : Nat) (v2 : Int32) (v3 : Int32) (v4 : Int32) (v5 : Int32) (v6 : Int32), X E cX12_count m12_count true (zQr E true eI r12_count σ) 0 0 σ [(0, aR 12 (some 0)), (1, aI h1), (2, aI v2), (3, aI v3), (4, aI v4), (5, aI v5), (6, aI v6)] 13 [] (f12_count_L13 h1 σ K80 n v2 v3 v4 v5 v6) := by
  intro n
  induction n with
  | zero => intros; exact x_none
  | succ n ih =>
    intro v2 v3 v4 v5 v6
    rw [f12_count_L13]
    refine x_iload (pc := 13) 6 dX12_count_13 rfl ?_
    refine x_aload_n (pc := 15) 0 dX12_count_15 rfl rfl ?_
    refine x_getI (pc := 16) fd_12_13 tk_1208 dX12_count_16 ?_
    refine x_icmp_ge (pc := 19) 80 dX12_count_19 (by decide) (fun _ => ?_) (fun _ => ?_)
    ·
      exact x_sub [0, 1, 2, 3, 4, 5] rfl (hK80 v2 v3 v4 v5)
    ·
      refine x_iload_n (pc := 22) 2 dX12_count_22 rfl rfl ?_
      refine x_aload_n (pc := 23) 0 dX12_count_23 rfl rfl ?_
      refine x_getF (pc := 24) (j := 0) fd_12_10 rfl rfl tk_1205 dX12_count_24 ?_
      refine x_iload (pc := 27) 6 dX12_count_27 rfl ?_
      refine x_iald (pc := 29) ar_1310 dX12_count_29 (fun m1 => ?_)
      refine x_iadd (pc := 30) dX12_count_30 ?_
      refine x_nameI (fun x2 => ?_)
      refine x_istore_n (pc := 31) (als' := [(2, aI x2), (0, aR 12 (some 0)), (1, aI h1), (3, aI v3), (4, aI v4), (5, aI v5), (6, aI v6)]) 2 dX12_count_31 rfl (by decide) rfl ?_
      refine x_iload_n (pc := 32) 3 dX12_count_32 rfl rfl ?_
      refine x_aload_n (pc := 33) 0 dX12_count_33 rfl rfl ?_
      refine x_getF (pc := 34) (j := 0) fd_12_11 rfl rfl tk_1206 dX12_count_34 ?_
      refine x_iload (pc := 37) 6 dX12_count_37 rfl ?_
      refine x_iald (pc := 39) ar_1311 dX12_count_39 (fun m3 => ?_)
      refine x_iadd (pc := 40) dX12_count_40 ?_
      refine x_nameI (fun x4 => ?_)
      refine x_istore_n (pc := 41) (als' := [(3, aI x4), (2, aI x2), (0, aR 12 (some 0)), (1, aI h1), (4, aI v4), (5, aI v5), (6, aI v6)]) 3 dX12_count_41 rfl (by decide) rfl ?_
      refine x_iload (pc := 42) 4 dX12_count_42 rfl ?_
      refine x_aload_n (pc := 44) 0 dX12_count_44 rfl rfl ?_
      refine x_getF (pc := 45) (j := 0) fd_12_12 rfl rfl tk_1207 dX12_count_45 ?_
      refine x_iload (pc := 48) 6 dX12_count_48 rfl ?_
      refine x_iald (pc := 50) ar_1312 dX12_count_50 (fun m5 => ?_)
      refine x_iadd (pc := 51) dX12_count_51 ?_
      refine x_nameI (fun x6 => ?_)
      refine x_istore (pc := 52) (als' := [(4, aI x6), (3, aI x4), (2, aI x2), (0, aR 12 (some 0)), (1, aI h1), (5, aI v5), (6, aI v6)]) 4 dX12_count_52 (by decide) rfl ?_
      refine x_iload (pc := 54) 5 dX12_count_54 rfl ?_
      refine x_aload_n (pc := 56) 0 dX12_count_56 rfl rfl ?_
      refine x_getF (pc := 57) (j := 0) fd_12_5 rfl rfl tk_1200 dX12_count_57 ?_
      refine x_iload (pc := 60) 6 dX12_count_60 rfl ?_
      refine x_iald (pc := 62) ar_1305 dX12_count_62 (fun m7 => ?_)
      refine x_mg (c := (gI σ 1305 0 m7) < 0) (a := 0) (b := 1) 71 [aI v5] ?_ (fun hm8 => ?_)
      ·
        refine x_iadd (pc := 71) dX12_count_71 ?_
        refine x_nameI (fun x12 => ?_)
        refine x_istore (pc := 72) (als' := [(5, aI x12), (4, aI x6), (3, aI x4), (2, aI x2), (0, aR 12 (some 0)), (1, aI h1), (6, aI v6)]) 5 dX12_count_72 (by decide) rfl ?_
        refine x_iinc (pc := 74) (als' := [(6, aI (v6 + 1)), (5, aI x12), (4, aI x6), (3, aI x4), (2, aI x2), (0, aR 12 (some 0)), (1, aI h1)]) 6 6 (c := 1) dX12_count_74 rfl rfl (by decide) rfl ?_
        refine x_nameV (g := fun y14 => [(6, aI y14), (5, aI x12), (4, aI x6), (3, aI x4), (2, aI x2), (0, aR 12 (some 0)), (1, aI h1)]) (fun x13 => ?_) rfl
        refine x_goto (pc := 77) 13 dX12_count_77 (by decide) ?_
        exact x_sub [5, 6, 4, 3, 2, 1, 0] rfl (ih x2 x4 x6 x12 x13)
      ·
        refine x_same (c := (gI σ 1305 0 m7) < 0) ?_
        refine x_if_lt (pc := 63) 70 dX12_count_63 (by decide) (fun hc9 => ?_) (fun hc9 => ?_)
        ·
          have hm10 := x_topT hc9 hm8
          refine x_iconst (pc := 70) 0 dX12_count_70 rfl ?_
          exact hm10
        ·
          have hm11 := x_topF hc9 hm8
          refine x_iconst (pc := 66) 1 dX12_count_66 rfl ?_
          refine x_goto (pc := 67) 71 dX12_count_67 (by decide) ?_
          exact hm11
set_option maxRecDepth 20000 in
theorem x12_count (E : zEn)  (v1 : Int32) (σ : zSt) : X E cX12_count m12_count true (zQr E true eI r12_count σ) 0 0 σ [(0, aR 12 (some 0)), (1, aI v1)] 0 [] (f12_count v1 σ) := by
  unfold f12_count
  refine x_iconst (pc := 0) 0 dX12_count_0 rfl ?_
  refine x_istore_n (pc := 1) (als' := [(2, aI 0), (0, aR 12 (some 0)), (1, aI v1)]) 2 dX12_count_1 rfl (by decide) rfl ?_
  refine x_iconst (pc := 2) 0 dX12_count_2 rfl ?_
  refine x_istore_n (pc := 3) (als' := [(3, aI 0), (2, aI 0), (0, aR 12 (some 0)), (1, aI v1)]) 3 dX12_count_3 rfl (by decide) rfl ?_
  refine x_iconst (pc := 4) 0 dX12_count_4 rfl ?_
  refine x_istore (pc := 5) (als' := [(4, aI 0), (3, aI 0), (2, aI 0), (0, aR 12 (some 0)), (1, aI v1)]) 4 dX12_count_5 (by decide) rfl ?_
  refine x_iconst (pc := 7) 0 dX12_count_7 rfl ?_
  refine x_istore (pc := 8) (als' := [(5, aI 0), (4, aI 0), (3, aI 0), (2, aI 0), (0, aR 12 (some 0)), (1, aI v1)]) 5 dX12_count_8 (by decide) rfl ?_
  refine x_iconst (pc := 10) 0 dX12_count_10 rfl ?_
  refine x_istore (pc := 11) (als' := [(6, aI 0), (5, aI 0), (4, aI 0), (3, aI 0), (2, aI 0), (0, aR 12 (some 0)), (1, aI v1)]) 6 dX12_count_11 (by decide) rfl ?_
  refine x_sub [5, 6, 4, 3, 2, 1, 0] rfl (xl12_count_13 E v1 σ (fun a15 a16 a17 a18 => ?_) zfuel 0 0 0 0 0)
  ·
    refine x_iload_n (pc := 80) 1 dX12_count_80 rfl rfl ?_
    refine x_table (pc := 81) dX12_count_81 (by decide) (fun tg19 ht20 => ?_) (fun x => ?_)
    ·
      refine x_ite (fun hc21 => ?_) (fun hc21 => ?_)
      ·
        obtain rfl : tg19 = 144 := zsw_at hc21 ht20 (by decide)
        refine x_aload_n (pc := 144) 0 dX12_count_144 rfl rfl ?_
        refine x_getI (pc := 145) fd_12_13 tk_1208 dX12_count_145 ?_
        exact x_iret (rm := r12_count) rfl rfl dX12_count_148
      ·
        refine x_ite (fun hc22 => ?_) (fun hc22 => ?_)
        ·
          obtain rfl : tg19 = 149 := zsw_at hc22 ht20 (by decide)
          refine x_aload_n (pc := 149) 0 dX12_count_149 rfl rfl ?_
          refine x_getI (pc := 150) fd_12_17 tk_1212 dX12_count_150 ?_
          exact x_iret (rm := r12_count) rfl rfl dX12_count_153
        ·
          refine x_ite (fun hc23 => ?_) (fun hc23 => ?_)
          ·
            obtain rfl : tg19 = 154 := zsw_at hc23 ht20 (by decide)
            refine x_aload_n (pc := 154) 0 dX12_count_154 rfl rfl ?_
            refine x_getI (pc := 155) fd_12_36 tk_1231 dX12_count_155 ?_
            exact x_iret (rm := r12_count) rfl rfl dX12_count_158
          ·
            refine x_ite (fun hc24 => ?_) (fun hc24 => ?_)
            ·
              obtain rfl : tg19 = 159 := zsw_at hc24 ht20 (by decide)
              refine x_aload_n (pc := 159) 0 dX12_count_159 rfl rfl ?_
              refine x_getI (pc := 160) fd_12_0 tk_1195 dX12_count_160 ?_
              exact x_iret (rm := r12_count) rfl rfl dX12_count_163
            ·
              refine x_ite (fun hc25 => ?_) (fun hc25 => ?_)
              ·
                obtain rfl : tg19 = 164 := zsw_at hc25 ht20 (by decide)
                refine x_aload_n (pc := 164) 0 dX12_count_164 rfl rfl ?_
                refine x_getF (pc := 165) (j := 0) fd_12_54 rfl rfl tk_1249 dX12_count_165 ?_
                refine x_iconst (pc := 168) 0 dX12_count_168 rfl ?_
                refine x_iald (pc := 169) ar_1354 dX12_count_169 (fun m26 => ?_)
                exact x_iret (rm := r12_count) rfl rfl dX12_count_170
              ·
                refine x_ite (fun hc27 => ?_) (fun hc27 => ?_)
                ·
                  obtain rfl : tg19 = 171 := zsw_at hc27 ht20 (by decide)
                  refine x_aload_n (pc := 171) 0 dX12_count_171 rfl rfl ?_
                  refine x_getF (pc := 172) (j := 0) fd_12_54 rfl rfl tk_1249 dX12_count_172 ?_
                  refine x_iconst (pc := 175) 1 dX12_count_175 rfl ?_
                  refine x_iald (pc := 176) ar_1354 dX12_count_176 (fun m28 => ?_)
                  exact x_iret (rm := r12_count) rfl rfl dX12_count_177
                ·
                  refine x_ite (fun hc29 => ?_) (fun hc29 => ?_)
                  ·
                    obtain rfl : tg19 = 178 := zsw_at hc29 ht20 (by decide)
                    refine x_aload_n (pc := 178) 0 dX12_count_178 rfl rfl ?_
                    refine x_getI (pc := 179) fd_12_49 tk_1244 dX12_count_179 ?_
                    exact x_iret (rm := r12_count) rfl rfl dX12_count_182
                  ·
                    refine x_ite (fun hc30 => ?_) (fun hc30 => ?_)
                    ·
                      obtain rfl : tg19 = 183 := zsw_at hc30 ht20 (by decide)
                      refine x_aload_n (pc := 183) 0 dX12_count_183 rfl rfl ?_
                      refine x_getI (pc := 184) fd_12_47 tk_1242 dX12_count_184 ?_
                      exact x_iret (rm := r12_count) rfl rfl dX12_count_187
                    ·
                      refine x_ite (fun hc31 => ?_) (fun hc31 => ?_)
                      ·
                        obtain rfl : tg19 = 188 := zsw_at hc31 ht20 (by decide)
                        refine x_iload_n (pc := 188) 2 dX12_count_188 rfl rfl ?_
                        exact x_iret (rm := r12_count) rfl rfl dX12_count_189
                      ·
                        refine x_ite (fun hc32 => ?_) (fun hc32 => ?_)
                        ·
                          obtain rfl : tg19 = 190 := zsw_at hc32 ht20 (by decide)
                          refine x_iload_n (pc := 190) 3 dX12_count_190 rfl rfl ?_
                          exact x_iret (rm := r12_count) rfl rfl dX12_count_191
                        ·
                          refine x_ite (fun hc33 => ?_) (fun hc33 => ?_)
                          ·
                            obtain rfl : tg19 = 192 := zsw_at hc33 ht20 (by decide)
                            refine x_iload (pc := 192) 4 dX12_count_192 rfl ?_
                            exact x_iret (rm := r12_count) rfl rfl dX12_count_194
                          ·
                            refine x_ite (fun hc34 => ?_) (fun hc34 => ?_)
                            ·
                              obtain rfl : tg19 = 195 := zsw_at hc34 ht20 (by decide)
                              refine x_iload (pc := 195) 5 dX12_count_195 rfl ?_
                              exact x_iret (rm := r12_count) rfl rfl dX12_count_197
                            ·
                              obtain rfl : tg19 = 198 := zswd_at (cs := [0, 1, 2, 3, 4, 5, 6, 7, 8, 9, 10, 11]) ht20 (by decide) (by simp only [List.mem_cons, List.not_mem_nil, or_false, not_or]; exact ⟨hc21, hc22, hc23, hc24, hc25, hc27, hc29, hc30, hc31, hc32, hc33, hc34⟩) (by decide)
                              refine x_iconst (pc := 198) (-1) dX12_count_198 rfl ?_
                              exact x_iret (rm := r12_count) rfl rfl dX12_count_199
    · exact ztoff_pos (by decide) (by decide) x
theorem c_12_count (l : Launch)  (v1 : Int32) (σ : zSt) : zMet l yX12_count cX12_count 7 (some .int) r12_count true eI [aR 12 (some 0), aI v1] σ (zro (f12_count v1 σ) σ) :=
  zMet_ofR [(0, aR 12 (some 0)), (1, aI v1)] (by decide +kernel) (fun h => by cases h) (Nat.le_of_ble_eq_true rfl) rfl fun E _ => x12_count E  v1 σ
