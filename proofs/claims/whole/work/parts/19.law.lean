abbrev mlaw : zMu := (RL, 4, some .boolean, room_1, false)
/-- the law's end: it has answered 1 -/
def zQl (E : zEn) : Unit → State → Prop := fun _ => match E.1 with
  | (_, _, _, _, s, _, args, below, _, _) => lw_Z below args s
/-- the script -/
def zScr (E : zEn) (L : Nat) (xs : Nat → Int32) : Prop := va_X (oK E.2.1 5) L xs E.1.2.2.2.2.1 (zsh E.1) ∧ oK E.2.1 5 < (zsh E.1).size ∧ ¬ zA (oB E.2.1) (oK E.2.1 5)
section XL
variable {E : zEn} {cc : ByteArray} {μ : zMu} {q : Bool} {ρ : Type} {Qf : ρ → State → Prop} {kc ks : Nat} {σ : zSt} {als als' : List (Nat × zAV)} {pc : Nat} {ast : List zAV} {f f1 f2 : Option ρ}
theorem x_kc {kc' ks' : Nat} (h1 : kc = kc') (h2 : ks = ks') (k : X E cc μ q Qf kc' ks' σ als pc ast f) : X E cc μ q Qf kc ks σ als pc ast f := by subst h1; subst h2; exact k
theorem x_sld {L : Nat} {xs : Nat → Int32} {j : Int32} {g : Nat → Option ρ} (hsc : zScr E L xs) (hdg : decode cc pc = .ok (.iaload, 1)) (kk : ∀ m, X E cc μ q Qf kc ks σ als (pc + 1) (aI (xs m) :: ast) (g m)) : X E cc μ q Qf kc ks σ als pc (aI j :: aR 15 (some 5) :: ast) (zix j L g) := by
  intro r hf hA hq adr H locs ls hR hE hS hl hs hls
  unfold zix at hf
  by_cases hin : j < 0 ∨ L ≤ j.toNatClampNeg
  · rw [if_pos hin] at hf; cases hf
  rw [if_neg hin] at hf
  have kk := kk _ r hf hA hq adr H locs ls hR hE hS hl (zvs.cons trivial hs.tl.tl) hls
  obtain ⟨G, -, -, -, -, -, -, -, hK5⟩ := id hR
  have e1 : zcv adr (aR 15 (some 5)) = .ref (oK E.2.1 5) := by show va_rf (some (adr 15 5)) = _; rw [hK5 5 (by omega)]; rfl
  rw [List.map_cons, List.map_cons, e1]
  obtain ⟨⟨p, l, e, R, s, m, args, below, meth, c⟩, E2⟩ := E
  exact va_sld hA.1 hA.2.1 hsc.1 hsc.2.1 hsc.2.2 hS hin hdg kk
theorem x_sclen {L : Nat} {xs : Nat → Int32} (hsc : zScr E L xs) (hdg : decode cc pc = .ok (.arraylength, 1)) (kk : X E cc μ q Qf kc ks σ als (pc + 1) (aI (nI L) :: ast) f) : X E cc μ q Qf kc ks σ als pc (aR 15 (some 5) :: ast) f := by
  intro r hf hA hq adr H locs ls hR hE hS hl hs hls
  have kk := kk r hf hA hq adr H locs ls hR hE hS hl (zvs.cons trivial hs.tl) hls
  obtain ⟨G, -, -, -, -, -, -, -, hK5⟩ := id hR
  have e1 : zcv adr (aR 15 (some 5)) = .ref (oK E.2.1 5) := by show va_rf (some (adr 15 5)) = _; rw [hK5 5 (by omega)]; rfl
  rw [List.map_cons, e1]
  obtain ⟨⟨p, l, e, R, s, m, args, below, meth, c⟩, E2⟩ := E
  exact va_slen hA.1 hA.2.1 hsc.1 hsc.2.1 hsc.2.2 hS hdg kk
/-- the law answers 1 -/
theorem x_law1 {Γ : zGT} {E2 : zOm × (zSt × zadr)} {b : Nat} (hE : E = (Γ, E2)) (hb0 : oB E2.1 = (zsh Γ).size) (hargs : Γ.2.2.2.2.2.2.1 = #[Value.ref b]) (hk : kc ≤ 600000 ∧ ks ≤ 7302250) (hdg : decode cL_law pc = .ok (.ireturn, 1)) : X E cL_law mlaw q (zQl E) kc ks σ als pc [aI 1] (some ()) := by
  subst hE
  intro r hf hA hq adr H locs ls hR hE hS hl hs hls
  obtain ⟨p, l, e, R, s, m, args, below, meth, c⟩ := Γ
  obtain ⟨hx, hb, hml, hown, hts, hlk, hrt, hini, hRm, hK, hb1, hSp⟩ := hA
  have hargs : args = #[Value.ref b] := hargs
  subst hargs
  have hRm : R = room_1 := hRm
  subst hRm
  have hb0 : oB E2.1 = s.heap.size := hb0
  refine va_forget (fun x hx' => ?_) (W.widen hk.1 hk.2 (lw_ret hx hb hrt hlk hdg))
  have := hS.2.2 x hx'
  rw [← hb0]
  exact this
end XL
noncomputable def flaw_224 (xs : Nat → Int32) (L : Nat) (i : Int32) (σ : zSt) (K : zSt → Option Unit) : Option Unit :=
  zix (i + 1) L fun m1 =>
  zc2 (f11_days (xs m1) σ) fun r2 s3 =>
  zix (i + 1) L fun m4 =>
  zc2 (f12_days (xs m4) s3) fun r5 s6 =>
  if r2 = r5 then K s6 else none
set_option maxRecDepth 20000 in
theorem xlaw_224 (E : zEn) {L : Nat} {xs : Nat → Int32} (hsc : zScr E L xs) (i : Int32) (σ : zSt) (kc ks : Nat) (hk : kc + 8 ≤ 600000 ∧ ks + 200 ≤ 7302250) {K : zSt → Option Unit} (hK : ∀ σ, X E cL_law mlaw false (zQl E) (kc + 8) (ks + 200) σ [(0, aR 15 (some 5)), (1, aR 11 (some 0)), (2, aR 12 (some 0)), (3, aI i)] 1686 [] (K σ)) : X E cL_law mlaw false (zQl E) kc ks σ [(0, aR 15 (some 5)), (1, aR 11 (some 0)), (2, aR 12 (some 0)), (3, aI i)] 224 [] (flaw_224 xs L i σ K) := by
  unfold flaw_224
  obtain ⟨hk1, hk2⟩ := hk
  refine x_kc (kc' := kc + 0) (ks' := ks + 0) rfl rfl ?_
  refine x_aload_n (pc := 224) 1 dL_law_224 rfl rfl ?_
  refine x_aload_n (pc := 225) 0 dL_law_225 rfl rfl ?_
  refine x_iload_n (pc := 226) 3 dL_law_226 rfl rfl ?_
  refine x_iconst (pc := 227) 1 dL_law_227 rfl ?_
  refine x_iadd (pc := 228) dL_law_228 ?_
  refine x_sld (pc := 229) hsc dL_law_229 (fun m1 => ?_)
  refine x_callV (pc := 230) (as := [aI (xs m1)]) (rest := []) (fun l => c_11_days l false (xs m1) σ) md_X11_days ⟨_, _, rfl, by decide⟩ tk_211 tk_212 tk_210 dL_law_230 rfl ⟨by decide, by decide, by show kc + 0 + 0 ≤ 600000; omega, by show ks + 0 + 0 ≤ 7302250; omega⟩ ⟨(fun h => nomatch h), (fun h => nomatch h)⟩ rfl (Nat.le_of_ble_eq_true rfl) (fun r2 s3 => ?_)
  show X E _ _ _ _ (kc + 0 + 0) (ks + 0 + 0) _ _ _ [aI r2] _
  refine x_kc (kc' := kc + 0) (ks' := ks + 0) rfl rfl ?_
  refine x_aload_n (pc := 233) 2 dL_law_233 rfl rfl ?_
  refine x_aload_n (pc := 234) 0 dL_law_234 rfl rfl ?_
  refine x_iload_n (pc := 235) 3 dL_law_235 rfl rfl ?_
  refine x_iconst (pc := 236) 1 dL_law_236 rfl ?_
  refine x_iadd (pc := 237) dL_law_237 ?_
  refine x_sld (pc := 238) hsc dL_law_238 (fun m4 => ?_)
  refine x_callV (pc := 239) (as := [aI (xs m4)]) (rest := [aI r2]) (fun l => c_12_days l false (xs m4) s3) md_X12_days ⟨_, _, rfl, by decide⟩ tk_1443 tk_1444 tk_1442 dL_law_239 rfl ⟨by decide, by decide, by show kc + 0 + 0 ≤ 600000; omega, by show ks + 0 + 0 ≤ 7302250; omega⟩ ⟨(fun h => nomatch h), (fun h => nomatch h)⟩ rfl (Nat.le_of_ble_eq_true rfl) (fun r5 s6 => ?_)
  show X E _ _ _ _ (kc + 0 + 0) (ks + 0 + 0) _ _ _ [aI r5, aI r2] _
  refine x_kc (kc' := kc + 0) (ks' := ks + 0) rfl rfl ?_
  refine x_icmp_eq (pc := 242) 1686 dL_law_242 (by decide) (fun _ => ?_) (fun _ => x_none)
  exact x_widen (by omega) (by omega) (hK s6)
noncomputable def flaw_247 (xs : Nat → Int32) (L : Nat) (i : Int32) (σ : zSt) (K : zSt → Option Unit) : Option Unit :=
  zix (i + 1) L fun m1 =>
  zix (i + 2) L fun m2 =>
  zix (i + 3) L fun m3 =>
  zc2 (f11_home (xs m1) (xs m2) (xs m3) σ) fun r4 s5 =>
  zix (i + 1) L fun m6 =>
  zix (i + 2) L fun m7 =>
  zix (i + 3) L fun m8 =>
  zokc s5 <|
  zc2 (f12_home (xs m6) (xs m7) (xs m8) s5) fun r10 s11 =>
  if r4 = r10 then K s11 else none
set_option maxRecDepth 20000 in
theorem xlaw_247 (E : zEn) {L : Nat} {xs : Nat → Int32} (hsc : zScr E L xs) (i : Int32) (σ : zSt) (kc ks : Nat) (hk : kc + 8 ≤ 600000 ∧ ks + 200 ≤ 7302250) {K : zSt → Option Unit} (hK : ∀ σ, X E cL_law mlaw false (zQl E) (kc + 8) (ks + 200) σ [(0, aR 15 (some 5)), (1, aR 11 (some 0)), (2, aR 12 (some 0)), (3, aI i)] 1686 [] (K σ)) : X E cL_law mlaw false (zQl E) kc ks σ [(0, aR 15 (some 5)), (1, aR 11 (some 0)), (2, aR 12 (some 0)), (3, aI i)] 247 [] (flaw_247 xs L i σ K) := by
  unfold flaw_247
  obtain ⟨hk1, hk2⟩ := hk
  refine x_kc (kc' := kc + 0) (ks' := ks + 0) rfl rfl ?_
  refine x_aload_n (pc := 247) 1 dL_law_247 rfl rfl ?_
  refine x_aload_n (pc := 248) 0 dL_law_248 rfl rfl ?_
  refine x_iload_n (pc := 249) 3 dL_law_249 rfl rfl ?_
  refine x_iconst (pc := 250) 1 dL_law_250 rfl ?_
  refine x_iadd (pc := 251) dL_law_251 ?_
  refine x_sld (pc := 252) hsc dL_law_252 (fun m1 => ?_)
  refine x_aload_n (pc := 253) 0 dL_law_253 rfl rfl ?_
  refine x_iload_n (pc := 254) 3 dL_law_254 rfl rfl ?_
  refine x_iconst (pc := 255) 2 dL_law_255 rfl ?_
  refine x_iadd (pc := 256) dL_law_256 ?_
  refine x_sld (pc := 257) hsc dL_law_257 (fun m2 => ?_)
  refine x_aload_n (pc := 258) 0 dL_law_258 rfl rfl ?_
  refine x_iload_n (pc := 259) 3 dL_law_259 rfl rfl ?_
  refine x_iconst (pc := 260) 3 dL_law_260 rfl ?_
  refine x_iadd (pc := 261) dL_law_261 ?_
  refine x_sld (pc := 262) hsc dL_law_262 (fun m3 => ?_)
  refine x_callV (pc := 263) (as := [aI (xs m1), aI (xs m2), aI (xs m3)]) (rest := []) (fun l => c_11_home l (xs m1) (xs m2) (xs m3) σ) md_X11_home ⟨_, _, rfl, by decide⟩ tk_215 tk_216 tk_214 dL_law_263 rfl ⟨by decide, by decide, by show kc + 0 + 3 ≤ 600000; omega, by show ks + 0 + 42 ≤ 7302250; omega⟩ ⟨(fun h => nomatch h), (fun h => nomatch h)⟩ rfl (Nat.le_of_ble_eq_true rfl) (fun r4 s5 => ?_)
  show X E _ _ _ _ (kc + 0 + 3) (ks + 0 + 42) _ _ _ [aI r4] _
  refine x_kc (kc' := kc + 3) (ks' := ks + 42) rfl rfl ?_
  refine x_aload_n (pc := 266) 2 dL_law_266 rfl rfl ?_
  refine x_aload_n (pc := 267) 0 dL_law_267 rfl rfl ?_
  refine x_iload_n (pc := 268) 3 dL_law_268 rfl rfl ?_
  refine x_iconst (pc := 269) 1 dL_law_269 rfl ?_
  refine x_iadd (pc := 270) dL_law_270 ?_
  refine x_sld (pc := 271) hsc dL_law_271 (fun m6 => ?_)
  refine x_aload_n (pc := 272) 0 dL_law_272 rfl rfl ?_
  refine x_iload_n (pc := 273) 3 dL_law_273 rfl rfl ?_
  refine x_iconst (pc := 274) 2 dL_law_274 rfl ?_
  refine x_iadd (pc := 275) dL_law_275 ?_
  refine x_sld (pc := 276) hsc dL_law_276 (fun m7 => ?_)
  refine x_aload_n (pc := 277) 0 dL_law_277 rfl rfl ?_
  refine x_iload_n (pc := 278) 3 dL_law_278 rfl rfl ?_
  refine x_iconst (pc := 279) 3 dL_law_279 rfl ?_
  refine x_iadd (pc := 280) dL_law_280 ?_
  refine x_sld (pc := 281) hsc dL_law_281 (fun m8 => ?_)
  refine x_okc (fun hok9 => ?_)
  refine x_callV (pc := 282) (as := [aI (xs m6), aI (xs m7), aI (xs m8)]) (rest := [aI r4]) (fun l => c_12_home l (xs m6) (xs m7) (xs m8) s5) md_X12_home ⟨_, _, rfl, by decide⟩ tk_1450 tk_1451 tk_1449 dL_law_282 rfl ⟨by decide, by decide, by show kc + 3 + 0 ≤ 600000; omega, by show ks + 42 + 0 ≤ 7302250; omega⟩ ⟨(fun h => nomatch h), (fun _ => Or.inr hok9)⟩ rfl (Nat.le_of_ble_eq_true rfl) (fun r10 s11 => ?_)
  show X E _ _ _ _ (kc + 3 + 0) (ks + 42 + 0) _ _ _ [aI r10, aI r4] _
  refine x_kc (kc' := kc + 3) (ks' := ks + 42) rfl rfl ?_
  refine x_icmp_eq (pc := 285) 1686 dL_law_285 (by decide) (fun _ => ?_) (fun _ => x_none)
  exact x_widen (by omega) (by omega) (hK s11)
noncomputable def flaw_290 (xs : Nat → Int32) (L : Nat) (i : Int32) (σ : zSt) (K : zSt → Option Unit) : Option Unit :=
  zix (i + 1) L fun m1 =>
  zix (i + 2) L fun m2 =>
  zokc σ <|
  zc2 (f11_key (xs m1) (xs m2) σ) fun r4 s5 =>
  zix (i + 1) L fun m6 =>
  zix (i + 2) L fun m7 =>
  zokc s5 <|
  zc2 (f12_key (xs m6) (xs m7) s5) fun r9 s10 =>
  if r4 = r9 then K s10 else none
set_option maxRecDepth 20000 in
theorem xlaw_290 (E : zEn) {L : Nat} {xs : Nat → Int32} (hsc : zScr E L xs) (i : Int32) (σ : zSt) (kc ks : Nat) (hk : kc + 8 ≤ 600000 ∧ ks + 200 ≤ 7302250) {K : zSt → Option Unit} (hK : ∀ σ, X E cL_law mlaw false (zQl E) (kc + 8) (ks + 200) σ [(0, aR 15 (some 5)), (1, aR 11 (some 0)), (2, aR 12 (some 0)), (3, aI i)] 1686 [] (K σ)) : X E cL_law mlaw false (zQl E) kc ks σ [(0, aR 15 (some 5)), (1, aR 11 (some 0)), (2, aR 12 (some 0)), (3, aI i)] 290 [] (flaw_290 xs L i σ K) := by
  unfold flaw_290
  obtain ⟨hk1, hk2⟩ := hk
  refine x_kc (kc' := kc + 0) (ks' := ks + 0) rfl rfl ?_
  refine x_aload_n (pc := 290) 1 dL_law_290 rfl rfl ?_
  refine x_aload_n (pc := 291) 0 dL_law_291 rfl rfl ?_
  refine x_iload_n (pc := 292) 3 dL_law_292 rfl rfl ?_
  refine x_iconst (pc := 293) 1 dL_law_293 rfl ?_
  refine x_iadd (pc := 294) dL_law_294 ?_
  refine x_sld (pc := 295) hsc dL_law_295 (fun m1 => ?_)
  refine x_aload_n (pc := 296) 0 dL_law_296 rfl rfl ?_
  refine x_iload_n (pc := 297) 3 dL_law_297 rfl rfl ?_
  refine x_iconst (pc := 298) 2 dL_law_298 rfl ?_
  refine x_iadd (pc := 299) dL_law_299 ?_
  refine x_sld (pc := 300) hsc dL_law_300 (fun m2 => ?_)
  refine x_okc (fun hok3 => ?_)
  refine x_callV (pc := 301) (as := [aI (xs m1), aI (xs m2)]) (rest := []) (fun l => c_11_key l (xs m1) (xs m2) σ) md_X11_key ⟨_, _, rfl, by decide⟩ tk_275 tk_276 tk_274 dL_law_301 rfl ⟨by decide, by decide, by show kc + 0 + 0 ≤ 600000; omega, by show ks + 0 + 0 ≤ 7302250; omega⟩ ⟨(fun h => nomatch h), (fun _ => Or.inr hok3)⟩ rfl (Nat.le_of_ble_eq_true rfl) (fun r4 s5 => ?_)
  show X E _ _ _ _ (kc + 0 + 0) (ks + 0 + 0) _ _ _ [aI r4] _
  refine x_kc (kc' := kc + 0) (ks' := ks + 0) rfl rfl ?_
  refine x_aload_n (pc := 304) 2 dL_law_304 rfl rfl ?_
  refine x_aload_n (pc := 305) 0 dL_law_305 rfl rfl ?_
  refine x_iload_n (pc := 306) 3 dL_law_306 rfl rfl ?_
  refine x_iconst (pc := 307) 1 dL_law_307 rfl ?_
  refine x_iadd (pc := 308) dL_law_308 ?_
  refine x_sld (pc := 309) hsc dL_law_309 (fun m6 => ?_)
  refine x_aload_n (pc := 310) 0 dL_law_310 rfl rfl ?_
  refine x_iload_n (pc := 311) 3 dL_law_311 rfl rfl ?_
  refine x_iconst (pc := 312) 2 dL_law_312 rfl ?_
  refine x_iadd (pc := 313) dL_law_313 ?_
  refine x_sld (pc := 314) hsc dL_law_314 (fun m7 => ?_)
  refine x_okc (fun hok8 => ?_)
  refine x_callV (pc := 315) (as := [aI (xs m6), aI (xs m7)]) (rest := [aI r4]) (fun l => c_12_key l (xs m6) (xs m7) s5) md_X12_key ⟨_, _, rfl, by decide⟩ tk_1454 tk_1455 tk_1453 dL_law_315 rfl ⟨by decide, by decide, by show kc + 0 + 0 ≤ 600000; omega, by show ks + 0 + 0 ≤ 7302250; omega⟩ ⟨(fun h => nomatch h), (fun _ => Or.inr hok8)⟩ rfl (Nat.le_of_ble_eq_true rfl) (fun r9 s10 => ?_)
  show X E _ _ _ _ (kc + 0 + 0) (ks + 0 + 0) _ _ _ [aI r9, aI r4] _
  refine x_kc (kc' := kc + 0) (ks' := ks + 0) rfl rfl ?_
  refine x_icmp_eq (pc := 318) 1686 dL_law_318 (by decide) (fun _ => ?_) (fun _ => x_none)
  exact x_widen (by omega) (by omega) (hK s10)
noncomputable def flaw_323 (xs : Nat → Int32) (L : Nat) (i : Int32) (σ : zSt) (K : zSt → Option Unit) : Option Unit :=
  zix (i + 1) L fun m1 =>
  zokc σ <|
  zc2 (f11_sell (xs m1) σ) fun r3 s4 =>
  zix (i + 1) L fun m5 =>
  zokc s4 <|
  zc2 (f12_sell (xs m5) s4) fun r7 s8 =>
  if r3 = r7 then K s8 else none
set_option maxRecDepth 20000 in
theorem xlaw_323 (E : zEn) {L : Nat} {xs : Nat → Int32} (hsc : zScr E L xs) (i : Int32) (σ : zSt) (kc ks : Nat) (hk : kc + 8 ≤ 600000 ∧ ks + 200 ≤ 7302250) {K : zSt → Option Unit} (hK : ∀ σ, X E cL_law mlaw false (zQl E) (kc + 8) (ks + 200) σ [(0, aR 15 (some 5)), (1, aR 11 (some 0)), (2, aR 12 (some 0)), (3, aI i)] 1686 [] (K σ)) : X E cL_law mlaw false (zQl E) kc ks σ [(0, aR 15 (some 5)), (1, aR 11 (some 0)), (2, aR 12 (some 0)), (3, aI i)] 323 [] (flaw_323 xs L i σ K) := by
  unfold flaw_323
  obtain ⟨hk1, hk2⟩ := hk
  refine x_kc (kc' := kc + 0) (ks' := ks + 0) rfl rfl ?_
  refine x_aload_n (pc := 323) 1 dL_law_323 rfl rfl ?_
  refine x_aload_n (pc := 324) 0 dL_law_324 rfl rfl ?_
  refine x_iload_n (pc := 325) 3 dL_law_325 rfl rfl ?_
  refine x_iconst (pc := 326) 1 dL_law_326 rfl ?_
  refine x_iadd (pc := 327) dL_law_327 ?_
  refine x_sld (pc := 328) hsc dL_law_328 (fun m1 => ?_)
  refine x_okc (fun hok2 => ?_)
  refine x_callV (pc := 329) (as := [aI (xs m1)]) (rest := []) (fun l => c_11_sell l (xs m1) σ) md_X11_sell ⟨_, _, rfl, by decide⟩ tk_288 tk_289 tk_287 dL_law_329 rfl ⟨by decide, by decide, by show kc + 0 + 0 ≤ 600000; omega, by show ks + 0 + 0 ≤ 7302250; omega⟩ ⟨(fun h => nomatch h), (fun _ => Or.inr hok2)⟩ rfl (Nat.le_of_ble_eq_true rfl) (fun r3 s4 => ?_)
  show X E _ _ _ _ (kc + 0 + 0) (ks + 0 + 0) _ _ _ [aI r3] _
  refine x_kc (kc' := kc + 0) (ks' := ks + 0) rfl rfl ?_
  refine x_aload_n (pc := 332) 2 dL_law_332 rfl rfl ?_
  refine x_aload_n (pc := 333) 0 dL_law_333 rfl rfl ?_
  refine x_iload_n (pc := 334) 3 dL_law_334 rfl rfl ?_
  refine x_iconst (pc := 335) 1 dL_law_335 rfl ?_
  refine x_iadd (pc := 336) dL_law_336 ?_
  refine x_sld (pc := 337) hsc dL_law_337 (fun m5 => ?_)
  refine x_okc (fun hok6 => ?_)
  refine x_callV (pc := 338) (as := [aI (xs m5)]) (rest := [aI r3]) (fun l => c_12_sell l (xs m5) s4) md_X12_sell ⟨_, _, rfl, by decide⟩ tk_1463 tk_1464 tk_1462 dL_law_338 rfl ⟨by decide, by decide, by show kc + 0 + 0 ≤ 600000; omega, by show ks + 0 + 0 ≤ 7302250; omega⟩ ⟨(fun h => nomatch h), (fun _ => Or.inr hok6)⟩ rfl (Nat.le_of_ble_eq_true rfl) (fun r7 s8 => ?_)
  show X E _ _ _ _ (kc + 0 + 0) (ks + 0 + 0) _ _ _ [aI r7, aI r3] _
  refine x_kc (kc' := kc + 0) (ks' := ks + 0) rfl rfl ?_
  refine x_icmp_eq (pc := 341) 1686 dL_law_341 (by decide) (fun _ => ?_) (fun _ => x_none)
  exact x_widen (by omega) (by omega) (hK s8)
noncomputable def flaw_346 (xs : Nat → Int32) (L : Nat) (i : Int32) (σ : zSt) (K : zSt → Option Unit) : Option Unit :=
  zix (i + 1) L fun m1 =>
  zix (i + 2) L fun m2 =>
  zokc σ <|
  zc2 (f11_in (xs m1) (xs m2) σ) fun r4 s5 =>
  zix (i + 1) L fun m6 =>
  zix (i + 2) L fun m7 =>
  zokc s5 <|
  zc2 (f12_in (xs m6) (xs m7) s5) fun r9 s10 =>
  if r4 = r9 then K s10 else none
set_option maxRecDepth 20000 in
theorem xlaw_346 (E : zEn) {L : Nat} {xs : Nat → Int32} (hsc : zScr E L xs) (i : Int32) (σ : zSt) (kc ks : Nat) (hk : kc + 8 ≤ 600000 ∧ ks + 200 ≤ 7302250) {K : zSt → Option Unit} (hK : ∀ σ, X E cL_law mlaw false (zQl E) (kc + 8) (ks + 200) σ [(0, aR 15 (some 5)), (1, aR 11 (some 0)), (2, aR 12 (some 0)), (3, aI i)] 1686 [] (K σ)) : X E cL_law mlaw false (zQl E) kc ks σ [(0, aR 15 (some 5)), (1, aR 11 (some 0)), (2, aR 12 (some 0)), (3, aI i)] 346 [] (flaw_346 xs L i σ K) := by
  unfold flaw_346
  obtain ⟨hk1, hk2⟩ := hk
  refine x_kc (kc' := kc + 0) (ks' := ks + 0) rfl rfl ?_
  refine x_aload_n (pc := 346) 1 dL_law_346 rfl rfl ?_
  refine x_aload_n (pc := 347) 0 dL_law_347 rfl rfl ?_
  refine x_iload_n (pc := 348) 3 dL_law_348 rfl rfl ?_
  refine x_iconst (pc := 349) 1 dL_law_349 rfl ?_
  refine x_iadd (pc := 350) dL_law_350 ?_
  refine x_sld (pc := 351) hsc dL_law_351 (fun m1 => ?_)
  refine x_aload_n (pc := 352) 0 dL_law_352 rfl rfl ?_
  refine x_iload_n (pc := 353) 3 dL_law_353 rfl rfl ?_
  refine x_iconst (pc := 354) 2 dL_law_354 rfl ?_
  refine x_iadd (pc := 355) dL_law_355 ?_
  refine x_sld (pc := 356) hsc dL_law_356 (fun m2 => ?_)
  refine x_okc (fun hok3 => ?_)
  refine x_callV (pc := 357) (as := [aI (xs m1), aI (xs m2)]) (rest := []) (fun l => c_11_in l (xs m1) (xs m2) σ) md_X11_in ⟨_, _, rfl, by decide⟩ tk_296 tk_297 tk_295 dL_law_357 rfl ⟨by decide, by decide, by show kc + 0 + 0 ≤ 600000; omega, by show ks + 0 + 0 ≤ 7302250; omega⟩ ⟨(fun h => nomatch h), (fun _ => Or.inr hok3)⟩ rfl (Nat.le_of_ble_eq_true rfl) (fun r4 s5 => ?_)
  show X E _ _ _ _ (kc + 0 + 0) (ks + 0 + 0) _ _ _ [aI r4] _
  refine x_kc (kc' := kc + 0) (ks' := ks + 0) rfl rfl ?_
  refine x_aload_n (pc := 360) 2 dL_law_360 rfl rfl ?_
  refine x_aload_n (pc := 361) 0 dL_law_361 rfl rfl ?_
  refine x_iload_n (pc := 362) 3 dL_law_362 rfl rfl ?_
  refine x_iconst (pc := 363) 1 dL_law_363 rfl ?_
  refine x_iadd (pc := 364) dL_law_364 ?_
  refine x_sld (pc := 365) hsc dL_law_365 (fun m6 => ?_)
  refine x_aload_n (pc := 366) 0 dL_law_366 rfl rfl ?_
  refine x_iload_n (pc := 367) 3 dL_law_367 rfl rfl ?_
  refine x_iconst (pc := 368) 2 dL_law_368 rfl ?_
  refine x_iadd (pc := 369) dL_law_369 ?_
  refine x_sld (pc := 370) hsc dL_law_370 (fun m7 => ?_)
  refine x_okc (fun hok8 => ?_)
  refine x_callV (pc := 371) (as := [aI (xs m6), aI (xs m7)]) (rest := [aI r4]) (fun l => c_12_in l (xs m6) (xs m7) s5) md_X12_in ⟨_, _, rfl, by decide⟩ tk_1467 tk_1468 tk_1466 dL_law_371 rfl ⟨by decide, by decide, by show kc + 0 + 0 ≤ 600000; omega, by show ks + 0 + 0 ≤ 7302250; omega⟩ ⟨(fun h => nomatch h), (fun _ => Or.inr hok8)⟩ rfl (Nat.le_of_ble_eq_true rfl) (fun r9 s10 => ?_)
  show X E _ _ _ _ (kc + 0 + 0) (ks + 0 + 0) _ _ _ [aI r9, aI r4] _
  refine x_kc (kc' := kc + 0) (ks' := ks + 0) rfl rfl ?_
  refine x_icmp_eq (pc := 374) 1686 dL_law_374 (by decide) (fun _ => ?_) (fun _ => x_none)
  exact x_widen (by omega) (by omega) (hK s10)
noncomputable def flaw_379 (xs : Nat → Int32) (L : Nat) (i : Int32) (σ : zSt) (K : zSt → Option Unit) : Option Unit :=
  zix (i + 1) L fun m1 =>
  zix (i + 2) L fun m2 =>
  zix (i + 3) L fun m3 =>
  zokc σ <|
  zc2 (f11_crew (xs m1) (xs m2) (xs m3) σ) fun r5 s6 =>
  zix (i + 1) L fun m7 =>
  zix (i + 2) L fun m8 =>
  zix (i + 3) L fun m9 =>
  zokc s6 <|
  zc2 (f12_crew (xs m7) (xs m8) (xs m9) s6) fun r11 s12 =>
  if r5 = r11 then K s12 else none
set_option maxRecDepth 20000 in
theorem xlaw_379 (E : zEn) {L : Nat} {xs : Nat → Int32} (hsc : zScr E L xs) (i : Int32) (σ : zSt) (kc ks : Nat) (hk : kc + 8 ≤ 600000 ∧ ks + 200 ≤ 7302250) {K : zSt → Option Unit} (hK : ∀ σ, X E cL_law mlaw false (zQl E) (kc + 8) (ks + 200) σ [(0, aR 15 (some 5)), (1, aR 11 (some 0)), (2, aR 12 (some 0)), (3, aI i)] 1686 [] (K σ)) : X E cL_law mlaw false (zQl E) kc ks σ [(0, aR 15 (some 5)), (1, aR 11 (some 0)), (2, aR 12 (some 0)), (3, aI i)] 379 [] (flaw_379 xs L i σ K) := by
  unfold flaw_379
  obtain ⟨hk1, hk2⟩ := hk
  refine x_kc (kc' := kc + 0) (ks' := ks + 0) rfl rfl ?_
  refine x_aload_n (pc := 379) 1 dL_law_379 rfl rfl ?_
  refine x_aload_n (pc := 380) 0 dL_law_380 rfl rfl ?_
  refine x_iload_n (pc := 381) 3 dL_law_381 rfl rfl ?_
  refine x_iconst (pc := 382) 1 dL_law_382 rfl ?_
  refine x_iadd (pc := 383) dL_law_383 ?_
  refine x_sld (pc := 384) hsc dL_law_384 (fun m1 => ?_)
  refine x_aload_n (pc := 385) 0 dL_law_385 rfl rfl ?_
  refine x_iload_n (pc := 386) 3 dL_law_386 rfl rfl ?_
  refine x_iconst (pc := 387) 2 dL_law_387 rfl ?_
  refine x_iadd (pc := 388) dL_law_388 ?_
  refine x_sld (pc := 389) hsc dL_law_389 (fun m2 => ?_)
  refine x_aload_n (pc := 390) 0 dL_law_390 rfl rfl ?_
  refine x_iload_n (pc := 391) 3 dL_law_391 rfl rfl ?_
  refine x_iconst (pc := 392) 3 dL_law_392 rfl ?_
  refine x_iadd (pc := 393) dL_law_393 ?_
  refine x_sld (pc := 394) hsc dL_law_394 (fun m3 => ?_)
  refine x_okc (fun hok4 => ?_)
  refine x_callV (pc := 395) (as := [aI (xs m1), aI (xs m2), aI (xs m3)]) (rest := []) (fun l => c_11_crew l (xs m1) (xs m2) (xs m3) σ) md_X11_crew ⟨_, _, rfl, by decide⟩ tk_300 tk_301 tk_299 dL_law_395 rfl ⟨by decide, by decide, by show kc + 0 + 0 ≤ 600000; omega, by show ks + 0 + 0 ≤ 7302250; omega⟩ ⟨(fun h => nomatch h), (fun _ => Or.inr hok4)⟩ rfl (Nat.le_of_ble_eq_true rfl) (fun r5 s6 => ?_)
  show X E _ _ _ _ (kc + 0 + 0) (ks + 0 + 0) _ _ _ [aI r5] _
  refine x_kc (kc' := kc + 0) (ks' := ks + 0) rfl rfl ?_
  refine x_aload_n (pc := 398) 2 dL_law_398 rfl rfl ?_
  refine x_aload_n (pc := 399) 0 dL_law_399 rfl rfl ?_
  refine x_iload_n (pc := 400) 3 dL_law_400 rfl rfl ?_
  refine x_iconst (pc := 401) 1 dL_law_401 rfl ?_
  refine x_iadd (pc := 402) dL_law_402 ?_
  refine x_sld (pc := 403) hsc dL_law_403 (fun m7 => ?_)
  refine x_aload_n (pc := 404) 0 dL_law_404 rfl rfl ?_
  refine x_iload_n (pc := 405) 3 dL_law_405 rfl rfl ?_
  refine x_iconst (pc := 406) 2 dL_law_406 rfl ?_
  refine x_iadd (pc := 407) dL_law_407 ?_
  refine x_sld (pc := 408) hsc dL_law_408 (fun m8 => ?_)
  refine x_aload_n (pc := 409) 0 dL_law_409 rfl rfl ?_
  refine x_iload_n (pc := 410) 3 dL_law_410 rfl rfl ?_
  refine x_iconst (pc := 411) 3 dL_law_411 rfl ?_
  refine x_iadd (pc := 412) dL_law_412 ?_
  refine x_sld (pc := 413) hsc dL_law_413 (fun m9 => ?_)
  refine x_okc (fun hok10 => ?_)
  refine x_callV (pc := 414) (as := [aI (xs m7), aI (xs m8), aI (xs m9)]) (rest := [aI r5]) (fun l => c_12_crew l (xs m7) (xs m8) (xs m9) s6) md_X12_crew ⟨_, _, rfl, by decide⟩ tk_1471 tk_1472 tk_1470 dL_law_414 rfl ⟨by decide, by decide, by show kc + 0 + 0 ≤ 600000; omega, by show ks + 0 + 0 ≤ 7302250; omega⟩ ⟨(fun h => nomatch h), (fun _ => Or.inr hok10)⟩ rfl (Nat.le_of_ble_eq_true rfl) (fun r11 s12 => ?_)
  show X E _ _ _ _ (kc + 0 + 0) (ks + 0 + 0) _ _ _ [aI r11, aI r5] _
  refine x_kc (kc' := kc + 0) (ks' := ks + 0) rfl rfl ?_
  refine x_icmp_eq (pc := 417) 1686 dL_law_417 (by decide) (fun _ => ?_) (fun _ => x_none)
  exact x_widen (by omega) (by omega) (hK s12)
noncomputable def flaw_422 (xs : Nat → Int32) (L : Nat) (i : Int32) (σ : zSt) (K : zSt → Option Unit) : Option Unit :=
  zix (i + 1) L fun m1 =>
  zix (i + 2) L fun m2 =>
  zokc σ <|
  zc1 (f11_ofHome (xs m1) (xs m2) σ) fun r4 =>
  zix (i + 1) L fun m5 =>
  zix (i + 2) L fun m6 =>
  zokc σ <|
  zc1 (f12_ofHome (xs m5) (xs m6) σ) fun r8 =>
  if r4 = r8 then K σ else none
set_option maxRecDepth 20000 in
theorem xlaw_422 (E : zEn) {L : Nat} {xs : Nat → Int32} (hsc : zScr E L xs) (i : Int32) (σ : zSt) (kc ks : Nat) (hk : kc + 8 ≤ 600000 ∧ ks + 200 ≤ 7302250) {K : zSt → Option Unit} (hK : ∀ σ, X E cL_law mlaw false (zQl E) (kc + 8) (ks + 200) σ [(0, aR 15 (some 5)), (1, aR 11 (some 0)), (2, aR 12 (some 0)), (3, aI i)] 1686 [] (K σ)) : X E cL_law mlaw false (zQl E) kc ks σ [(0, aR 15 (some 5)), (1, aR 11 (some 0)), (2, aR 12 (some 0)), (3, aI i)] 422 [] (flaw_422 xs L i σ K) := by
  unfold flaw_422
  obtain ⟨hk1, hk2⟩ := hk
  refine x_kc (kc' := kc + 0) (ks' := ks + 0) rfl rfl ?_
  refine x_aload_n (pc := 422) 1 dL_law_422 rfl rfl ?_
  refine x_aload_n (pc := 423) 0 dL_law_423 rfl rfl ?_
  refine x_iload_n (pc := 424) 3 dL_law_424 rfl rfl ?_
  refine x_iconst (pc := 425) 1 dL_law_425 rfl ?_
  refine x_iadd (pc := 426) dL_law_426 ?_
  refine x_sld (pc := 427) hsc dL_law_427 (fun m1 => ?_)
  refine x_aload_n (pc := 428) 0 dL_law_428 rfl rfl ?_
  refine x_iload_n (pc := 429) 3 dL_law_429 rfl rfl ?_
  refine x_iconst (pc := 430) 2 dL_law_430 rfl ?_
  refine x_iadd (pc := 431) dL_law_431 ?_
  refine x_sld (pc := 432) hsc dL_law_432 (fun m2 => ?_)
  refine x_okc (fun hok3 => ?_)
  refine x_callVr (pc := 433) (as := [aI (xs m1), aI (xs m2)]) (rest := []) (fun l => c_11_ofHome l (xs m1) (xs m2) σ) md_X11_ofHome ⟨_, _, rfl, by decide⟩ tk_310 tk_311 tk_309 dL_law_433 rfl ⟨by decide, by decide, by show kc + 0 + 0 ≤ 600000; omega, by show ks + 0 + 0 ≤ 7302250; omega⟩ ⟨(fun h => nomatch h), (fun _ => Or.inr hok3)⟩ rfl (Nat.le_of_ble_eq_true rfl) (fun r4 => ?_)
  show X E _ _ _ _ (kc + 0 + 0) (ks + 0 + 0) _ _ _ [aI r4] _
  refine x_kc (kc' := kc + 0) (ks' := ks + 0) rfl rfl ?_
  refine x_aload_n (pc := 436) 2 dL_law_436 rfl rfl ?_
  refine x_aload_n (pc := 437) 0 dL_law_437 rfl rfl ?_
  refine x_iload_n (pc := 438) 3 dL_law_438 rfl rfl ?_
  refine x_iconst (pc := 439) 1 dL_law_439 rfl ?_
  refine x_iadd (pc := 440) dL_law_440 ?_
  refine x_sld (pc := 441) hsc dL_law_441 (fun m5 => ?_)
  refine x_aload_n (pc := 442) 0 dL_law_442 rfl rfl ?_
  refine x_iload_n (pc := 443) 3 dL_law_443 rfl rfl ?_
  refine x_iconst (pc := 444) 2 dL_law_444 rfl ?_
  refine x_iadd (pc := 445) dL_law_445 ?_
  refine x_sld (pc := 446) hsc dL_law_446 (fun m6 => ?_)
  refine x_okc (fun hok7 => ?_)
  refine x_callVr (pc := 447) (as := [aI (xs m5), aI (xs m6)]) (rest := [aI r4]) (fun l => c_12_ofHome l (xs m5) (xs m6) σ) md_X12_ofHome ⟨_, _, rfl, by decide⟩ tk_1479 tk_1480 tk_1478 dL_law_447 rfl ⟨by decide, by decide, by show kc + 0 + 0 ≤ 600000; omega, by show ks + 0 + 0 ≤ 7302250; omega⟩ ⟨(fun h => nomatch h), (fun _ => Or.inr hok7)⟩ rfl (Nat.le_of_ble_eq_true rfl) (fun r8 => ?_)
  show X E _ _ _ _ (kc + 0 + 0) (ks + 0 + 0) _ _ _ [aI r8, aI r4] _
  refine x_kc (kc' := kc + 0) (ks' := ks + 0) rfl rfl ?_
  refine x_icmp_eq (pc := 450) 1686 dL_law_450 (by decide) (fun _ => ?_) (fun _ => x_none)
  exact x_widen (by omega) (by omega) (hK σ)
noncomputable def flaw_455 (xs : Nat → Int32) (L : Nat) (i : Int32) (σ : zSt) (K : zSt → Option Unit) : Option Unit :=
  zix (i + 1) L fun m1 =>
  zix (i + 2) L fun m2 =>
  zix (i + 3) L fun m3 =>
  zc2 (f11_kind (xs m1) (xs m2) (xs m3) σ) fun r4 s5 =>
  zix (i + 1) L fun m6 =>
  zix (i + 2) L fun m7 =>
  zix (i + 3) L fun m8 =>
  zokc s5 <|
  zc2 (f12_kind (xs m6) (xs m7) (xs m8) s5) fun r10 s11 =>
  if r4 = r10 then K s11 else none
set_option maxRecDepth 20000 in
theorem xlaw_455 (E : zEn) {L : Nat} {xs : Nat → Int32} (hsc : zScr E L xs) (i : Int32) (σ : zSt) (kc ks : Nat) (hk : kc + 8 ≤ 600000 ∧ ks + 200 ≤ 7302250) {K : zSt → Option Unit} (hK : ∀ σ, X E cL_law mlaw false (zQl E) (kc + 8) (ks + 200) σ [(0, aR 15 (some 5)), (1, aR 11 (some 0)), (2, aR 12 (some 0)), (3, aI i)] 1686 [] (K σ)) : X E cL_law mlaw false (zQl E) kc ks σ [(0, aR 15 (some 5)), (1, aR 11 (some 0)), (2, aR 12 (some 0)), (3, aI i)] 455 [] (flaw_455 xs L i σ K) := by
  unfold flaw_455
  obtain ⟨hk1, hk2⟩ := hk
  refine x_kc (kc' := kc + 0) (ks' := ks + 0) rfl rfl ?_
  refine x_aload_n (pc := 455) 1 dL_law_455 rfl rfl ?_
  refine x_aload_n (pc := 456) 0 dL_law_456 rfl rfl ?_
  refine x_iload_n (pc := 457) 3 dL_law_457 rfl rfl ?_
  refine x_iconst (pc := 458) 1 dL_law_458 rfl ?_
  refine x_iadd (pc := 459) dL_law_459 ?_
  refine x_sld (pc := 460) hsc dL_law_460 (fun m1 => ?_)
  refine x_aload_n (pc := 461) 0 dL_law_461 rfl rfl ?_
  refine x_iload_n (pc := 462) 3 dL_law_462 rfl rfl ?_
  refine x_iconst (pc := 463) 2 dL_law_463 rfl ?_
  refine x_iadd (pc := 464) dL_law_464 ?_
  refine x_sld (pc := 465) hsc dL_law_465 (fun m2 => ?_)
  refine x_aload_n (pc := 466) 0 dL_law_466 rfl rfl ?_
  refine x_iload_n (pc := 467) 3 dL_law_467 rfl rfl ?_
  refine x_iconst (pc := 468) 3 dL_law_468 rfl ?_
  refine x_iadd (pc := 469) dL_law_469 ?_
  refine x_sld (pc := 470) hsc dL_law_470 (fun m3 => ?_)
  refine x_callV (pc := 471) (as := [aI (xs m1), aI (xs m2), aI (xs m3)]) (rest := []) (fun l => c_11_kind l (xs m1) (xs m2) (xs m3) σ) md_X11_kind ⟨_, _, rfl, by decide⟩ tk_355 tk_356 tk_354 dL_law_471 rfl ⟨by decide, by decide, by show kc + 0 + 1 ≤ 600000; omega, by show ks + 0 + 3 ≤ 7302250; omega⟩ ⟨(fun h => nomatch h), (fun h => nomatch h)⟩ rfl (Nat.le_of_ble_eq_true rfl) (fun r4 s5 => ?_)
  show X E _ _ _ _ (kc + 0 + 1) (ks + 0 + 3) _ _ _ [aI r4] _
  refine x_kc (kc' := kc + 1) (ks' := ks + 3) rfl rfl ?_
  refine x_aload_n (pc := 474) 2 dL_law_474 rfl rfl ?_
  refine x_aload_n (pc := 475) 0 dL_law_475 rfl rfl ?_
  refine x_iload_n (pc := 476) 3 dL_law_476 rfl rfl ?_
  refine x_iconst (pc := 477) 1 dL_law_477 rfl ?_
  refine x_iadd (pc := 478) dL_law_478 ?_
  refine x_sld (pc := 479) hsc dL_law_479 (fun m6 => ?_)
  refine x_aload_n (pc := 480) 0 dL_law_480 rfl rfl ?_
  refine x_iload_n (pc := 481) 3 dL_law_481 rfl rfl ?_
  refine x_iconst (pc := 482) 2 dL_law_482 rfl ?_
  refine x_iadd (pc := 483) dL_law_483 ?_
  refine x_sld (pc := 484) hsc dL_law_484 (fun m7 => ?_)
  refine x_aload_n (pc := 485) 0 dL_law_485 rfl rfl ?_
  refine x_iload_n (pc := 486) 3 dL_law_486 rfl rfl ?_
  refine x_iconst (pc := 487) 3 dL_law_487 rfl ?_
  refine x_iadd (pc := 488) dL_law_488 ?_
  refine x_sld (pc := 489) hsc dL_law_489 (fun m8 => ?_)
  refine x_okc (fun hok9 => ?_)
  refine x_callV (pc := 490) (as := [aI (xs m6), aI (xs m7), aI (xs m8)]) (rest := [aI r4]) (fun l => c_12_kind l (xs m6) (xs m7) (xs m8) s5) md_X12_kind ⟨_, _, rfl, by decide⟩ tk_1507 tk_1508 tk_1506 dL_law_490 rfl ⟨by decide, by decide, by show kc + 1 + 0 ≤ 600000; omega, by show ks + 3 + 0 ≤ 7302250; omega⟩ ⟨(fun h => nomatch h), (fun _ => Or.inr hok9)⟩ rfl (Nat.le_of_ble_eq_true rfl) (fun r10 s11 => ?_)
  show X E _ _ _ _ (kc + 1 + 0) (ks + 3 + 0) _ _ _ [aI r10, aI r4] _
  refine x_kc (kc' := kc + 1) (ks' := ks + 3) rfl rfl ?_
  refine x_icmp_eq (pc := 493) 1686 dL_law_493 (by decide) (fun _ => ?_) (fun _ => x_none)
  exact x_widen (by omega) (by omega) (hK s11)
noncomputable def flaw_498 (xs : Nat → Int32) (L : Nat) (i : Int32) (σ : zSt) (K : zSt → Option Unit) : Option Unit :=
  zix (i + 1) L fun m1 =>
  zix (i + 2) L fun m2 =>
  zix (i + 3) L fun m3 =>
  zix (i + 4) L fun m4 =>
  zc2 (f11_fault (xs m1) (xs m2) (xs m3) (xs m4) σ) fun r5 s6 =>
  zix (i + 1) L fun m7 =>
  zix (i + 2) L fun m8 =>
  zix (i + 3) L fun m9 =>
  zix (i + 4) L fun m10 =>
  zokc s6 <|
  zc2 (f12_fault (xs m7) (xs m8) (xs m9) (xs m10) s6) fun r12 s13 =>
  if r5 = r12 then K s13 else none
set_option maxRecDepth 20000 in
theorem xlaw_498 (E : zEn) {L : Nat} {xs : Nat → Int32} (hsc : zScr E L xs) (i : Int32) (σ : zSt) (kc ks : Nat) (hk : kc + 8 ≤ 600000 ∧ ks + 200 ≤ 7302250) {K : zSt → Option Unit} (hK : ∀ σ, X E cL_law mlaw false (zQl E) (kc + 8) (ks + 200) σ [(0, aR 15 (some 5)), (1, aR 11 (some 0)), (2, aR 12 (some 0)), (3, aI i)] 1686 [] (K σ)) : X E cL_law mlaw false (zQl E) kc ks σ [(0, aR 15 (some 5)), (1, aR 11 (some 0)), (2, aR 12 (some 0)), (3, aI i)] 498 [] (flaw_498 xs L i σ K) := by
  unfold flaw_498
  obtain ⟨hk1, hk2⟩ := hk
  refine x_kc (kc' := kc + 0) (ks' := ks + 0) rfl rfl ?_
  refine x_aload_n (pc := 498) 1 dL_law_498 rfl rfl ?_
  refine x_aload_n (pc := 499) 0 dL_law_499 rfl rfl ?_
  refine x_iload_n (pc := 500) 3 dL_law_500 rfl rfl ?_
  refine x_iconst (pc := 501) 1 dL_law_501 rfl ?_
  refine x_iadd (pc := 502) dL_law_502 ?_
  refine x_sld (pc := 503) hsc dL_law_503 (fun m1 => ?_)
  refine x_aload_n (pc := 504) 0 dL_law_504 rfl rfl ?_
  refine x_iload_n (pc := 505) 3 dL_law_505 rfl rfl ?_
  refine x_iconst (pc := 506) 2 dL_law_506 rfl ?_
  refine x_iadd (pc := 507) dL_law_507 ?_
  refine x_sld (pc := 508) hsc dL_law_508 (fun m2 => ?_)
  refine x_aload_n (pc := 509) 0 dL_law_509 rfl rfl ?_
  refine x_iload_n (pc := 510) 3 dL_law_510 rfl rfl ?_
  refine x_iconst (pc := 511) 3 dL_law_511 rfl ?_
  refine x_iadd (pc := 512) dL_law_512 ?_
  refine x_sld (pc := 513) hsc dL_law_513 (fun m3 => ?_)
  refine x_aload_n (pc := 514) 0 dL_law_514 rfl rfl ?_
  refine x_iload_n (pc := 515) 3 dL_law_515 rfl rfl ?_
  refine x_iconst (pc := 516) 4 dL_law_516 rfl ?_
  refine x_iadd (pc := 517) dL_law_517 ?_
  refine x_sld (pc := 518) hsc dL_law_518 (fun m4 => ?_)
  refine x_callV (pc := 519) (as := [aI (xs m1), aI (xs m2), aI (xs m3), aI (xs m4)]) (rest := []) (fun l => c_11_fault l (xs m1) (xs m2) (xs m3) (xs m4) σ) md_X11_fault ⟨_, _, rfl, by decide⟩ tk_377 tk_378 tk_376 dL_law_519 rfl ⟨by decide, by decide, by show kc + 0 + 8 ≤ 600000; omega, by show ks + 0 + 137 ≤ 7302250; omega⟩ ⟨(fun h => nomatch h), (fun h => nomatch h)⟩ rfl (Nat.le_of_ble_eq_true rfl) (fun r5 s6 => ?_)
  show X E _ _ _ _ (kc + 0 + 8) (ks + 0 + 137) _ _ _ [aI r5] _
  refine x_kc (kc' := kc + 8) (ks' := ks + 137) rfl rfl ?_
  refine x_aload_n (pc := 522) 2 dL_law_522 rfl rfl ?_
  refine x_aload_n (pc := 523) 0 dL_law_523 rfl rfl ?_
  refine x_iload_n (pc := 524) 3 dL_law_524 rfl rfl ?_
  refine x_iconst (pc := 525) 1 dL_law_525 rfl ?_
  refine x_iadd (pc := 526) dL_law_526 ?_
  refine x_sld (pc := 527) hsc dL_law_527 (fun m7 => ?_)
  refine x_aload_n (pc := 528) 0 dL_law_528 rfl rfl ?_
  refine x_iload_n (pc := 529) 3 dL_law_529 rfl rfl ?_
  refine x_iconst (pc := 530) 2 dL_law_530 rfl ?_
  refine x_iadd (pc := 531) dL_law_531 ?_
  refine x_sld (pc := 532) hsc dL_law_532 (fun m8 => ?_)
  refine x_aload_n (pc := 533) 0 dL_law_533 rfl rfl ?_
  refine x_iload_n (pc := 534) 3 dL_law_534 rfl rfl ?_
  refine x_iconst (pc := 535) 3 dL_law_535 rfl ?_
  refine x_iadd (pc := 536) dL_law_536 ?_
  refine x_sld (pc := 537) hsc dL_law_537 (fun m9 => ?_)
  refine x_aload_n (pc := 538) 0 dL_law_538 rfl rfl ?_
  refine x_iload_n (pc := 539) 3 dL_law_539 rfl rfl ?_
  refine x_iconst (pc := 540) 4 dL_law_540 rfl ?_
  refine x_iadd (pc := 541) dL_law_541 ?_
  refine x_sld (pc := 542) hsc dL_law_542 (fun m10 => ?_)
  refine x_okc (fun hok11 => ?_)
  refine x_callV (pc := 543) (as := [aI (xs m7), aI (xs m8), aI (xs m9), aI (xs m10)]) (rest := [aI r5]) (fun l => c_12_fault l (xs m7) (xs m8) (xs m9) (xs m10) s6) md_X12_fault ⟨_, _, rfl, by decide⟩ tk_1511 tk_1512 tk_1510 dL_law_543 rfl ⟨by decide, by decide, by show kc + 8 + 0 ≤ 600000; omega, by show ks + 137 + 0 ≤ 7302250; omega⟩ ⟨(fun h => nomatch h), (fun _ => Or.inr hok11)⟩ rfl (Nat.le_of_ble_eq_true rfl) (fun r12 s13 => ?_)
  show X E _ _ _ _ (kc + 8 + 0) (ks + 137 + 0) _ _ _ [aI r12, aI r5] _
  refine x_kc (kc' := kc + 8) (ks' := ks + 137) rfl rfl ?_
  refine x_icmp_eq (pc := 546) 1686 dL_law_546 (by decide) (fun _ => ?_) (fun _ => x_none)
  exact x_widen (by omega) (by omega) (hK s13)
noncomputable def flaw_551 (xs : Nat → Int32) (L : Nat) (i : Int32) (σ : zSt) (K : zSt → Option Unit) : Option Unit :=
  zix (i + 1) L fun m1 =>
  zix (i + 2) L fun m2 =>
  zokc σ <|
  zc2 (f11_promise (xs m1) (xs m2) σ) fun r4 s5 =>
  zix (i + 1) L fun m6 =>
  zix (i + 2) L fun m7 =>
  zokc s5 <|
  zc2 (f12_promise (xs m6) (xs m7) s5) fun r9 s10 =>
  if r4 = r9 then K s10 else none
set_option maxRecDepth 20000 in
theorem xlaw_551 (E : zEn) {L : Nat} {xs : Nat → Int32} (hsc : zScr E L xs) (i : Int32) (σ : zSt) (kc ks : Nat) (hk : kc + 8 ≤ 600000 ∧ ks + 200 ≤ 7302250) {K : zSt → Option Unit} (hK : ∀ σ, X E cL_law mlaw false (zQl E) (kc + 8) (ks + 200) σ [(0, aR 15 (some 5)), (1, aR 11 (some 0)), (2, aR 12 (some 0)), (3, aI i)] 1686 [] (K σ)) : X E cL_law mlaw false (zQl E) kc ks σ [(0, aR 15 (some 5)), (1, aR 11 (some 0)), (2, aR 12 (some 0)), (3, aI i)] 551 [] (flaw_551 xs L i σ K) := by
  unfold flaw_551
  obtain ⟨hk1, hk2⟩ := hk
  refine x_kc (kc' := kc + 0) (ks' := ks + 0) rfl rfl ?_
  refine x_aload_n (pc := 551) 1 dL_law_551 rfl rfl ?_
  refine x_aload_n (pc := 552) 0 dL_law_552 rfl rfl ?_
  refine x_iload_n (pc := 553) 3 dL_law_553 rfl rfl ?_
  refine x_iconst (pc := 554) 1 dL_law_554 rfl ?_
  refine x_iadd (pc := 555) dL_law_555 ?_
  refine x_sld (pc := 556) hsc dL_law_556 (fun m1 => ?_)
  refine x_aload_n (pc := 557) 0 dL_law_557 rfl rfl ?_
  refine x_iload_n (pc := 558) 3 dL_law_558 rfl rfl ?_
  refine x_iconst (pc := 559) 2 dL_law_559 rfl ?_
  refine x_iadd (pc := 560) dL_law_560 ?_
  refine x_sld (pc := 561) hsc dL_law_561 (fun m2 => ?_)
  refine x_okc (fun hok3 => ?_)
  refine x_callV (pc := 562) (as := [aI (xs m1), aI (xs m2)]) (rest := []) (fun l => c_11_promise l (xs m1) (xs m2) σ) md_X11_promise ⟨_, _, rfl, by decide⟩ tk_516 tk_517 tk_515 dL_law_562 rfl ⟨by decide, by decide, by show kc + 0 + 0 ≤ 600000; omega, by show ks + 0 + 0 ≤ 7302250; omega⟩ ⟨(fun h => nomatch h), (fun _ => Or.inr hok3)⟩ rfl (Nat.le_of_ble_eq_true rfl) (fun r4 s5 => ?_)
  show X E _ _ _ _ (kc + 0 + 0) (ks + 0 + 0) _ _ _ [aI r4] _
  refine x_kc (kc' := kc + 0) (ks' := ks + 0) rfl rfl ?_
  refine x_aload_n (pc := 565) 2 dL_law_565 rfl rfl ?_
  refine x_aload_n (pc := 566) 0 dL_law_566 rfl rfl ?_
  refine x_iload_n (pc := 567) 3 dL_law_567 rfl rfl ?_
  refine x_iconst (pc := 568) 1 dL_law_568 rfl ?_
  refine x_iadd (pc := 569) dL_law_569 ?_
  refine x_sld (pc := 570) hsc dL_law_570 (fun m6 => ?_)
  refine x_aload_n (pc := 571) 0 dL_law_571 rfl rfl ?_
  refine x_iload_n (pc := 572) 3 dL_law_572 rfl rfl ?_
  refine x_iconst (pc := 573) 2 dL_law_573 rfl ?_
  refine x_iadd (pc := 574) dL_law_574 ?_
  refine x_sld (pc := 575) hsc dL_law_575 (fun m7 => ?_)
  refine x_okc (fun hok8 => ?_)
  refine x_callV (pc := 576) (as := [aI (xs m6), aI (xs m7)]) (rest := [aI r4]) (fun l => c_12_promise l (xs m6) (xs m7) s5) md_X12_promise ⟨_, _, rfl, by decide⟩ tk_1527 tk_1528 tk_1526 dL_law_576 rfl ⟨by decide, by decide, by show kc + 0 + 0 ≤ 600000; omega, by show ks + 0 + 0 ≤ 7302250; omega⟩ ⟨(fun h => nomatch h), (fun _ => Or.inr hok8)⟩ rfl (Nat.le_of_ble_eq_true rfl) (fun r9 s10 => ?_)
  show X E _ _ _ _ (kc + 0 + 0) (ks + 0 + 0) _ _ _ [aI r9, aI r4] _
  refine x_kc (kc' := kc + 0) (ks' := ks + 0) rfl rfl ?_
  refine x_icmp_eq (pc := 579) 1686 dL_law_579 (by decide) (fun _ => ?_) (fun _ => x_none)
  exact x_widen (by omega) (by omega) (hK s10)
noncomputable def flaw_584 (xs : Nat → Int32) (L : Nat) (i : Int32) (σ : zSt) (K : zSt → Option Unit) : Option Unit :=
  zix (i + 1) L fun m1 =>
  zix (i + 2) L fun m2 =>
  zokc σ <|
  zc2 (f11_said (xs m1) (xs m2) σ) fun r4 s5 =>
  zix (i + 1) L fun m6 =>
  zix (i + 2) L fun m7 =>
  zokc s5 <|
  zc2 (f12_said (xs m6) (xs m7) s5) fun r9 s10 =>
  if r4 = r9 then K s10 else none
set_option maxRecDepth 20000 in
theorem xlaw_584 (E : zEn) {L : Nat} {xs : Nat → Int32} (hsc : zScr E L xs) (i : Int32) (σ : zSt) (kc ks : Nat) (hk : kc + 8 ≤ 600000 ∧ ks + 200 ≤ 7302250) {K : zSt → Option Unit} (hK : ∀ σ, X E cL_law mlaw false (zQl E) (kc + 8) (ks + 200) σ [(0, aR 15 (some 5)), (1, aR 11 (some 0)), (2, aR 12 (some 0)), (3, aI i)] 1686 [] (K σ)) : X E cL_law mlaw false (zQl E) kc ks σ [(0, aR 15 (some 5)), (1, aR 11 (some 0)), (2, aR 12 (some 0)), (3, aI i)] 584 [] (flaw_584 xs L i σ K) := by
  unfold flaw_584
  obtain ⟨hk1, hk2⟩ := hk
  refine x_kc (kc' := kc + 0) (ks' := ks + 0) rfl rfl ?_
  refine x_aload_n (pc := 584) 1 dL_law_584 rfl rfl ?_
  refine x_aload_n (pc := 585) 0 dL_law_585 rfl rfl ?_
  refine x_iload_n (pc := 586) 3 dL_law_586 rfl rfl ?_
  refine x_iconst (pc := 587) 1 dL_law_587 rfl ?_
  refine x_iadd (pc := 588) dL_law_588 ?_
  refine x_sld (pc := 589) hsc dL_law_589 (fun m1 => ?_)
  refine x_aload_n (pc := 590) 0 dL_law_590 rfl rfl ?_
  refine x_iload_n (pc := 591) 3 dL_law_591 rfl rfl ?_
  refine x_iconst (pc := 592) 2 dL_law_592 rfl ?_
  refine x_iadd (pc := 593) dL_law_593 ?_
  refine x_sld (pc := 594) hsc dL_law_594 (fun m2 => ?_)
  refine x_okc (fun hok3 => ?_)
  refine x_callV (pc := 595) (as := [aI (xs m1), aI (xs m2)]) (rest := []) (fun l => c_11_said l (xs m1) (xs m2) σ) md_X11_said ⟨_, _, rfl, by decide⟩ tk_538 tk_539 tk_537 dL_law_595 rfl ⟨by decide, by decide, by show kc + 0 + 0 ≤ 600000; omega, by show ks + 0 + 0 ≤ 7302250; omega⟩ ⟨(fun h => nomatch h), (fun _ => Or.inr hok3)⟩ rfl (Nat.le_of_ble_eq_true rfl) (fun r4 s5 => ?_)
  show X E _ _ _ _ (kc + 0 + 0) (ks + 0 + 0) _ _ _ [aI r4] _
  refine x_kc (kc' := kc + 0) (ks' := ks + 0) rfl rfl ?_
  refine x_aload_n (pc := 598) 2 dL_law_598 rfl rfl ?_
  refine x_aload_n (pc := 599) 0 dL_law_599 rfl rfl ?_
  refine x_iload_n (pc := 600) 3 dL_law_600 rfl rfl ?_
  refine x_iconst (pc := 601) 1 dL_law_601 rfl ?_
  refine x_iadd (pc := 602) dL_law_602 ?_
  refine x_sld (pc := 603) hsc dL_law_603 (fun m6 => ?_)
  refine x_aload_n (pc := 604) 0 dL_law_604 rfl rfl ?_
  refine x_iload_n (pc := 605) 3 dL_law_605 rfl rfl ?_
  refine x_iconst (pc := 606) 2 dL_law_606 rfl ?_
  refine x_iadd (pc := 607) dL_law_607 ?_
  refine x_sld (pc := 608) hsc dL_law_608 (fun m7 => ?_)
  refine x_okc (fun hok8 => ?_)
  refine x_callV (pc := 609) (as := [aI (xs m6), aI (xs m7)]) (rest := [aI r4]) (fun l => c_12_said l (xs m6) (xs m7) s5) md_X12_said ⟨_, _, rfl, by decide⟩ tk_1539 tk_1540 tk_1538 dL_law_609 rfl ⟨by decide, by decide, by show kc + 0 + 0 ≤ 600000; omega, by show ks + 0 + 0 ≤ 7302250; omega⟩ ⟨(fun h => nomatch h), (fun _ => Or.inr hok8)⟩ rfl (Nat.le_of_ble_eq_true rfl) (fun r9 s10 => ?_)
  show X E _ _ _ _ (kc + 0 + 0) (ks + 0 + 0) _ _ _ [aI r9, aI r4] _
  refine x_kc (kc' := kc + 0) (ks' := ks + 0) rfl rfl ?_
  refine x_icmp_eq (pc := 612) 1686 dL_law_612 (by decide) (fun _ => ?_) (fun _ => x_none)
  exact x_widen (by omega) (by omega) (hK s10)
noncomputable def flaw_617 (xs : Nat → Int32) (L : Nat) (i : Int32) (σ : zSt) (K : zSt → Option Unit) : Option Unit :=
  zix (i + 1) L fun m1 =>
  zix (i + 2) L fun m2 =>
  zokc σ <|
  zc2 (f11_look (xs m1) (xs m2) σ) fun r4 s5 =>
  zix (i + 1) L fun m6 =>
  zix (i + 2) L fun m7 =>
  zokc s5 <|
  zc2 (f12_look (xs m6) (xs m7) s5) fun r9 s10 =>
  if r4 = r9 then K s10 else none
set_option maxRecDepth 20000 in
theorem xlaw_617 (E : zEn) {L : Nat} {xs : Nat → Int32} (hsc : zScr E L xs) (i : Int32) (σ : zSt) (kc ks : Nat) (hk : kc + 8 ≤ 600000 ∧ ks + 200 ≤ 7302250) {K : zSt → Option Unit} (hK : ∀ σ, X E cL_law mlaw false (zQl E) (kc + 8) (ks + 200) σ [(0, aR 15 (some 5)), (1, aR 11 (some 0)), (2, aR 12 (some 0)), (3, aI i)] 1686 [] (K σ)) : X E cL_law mlaw false (zQl E) kc ks σ [(0, aR 15 (some 5)), (1, aR 11 (some 0)), (2, aR 12 (some 0)), (3, aI i)] 617 [] (flaw_617 xs L i σ K) := by
  unfold flaw_617
  obtain ⟨hk1, hk2⟩ := hk
  refine x_kc (kc' := kc + 0) (ks' := ks + 0) rfl rfl ?_
  refine x_aload_n (pc := 617) 1 dL_law_617 rfl rfl ?_
  refine x_aload_n (pc := 618) 0 dL_law_618 rfl rfl ?_
  refine x_iload_n (pc := 619) 3 dL_law_619 rfl rfl ?_
  refine x_iconst (pc := 620) 1 dL_law_620 rfl ?_
  refine x_iadd (pc := 621) dL_law_621 ?_
  refine x_sld (pc := 622) hsc dL_law_622 (fun m1 => ?_)
  refine x_aload_n (pc := 623) 0 dL_law_623 rfl rfl ?_
  refine x_iload_n (pc := 624) 3 dL_law_624 rfl rfl ?_
  refine x_iconst (pc := 625) 2 dL_law_625 rfl ?_
  refine x_iadd (pc := 626) dL_law_626 ?_
  refine x_sld (pc := 627) hsc dL_law_627 (fun m2 => ?_)
  refine x_okc (fun hok3 => ?_)
  refine x_callV (pc := 628) (as := [aI (xs m1), aI (xs m2)]) (rest := []) (fun l => c_11_look l (xs m1) (xs m2) σ) md_X11_look ⟨_, _, rfl, by decide⟩ tk_546 tk_547 tk_545 dL_law_628 rfl ⟨by decide, by decide, by show kc + 0 + 0 ≤ 600000; omega, by show ks + 0 + 0 ≤ 7302250; omega⟩ ⟨(fun h => nomatch h), (fun _ => Or.inr hok3)⟩ rfl (Nat.le_of_ble_eq_true rfl) (fun r4 s5 => ?_)
  show X E _ _ _ _ (kc + 0 + 0) (ks + 0 + 0) _ _ _ [aI r4] _
  refine x_kc (kc' := kc + 0) (ks' := ks + 0) rfl rfl ?_
  refine x_aload_n (pc := 631) 2 dL_law_631 rfl rfl ?_
  refine x_aload_n (pc := 632) 0 dL_law_632 rfl rfl ?_
  refine x_iload_n (pc := 633) 3 dL_law_633 rfl rfl ?_
  refine x_iconst (pc := 634) 1 dL_law_634 rfl ?_
  refine x_iadd (pc := 635) dL_law_635 ?_
  refine x_sld (pc := 636) hsc dL_law_636 (fun m6 => ?_)
  refine x_aload_n (pc := 637) 0 dL_law_637 rfl rfl ?_
  refine x_iload_n (pc := 638) 3 dL_law_638 rfl rfl ?_
  refine x_iconst (pc := 639) 2 dL_law_639 rfl ?_
  refine x_iadd (pc := 640) dL_law_640 ?_
  refine x_sld (pc := 641) hsc dL_law_641 (fun m7 => ?_)
  refine x_okc (fun hok8 => ?_)
  refine x_callV (pc := 642) (as := [aI (xs m6), aI (xs m7)]) (rest := [aI r4]) (fun l => c_12_look l (xs m6) (xs m7) s5) md_X12_look ⟨_, _, rfl, by decide⟩ tk_1546 tk_1547 tk_1545 dL_law_642 rfl ⟨by decide, by decide, by show kc + 0 + 0 ≤ 600000; omega, by show ks + 0 + 0 ≤ 7302250; omega⟩ ⟨(fun h => nomatch h), (fun _ => Or.inr hok8)⟩ rfl (Nat.le_of_ble_eq_true rfl) (fun r9 s10 => ?_)
  show X E _ _ _ _ (kc + 0 + 0) (ks + 0 + 0) _ _ _ [aI r9, aI r4] _
  refine x_kc (kc' := kc + 0) (ks' := ks + 0) rfl rfl ?_
  refine x_icmp_eq (pc := 645) 1686 dL_law_645 (by decide) (fun _ => ?_) (fun _ => x_none)
  exact x_widen (by omega) (by omega) (hK s10)
noncomputable def flaw_650 (xs : Nat → Int32) (L : Nat) (i : Int32) (σ : zSt) (K : zSt → Option Unit) : Option Unit :=
  zix (i + 1) L fun m1 =>
  zokc σ <|
  zc2 (f11_voids (xs m1) σ) fun r3 s4 =>
  zix (i + 1) L fun m5 =>
  zokc s4 <|
  zc2 (f12_voids (xs m5) s4) fun r7 s8 =>
  if r3 = r7 then K s8 else none
set_option maxRecDepth 20000 in
theorem xlaw_650 (E : zEn) {L : Nat} {xs : Nat → Int32} (hsc : zScr E L xs) (i : Int32) (σ : zSt) (kc ks : Nat) (hk : kc + 8 ≤ 600000 ∧ ks + 200 ≤ 7302250) {K : zSt → Option Unit} (hK : ∀ σ, X E cL_law mlaw false (zQl E) (kc + 8) (ks + 200) σ [(0, aR 15 (some 5)), (1, aR 11 (some 0)), (2, aR 12 (some 0)), (3, aI i)] 1686 [] (K σ)) : X E cL_law mlaw false (zQl E) kc ks σ [(0, aR 15 (some 5)), (1, aR 11 (some 0)), (2, aR 12 (some 0)), (3, aI i)] 650 [] (flaw_650 xs L i σ K) := by
  unfold flaw_650
  obtain ⟨hk1, hk2⟩ := hk
  refine x_kc (kc' := kc + 0) (ks' := ks + 0) rfl rfl ?_
  refine x_aload_n (pc := 650) 1 dL_law_650 rfl rfl ?_
  refine x_aload_n (pc := 651) 0 dL_law_651 rfl rfl ?_
  refine x_iload_n (pc := 652) 3 dL_law_652 rfl rfl ?_
  refine x_iconst (pc := 653) 1 dL_law_653 rfl ?_
  refine x_iadd (pc := 654) dL_law_654 ?_
  refine x_sld (pc := 655) hsc dL_law_655 (fun m1 => ?_)
  refine x_okc (fun hok2 => ?_)
  refine x_callV (pc := 656) (as := [aI (xs m1)]) (rest := []) (fun l => c_11_voids l (xs m1) σ) md_X11_voids ⟨_, _, rfl, by decide⟩ tk_564 tk_565 tk_563 dL_law_656 rfl ⟨by decide, by decide, by show kc + 0 + 0 ≤ 600000; omega, by show ks + 0 + 0 ≤ 7302250; omega⟩ ⟨(fun h => nomatch h), (fun _ => Or.inr hok2)⟩ rfl (Nat.le_of_ble_eq_true rfl) (fun r3 s4 => ?_)
  show X E _ _ _ _ (kc + 0 + 0) (ks + 0 + 0) _ _ _ [aI r3] _
  refine x_kc (kc' := kc + 0) (ks' := ks + 0) rfl rfl ?_
  refine x_aload_n (pc := 659) 2 dL_law_659 rfl rfl ?_
  refine x_aload_n (pc := 660) 0 dL_law_660 rfl rfl ?_
  refine x_iload_n (pc := 661) 3 dL_law_661 rfl rfl ?_
  refine x_iconst (pc := 662) 1 dL_law_662 rfl ?_
  refine x_iadd (pc := 663) dL_law_663 ?_
  refine x_sld (pc := 664) hsc dL_law_664 (fun m5 => ?_)
  refine x_okc (fun hok6 => ?_)
  refine x_callV (pc := 665) (as := [aI (xs m5)]) (rest := [aI r3]) (fun l => c_12_voids l (xs m5) s4) md_X12_voids ⟨_, _, rfl, by decide⟩ tk_1554 tk_1555 tk_1553 dL_law_665 rfl ⟨by decide, by decide, by show kc + 0 + 0 ≤ 600000; omega, by show ks + 0 + 0 ≤ 7302250; omega⟩ ⟨(fun h => nomatch h), (fun _ => Or.inr hok6)⟩ rfl (Nat.le_of_ble_eq_true rfl) (fun r7 s8 => ?_)
  show X E _ _ _ _ (kc + 0 + 0) (ks + 0 + 0) _ _ _ [aI r7, aI r3] _
  refine x_kc (kc' := kc + 0) (ks' := ks + 0) rfl rfl ?_
  refine x_icmp_eq (pc := 668) 1686 dL_law_668 (by decide) (fun _ => ?_) (fun _ => x_none)
  exact x_widen (by omega) (by omega) (hK s8)
noncomputable def flaw_673 (xs : Nat → Int32) (L : Nat) (i : Int32) (σ : zSt) (K : zSt → Option Unit) : Option Unit :=
  zix (i + 1) L fun m1 =>
  zix (i + 2) L fun m2 =>
  zokc σ <|
  zc1 (f11_state (xs m1) (xs m2) σ) fun r4 =>
  zix (i + 1) L fun m5 =>
  zix (i + 2) L fun m6 =>
  zokc σ <|
  zc1 (f12_state (xs m5) (xs m6) σ) fun r8 =>
  if r4 = r8 then K σ else none
set_option maxRecDepth 20000 in
theorem xlaw_673 (E : zEn) {L : Nat} {xs : Nat → Int32} (hsc : zScr E L xs) (i : Int32) (σ : zSt) (kc ks : Nat) (hk : kc + 8 ≤ 600000 ∧ ks + 200 ≤ 7302250) {K : zSt → Option Unit} (hK : ∀ σ, X E cL_law mlaw false (zQl E) (kc + 8) (ks + 200) σ [(0, aR 15 (some 5)), (1, aR 11 (some 0)), (2, aR 12 (some 0)), (3, aI i)] 1686 [] (K σ)) : X E cL_law mlaw false (zQl E) kc ks σ [(0, aR 15 (some 5)), (1, aR 11 (some 0)), (2, aR 12 (some 0)), (3, aI i)] 673 [] (flaw_673 xs L i σ K) := by
  unfold flaw_673
  obtain ⟨hk1, hk2⟩ := hk
  refine x_kc (kc' := kc + 0) (ks' := ks + 0) rfl rfl ?_
  refine x_aload_n (pc := 673) 1 dL_law_673 rfl rfl ?_
  refine x_aload_n (pc := 674) 0 dL_law_674 rfl rfl ?_
  refine x_iload_n (pc := 675) 3 dL_law_675 rfl rfl ?_
  refine x_iconst (pc := 676) 1 dL_law_676 rfl ?_
  refine x_iadd (pc := 677) dL_law_677 ?_
  refine x_sld (pc := 678) hsc dL_law_678 (fun m1 => ?_)
  refine x_aload_n (pc := 679) 0 dL_law_679 rfl rfl ?_
  refine x_iload_n (pc := 680) 3 dL_law_680 rfl rfl ?_
  refine x_iconst (pc := 681) 2 dL_law_681 rfl ?_
  refine x_iadd (pc := 682) dL_law_682 ?_
  refine x_sld (pc := 683) hsc dL_law_683 (fun m2 => ?_)
  refine x_okc (fun hok3 => ?_)
  refine x_callVr (pc := 684) (as := [aI (xs m1), aI (xs m2)]) (rest := []) (fun l => c_11_state l (xs m1) (xs m2) σ) md_X11_state ⟨_, _, rfl, by decide⟩ tk_572 tk_573 tk_571 dL_law_684 rfl ⟨by decide, by decide, by show kc + 0 + 0 ≤ 600000; omega, by show ks + 0 + 0 ≤ 7302250; omega⟩ ⟨(fun h => nomatch h), (fun _ => Or.inr hok3)⟩ rfl (Nat.le_of_ble_eq_true rfl) (fun r4 => ?_)
  show X E _ _ _ _ (kc + 0 + 0) (ks + 0 + 0) _ _ _ [aI r4] _
  refine x_kc (kc' := kc + 0) (ks' := ks + 0) rfl rfl ?_
  refine x_aload_n (pc := 687) 2 dL_law_687 rfl rfl ?_
  refine x_aload_n (pc := 688) 0 dL_law_688 rfl rfl ?_
  refine x_iload_n (pc := 689) 3 dL_law_689 rfl rfl ?_
  refine x_iconst (pc := 690) 1 dL_law_690 rfl ?_
  refine x_iadd (pc := 691) dL_law_691 ?_
  refine x_sld (pc := 692) hsc dL_law_692 (fun m5 => ?_)
  refine x_aload_n (pc := 693) 0 dL_law_693 rfl rfl ?_
  refine x_iload_n (pc := 694) 3 dL_law_694 rfl rfl ?_
  refine x_iconst (pc := 695) 2 dL_law_695 rfl ?_
  refine x_iadd (pc := 696) dL_law_696 ?_
  refine x_sld (pc := 697) hsc dL_law_697 (fun m6 => ?_)
  refine x_okc (fun hok7 => ?_)
  refine x_callVr (pc := 698) (as := [aI (xs m5), aI (xs m6)]) (rest := [aI r4]) (fun l => c_12_state l (xs m5) (xs m6) σ) md_X12_state ⟨_, _, rfl, by decide⟩ tk_1562 tk_1563 tk_1561 dL_law_698 rfl ⟨by decide, by decide, by show kc + 0 + 0 ≤ 600000; omega, by show ks + 0 + 0 ≤ 7302250; omega⟩ ⟨(fun h => nomatch h), (fun _ => Or.inr hok7)⟩ rfl (Nat.le_of_ble_eq_true rfl) (fun r8 => ?_)
  show X E _ _ _ _ (kc + 0 + 0) (ks + 0 + 0) _ _ _ [aI r8, aI r4] _
  refine x_kc (kc' := kc + 0) (ks' := ks + 0) rfl rfl ?_
  refine x_icmp_eq (pc := 701) 1686 dL_law_701 (by decide) (fun _ => ?_) (fun _ => x_none)
  exact x_widen (by omega) (by omega) (hK σ)
noncomputable def flaw_706 (xs : Nat → Int32) (L : Nat) (i : Int32) (σ : zSt) (K : zSt → Option Unit) : Option Unit :=
  zix (i + 1) L fun m1 =>
  zix (i + 2) L fun m2 =>
  zokc σ <|
  zc1 (f11_ofFault (xs m1) (xs m2) σ) fun r4 =>
  zix (i + 1) L fun m5 =>
  zix (i + 2) L fun m6 =>
  zokc σ <|
  zc1 (f12_ofFault (xs m5) (xs m6) σ) fun r8 =>
  if r4 = r8 then K σ else none
set_option maxRecDepth 20000 in
theorem xlaw_706 (E : zEn) {L : Nat} {xs : Nat → Int32} (hsc : zScr E L xs) (i : Int32) (σ : zSt) (kc ks : Nat) (hk : kc + 8 ≤ 600000 ∧ ks + 200 ≤ 7302250) {K : zSt → Option Unit} (hK : ∀ σ, X E cL_law mlaw false (zQl E) (kc + 8) (ks + 200) σ [(0, aR 15 (some 5)), (1, aR 11 (some 0)), (2, aR 12 (some 0)), (3, aI i)] 1686 [] (K σ)) : X E cL_law mlaw false (zQl E) kc ks σ [(0, aR 15 (some 5)), (1, aR 11 (some 0)), (2, aR 12 (some 0)), (3, aI i)] 706 [] (flaw_706 xs L i σ K) := by
  unfold flaw_706
  obtain ⟨hk1, hk2⟩ := hk
  refine x_kc (kc' := kc + 0) (ks' := ks + 0) rfl rfl ?_
  refine x_aload_n (pc := 706) 1 dL_law_706 rfl rfl ?_
  refine x_aload_n (pc := 707) 0 dL_law_707 rfl rfl ?_
  refine x_iload_n (pc := 708) 3 dL_law_708 rfl rfl ?_
  refine x_iconst (pc := 709) 1 dL_law_709 rfl ?_
  refine x_iadd (pc := 710) dL_law_710 ?_
  refine x_sld (pc := 711) hsc dL_law_711 (fun m1 => ?_)
  refine x_aload_n (pc := 712) 0 dL_law_712 rfl rfl ?_
  refine x_iload_n (pc := 713) 3 dL_law_713 rfl rfl ?_
  refine x_iconst (pc := 714) 2 dL_law_714 rfl ?_
  refine x_iadd (pc := 715) dL_law_715 ?_
  refine x_sld (pc := 716) hsc dL_law_716 (fun m2 => ?_)
  refine x_okc (fun hok3 => ?_)
  refine x_callVr (pc := 717) (as := [aI (xs m1), aI (xs m2)]) (rest := []) (fun l => c_11_ofFault l (xs m1) (xs m2) σ) md_X11_ofFault ⟨_, _, rfl, by decide⟩ tk_580 tk_581 tk_579 dL_law_717 rfl ⟨by decide, by decide, by show kc + 0 + 0 ≤ 600000; omega, by show ks + 0 + 0 ≤ 7302250; omega⟩ ⟨(fun h => nomatch h), (fun _ => Or.inr hok3)⟩ rfl (Nat.le_of_ble_eq_true rfl) (fun r4 => ?_)
  show X E _ _ _ _ (kc + 0 + 0) (ks + 0 + 0) _ _ _ [aI r4] _
  refine x_kc (kc' := kc + 0) (ks' := ks + 0) rfl rfl ?_
  refine x_aload_n (pc := 720) 2 dL_law_720 rfl rfl ?_
  refine x_aload_n (pc := 721) 0 dL_law_721 rfl rfl ?_
  refine x_iload_n (pc := 722) 3 dL_law_722 rfl rfl ?_
  refine x_iconst (pc := 723) 1 dL_law_723 rfl ?_
  refine x_iadd (pc := 724) dL_law_724 ?_
  refine x_sld (pc := 725) hsc dL_law_725 (fun m5 => ?_)
  refine x_aload_n (pc := 726) 0 dL_law_726 rfl rfl ?_
  refine x_iload_n (pc := 727) 3 dL_law_727 rfl rfl ?_
  refine x_iconst (pc := 728) 2 dL_law_728 rfl ?_
  refine x_iadd (pc := 729) dL_law_729 ?_
  refine x_sld (pc := 730) hsc dL_law_730 (fun m6 => ?_)
  refine x_okc (fun hok7 => ?_)
  refine x_callVr (pc := 731) (as := [aI (xs m5), aI (xs m6)]) (rest := [aI r4]) (fun l => c_12_ofFault l (xs m5) (xs m6) σ) md_X12_ofFault ⟨_, _, rfl, by decide⟩ tk_1569 tk_1570 tk_1568 dL_law_731 rfl ⟨by decide, by decide, by show kc + 0 + 0 ≤ 600000; omega, by show ks + 0 + 0 ≤ 7302250; omega⟩ ⟨(fun h => nomatch h), (fun _ => Or.inr hok7)⟩ rfl (Nat.le_of_ble_eq_true rfl) (fun r8 => ?_)
  show X E _ _ _ _ (kc + 0 + 0) (ks + 0 + 0) _ _ _ [aI r8, aI r4] _
  refine x_kc (kc' := kc + 0) (ks' := ks + 0) rfl rfl ?_
  refine x_icmp_eq (pc := 734) 1686 dL_law_734 (by decide) (fun _ => ?_) (fun _ => x_none)
  exact x_widen (by omega) (by omega) (hK σ)
noncomputable def flaw_739 (xs : Nat → Int32) (L : Nat) (i : Int32) (σ : zSt) (K : zSt → Option Unit) : Option Unit :=
  zix (i + 1) L fun m1 =>
  zix (i + 2) L fun m2 =>
  zokc σ <|
  zc1 (f11_source (xs m1) (xs m2) σ) fun r4 =>
  zix (i + 1) L fun m5 =>
  zix (i + 2) L fun m6 =>
  zokc σ <|
  zc1 (f12_source (xs m5) (xs m6) σ) fun r8 =>
  if r4 = r8 then K σ else none
set_option maxRecDepth 20000 in
theorem xlaw_739 (E : zEn) {L : Nat} {xs : Nat → Int32} (hsc : zScr E L xs) (i : Int32) (σ : zSt) (kc ks : Nat) (hk : kc + 8 ≤ 600000 ∧ ks + 200 ≤ 7302250) {K : zSt → Option Unit} (hK : ∀ σ, X E cL_law mlaw false (zQl E) (kc + 8) (ks + 200) σ [(0, aR 15 (some 5)), (1, aR 11 (some 0)), (2, aR 12 (some 0)), (3, aI i)] 1686 [] (K σ)) : X E cL_law mlaw false (zQl E) kc ks σ [(0, aR 15 (some 5)), (1, aR 11 (some 0)), (2, aR 12 (some 0)), (3, aI i)] 739 [] (flaw_739 xs L i σ K) := by
  unfold flaw_739
  obtain ⟨hk1, hk2⟩ := hk
  refine x_kc (kc' := kc + 0) (ks' := ks + 0) rfl rfl ?_
  refine x_aload_n (pc := 739) 1 dL_law_739 rfl rfl ?_
  refine x_aload_n (pc := 740) 0 dL_law_740 rfl rfl ?_
  refine x_iload_n (pc := 741) 3 dL_law_741 rfl rfl ?_
  refine x_iconst (pc := 742) 1 dL_law_742 rfl ?_
  refine x_iadd (pc := 743) dL_law_743 ?_
  refine x_sld (pc := 744) hsc dL_law_744 (fun m1 => ?_)
  refine x_aload_n (pc := 745) 0 dL_law_745 rfl rfl ?_
  refine x_iload_n (pc := 746) 3 dL_law_746 rfl rfl ?_
  refine x_iconst (pc := 747) 2 dL_law_747 rfl ?_
  refine x_iadd (pc := 748) dL_law_748 ?_
  refine x_sld (pc := 749) hsc dL_law_749 (fun m2 => ?_)
  refine x_okc (fun hok3 => ?_)
  refine x_callVr (pc := 750) (as := [aI (xs m1), aI (xs m2)]) (rest := []) (fun l => c_11_source l (xs m1) (xs m2) σ) md_X11_source ⟨_, _, rfl, by decide⟩ tk_597 tk_598 tk_596 dL_law_750 rfl ⟨by decide, by decide, by show kc + 0 + 0 ≤ 600000; omega, by show ks + 0 + 0 ≤ 7302250; omega⟩ ⟨(fun h => nomatch h), (fun _ => Or.inr hok3)⟩ rfl (Nat.le_of_ble_eq_true rfl) (fun r4 => ?_)
  show X E _ _ _ _ (kc + 0 + 0) (ks + 0 + 0) _ _ _ [aI r4] _
  refine x_kc (kc' := kc + 0) (ks' := ks + 0) rfl rfl ?_
  refine x_aload_n (pc := 753) 2 dL_law_753 rfl rfl ?_
  refine x_aload_n (pc := 754) 0 dL_law_754 rfl rfl ?_
  refine x_iload_n (pc := 755) 3 dL_law_755 rfl rfl ?_
  refine x_iconst (pc := 756) 1 dL_law_756 rfl ?_
  refine x_iadd (pc := 757) dL_law_757 ?_
  refine x_sld (pc := 758) hsc dL_law_758 (fun m5 => ?_)
  refine x_aload_n (pc := 759) 0 dL_law_759 rfl rfl ?_
  refine x_iload_n (pc := 760) 3 dL_law_760 rfl rfl ?_
  refine x_iconst (pc := 761) 2 dL_law_761 rfl ?_
  refine x_iadd (pc := 762) dL_law_762 ?_
  refine x_sld (pc := 763) hsc dL_law_763 (fun m6 => ?_)
  refine x_okc (fun hok7 => ?_)
  refine x_callVr (pc := 764) (as := [aI (xs m5), aI (xs m6)]) (rest := [aI r4]) (fun l => c_12_source l (xs m5) (xs m6) σ) md_X12_source ⟨_, _, rfl, by decide⟩ tk_1577 tk_1578 tk_1576 dL_law_764 rfl ⟨by decide, by decide, by show kc + 0 + 0 ≤ 600000; omega, by show ks + 0 + 0 ≤ 7302250; omega⟩ ⟨(fun h => nomatch h), (fun _ => Or.inr hok7)⟩ rfl (Nat.le_of_ble_eq_true rfl) (fun r8 => ?_)
  show X E _ _ _ _ (kc + 0 + 0) (ks + 0 + 0) _ _ _ [aI r8, aI r4] _
  refine x_kc (kc' := kc + 0) (ks' := ks + 0) rfl rfl ?_
  refine x_icmp_eq (pc := 767) 1686 dL_law_767 (by decide) (fun _ => ?_) (fun _ => x_none)
  exact x_widen (by omega) (by omega) (hK σ)
noncomputable def flaw_772 (xs : Nat → Int32) (L : Nat) (i : Int32) (σ : zSt) (K : zSt → Option Unit) : Option Unit :=
  zix (i + 1) L fun m1 =>
  zokc σ <|
  zc1 (f11_damage (xs m1) σ) fun r3 =>
  zix (i + 1) L fun m4 =>
  zokc σ <|
  zc2 (f12_damage (xs m4) σ) fun r6 s7 =>
  if r3 = r6 then K s7 else none
set_option maxRecDepth 20000 in
theorem xlaw_772 (E : zEn) {L : Nat} {xs : Nat → Int32} (hsc : zScr E L xs) (i : Int32) (σ : zSt) (kc ks : Nat) (hk : kc + 8 ≤ 600000 ∧ ks + 200 ≤ 7302250) {K : zSt → Option Unit} (hK : ∀ σ, X E cL_law mlaw false (zQl E) (kc + 8) (ks + 200) σ [(0, aR 15 (some 5)), (1, aR 11 (some 0)), (2, aR 12 (some 0)), (3, aI i)] 1686 [] (K σ)) : X E cL_law mlaw false (zQl E) kc ks σ [(0, aR 15 (some 5)), (1, aR 11 (some 0)), (2, aR 12 (some 0)), (3, aI i)] 772 [] (flaw_772 xs L i σ K) := by
  unfold flaw_772
  obtain ⟨hk1, hk2⟩ := hk
  refine x_kc (kc' := kc + 0) (ks' := ks + 0) rfl rfl ?_
  refine x_aload_n (pc := 772) 1 dL_law_772 rfl rfl ?_
  refine x_aload_n (pc := 773) 0 dL_law_773 rfl rfl ?_
  refine x_iload_n (pc := 774) 3 dL_law_774 rfl rfl ?_
  refine x_iconst (pc := 775) 1 dL_law_775 rfl ?_
  refine x_iadd (pc := 776) dL_law_776 ?_
  refine x_sld (pc := 777) hsc dL_law_777 (fun m1 => ?_)
  refine x_okc (fun hok2 => ?_)
  refine x_callVr (pc := 778) (as := [aI (xs m1)]) (rest := []) (fun l => c_11_damage l (xs m1) σ) md_X11_damage ⟨_, _, rfl, by decide⟩ tk_606 tk_607 tk_605 dL_law_778 rfl ⟨by decide, by decide, by show kc + 0 + 0 ≤ 600000; omega, by show ks + 0 + 0 ≤ 7302250; omega⟩ ⟨(fun h => nomatch h), (fun _ => Or.inr hok2)⟩ rfl (Nat.le_of_ble_eq_true rfl) (fun r3 => ?_)
  show X E _ _ _ _ (kc + 0 + 0) (ks + 0 + 0) _ _ _ [aI r3] _
  refine x_kc (kc' := kc + 0) (ks' := ks + 0) rfl rfl ?_
  refine x_aload_n (pc := 781) 2 dL_law_781 rfl rfl ?_
  refine x_aload_n (pc := 782) 0 dL_law_782 rfl rfl ?_
  refine x_iload_n (pc := 783) 3 dL_law_783 rfl rfl ?_
  refine x_iconst (pc := 784) 1 dL_law_784 rfl ?_
  refine x_iadd (pc := 785) dL_law_785 ?_
  refine x_sld (pc := 786) hsc dL_law_786 (fun m4 => ?_)
  refine x_okc (fun hok5 => ?_)
  refine x_callV (pc := 787) (as := [aI (xs m4)]) (rest := [aI r3]) (fun l => c_12_damage l (xs m4) σ) md_X12_damage ⟨_, _, rfl, by decide⟩ tk_1589 tk_1590 tk_1588 dL_law_787 rfl ⟨by decide, by decide, by show kc + 0 + 0 ≤ 600000; omega, by show ks + 0 + 0 ≤ 7302250; omega⟩ ⟨(fun h => nomatch h), (fun _ => Or.inr hok5)⟩ rfl (Nat.le_of_ble_eq_true rfl) (fun r6 s7 => ?_)
  show X E _ _ _ _ (kc + 0 + 0) (ks + 0 + 0) _ _ _ [aI r6, aI r3] _
  refine x_kc (kc' := kc + 0) (ks' := ks + 0) rfl rfl ?_
  refine x_icmp_eq (pc := 790) 1686 dL_law_790 (by decide) (fun _ => ?_) (fun _ => x_none)
  exact x_widen (by omega) (by omega) (hK s7)
noncomputable def flaw_795 (xs : Nat → Int32) (L : Nat) (i : Int32) (σ : zSt) (K : zSt → Option Unit) : Option Unit :=
  zix (i + 1) L fun m1 =>
  zix (i + 2) L fun m2 =>
  zc2 (f11_rule (xs m1) (xs m2) σ) fun r3 s4 =>
  zix (i + 1) L fun m5 =>
  zix (i + 2) L fun m6 =>
  zc2 (f12_rule (xs m5) (xs m6) s4) fun r7 s8 =>
  if r3 = r7 then K s8 else none
set_option maxRecDepth 20000 in
theorem xlaw_795 (E : zEn) {L : Nat} {xs : Nat → Int32} (hsc : zScr E L xs) (i : Int32) (σ : zSt) (kc ks : Nat) (hk : kc + 8 ≤ 600000 ∧ ks + 200 ≤ 7302250) {K : zSt → Option Unit} (hK : ∀ σ, X E cL_law mlaw false (zQl E) (kc + 8) (ks + 200) σ [(0, aR 15 (some 5)), (1, aR 11 (some 0)), (2, aR 12 (some 0)), (3, aI i)] 1686 [] (K σ)) : X E cL_law mlaw false (zQl E) kc ks σ [(0, aR 15 (some 5)), (1, aR 11 (some 0)), (2, aR 12 (some 0)), (3, aI i)] 795 [] (flaw_795 xs L i σ K) := by
  unfold flaw_795
  obtain ⟨hk1, hk2⟩ := hk
  refine x_kc (kc' := kc + 0) (ks' := ks + 0) rfl rfl ?_
  refine x_aload_n (pc := 795) 1 dL_law_795 rfl rfl ?_
  refine x_aload_n (pc := 796) 0 dL_law_796 rfl rfl ?_
  refine x_iload_n (pc := 797) 3 dL_law_797 rfl rfl ?_
  refine x_iconst (pc := 798) 1 dL_law_798 rfl ?_
  refine x_iadd (pc := 799) dL_law_799 ?_
  refine x_sld (pc := 800) hsc dL_law_800 (fun m1 => ?_)
  refine x_aload_n (pc := 801) 0 dL_law_801 rfl rfl ?_
  refine x_iload_n (pc := 802) 3 dL_law_802 rfl rfl ?_
  refine x_iconst (pc := 803) 2 dL_law_803 rfl ?_
  refine x_iadd (pc := 804) dL_law_804 ?_
  refine x_sld (pc := 805) hsc dL_law_805 (fun m2 => ?_)
  refine x_callV (pc := 806) (as := [aI (xs m1), aI (xs m2)]) (rest := []) (fun l => c_11_rule l false (xs m1) (xs m2) σ) md_X11_rule ⟨_, _, rfl, by decide⟩ tk_623 tk_624 tk_622 dL_law_806 rfl ⟨by decide, by decide, by show kc + 0 + 0 ≤ 600000; omega, by show ks + 0 + 0 ≤ 7302250; omega⟩ ⟨(fun h => nomatch h), (fun h => nomatch h)⟩ rfl (Nat.le_of_ble_eq_true rfl) (fun r3 s4 => ?_)
  show X E _ _ _ _ (kc + 0 + 0) (ks + 0 + 0) _ _ _ [aI r3] _
  refine x_kc (kc' := kc + 0) (ks' := ks + 0) rfl rfl ?_
  refine x_aload_n (pc := 809) 2 dL_law_809 rfl rfl ?_
  refine x_aload_n (pc := 810) 0 dL_law_810 rfl rfl ?_
  refine x_iload_n (pc := 811) 3 dL_law_811 rfl rfl ?_
  refine x_iconst (pc := 812) 1 dL_law_812 rfl ?_
  refine x_iadd (pc := 813) dL_law_813 ?_
  refine x_sld (pc := 814) hsc dL_law_814 (fun m5 => ?_)
  refine x_aload_n (pc := 815) 0 dL_law_815 rfl rfl ?_
  refine x_iload_n (pc := 816) 3 dL_law_816 rfl rfl ?_
  refine x_iconst (pc := 817) 2 dL_law_817 rfl ?_
  refine x_iadd (pc := 818) dL_law_818 ?_
  refine x_sld (pc := 819) hsc dL_law_819 (fun m6 => ?_)
  refine x_callV (pc := 820) (as := [aI (xs m5), aI (xs m6)]) (rest := [aI r3]) (fun l => c_12_rule l false (xs m5) (xs m6) s4) md_X12_rule ⟨_, _, rfl, by decide⟩ tk_1597 tk_1598 tk_1596 dL_law_820 rfl ⟨by decide, by decide, by show kc + 0 + 0 ≤ 600000; omega, by show ks + 0 + 0 ≤ 7302250; omega⟩ ⟨(fun h => nomatch h), (fun h => nomatch h)⟩ rfl (Nat.le_of_ble_eq_true rfl) (fun r7 s8 => ?_)
  show X E _ _ _ _ (kc + 0 + 0) (ks + 0 + 0) _ _ _ [aI r7, aI r3] _
  refine x_kc (kc' := kc + 0) (ks' := ks + 0) rfl rfl ?_
  refine x_icmp_eq (pc := 823) 1686 dL_law_823 (by decide) (fun _ => ?_) (fun _ => x_none)
  exact x_widen (by omega) (by omega) (hK s8)
noncomputable def flaw_828 (xs : Nat → Int32) (L : Nat) (i : Int32) (σ : zSt) (K : zSt → Option Unit) : Option Unit :=
  zix (i + 1) L fun m1 =>
  zix (i + 2) L fun m2 =>
  zix (i + 3) L fun m3 =>
  zix (i + 4) L fun m4 =>
  zokc σ <|
  zc2 (f11_joined (xs m1) (xs m2) (xs m3) (xs m4) σ) fun r6 s7 =>
  zix (i + 1) L fun m8 =>
  zix (i + 2) L fun m9 =>
  zix (i + 3) L fun m10 =>
  zix (i + 4) L fun m11 =>
  zokc s7 <|
  zc2 (f12_joined (xs m8) (xs m9) (xs m10) (xs m11) s7) fun r13 s14 =>
  if r6 = r13 then K s14 else none
set_option maxRecDepth 20000 in
theorem xlaw_828 (E : zEn) {L : Nat} {xs : Nat → Int32} (hsc : zScr E L xs) (i : Int32) (σ : zSt) (kc ks : Nat) (hk : kc + 8 ≤ 600000 ∧ ks + 200 ≤ 7302250) {K : zSt → Option Unit} (hK : ∀ σ, X E cL_law mlaw false (zQl E) (kc + 8) (ks + 200) σ [(0, aR 15 (some 5)), (1, aR 11 (some 0)), (2, aR 12 (some 0)), (3, aI i)] 1686 [] (K σ)) : X E cL_law mlaw false (zQl E) kc ks σ [(0, aR 15 (some 5)), (1, aR 11 (some 0)), (2, aR 12 (some 0)), (3, aI i)] 828 [] (flaw_828 xs L i σ K) := by
  unfold flaw_828
  obtain ⟨hk1, hk2⟩ := hk
  refine x_kc (kc' := kc + 0) (ks' := ks + 0) rfl rfl ?_
  refine x_aload_n (pc := 828) 1 dL_law_828 rfl rfl ?_
  refine x_aload_n (pc := 829) 0 dL_law_829 rfl rfl ?_
  refine x_iload_n (pc := 830) 3 dL_law_830 rfl rfl ?_
  refine x_iconst (pc := 831) 1 dL_law_831 rfl ?_
  refine x_iadd (pc := 832) dL_law_832 ?_
  refine x_sld (pc := 833) hsc dL_law_833 (fun m1 => ?_)
  refine x_aload_n (pc := 834) 0 dL_law_834 rfl rfl ?_
  refine x_iload_n (pc := 835) 3 dL_law_835 rfl rfl ?_
  refine x_iconst (pc := 836) 2 dL_law_836 rfl ?_
  refine x_iadd (pc := 837) dL_law_837 ?_
  refine x_sld (pc := 838) hsc dL_law_838 (fun m2 => ?_)
  refine x_aload_n (pc := 839) 0 dL_law_839 rfl rfl ?_
  refine x_iload_n (pc := 840) 3 dL_law_840 rfl rfl ?_
  refine x_iconst (pc := 841) 3 dL_law_841 rfl ?_
  refine x_iadd (pc := 842) dL_law_842 ?_
  refine x_sld (pc := 843) hsc dL_law_843 (fun m3 => ?_)
  refine x_aload_n (pc := 844) 0 dL_law_844 rfl rfl ?_
  refine x_iload_n (pc := 845) 3 dL_law_845 rfl rfl ?_
  refine x_iconst (pc := 846) 4 dL_law_846 rfl ?_
  refine x_iadd (pc := 847) dL_law_847 ?_
  refine x_sld (pc := 848) hsc dL_law_848 (fun m4 => ?_)
  refine x_okc (fun hok5 => ?_)
  refine x_callV (pc := 849) (as := [aI (xs m1), aI (xs m2), aI (xs m3), aI (xs m4)]) (rest := []) (fun l => c_11_joined l (xs m1) (xs m2) (xs m3) (xs m4) σ) md_X11_joined ⟨_, _, rfl, by decide⟩ tk_627 tk_628 tk_626 dL_law_849 rfl ⟨by decide, by decide, by show kc + 0 + 0 ≤ 600000; omega, by show ks + 0 + 0 ≤ 7302250; omega⟩ ⟨(fun h => nomatch h), (fun _ => Or.inr hok5)⟩ rfl (Nat.le_of_ble_eq_true rfl) (fun r6 s7 => ?_)
  show X E _ _ _ _ (kc + 0 + 0) (ks + 0 + 0) _ _ _ [aI r6] _
  refine x_kc (kc' := kc + 0) (ks' := ks + 0) rfl rfl ?_
  refine x_aload_n (pc := 852) 2 dL_law_852 rfl rfl ?_
  refine x_aload_n (pc := 853) 0 dL_law_853 rfl rfl ?_
  refine x_iload_n (pc := 854) 3 dL_law_854 rfl rfl ?_
  refine x_iconst (pc := 855) 1 dL_law_855 rfl ?_
  refine x_iadd (pc := 856) dL_law_856 ?_
  refine x_sld (pc := 857) hsc dL_law_857 (fun m8 => ?_)
  refine x_aload_n (pc := 858) 0 dL_law_858 rfl rfl ?_
  refine x_iload_n (pc := 859) 3 dL_law_859 rfl rfl ?_
  refine x_iconst (pc := 860) 2 dL_law_860 rfl ?_
  refine x_iadd (pc := 861) dL_law_861 ?_
  refine x_sld (pc := 862) hsc dL_law_862 (fun m9 => ?_)
  refine x_aload_n (pc := 863) 0 dL_law_863 rfl rfl ?_
  refine x_iload_n (pc := 864) 3 dL_law_864 rfl rfl ?_
  refine x_iconst (pc := 865) 3 dL_law_865 rfl ?_
  refine x_iadd (pc := 866) dL_law_866 ?_
  refine x_sld (pc := 867) hsc dL_law_867 (fun m10 => ?_)
  refine x_aload_n (pc := 868) 0 dL_law_868 rfl rfl ?_
  refine x_iload_n (pc := 869) 3 dL_law_869 rfl rfl ?_
  refine x_iconst (pc := 870) 4 dL_law_870 rfl ?_
  refine x_iadd (pc := 871) dL_law_871 ?_
  refine x_sld (pc := 872) hsc dL_law_872 (fun m11 => ?_)
  refine x_okc (fun hok12 => ?_)
  refine x_callV (pc := 873) (as := [aI (xs m8), aI (xs m9), aI (xs m10), aI (xs m11)]) (rest := [aI r6]) (fun l => c_12_joined l (xs m8) (xs m9) (xs m10) (xs m11) s7) md_X12_joined ⟨_, _, rfl, by decide⟩ tk_1601 tk_1602 tk_1600 dL_law_873 rfl ⟨by decide, by decide, by show kc + 0 + 0 ≤ 600000; omega, by show ks + 0 + 0 ≤ 7302250; omega⟩ ⟨(fun h => nomatch h), (fun _ => Or.inr hok12)⟩ rfl (Nat.le_of_ble_eq_true rfl) (fun r13 s14 => ?_)
  show X E _ _ _ _ (kc + 0 + 0) (ks + 0 + 0) _ _ _ [aI r13, aI r6] _
  refine x_kc (kc' := kc + 0) (ks' := ks + 0) rfl rfl ?_
  refine x_icmp_eq (pc := 876) 1686 dL_law_876 (by decide) (fun _ => ?_) (fun _ => x_none)
  exact x_widen (by omega) (by omega) (hK s14)
noncomputable def flaw_881 (xs : Nat → Int32) (L : Nat) (i : Int32) (σ : zSt) (K : zSt → Option Unit) : Option Unit :=
  zix (i + 1) L fun m1 =>
  zix (i + 2) L fun m2 =>
  zix (i + 3) L fun m3 =>
  zokc σ <|
  zc2 (f11_chance (xs m1) (xs m2) (xs m3) σ) fun r5 s6 =>
  zix (i + 1) L fun m7 =>
  zix (i + 2) L fun m8 =>
  zix (i + 3) L fun m9 =>
  zokc s6 <|
  zc2 (f12_chance (xs m7) (xs m8) (xs m9) s6) fun r11 s12 =>
  if r5 = r11 then K s12 else none
set_option maxRecDepth 20000 in
theorem xlaw_881 (E : zEn) {L : Nat} {xs : Nat → Int32} (hsc : zScr E L xs) (i : Int32) (σ : zSt) (kc ks : Nat) (hk : kc + 8 ≤ 600000 ∧ ks + 200 ≤ 7302250) {K : zSt → Option Unit} (hK : ∀ σ, X E cL_law mlaw false (zQl E) (kc + 8) (ks + 200) σ [(0, aR 15 (some 5)), (1, aR 11 (some 0)), (2, aR 12 (some 0)), (3, aI i)] 1686 [] (K σ)) : X E cL_law mlaw false (zQl E) kc ks σ [(0, aR 15 (some 5)), (1, aR 11 (some 0)), (2, aR 12 (some 0)), (3, aI i)] 881 [] (flaw_881 xs L i σ K) := by
  unfold flaw_881
  obtain ⟨hk1, hk2⟩ := hk
  refine x_kc (kc' := kc + 0) (ks' := ks + 0) rfl rfl ?_
  refine x_aload_n (pc := 881) 1 dL_law_881 rfl rfl ?_
  refine x_aload_n (pc := 882) 0 dL_law_882 rfl rfl ?_
  refine x_iload_n (pc := 883) 3 dL_law_883 rfl rfl ?_
  refine x_iconst (pc := 884) 1 dL_law_884 rfl ?_
  refine x_iadd (pc := 885) dL_law_885 ?_
  refine x_sld (pc := 886) hsc dL_law_886 (fun m1 => ?_)
  refine x_aload_n (pc := 887) 0 dL_law_887 rfl rfl ?_
  refine x_iload_n (pc := 888) 3 dL_law_888 rfl rfl ?_
  refine x_iconst (pc := 889) 2 dL_law_889 rfl ?_
  refine x_iadd (pc := 890) dL_law_890 ?_
  refine x_sld (pc := 891) hsc dL_law_891 (fun m2 => ?_)
  refine x_aload_n (pc := 892) 0 dL_law_892 rfl rfl ?_
  refine x_iload_n (pc := 893) 3 dL_law_893 rfl rfl ?_
  refine x_iconst (pc := 894) 3 dL_law_894 rfl ?_
  refine x_iadd (pc := 895) dL_law_895 ?_
  refine x_sld (pc := 896) hsc dL_law_896 (fun m3 => ?_)
  refine x_okc (fun hok4 => ?_)
  refine x_callV (pc := 897) (as := [aI (xs m1), aI (xs m2), aI (xs m3)]) (rest := []) (fun l => c_11_chance l (xs m1) (xs m2) (xs m3) σ) md_X11_chance ⟨_, _, rfl, by decide⟩ tk_650 tk_651 tk_649 dL_law_897 rfl ⟨by decide, by decide, by show kc + 0 + 0 ≤ 600000; omega, by show ks + 0 + 0 ≤ 7302250; omega⟩ ⟨(fun h => nomatch h), (fun _ => Or.inr hok4)⟩ rfl (Nat.le_of_ble_eq_true rfl) (fun r5 s6 => ?_)
  show X E _ _ _ _ (kc + 0 + 0) (ks + 0 + 0) _ _ _ [aI r5] _
  refine x_kc (kc' := kc + 0) (ks' := ks + 0) rfl rfl ?_
  refine x_aload_n (pc := 900) 2 dL_law_900 rfl rfl ?_
  refine x_aload_n (pc := 901) 0 dL_law_901 rfl rfl ?_
  refine x_iload_n (pc := 902) 3 dL_law_902 rfl rfl ?_
  refine x_iconst (pc := 903) 1 dL_law_903 rfl ?_
  refine x_iadd (pc := 904) dL_law_904 ?_
  refine x_sld (pc := 905) hsc dL_law_905 (fun m7 => ?_)
  refine x_aload_n (pc := 906) 0 dL_law_906 rfl rfl ?_
  refine x_iload_n (pc := 907) 3 dL_law_907 rfl rfl ?_
  refine x_iconst (pc := 908) 2 dL_law_908 rfl ?_
  refine x_iadd (pc := 909) dL_law_909 ?_
  refine x_sld (pc := 910) hsc dL_law_910 (fun m8 => ?_)
  refine x_aload_n (pc := 911) 0 dL_law_911 rfl rfl ?_
  refine x_iload_n (pc := 912) 3 dL_law_912 rfl rfl ?_
  refine x_iconst (pc := 913) 3 dL_law_913 rfl ?_
  refine x_iadd (pc := 914) dL_law_914 ?_
  refine x_sld (pc := 915) hsc dL_law_915 (fun m9 => ?_)
  refine x_okc (fun hok10 => ?_)
  refine x_callV (pc := 916) (as := [aI (xs m7), aI (xs m8), aI (xs m9)]) (rest := [aI r5]) (fun l => c_12_chance l (xs m7) (xs m8) (xs m9) s6) md_X12_chance ⟨_, _, rfl, by decide⟩ tk_1624 tk_1625 tk_1623 dL_law_916 rfl ⟨by decide, by decide, by show kc + 0 + 0 ≤ 600000; omega, by show ks + 0 + 0 ≤ 7302250; omega⟩ ⟨(fun h => nomatch h), (fun _ => Or.inr hok10)⟩ rfl (Nat.le_of_ble_eq_true rfl) (fun r11 s12 => ?_)
  show X E _ _ _ _ (kc + 0 + 0) (ks + 0 + 0) _ _ _ [aI r11, aI r5] _
  refine x_kc (kc' := kc + 0) (ks' := ks + 0) rfl rfl ?_
  refine x_icmp_eq (pc := 919) 1686 dL_law_919 (by decide) (fun _ => ?_) (fun _ => x_none)
  exact x_widen (by omega) (by omega) (hK s12)
noncomputable def flaw_924 (xs : Nat → Int32) (L : Nat) (i : Int32) (σ : zSt) (K : zSt → Option Unit) : Option Unit :=
  zix (i + 1) L fun m1 =>
  zix (i + 2) L fun m2 =>
  zix (i + 3) L fun m3 =>
  zokc σ <|
  zc2 (f11_cause (xs m1) (xs m2) (xs m3) σ) fun r5 s6 =>
  zix (i + 1) L fun m7 =>
  zix (i + 2) L fun m8 =>
  zix (i + 3) L fun m9 =>
  zokc s6 <|
  zc2 (f12_cause (xs m7) (xs m8) (xs m9) s6) fun r11 s12 =>
  if r5 = r11 then K s12 else none
set_option maxRecDepth 20000 in
theorem xlaw_924 (E : zEn) {L : Nat} {xs : Nat → Int32} (hsc : zScr E L xs) (i : Int32) (σ : zSt) (kc ks : Nat) (hk : kc + 8 ≤ 600000 ∧ ks + 200 ≤ 7302250) {K : zSt → Option Unit} (hK : ∀ σ, X E cL_law mlaw false (zQl E) (kc + 8) (ks + 200) σ [(0, aR 15 (some 5)), (1, aR 11 (some 0)), (2, aR 12 (some 0)), (3, aI i)] 1686 [] (K σ)) : X E cL_law mlaw false (zQl E) kc ks σ [(0, aR 15 (some 5)), (1, aR 11 (some 0)), (2, aR 12 (some 0)), (3, aI i)] 924 [] (flaw_924 xs L i σ K) := by
  unfold flaw_924
  obtain ⟨hk1, hk2⟩ := hk
  refine x_kc (kc' := kc + 0) (ks' := ks + 0) rfl rfl ?_
  refine x_aload_n (pc := 924) 1 dL_law_924 rfl rfl ?_
  refine x_aload_n (pc := 925) 0 dL_law_925 rfl rfl ?_
  refine x_iload_n (pc := 926) 3 dL_law_926 rfl rfl ?_
  refine x_iconst (pc := 927) 1 dL_law_927 rfl ?_
  refine x_iadd (pc := 928) dL_law_928 ?_
  refine x_sld (pc := 929) hsc dL_law_929 (fun m1 => ?_)
  refine x_aload_n (pc := 930) 0 dL_law_930 rfl rfl ?_
  refine x_iload_n (pc := 931) 3 dL_law_931 rfl rfl ?_
  refine x_iconst (pc := 932) 2 dL_law_932 rfl ?_
  refine x_iadd (pc := 933) dL_law_933 ?_
  refine x_sld (pc := 934) hsc dL_law_934 (fun m2 => ?_)
  refine x_aload_n (pc := 935) 0 dL_law_935 rfl rfl ?_
  refine x_iload_n (pc := 936) 3 dL_law_936 rfl rfl ?_
  refine x_iconst (pc := 937) 3 dL_law_937 rfl ?_
  refine x_iadd (pc := 938) dL_law_938 ?_
  refine x_sld (pc := 939) hsc dL_law_939 (fun m3 => ?_)
  refine x_okc (fun hok4 => ?_)
  refine x_callV (pc := 940) (as := [aI (xs m1), aI (xs m2), aI (xs m3)]) (rest := []) (fun l => c_11_cause l (xs m1) (xs m2) (xs m3) σ) md_X11_cause ⟨_, _, rfl, by decide⟩ tk_668 tk_669 tk_667 dL_law_940 rfl ⟨by decide, by decide, by show kc + 0 + 0 ≤ 600000; omega, by show ks + 0 + 0 ≤ 7302250; omega⟩ ⟨(fun h => nomatch h), (fun _ => Or.inr hok4)⟩ rfl (Nat.le_of_ble_eq_true rfl) (fun r5 s6 => ?_)
  show X E _ _ _ _ (kc + 0 + 0) (ks + 0 + 0) _ _ _ [aI r5] _
  refine x_kc (kc' := kc + 0) (ks' := ks + 0) rfl rfl ?_
  refine x_aload_n (pc := 943) 2 dL_law_943 rfl rfl ?_
  refine x_aload_n (pc := 944) 0 dL_law_944 rfl rfl ?_
  refine x_iload_n (pc := 945) 3 dL_law_945 rfl rfl ?_
  refine x_iconst (pc := 946) 1 dL_law_946 rfl ?_
  refine x_iadd (pc := 947) dL_law_947 ?_
  refine x_sld (pc := 948) hsc dL_law_948 (fun m7 => ?_)
  refine x_aload_n (pc := 949) 0 dL_law_949 rfl rfl ?_
  refine x_iload_n (pc := 950) 3 dL_law_950 rfl rfl ?_
  refine x_iconst (pc := 951) 2 dL_law_951 rfl ?_
  refine x_iadd (pc := 952) dL_law_952 ?_
  refine x_sld (pc := 953) hsc dL_law_953 (fun m8 => ?_)
  refine x_aload_n (pc := 954) 0 dL_law_954 rfl rfl ?_
  refine x_iload_n (pc := 955) 3 dL_law_955 rfl rfl ?_
  refine x_iconst (pc := 956) 3 dL_law_956 rfl ?_
  refine x_iadd (pc := 957) dL_law_957 ?_
  refine x_sld (pc := 958) hsc dL_law_958 (fun m9 => ?_)
  refine x_okc (fun hok10 => ?_)
  refine x_callV (pc := 959) (as := [aI (xs m7), aI (xs m8), aI (xs m9)]) (rest := [aI r5]) (fun l => c_12_cause l (xs m7) (xs m8) (xs m9) s6) md_X12_cause ⟨_, _, rfl, by decide⟩ tk_1636 tk_1637 tk_1635 dL_law_959 rfl ⟨by decide, by decide, by show kc + 0 + 0 ≤ 600000; omega, by show ks + 0 + 0 ≤ 7302250; omega⟩ ⟨(fun h => nomatch h), (fun _ => Or.inr hok10)⟩ rfl (Nat.le_of_ble_eq_true rfl) (fun r11 s12 => ?_)
  show X E _ _ _ _ (kc + 0 + 0) (ks + 0 + 0) _ _ _ [aI r11, aI r5] _
  refine x_kc (kc' := kc + 0) (ks' := ks + 0) rfl rfl ?_
  refine x_icmp_eq (pc := 962) 1686 dL_law_962 (by decide) (fun _ => ?_) (fun _ => x_none)
  exact x_widen (by omega) (by omega) (hK s12)
noncomputable def flaw_967 (xs : Nat → Int32) (L : Nat) (i : Int32) (σ : zSt) (K : zSt → Option Unit) : Option Unit :=
  zix (i + 1) L fun m1 =>
  zix (i + 2) L fun m2 =>
  zix (i + 3) L fun m3 =>
  zokc σ <|
  zc2 (f11_rivals (xs m1) (xs m2) (xs m3) σ) fun r5 s6 =>
  zix (i + 1) L fun m7 =>
  zix (i + 2) L fun m8 =>
  zix (i + 3) L fun m9 =>
  zokc s6 <|
  zc2 (f12_rivals (xs m7) (xs m8) (xs m9) s6) fun r11 s12 =>
  if r5 = r11 then K s12 else none
set_option maxRecDepth 20000 in
theorem xlaw_967 (E : zEn) {L : Nat} {xs : Nat → Int32} (hsc : zScr E L xs) (i : Int32) (σ : zSt) (kc ks : Nat) (hk : kc + 8 ≤ 600000 ∧ ks + 200 ≤ 7302250) {K : zSt → Option Unit} (hK : ∀ σ, X E cL_law mlaw false (zQl E) (kc + 8) (ks + 200) σ [(0, aR 15 (some 5)), (1, aR 11 (some 0)), (2, aR 12 (some 0)), (3, aI i)] 1686 [] (K σ)) : X E cL_law mlaw false (zQl E) kc ks σ [(0, aR 15 (some 5)), (1, aR 11 (some 0)), (2, aR 12 (some 0)), (3, aI i)] 967 [] (flaw_967 xs L i σ K) := by
  unfold flaw_967
  obtain ⟨hk1, hk2⟩ := hk
  refine x_kc (kc' := kc + 0) (ks' := ks + 0) rfl rfl ?_
  refine x_aload_n (pc := 967) 1 dL_law_967 rfl rfl ?_
  refine x_aload_n (pc := 968) 0 dL_law_968 rfl rfl ?_
  refine x_iload_n (pc := 969) 3 dL_law_969 rfl rfl ?_
  refine x_iconst (pc := 970) 1 dL_law_970 rfl ?_
  refine x_iadd (pc := 971) dL_law_971 ?_
  refine x_sld (pc := 972) hsc dL_law_972 (fun m1 => ?_)
  refine x_aload_n (pc := 973) 0 dL_law_973 rfl rfl ?_
  refine x_iload_n (pc := 974) 3 dL_law_974 rfl rfl ?_
  refine x_iconst (pc := 975) 2 dL_law_975 rfl ?_
  refine x_iadd (pc := 976) dL_law_976 ?_
  refine x_sld (pc := 977) hsc dL_law_977 (fun m2 => ?_)
  refine x_aload_n (pc := 978) 0 dL_law_978 rfl rfl ?_
  refine x_iload_n (pc := 979) 3 dL_law_979 rfl rfl ?_
  refine x_iconst (pc := 980) 3 dL_law_980 rfl ?_
  refine x_iadd (pc := 981) dL_law_981 ?_
  refine x_sld (pc := 982) hsc dL_law_982 (fun m3 => ?_)
  refine x_okc (fun hok4 => ?_)
  refine x_callV (pc := 983) (as := [aI (xs m1), aI (xs m2), aI (xs m3)]) (rest := []) (fun l => c_11_rivals l (xs m1) (xs m2) (xs m3) σ) md_X11_rivals ⟨_, _, rfl, by decide⟩ tk_676 tk_677 tk_675 dL_law_983 rfl ⟨by decide, by decide, by show kc + 0 + 0 ≤ 600000; omega, by show ks + 0 + 0 ≤ 7302250; omega⟩ ⟨(fun h => nomatch h), (fun _ => Or.inr hok4)⟩ rfl (Nat.le_of_ble_eq_true rfl) (fun r5 s6 => ?_)
  show X E _ _ _ _ (kc + 0 + 0) (ks + 0 + 0) _ _ _ [aI r5] _
  refine x_kc (kc' := kc + 0) (ks' := ks + 0) rfl rfl ?_
  refine x_aload_n (pc := 986) 2 dL_law_986 rfl rfl ?_
  refine x_aload_n (pc := 987) 0 dL_law_987 rfl rfl ?_
  refine x_iload_n (pc := 988) 3 dL_law_988 rfl rfl ?_
  refine x_iconst (pc := 989) 1 dL_law_989 rfl ?_
  refine x_iadd (pc := 990) dL_law_990 ?_
  refine x_sld (pc := 991) hsc dL_law_991 (fun m7 => ?_)
  refine x_aload_n (pc := 992) 0 dL_law_992 rfl rfl ?_
  refine x_iload_n (pc := 993) 3 dL_law_993 rfl rfl ?_
  refine x_iconst (pc := 994) 2 dL_law_994 rfl ?_
  refine x_iadd (pc := 995) dL_law_995 ?_
  refine x_sld (pc := 996) hsc dL_law_996 (fun m8 => ?_)
  refine x_aload_n (pc := 997) 0 dL_law_997 rfl rfl ?_
  refine x_iload_n (pc := 998) 3 dL_law_998 rfl rfl ?_
  refine x_iconst (pc := 999) 3 dL_law_999 rfl ?_
  refine x_iadd (pc := 1000) dL_law_1000 ?_
  refine x_sld (pc := 1001) hsc dL_law_1001 (fun m9 => ?_)
  refine x_okc (fun hok10 => ?_)
  refine x_callV (pc := 1002) (as := [aI (xs m7), aI (xs m8), aI (xs m9)]) (rest := [aI r5]) (fun l => c_12_rivals l (xs m7) (xs m8) (xs m9) s6) md_X12_rivals ⟨_, _, rfl, by decide⟩ tk_1644 tk_1645 tk_1643 dL_law_1002 rfl ⟨by decide, by decide, by show kc + 0 + 0 ≤ 600000; omega, by show ks + 0 + 0 ≤ 7302250; omega⟩ ⟨(fun h => nomatch h), (fun _ => Or.inr hok10)⟩ rfl (Nat.le_of_ble_eq_true rfl) (fun r11 s12 => ?_)
  show X E _ _ _ _ (kc + 0 + 0) (ks + 0 + 0) _ _ _ [aI r11, aI r5] _
  refine x_kc (kc' := kc + 0) (ks' := ks + 0) rfl rfl ?_
  refine x_icmp_eq (pc := 1005) 1686 dL_law_1005 (by decide) (fun _ => ?_) (fun _ => x_none)
  exact x_widen (by omega) (by omega) (hK s12)
noncomputable def flaw_1010 (xs : Nat → Int32) (L : Nat) (i : Int32) (σ : zSt) (K : zSt → Option Unit) : Option Unit :=
  zix (i + 1) L fun m1 =>
  zix (i + 2) L fun m2 =>
  zokc σ <|
  zc2 (f11_read (xs m1) (xs m2) σ) fun r4 s5 =>
  zix (i + 1) L fun m6 =>
  zix (i + 2) L fun m7 =>
  zokc s5 <|
  zc2 (f12_read (xs m6) (xs m7) s5) fun r9 s10 =>
  if r4 = r9 then K s10 else none
set_option maxRecDepth 20000 in
theorem xlaw_1010 (E : zEn) {L : Nat} {xs : Nat → Int32} (hsc : zScr E L xs) (i : Int32) (σ : zSt) (kc ks : Nat) (hk : kc + 8 ≤ 600000 ∧ ks + 200 ≤ 7302250) {K : zSt → Option Unit} (hK : ∀ σ, X E cL_law mlaw false (zQl E) (kc + 8) (ks + 200) σ [(0, aR 15 (some 5)), (1, aR 11 (some 0)), (2, aR 12 (some 0)), (3, aI i)] 1686 [] (K σ)) : X E cL_law mlaw false (zQl E) kc ks σ [(0, aR 15 (some 5)), (1, aR 11 (some 0)), (2, aR 12 (some 0)), (3, aI i)] 1010 [] (flaw_1010 xs L i σ K) := by
  unfold flaw_1010
  obtain ⟨hk1, hk2⟩ := hk
  refine x_kc (kc' := kc + 0) (ks' := ks + 0) rfl rfl ?_
  refine x_aload_n (pc := 1010) 1 dL_law_1010 rfl rfl ?_
  refine x_aload_n (pc := 1011) 0 dL_law_1011 rfl rfl ?_
  refine x_iload_n (pc := 1012) 3 dL_law_1012 rfl rfl ?_
  refine x_iconst (pc := 1013) 1 dL_law_1013 rfl ?_
  refine x_iadd (pc := 1014) dL_law_1014 ?_
  refine x_sld (pc := 1015) hsc dL_law_1015 (fun m1 => ?_)
  refine x_aload_n (pc := 1016) 0 dL_law_1016 rfl rfl ?_
  refine x_iload_n (pc := 1017) 3 dL_law_1017 rfl rfl ?_
  refine x_iconst (pc := 1018) 2 dL_law_1018 rfl ?_
  refine x_iadd (pc := 1019) dL_law_1019 ?_
  refine x_sld (pc := 1020) hsc dL_law_1020 (fun m2 => ?_)
  refine x_okc (fun hok3 => ?_)
  refine x_callV (pc := 1021) (as := [aI (xs m1), aI (xs m2)]) (rest := []) (fun l => c_11_read l (xs m1) (xs m2) σ) md_X11_read ⟨_, _, rfl, by decide⟩ tk_684 tk_685 tk_683 dL_law_1021 rfl ⟨by decide, by decide, by show kc + 0 + 0 ≤ 600000; omega, by show ks + 0 + 0 ≤ 7302250; omega⟩ ⟨(fun h => nomatch h), (fun _ => Or.inr hok3)⟩ rfl (Nat.le_of_ble_eq_true rfl) (fun r4 s5 => ?_)
  show X E _ _ _ _ (kc + 0 + 0) (ks + 0 + 0) _ _ _ [aI r4] _
  refine x_kc (kc' := kc + 0) (ks' := ks + 0) rfl rfl ?_
  refine x_aload_n (pc := 1024) 2 dL_law_1024 rfl rfl ?_
  refine x_aload_n (pc := 1025) 0 dL_law_1025 rfl rfl ?_
  refine x_iload_n (pc := 1026) 3 dL_law_1026 rfl rfl ?_
  refine x_iconst (pc := 1027) 1 dL_law_1027 rfl ?_
  refine x_iadd (pc := 1028) dL_law_1028 ?_
  refine x_sld (pc := 1029) hsc dL_law_1029 (fun m6 => ?_)
  refine x_aload_n (pc := 1030) 0 dL_law_1030 rfl rfl ?_
  refine x_iload_n (pc := 1031) 3 dL_law_1031 rfl rfl ?_
  refine x_iconst (pc := 1032) 2 dL_law_1032 rfl ?_
  refine x_iadd (pc := 1033) dL_law_1033 ?_
  refine x_sld (pc := 1034) hsc dL_law_1034 (fun m7 => ?_)
  refine x_okc (fun hok8 => ?_)
  refine x_callV (pc := 1035) (as := [aI (xs m6), aI (xs m7)]) (rest := [aI r4]) (fun l => c_12_read l (xs m6) (xs m7) s5) md_X12_read ⟨_, _, rfl, by decide⟩ tk_1652 tk_1653 tk_1651 dL_law_1035 rfl ⟨by decide, by decide, by show kc + 0 + 0 ≤ 600000; omega, by show ks + 0 + 0 ≤ 7302250; omega⟩ ⟨(fun h => nomatch h), (fun _ => Or.inr hok8)⟩ rfl (Nat.le_of_ble_eq_true rfl) (fun r9 s10 => ?_)
  show X E _ _ _ _ (kc + 0 + 0) (ks + 0 + 0) _ _ _ [aI r9, aI r4] _
  refine x_kc (kc' := kc + 0) (ks' := ks + 0) rfl rfl ?_
  refine x_icmp_eq (pc := 1038) 1686 dL_law_1038 (by decide) (fun _ => ?_) (fun _ => x_none)
  exact x_widen (by omega) (by omega) (hK s10)
noncomputable def flaw_1043 (xs : Nat → Int32) (L : Nat) (i : Int32) (σ : zSt) (K : zSt → Option Unit) : Option Unit :=
  zix (i + 1) L fun m1 =>
  zix (i + 2) L fun m2 =>
  zokc σ <|
  zc1 (f11_gauge (xs m1) (xs m2) σ) fun r4 =>
  zix (i + 1) L fun m5 =>
  zix (i + 2) L fun m6 =>
  zokc σ <|
  zc1 (f12_gauge (xs m5) (xs m6) σ) fun r8 =>
  if r4 = r8 then K σ else none
set_option maxRecDepth 20000 in
theorem xlaw_1043 (E : zEn) {L : Nat} {xs : Nat → Int32} (hsc : zScr E L xs) (i : Int32) (σ : zSt) (kc ks : Nat) (hk : kc + 8 ≤ 600000 ∧ ks + 200 ≤ 7302250) {K : zSt → Option Unit} (hK : ∀ σ, X E cL_law mlaw false (zQl E) (kc + 8) (ks + 200) σ [(0, aR 15 (some 5)), (1, aR 11 (some 0)), (2, aR 12 (some 0)), (3, aI i)] 1686 [] (K σ)) : X E cL_law mlaw false (zQl E) kc ks σ [(0, aR 15 (some 5)), (1, aR 11 (some 0)), (2, aR 12 (some 0)), (3, aI i)] 1043 [] (flaw_1043 xs L i σ K) := by
  unfold flaw_1043
  obtain ⟨hk1, hk2⟩ := hk
  refine x_kc (kc' := kc + 0) (ks' := ks + 0) rfl rfl ?_
  refine x_aload_n (pc := 1043) 1 dL_law_1043 rfl rfl ?_
  refine x_aload_n (pc := 1044) 0 dL_law_1044 rfl rfl ?_
  refine x_iload_n (pc := 1045) 3 dL_law_1045 rfl rfl ?_
  refine x_iconst (pc := 1046) 1 dL_law_1046 rfl ?_
  refine x_iadd (pc := 1047) dL_law_1047 ?_
  refine x_sld (pc := 1048) hsc dL_law_1048 (fun m1 => ?_)
  refine x_aload_n (pc := 1049) 0 dL_law_1049 rfl rfl ?_
  refine x_iload_n (pc := 1050) 3 dL_law_1050 rfl rfl ?_
  refine x_iconst (pc := 1051) 2 dL_law_1051 rfl ?_
  refine x_iadd (pc := 1052) dL_law_1052 ?_
  refine x_sld (pc := 1053) hsc dL_law_1053 (fun m2 => ?_)
  refine x_okc (fun hok3 => ?_)
  refine x_callVr (pc := 1054) (as := [aI (xs m1), aI (xs m2)]) (rest := []) (fun l => c_11_gauge l (xs m1) (xs m2) σ) md_X11_gauge ⟨_, _, rfl, by decide⟩ tk_696 tk_697 tk_695 dL_law_1054 rfl ⟨by decide, by decide, by show kc + 0 + 0 ≤ 600000; omega, by show ks + 0 + 0 ≤ 7302250; omega⟩ ⟨(fun h => nomatch h), (fun _ => Or.inr hok3)⟩ rfl (Nat.le_of_ble_eq_true rfl) (fun r4 => ?_)
  show X E _ _ _ _ (kc + 0 + 0) (ks + 0 + 0) _ _ _ [aI r4] _
  refine x_kc (kc' := kc + 0) (ks' := ks + 0) rfl rfl ?_
  refine x_aload_n (pc := 1057) 2 dL_law_1057 rfl rfl ?_
  refine x_aload_n (pc := 1058) 0 dL_law_1058 rfl rfl ?_
  refine x_iload_n (pc := 1059) 3 dL_law_1059 rfl rfl ?_
  refine x_iconst (pc := 1060) 1 dL_law_1060 rfl ?_
  refine x_iadd (pc := 1061) dL_law_1061 ?_
  refine x_sld (pc := 1062) hsc dL_law_1062 (fun m5 => ?_)
  refine x_aload_n (pc := 1063) 0 dL_law_1063 rfl rfl ?_
  refine x_iload_n (pc := 1064) 3 dL_law_1064 rfl rfl ?_
  refine x_iconst (pc := 1065) 2 dL_law_1065 rfl ?_
  refine x_iadd (pc := 1066) dL_law_1066 ?_
  refine x_sld (pc := 1067) hsc dL_law_1067 (fun m6 => ?_)
  refine x_okc (fun hok7 => ?_)
  refine x_callVr (pc := 1068) (as := [aI (xs m5), aI (xs m6)]) (rest := [aI r4]) (fun l => c_12_gauge l (xs m5) (xs m6) σ) md_X12_gauge ⟨_, _, rfl, by decide⟩ tk_1656 tk_1657 tk_1655 dL_law_1068 rfl ⟨by decide, by decide, by show kc + 0 + 0 ≤ 600000; omega, by show ks + 0 + 0 ≤ 7302250; omega⟩ ⟨(fun h => nomatch h), (fun _ => Or.inr hok7)⟩ rfl (Nat.le_of_ble_eq_true rfl) (fun r8 => ?_)
  show X E _ _ _ _ (kc + 0 + 0) (ks + 0 + 0) _ _ _ [aI r8, aI r4] _
  refine x_kc (kc' := kc + 0) (ks' := ks + 0) rfl rfl ?_
  refine x_icmp_eq (pc := 1071) 1686 dL_law_1071 (by decide) (fun _ => ?_) (fun _ => x_none)
  exact x_widen (by omega) (by omega) (hK σ)
noncomputable def flaw_1076 (xs : Nat → Int32) (L : Nat) (i : Int32) (σ : zSt) (K : zSt → Option Unit) : Option Unit :=
  zix (i + 1) L fun m1 =>
  zix (i + 2) L fun m2 =>
  zokc σ <|
  zc1 (f11_pace (xs m1) (xs m2) σ) fun r4 =>
  zix (i + 1) L fun m5 =>
  zix (i + 2) L fun m6 =>
  zokc σ <|
  zc1 (f12_pace (xs m5) (xs m6) σ) fun r8 =>
  if r4 = r8 then K σ else none
set_option maxRecDepth 20000 in
theorem xlaw_1076 (E : zEn) {L : Nat} {xs : Nat → Int32} (hsc : zScr E L xs) (i : Int32) (σ : zSt) (kc ks : Nat) (hk : kc + 8 ≤ 600000 ∧ ks + 200 ≤ 7302250) {K : zSt → Option Unit} (hK : ∀ σ, X E cL_law mlaw false (zQl E) (kc + 8) (ks + 200) σ [(0, aR 15 (some 5)), (1, aR 11 (some 0)), (2, aR 12 (some 0)), (3, aI i)] 1686 [] (K σ)) : X E cL_law mlaw false (zQl E) kc ks σ [(0, aR 15 (some 5)), (1, aR 11 (some 0)), (2, aR 12 (some 0)), (3, aI i)] 1076 [] (flaw_1076 xs L i σ K) := by
  unfold flaw_1076
  obtain ⟨hk1, hk2⟩ := hk
  refine x_kc (kc' := kc + 0) (ks' := ks + 0) rfl rfl ?_
  refine x_aload_n (pc := 1076) 1 dL_law_1076 rfl rfl ?_
  refine x_aload_n (pc := 1077) 0 dL_law_1077 rfl rfl ?_
  refine x_iload_n (pc := 1078) 3 dL_law_1078 rfl rfl ?_
  refine x_iconst (pc := 1079) 1 dL_law_1079 rfl ?_
  refine x_iadd (pc := 1080) dL_law_1080 ?_
  refine x_sld (pc := 1081) hsc dL_law_1081 (fun m1 => ?_)
  refine x_aload_n (pc := 1082) 0 dL_law_1082 rfl rfl ?_
  refine x_iload_n (pc := 1083) 3 dL_law_1083 rfl rfl ?_
  refine x_iconst (pc := 1084) 2 dL_law_1084 rfl ?_
  refine x_iadd (pc := 1085) dL_law_1085 ?_
  refine x_sld (pc := 1086) hsc dL_law_1086 (fun m2 => ?_)
  refine x_okc (fun hok3 => ?_)
  refine x_callVr (pc := 1087) (as := [aI (xs m1), aI (xs m2)]) (rest := []) (fun l => c_11_pace l (xs m1) (xs m2) σ) md_X11_pace ⟨_, _, rfl, by decide⟩ tk_723 tk_724 tk_722 dL_law_1087 rfl ⟨by decide, by decide, by show kc + 0 + 0 ≤ 600000; omega, by show ks + 0 + 0 ≤ 7302250; omega⟩ ⟨(fun h => nomatch h), (fun _ => Or.inr hok3)⟩ rfl (Nat.le_of_ble_eq_true rfl) (fun r4 => ?_)
  show X E _ _ _ _ (kc + 0 + 0) (ks + 0 + 0) _ _ _ [aI r4] _
  refine x_kc (kc' := kc + 0) (ks' := ks + 0) rfl rfl ?_
  refine x_aload_n (pc := 1090) 2 dL_law_1090 rfl rfl ?_
  refine x_aload_n (pc := 1091) 0 dL_law_1091 rfl rfl ?_
  refine x_iload_n (pc := 1092) 3 dL_law_1092 rfl rfl ?_
  refine x_iconst (pc := 1093) 1 dL_law_1093 rfl ?_
  refine x_iadd (pc := 1094) dL_law_1094 ?_
  refine x_sld (pc := 1095) hsc dL_law_1095 (fun m5 => ?_)
  refine x_aload_n (pc := 1096) 0 dL_law_1096 rfl rfl ?_
  refine x_iload_n (pc := 1097) 3 dL_law_1097 rfl rfl ?_
  refine x_iconst (pc := 1098) 2 dL_law_1098 rfl ?_
  refine x_iadd (pc := 1099) dL_law_1099 ?_
  refine x_sld (pc := 1100) hsc dL_law_1100 (fun m6 => ?_)
  refine x_okc (fun hok7 => ?_)
  refine x_callVr (pc := 1101) (as := [aI (xs m5), aI (xs m6)]) (rest := [aI r4]) (fun l => c_12_pace l (xs m5) (xs m6) σ) md_X12_pace ⟨_, _, rfl, by decide⟩ tk_1669 tk_1670 tk_1668 dL_law_1101 rfl ⟨by decide, by decide, by show kc + 0 + 0 ≤ 600000; omega, by show ks + 0 + 0 ≤ 7302250; omega⟩ ⟨(fun h => nomatch h), (fun _ => Or.inr hok7)⟩ rfl (Nat.le_of_ble_eq_true rfl) (fun r8 => ?_)
  show X E _ _ _ _ (kc + 0 + 0) (ks + 0 + 0) _ _ _ [aI r8, aI r4] _
  refine x_kc (kc' := kc + 0) (ks' := ks + 0) rfl rfl ?_
  refine x_icmp_eq (pc := 1104) 1686 dL_law_1104 (by decide) (fun _ => ?_) (fun _ => x_none)
  exact x_widen (by omega) (by omega) (hK σ)
noncomputable def flaw_1109 (xs : Nat → Int32) (L : Nat) (i : Int32) (σ : zSt) (K : zSt → Option Unit) : Option Unit :=
  zix (i + 1) L fun m1 =>
  zix (i + 2) L fun m2 =>
  zokc σ <|
  zc1 (f11_sinking (xs m1) (xs m2) σ) fun r4 =>
  zix (i + 1) L fun m5 =>
  zix (i + 2) L fun m6 =>
  zokc σ <|
  zc1 (f12_sinking (xs m5) (xs m6) σ) fun r8 =>
  if r4 = r8 then K σ else none
set_option maxRecDepth 20000 in
theorem xlaw_1109 (E : zEn) {L : Nat} {xs : Nat → Int32} (hsc : zScr E L xs) (i : Int32) (σ : zSt) (kc ks : Nat) (hk : kc + 8 ≤ 600000 ∧ ks + 200 ≤ 7302250) {K : zSt → Option Unit} (hK : ∀ σ, X E cL_law mlaw false (zQl E) (kc + 8) (ks + 200) σ [(0, aR 15 (some 5)), (1, aR 11 (some 0)), (2, aR 12 (some 0)), (3, aI i)] 1686 [] (K σ)) : X E cL_law mlaw false (zQl E) kc ks σ [(0, aR 15 (some 5)), (1, aR 11 (some 0)), (2, aR 12 (some 0)), (3, aI i)] 1109 [] (flaw_1109 xs L i σ K) := by
  unfold flaw_1109
  obtain ⟨hk1, hk2⟩ := hk
  refine x_kc (kc' := kc + 0) (ks' := ks + 0) rfl rfl ?_
  refine x_aload_n (pc := 1109) 1 dL_law_1109 rfl rfl ?_
  refine x_aload_n (pc := 1110) 0 dL_law_1110 rfl rfl ?_
  refine x_iload_n (pc := 1111) 3 dL_law_1111 rfl rfl ?_
  refine x_iconst (pc := 1112) 1 dL_law_1112 rfl ?_
  refine x_iadd (pc := 1113) dL_law_1113 ?_
  refine x_sld (pc := 1114) hsc dL_law_1114 (fun m1 => ?_)
  refine x_aload_n (pc := 1115) 0 dL_law_1115 rfl rfl ?_
  refine x_iload_n (pc := 1116) 3 dL_law_1116 rfl rfl ?_
  refine x_iconst (pc := 1117) 2 dL_law_1117 rfl ?_
  refine x_iadd (pc := 1118) dL_law_1118 ?_
  refine x_sld (pc := 1119) hsc dL_law_1119 (fun m2 => ?_)
  refine x_okc (fun hok3 => ?_)
  refine x_callVr (pc := 1120) (as := [aI (xs m1), aI (xs m2)]) (rest := []) (fun l => c_11_sinking l (xs m1) (xs m2) σ) md_X11_sinking ⟨_, _, rfl, by decide⟩ tk_728 tk_729 tk_727 dL_law_1120 rfl ⟨by decide, by decide, by show kc + 0 + 0 ≤ 600000; omega, by show ks + 0 + 0 ≤ 7302250; omega⟩ ⟨(fun h => nomatch h), (fun _ => Or.inr hok3)⟩ rfl (Nat.le_of_ble_eq_true rfl) (fun r4 => ?_)
  show X E _ _ _ _ (kc + 0 + 0) (ks + 0 + 0) _ _ _ [aI r4] _
  refine x_kc (kc' := kc + 0) (ks' := ks + 0) rfl rfl ?_
  refine x_aload_n (pc := 1123) 2 dL_law_1123 rfl rfl ?_
  refine x_aload_n (pc := 1124) 0 dL_law_1124 rfl rfl ?_
  refine x_iload_n (pc := 1125) 3 dL_law_1125 rfl rfl ?_
  refine x_iconst (pc := 1126) 1 dL_law_1126 rfl ?_
  refine x_iadd (pc := 1127) dL_law_1127 ?_
  refine x_sld (pc := 1128) hsc dL_law_1128 (fun m5 => ?_)
  refine x_aload_n (pc := 1129) 0 dL_law_1129 rfl rfl ?_
  refine x_iload_n (pc := 1130) 3 dL_law_1130 rfl rfl ?_
  refine x_iconst (pc := 1131) 2 dL_law_1131 rfl ?_
  refine x_iadd (pc := 1132) dL_law_1132 ?_
  refine x_sld (pc := 1133) hsc dL_law_1133 (fun m6 => ?_)
  refine x_okc (fun hok7 => ?_)
  refine x_callVr (pc := 1134) (as := [aI (xs m5), aI (xs m6)]) (rest := [aI r4]) (fun l => c_12_sinking l (xs m5) (xs m6) σ) md_X12_sinking ⟨_, _, rfl, by decide⟩ tk_1673 tk_1674 tk_1672 dL_law_1134 rfl ⟨by decide, by decide, by show kc + 0 + 0 ≤ 600000; omega, by show ks + 0 + 0 ≤ 7302250; omega⟩ ⟨(fun h => nomatch h), (fun _ => Or.inr hok7)⟩ rfl (Nat.le_of_ble_eq_true rfl) (fun r8 => ?_)
  show X E _ _ _ _ (kc + 0 + 0) (ks + 0 + 0) _ _ _ [aI r8, aI r4] _
  refine x_kc (kc' := kc + 0) (ks' := ks + 0) rfl rfl ?_
  refine x_icmp_eq (pc := 1137) 1686 dL_law_1137 (by decide) (fun _ => ?_) (fun _ => x_none)
  exact x_widen (by omega) (by omega) (hK σ)
noncomputable def flaw_1142 (xs : Nat → Int32) (L : Nat) (i : Int32) (σ : zSt) (K : zSt → Option Unit) : Option Unit :=
  zix (i + 1) L fun m1 =>
  zix (i + 2) L fun m2 =>
  zokc σ <|
  zc2 (f11_men (xs m1) (xs m2) σ) fun r4 s5 =>
  zix (i + 1) L fun m6 =>
  zix (i + 2) L fun m7 =>
  zokc s5 <|
  zc2 (f12_men (xs m6) (xs m7) s5) fun r9 s10 =>
  if r4 = r9 then K s10 else none
set_option maxRecDepth 20000 in
theorem xlaw_1142 (E : zEn) {L : Nat} {xs : Nat → Int32} (hsc : zScr E L xs) (i : Int32) (σ : zSt) (kc ks : Nat) (hk : kc + 8 ≤ 600000 ∧ ks + 200 ≤ 7302250) {K : zSt → Option Unit} (hK : ∀ σ, X E cL_law mlaw false (zQl E) (kc + 8) (ks + 200) σ [(0, aR 15 (some 5)), (1, aR 11 (some 0)), (2, aR 12 (some 0)), (3, aI i)] 1686 [] (K σ)) : X E cL_law mlaw false (zQl E) kc ks σ [(0, aR 15 (some 5)), (1, aR 11 (some 0)), (2, aR 12 (some 0)), (3, aI i)] 1142 [] (flaw_1142 xs L i σ K) := by
  unfold flaw_1142
  obtain ⟨hk1, hk2⟩ := hk
  refine x_kc (kc' := kc + 0) (ks' := ks + 0) rfl rfl ?_
  refine x_aload_n (pc := 1142) 1 dL_law_1142 rfl rfl ?_
  refine x_aload_n (pc := 1143) 0 dL_law_1143 rfl rfl ?_
  refine x_iload_n (pc := 1144) 3 dL_law_1144 rfl rfl ?_
  refine x_iconst (pc := 1145) 1 dL_law_1145 rfl ?_
  refine x_iadd (pc := 1146) dL_law_1146 ?_
  refine x_sld (pc := 1147) hsc dL_law_1147 (fun m1 => ?_)
  refine x_aload_n (pc := 1148) 0 dL_law_1148 rfl rfl ?_
  refine x_iload_n (pc := 1149) 3 dL_law_1149 rfl rfl ?_
  refine x_iconst (pc := 1150) 2 dL_law_1150 rfl ?_
  refine x_iadd (pc := 1151) dL_law_1151 ?_
  refine x_sld (pc := 1152) hsc dL_law_1152 (fun m2 => ?_)
  refine x_okc (fun hok3 => ?_)
  refine x_callV (pc := 1153) (as := [aI (xs m1), aI (xs m2)]) (rest := []) (fun l => c_11_men l (xs m1) (xs m2) σ) md_X11_men ⟨_, _, rfl, by decide⟩ tk_747 tk_748 tk_746 dL_law_1153 rfl ⟨by decide, by decide, by show kc + 0 + 0 ≤ 600000; omega, by show ks + 0 + 0 ≤ 7302250; omega⟩ ⟨(fun h => nomatch h), (fun _ => Or.inr hok3)⟩ rfl (Nat.le_of_ble_eq_true rfl) (fun r4 s5 => ?_)
  show X E _ _ _ _ (kc + 0 + 0) (ks + 0 + 0) _ _ _ [aI r4] _
  refine x_kc (kc' := kc + 0) (ks' := ks + 0) rfl rfl ?_
  refine x_aload_n (pc := 1156) 2 dL_law_1156 rfl rfl ?_
  refine x_aload_n (pc := 1157) 0 dL_law_1157 rfl rfl ?_
  refine x_iload_n (pc := 1158) 3 dL_law_1158 rfl rfl ?_
  refine x_iconst (pc := 1159) 1 dL_law_1159 rfl ?_
  refine x_iadd (pc := 1160) dL_law_1160 ?_
  refine x_sld (pc := 1161) hsc dL_law_1161 (fun m6 => ?_)
  refine x_aload_n (pc := 1162) 0 dL_law_1162 rfl rfl ?_
  refine x_iload_n (pc := 1163) 3 dL_law_1163 rfl rfl ?_
  refine x_iconst (pc := 1164) 2 dL_law_1164 rfl ?_
  refine x_iadd (pc := 1165) dL_law_1165 ?_
  refine x_sld (pc := 1166) hsc dL_law_1166 (fun m7 => ?_)
  refine x_okc (fun hok8 => ?_)
  refine x_callV (pc := 1167) (as := [aI (xs m6), aI (xs m7)]) (rest := [aI r4]) (fun l => c_12_men l (xs m6) (xs m7) s5) md_X12_men ⟨_, _, rfl, by decide⟩ tk_1681 tk_1682 tk_1680 dL_law_1167 rfl ⟨by decide, by decide, by show kc + 0 + 0 ≤ 600000; omega, by show ks + 0 + 0 ≤ 7302250; omega⟩ ⟨(fun h => nomatch h), (fun _ => Or.inr hok8)⟩ rfl (Nat.le_of_ble_eq_true rfl) (fun r9 s10 => ?_)
  show X E _ _ _ _ (kc + 0 + 0) (ks + 0 + 0) _ _ _ [aI r9, aI r4] _
  refine x_kc (kc' := kc + 0) (ks' := ks + 0) rfl rfl ?_
  refine x_icmp_eq (pc := 1170) 1686 dL_law_1170 (by decide) (fun _ => ?_) (fun _ => x_none)
  exact x_widen (by omega) (by omega) (hK s10)
noncomputable def flaw_1175 (xs : Nat → Int32) (L : Nat) (i : Int32) (σ : zSt) (K : zSt → Option Unit) : Option Unit :=
  zix (i + 1) L fun m1 =>
  zokc σ <|
  zc2 (f11_job (xs m1) σ) fun r3 s4 =>
  zix (i + 1) L fun m5 =>
  zokc s4 <|
  zc2 (f12_job (xs m5) s4) fun r7 s8 =>
  if r3 = r7 then K s8 else none
set_option maxRecDepth 20000 in
theorem xlaw_1175 (E : zEn) {L : Nat} {xs : Nat → Int32} (hsc : zScr E L xs) (i : Int32) (σ : zSt) (kc ks : Nat) (hk : kc + 8 ≤ 600000 ∧ ks + 200 ≤ 7302250) {K : zSt → Option Unit} (hK : ∀ σ, X E cL_law mlaw false (zQl E) (kc + 8) (ks + 200) σ [(0, aR 15 (some 5)), (1, aR 11 (some 0)), (2, aR 12 (some 0)), (3, aI i)] 1686 [] (K σ)) : X E cL_law mlaw false (zQl E) kc ks σ [(0, aR 15 (some 5)), (1, aR 11 (some 0)), (2, aR 12 (some 0)), (3, aI i)] 1175 [] (flaw_1175 xs L i σ K) := by
  unfold flaw_1175
  obtain ⟨hk1, hk2⟩ := hk
  refine x_kc (kc' := kc + 0) (ks' := ks + 0) rfl rfl ?_
  refine x_aload_n (pc := 1175) 1 dL_law_1175 rfl rfl ?_
  refine x_aload_n (pc := 1176) 0 dL_law_1176 rfl rfl ?_
  refine x_iload_n (pc := 1177) 3 dL_law_1177 rfl rfl ?_
  refine x_iconst (pc := 1178) 1 dL_law_1178 rfl ?_
  refine x_iadd (pc := 1179) dL_law_1179 ?_
  refine x_sld (pc := 1180) hsc dL_law_1180 (fun m1 => ?_)
  refine x_okc (fun hok2 => ?_)
  refine x_callV (pc := 1181) (as := [aI (xs m1)]) (rest := []) (fun l => c_11_job l (xs m1) σ) md_X11_job ⟨_, _, rfl, by decide⟩ tk_751 tk_752 tk_750 dL_law_1181 rfl ⟨by decide, by decide, by show kc + 0 + 0 ≤ 600000; omega, by show ks + 0 + 0 ≤ 7302250; omega⟩ ⟨(fun h => nomatch h), (fun _ => Or.inr hok2)⟩ rfl (Nat.le_of_ble_eq_true rfl) (fun r3 s4 => ?_)
  show X E _ _ _ _ (kc + 0 + 0) (ks + 0 + 0) _ _ _ [aI r3] _
  refine x_kc (kc' := kc + 0) (ks' := ks + 0) rfl rfl ?_
  refine x_aload_n (pc := 1184) 2 dL_law_1184 rfl rfl ?_
  refine x_aload_n (pc := 1185) 0 dL_law_1185 rfl rfl ?_
  refine x_iload_n (pc := 1186) 3 dL_law_1186 rfl rfl ?_
  refine x_iconst (pc := 1187) 1 dL_law_1187 rfl ?_
  refine x_iadd (pc := 1188) dL_law_1188 ?_
  refine x_sld (pc := 1189) hsc dL_law_1189 (fun m5 => ?_)
  refine x_okc (fun hok6 => ?_)
  refine x_callV (pc := 1190) (as := [aI (xs m5)]) (rest := [aI r3]) (fun l => c_12_job l (xs m5) s4) md_X12_job ⟨_, _, rfl, by decide⟩ tk_1685 tk_1686 tk_1684 dL_law_1190 rfl ⟨by decide, by decide, by show kc + 0 + 0 ≤ 600000; omega, by show ks + 0 + 0 ≤ 7302250; omega⟩ ⟨(fun h => nomatch h), (fun _ => Or.inr hok6)⟩ rfl (Nat.le_of_ble_eq_true rfl) (fun r7 s8 => ?_)
  show X E _ _ _ _ (kc + 0 + 0) (ks + 0 + 0) _ _ _ [aI r7, aI r3] _
  refine x_kc (kc' := kc + 0) (ks' := ks + 0) rfl rfl ?_
  refine x_icmp_eq (pc := 1193) 1686 dL_law_1193 (by decide) (fun _ => ?_) (fun _ => x_none)
  exact x_widen (by omega) (by omega) (hK s8)
noncomputable def flaw_1198 (xs : Nat → Int32) (L : Nat) (i : Int32) (σ : zSt) (K : zSt → Option Unit) : Option Unit :=
  zix (i + 1) L fun m1 =>
  zokc σ <|
  zc2 (f11_plan (xs m1) σ) fun r3 s4 =>
  zix (i + 1) L fun m5 =>
  zokc s4 <|
  zc2 (f12_plan (xs m5) s4) fun r7 s8 =>
  if r3 = r7 then K s8 else none
set_option maxRecDepth 20000 in
theorem xlaw_1198 (E : zEn) {L : Nat} {xs : Nat → Int32} (hsc : zScr E L xs) (i : Int32) (σ : zSt) (kc ks : Nat) (hk : kc + 8 ≤ 600000 ∧ ks + 200 ≤ 7302250) {K : zSt → Option Unit} (hK : ∀ σ, X E cL_law mlaw false (zQl E) (kc + 8) (ks + 200) σ [(0, aR 15 (some 5)), (1, aR 11 (some 0)), (2, aR 12 (some 0)), (3, aI i)] 1686 [] (K σ)) : X E cL_law mlaw false (zQl E) kc ks σ [(0, aR 15 (some 5)), (1, aR 11 (some 0)), (2, aR 12 (some 0)), (3, aI i)] 1198 [] (flaw_1198 xs L i σ K) := by
  unfold flaw_1198
  obtain ⟨hk1, hk2⟩ := hk
  refine x_kc (kc' := kc + 0) (ks' := ks + 0) rfl rfl ?_
  refine x_aload_n (pc := 1198) 1 dL_law_1198 rfl rfl ?_
  refine x_aload_n (pc := 1199) 0 dL_law_1199 rfl rfl ?_
  refine x_iload_n (pc := 1200) 3 dL_law_1200 rfl rfl ?_
  refine x_iconst (pc := 1201) 1 dL_law_1201 rfl ?_
  refine x_iadd (pc := 1202) dL_law_1202 ?_
  refine x_sld (pc := 1203) hsc dL_law_1203 (fun m1 => ?_)
  refine x_okc (fun hok2 => ?_)
  refine x_callV (pc := 1204) (as := [aI (xs m1)]) (rest := []) (fun l => c_11_plan l (xs m1) σ) md_X11_plan ⟨_, _, rfl, by decide⟩ tk_763 tk_764 tk_762 dL_law_1204 rfl ⟨by decide, by decide, by show kc + 0 + 0 ≤ 600000; omega, by show ks + 0 + 0 ≤ 7302250; omega⟩ ⟨(fun h => nomatch h), (fun _ => Or.inr hok2)⟩ rfl (Nat.le_of_ble_eq_true rfl) (fun r3 s4 => ?_)
  show X E _ _ _ _ (kc + 0 + 0) (ks + 0 + 0) _ _ _ [aI r3] _
  refine x_kc (kc' := kc + 0) (ks' := ks + 0) rfl rfl ?_
  refine x_aload_n (pc := 1207) 2 dL_law_1207 rfl rfl ?_
  refine x_aload_n (pc := 1208) 0 dL_law_1208 rfl rfl ?_
  refine x_iload_n (pc := 1209) 3 dL_law_1209 rfl rfl ?_
  refine x_iconst (pc := 1210) 1 dL_law_1210 rfl ?_
  refine x_iadd (pc := 1211) dL_law_1211 ?_
  refine x_sld (pc := 1212) hsc dL_law_1212 (fun m5 => ?_)
  refine x_okc (fun hok6 => ?_)
  refine x_callV (pc := 1213) (as := [aI (xs m5)]) (rest := [aI r3]) (fun l => c_12_plan l (xs m5) s4) md_X12_plan ⟨_, _, rfl, by decide⟩ tk_1689 tk_1690 tk_1688 dL_law_1213 rfl ⟨by decide, by decide, by show kc + 0 + 0 ≤ 600000; omega, by show ks + 0 + 0 ≤ 7302250; omega⟩ ⟨(fun h => nomatch h), (fun _ => Or.inr hok6)⟩ rfl (Nat.le_of_ble_eq_true rfl) (fun r7 s8 => ?_)
  show X E _ _ _ _ (kc + 0 + 0) (ks + 0 + 0) _ _ _ [aI r7, aI r3] _
  refine x_kc (kc' := kc + 0) (ks' := ks + 0) rfl rfl ?_
  refine x_icmp_eq (pc := 1216) 1686 dL_law_1216 (by decide) (fun _ => ?_) (fun _ => x_none)
  exact x_widen (by omega) (by omega) (hK s8)
noncomputable def flaw_1221 (xs : Nat → Int32) (L : Nat) (i : Int32) (σ : zSt) (K : zSt → Option Unit) : Option Unit :=
  zix (i + 1) L fun m1 =>
  zokc σ <|
  zc1 (f11_planned (xs m1) σ) fun r3 =>
  zix (i + 1) L fun m4 =>
  zokc σ <|
  zc1 (f12_planned (xs m4) σ) fun r6 =>
  if r3 = r6 then K σ else none
set_option maxRecDepth 20000 in
theorem xlaw_1221 (E : zEn) {L : Nat} {xs : Nat → Int32} (hsc : zScr E L xs) (i : Int32) (σ : zSt) (kc ks : Nat) (hk : kc + 8 ≤ 600000 ∧ ks + 200 ≤ 7302250) {K : zSt → Option Unit} (hK : ∀ σ, X E cL_law mlaw false (zQl E) (kc + 8) (ks + 200) σ [(0, aR 15 (some 5)), (1, aR 11 (some 0)), (2, aR 12 (some 0)), (3, aI i)] 1686 [] (K σ)) : X E cL_law mlaw false (zQl E) kc ks σ [(0, aR 15 (some 5)), (1, aR 11 (some 0)), (2, aR 12 (some 0)), (3, aI i)] 1221 [] (flaw_1221 xs L i σ K) := by
  unfold flaw_1221
  obtain ⟨hk1, hk2⟩ := hk
  refine x_kc (kc' := kc + 0) (ks' := ks + 0) rfl rfl ?_
  refine x_aload_n (pc := 1221) 1 dL_law_1221 rfl rfl ?_
  refine x_aload_n (pc := 1222) 0 dL_law_1222 rfl rfl ?_
  refine x_iload_n (pc := 1223) 3 dL_law_1223 rfl rfl ?_
  refine x_iconst (pc := 1224) 1 dL_law_1224 rfl ?_
  refine x_iadd (pc := 1225) dL_law_1225 ?_
  refine x_sld (pc := 1226) hsc dL_law_1226 (fun m1 => ?_)
  refine x_okc (fun hok2 => ?_)
  refine x_callVr (pc := 1227) (as := [aI (xs m1)]) (rest := []) (fun l => c_11_planned l (xs m1) σ) md_X11_planned ⟨_, _, rfl, by decide⟩ tk_812 tk_813 tk_811 dL_law_1227 rfl ⟨by decide, by decide, by show kc + 0 + 0 ≤ 600000; omega, by show ks + 0 + 0 ≤ 7302250; omega⟩ ⟨(fun h => nomatch h), (fun _ => Or.inr hok2)⟩ rfl (Nat.le_of_ble_eq_true rfl) (fun r3 => ?_)
  show X E _ _ _ _ (kc + 0 + 0) (ks + 0 + 0) _ _ _ [aI r3] _
  refine x_kc (kc' := kc + 0) (ks' := ks + 0) rfl rfl ?_
  refine x_aload_n (pc := 1230) 2 dL_law_1230 rfl rfl ?_
  refine x_aload_n (pc := 1231) 0 dL_law_1231 rfl rfl ?_
  refine x_iload_n (pc := 1232) 3 dL_law_1232 rfl rfl ?_
  refine x_iconst (pc := 1233) 1 dL_law_1233 rfl ?_
  refine x_iadd (pc := 1234) dL_law_1234 ?_
  refine x_sld (pc := 1235) hsc dL_law_1235 (fun m4 => ?_)
  refine x_okc (fun hok5 => ?_)
  refine x_callVr (pc := 1236) (as := [aI (xs m4)]) (rest := [aI r3]) (fun l => c_12_planned l (xs m4) σ) md_X12_planned ⟨_, _, rfl, by decide⟩ tk_1717 tk_1718 tk_1716 dL_law_1236 rfl ⟨by decide, by decide, by show kc + 0 + 0 ≤ 600000; omega, by show ks + 0 + 0 ≤ 7302250; omega⟩ ⟨(fun h => nomatch h), (fun _ => Or.inr hok5)⟩ rfl (Nat.le_of_ble_eq_true rfl) (fun r6 => ?_)
  show X E _ _ _ _ (kc + 0 + 0) (ks + 0 + 0) _ _ _ [aI r6, aI r3] _
  refine x_kc (kc' := kc + 0) (ks' := ks + 0) rfl rfl ?_
  refine x_icmp_eq (pc := 1239) 1686 dL_law_1239 (by decide) (fun _ => ?_) (fun _ => x_none)
  exact x_widen (by omega) (by omega) (hK σ)
noncomputable def flaw_1244 (xs : Nat → Int32) (L : Nat) (i : Int32) (σ : zSt) (K : zSt → Option Unit) : Option Unit :=
  zix (i + 1) L fun m1 =>
  zix (i + 2) L fun m2 =>
  zokc σ <|
  zc2 (f11_feed (xs m1) (xs m2) σ) fun r4 s5 =>
  zix (i + 1) L fun m6 =>
  zix (i + 2) L fun m7 =>
  zokc s5 <|
  zc2 (f12_feed (xs m6) (xs m7) s5) fun r9 s10 =>
  if r4 = r9 then K s10 else none
set_option maxRecDepth 20000 in
theorem xlaw_1244 (E : zEn) {L : Nat} {xs : Nat → Int32} (hsc : zScr E L xs) (i : Int32) (σ : zSt) (kc ks : Nat) (hk : kc + 8 ≤ 600000 ∧ ks + 200 ≤ 7302250) {K : zSt → Option Unit} (hK : ∀ σ, X E cL_law mlaw false (zQl E) (kc + 8) (ks + 200) σ [(0, aR 15 (some 5)), (1, aR 11 (some 0)), (2, aR 12 (some 0)), (3, aI i)] 1686 [] (K σ)) : X E cL_law mlaw false (zQl E) kc ks σ [(0, aR 15 (some 5)), (1, aR 11 (some 0)), (2, aR 12 (some 0)), (3, aI i)] 1244 [] (flaw_1244 xs L i σ K) := by
  unfold flaw_1244
  obtain ⟨hk1, hk2⟩ := hk
  refine x_kc (kc' := kc + 0) (ks' := ks + 0) rfl rfl ?_
  refine x_aload_n (pc := 1244) 1 dL_law_1244 rfl rfl ?_
  refine x_aload_n (pc := 1245) 0 dL_law_1245 rfl rfl ?_
  refine x_iload_n (pc := 1246) 3 dL_law_1246 rfl rfl ?_
  refine x_iconst (pc := 1247) 1 dL_law_1247 rfl ?_
  refine x_iadd (pc := 1248) dL_law_1248 ?_
  refine x_sld (pc := 1249) hsc dL_law_1249 (fun m1 => ?_)
  refine x_aload_n (pc := 1250) 0 dL_law_1250 rfl rfl ?_
  refine x_iload_n (pc := 1251) 3 dL_law_1251 rfl rfl ?_
  refine x_iconst (pc := 1252) 2 dL_law_1252 rfl ?_
  refine x_iadd (pc := 1253) dL_law_1253 ?_
  refine x_sld (pc := 1254) hsc dL_law_1254 (fun m2 => ?_)
  refine x_okc (fun hok3 => ?_)
  refine x_callV (pc := 1255) (as := [aI (xs m1), aI (xs m2)]) (rest := []) (fun l => c_11_feed l (xs m1) (xs m2) σ) md_X11_feed ⟨_, _, rfl, by decide⟩ tk_816 tk_817 tk_815 dL_law_1255 rfl ⟨by decide, by decide, by show kc + 0 + 0 ≤ 600000; omega, by show ks + 0 + 0 ≤ 7302250; omega⟩ ⟨(fun h => nomatch h), (fun _ => Or.inr hok3)⟩ rfl (Nat.le_of_ble_eq_true rfl) (fun r4 s5 => ?_)
  show X E _ _ _ _ (kc + 0 + 0) (ks + 0 + 0) _ _ _ [aI r4] _
  refine x_kc (kc' := kc + 0) (ks' := ks + 0) rfl rfl ?_
  refine x_aload_n (pc := 1258) 2 dL_law_1258 rfl rfl ?_
  refine x_aload_n (pc := 1259) 0 dL_law_1259 rfl rfl ?_
  refine x_iload_n (pc := 1260) 3 dL_law_1260 rfl rfl ?_
  refine x_iconst (pc := 1261) 1 dL_law_1261 rfl ?_
  refine x_iadd (pc := 1262) dL_law_1262 ?_
  refine x_sld (pc := 1263) hsc dL_law_1263 (fun m6 => ?_)
  refine x_aload_n (pc := 1264) 0 dL_law_1264 rfl rfl ?_
  refine x_iload_n (pc := 1265) 3 dL_law_1265 rfl rfl ?_
  refine x_iconst (pc := 1266) 2 dL_law_1266 rfl ?_
  refine x_iadd (pc := 1267) dL_law_1267 ?_
  refine x_sld (pc := 1268) hsc dL_law_1268 (fun m7 => ?_)
  refine x_okc (fun hok8 => ?_)
  refine x_callV (pc := 1269) (as := [aI (xs m6), aI (xs m7)]) (rest := [aI r4]) (fun l => c_12_feed l (xs m6) (xs m7) s5) md_X12_feed ⟨_, _, rfl, by decide⟩ tk_1721 tk_1722 tk_1720 dL_law_1269 rfl ⟨by decide, by decide, by show kc + 0 + 0 ≤ 600000; omega, by show ks + 0 + 0 ≤ 7302250; omega⟩ ⟨(fun h => nomatch h), (fun _ => Or.inr hok8)⟩ rfl (Nat.le_of_ble_eq_true rfl) (fun r9 s10 => ?_)
  show X E _ _ _ _ (kc + 0 + 0) (ks + 0 + 0) _ _ _ [aI r9, aI r4] _
  refine x_kc (kc' := kc + 0) (ks' := ks + 0) rfl rfl ?_
  refine x_icmp_eq (pc := 1272) 1686 dL_law_1272 (by decide) (fun _ => ?_) (fun _ => x_none)
  exact x_widen (by omega) (by omega) (hK s10)
noncomputable def flaw_1277 (xs : Nat → Int32) (L : Nat) (i : Int32) (σ : zSt) (K : zSt → Option Unit) : Option Unit :=
  zix (i + 1) L fun m1 =>
  zix (i + 2) L fun m2 =>
  zc2 (f11_text (xs m1) (xs m2) σ) fun r3 s4 =>
  zix (i + 1) L fun m5 =>
  zix (i + 2) L fun m6 =>
  zokc s4 <|
  zc2 (f12_text (xs m5) (xs m6) s4) fun r8 s9 =>
  if r3 = r8 then K s9 else none
set_option maxRecDepth 20000 in
theorem xlaw_1277 (E : zEn) {L : Nat} {xs : Nat → Int32} (hsc : zScr E L xs) (i : Int32) (σ : zSt) (kc ks : Nat) (hk : kc + 8 ≤ 600000 ∧ ks + 200 ≤ 7302250) {K : zSt → Option Unit} (hK : ∀ σ, X E cL_law mlaw false (zQl E) (kc + 8) (ks + 200) σ [(0, aR 15 (some 5)), (1, aR 11 (some 0)), (2, aR 12 (some 0)), (3, aI i)] 1686 [] (K σ)) : X E cL_law mlaw false (zQl E) kc ks σ [(0, aR 15 (some 5)), (1, aR 11 (some 0)), (2, aR 12 (some 0)), (3, aI i)] 1277 [] (flaw_1277 xs L i σ K) := by
  unfold flaw_1277
  obtain ⟨hk1, hk2⟩ := hk
  refine x_kc (kc' := kc + 0) (ks' := ks + 0) rfl rfl ?_
  refine x_aload_n (pc := 1277) 1 dL_law_1277 rfl rfl ?_
  refine x_aload_n (pc := 1278) 0 dL_law_1278 rfl rfl ?_
  refine x_iload_n (pc := 1279) 3 dL_law_1279 rfl rfl ?_
  refine x_iconst (pc := 1280) 1 dL_law_1280 rfl ?_
  refine x_iadd (pc := 1281) dL_law_1281 ?_
  refine x_sld (pc := 1282) hsc dL_law_1282 (fun m1 => ?_)
  refine x_aload_n (pc := 1283) 0 dL_law_1283 rfl rfl ?_
  refine x_iload_n (pc := 1284) 3 dL_law_1284 rfl rfl ?_
  refine x_iconst (pc := 1285) 2 dL_law_1285 rfl ?_
  refine x_iadd (pc := 1286) dL_law_1286 ?_
  refine x_sld (pc := 1287) hsc dL_law_1287 (fun m2 => ?_)
  refine x_callV (pc := 1288) (as := [aI (xs m1), aI (xs m2)]) (rest := []) (fun l => c_11_text l (xs m1) (xs m2) σ) md_X11_text ⟨_, _, rfl, by decide⟩ tk_820 tk_821 tk_819 dL_law_1288 rfl ⟨by decide, by decide, by show kc + 0 + 2 ≤ 600000; omega, by show ks + 0 + 163 ≤ 7302250; omega⟩ ⟨(fun h => nomatch h), (fun h => nomatch h)⟩ rfl (Nat.le_of_ble_eq_true rfl) (fun r3 s4 => ?_)
  show X E _ _ _ _ (kc + 0 + 2) (ks + 0 + 163) _ _ _ [aI r3] _
  refine x_kc (kc' := kc + 2) (ks' := ks + 163) rfl rfl ?_
  refine x_aload_n (pc := 1291) 2 dL_law_1291 rfl rfl ?_
  refine x_aload_n (pc := 1292) 0 dL_law_1292 rfl rfl ?_
  refine x_iload_n (pc := 1293) 3 dL_law_1293 rfl rfl ?_
  refine x_iconst (pc := 1294) 1 dL_law_1294 rfl ?_
  refine x_iadd (pc := 1295) dL_law_1295 ?_
  refine x_sld (pc := 1296) hsc dL_law_1296 (fun m5 => ?_)
  refine x_aload_n (pc := 1297) 0 dL_law_1297 rfl rfl ?_
  refine x_iload_n (pc := 1298) 3 dL_law_1298 rfl rfl ?_
  refine x_iconst (pc := 1299) 2 dL_law_1299 rfl ?_
  refine x_iadd (pc := 1300) dL_law_1300 ?_
  refine x_sld (pc := 1301) hsc dL_law_1301 (fun m6 => ?_)
  refine x_okc (fun hok7 => ?_)
  refine x_callV (pc := 1302) (as := [aI (xs m5), aI (xs m6)]) (rest := [aI r3]) (fun l => c_12_text l (xs m5) (xs m6) s4) md_X12_text ⟨_, _, rfl, by decide⟩ tk_1725 tk_1726 tk_1724 dL_law_1302 rfl ⟨by decide, by decide, by show kc + 2 + 0 ≤ 600000; omega, by show ks + 163 + 0 ≤ 7302250; omega⟩ ⟨(fun h => nomatch h), (fun _ => Or.inr hok7)⟩ rfl (Nat.le_of_ble_eq_true rfl) (fun r8 s9 => ?_)
  show X E _ _ _ _ (kc + 2 + 0) (ks + 163 + 0) _ _ _ [aI r8, aI r3] _
  refine x_kc (kc' := kc + 2) (ks' := ks + 163) rfl rfl ?_
  refine x_icmp_eq (pc := 1305) 1686 dL_law_1305 (by decide) (fun _ => ?_) (fun _ => x_none)
  exact x_widen (by omega) (by omega) (hK s9)
noncomputable def flaw_1310 (xs : Nat → Int32) (L : Nat) (i : Int32) (σ : zSt) (K : zSt → Option Unit) : Option Unit :=
  zix (i + 1) L fun m1 =>
  zix (i + 2) L fun m2 =>
  zix (i + 3) L fun m3 =>
  zokc σ <|
  zc1 (f11_inForce (xs m1) (xs m2) (xs m3) σ) fun r5 =>
  zix (i + 1) L fun m6 =>
  zix (i + 2) L fun m7 =>
  zix (i + 3) L fun m8 =>
  zokc σ <|
  zc1 (f12_inForce (xs m6) (xs m7) (xs m8) σ) fun r10 =>
  if r5 = r10 then K σ else none
set_option maxRecDepth 20000 in
theorem xlaw_1310 (E : zEn) {L : Nat} {xs : Nat → Int32} (hsc : zScr E L xs) (i : Int32) (σ : zSt) (kc ks : Nat) (hk : kc + 8 ≤ 600000 ∧ ks + 200 ≤ 7302250) {K : zSt → Option Unit} (hK : ∀ σ, X E cL_law mlaw false (zQl E) (kc + 8) (ks + 200) σ [(0, aR 15 (some 5)), (1, aR 11 (some 0)), (2, aR 12 (some 0)), (3, aI i)] 1686 [] (K σ)) : X E cL_law mlaw false (zQl E) kc ks σ [(0, aR 15 (some 5)), (1, aR 11 (some 0)), (2, aR 12 (some 0)), (3, aI i)] 1310 [] (flaw_1310 xs L i σ K) := by
  unfold flaw_1310
  obtain ⟨hk1, hk2⟩ := hk
  refine x_kc (kc' := kc + 0) (ks' := ks + 0) rfl rfl ?_
  refine x_aload_n (pc := 1310) 1 dL_law_1310 rfl rfl ?_
  refine x_aload_n (pc := 1311) 0 dL_law_1311 rfl rfl ?_
  refine x_iload_n (pc := 1312) 3 dL_law_1312 rfl rfl ?_
  refine x_iconst (pc := 1313) 1 dL_law_1313 rfl ?_
  refine x_iadd (pc := 1314) dL_law_1314 ?_
  refine x_sld (pc := 1315) hsc dL_law_1315 (fun m1 => ?_)
  refine x_aload_n (pc := 1316) 0 dL_law_1316 rfl rfl ?_
  refine x_iload_n (pc := 1317) 3 dL_law_1317 rfl rfl ?_
  refine x_iconst (pc := 1318) 2 dL_law_1318 rfl ?_
  refine x_iadd (pc := 1319) dL_law_1319 ?_
  refine x_sld (pc := 1320) hsc dL_law_1320 (fun m2 => ?_)
  refine x_aload_n (pc := 1321) 0 dL_law_1321 rfl rfl ?_
  refine x_iload_n (pc := 1322) 3 dL_law_1322 rfl rfl ?_
  refine x_iconst (pc := 1323) 3 dL_law_1323 rfl ?_
  refine x_iadd (pc := 1324) dL_law_1324 ?_
  refine x_sld (pc := 1325) hsc dL_law_1325 (fun m3 => ?_)
  refine x_okc (fun hok4 => ?_)
  refine x_callVr (pc := 1326) (as := [aI (xs m1), aI (xs m2), aI (xs m3)]) (rest := []) (fun l => c_11_inForce l (xs m1) (xs m2) (xs m3) σ) md_X11_inForce ⟨_, _, rfl, by decide⟩ tk_975 tk_976 tk_974 dL_law_1326 rfl ⟨by decide, by decide, by show kc + 0 + 0 ≤ 600000; omega, by show ks + 0 + 0 ≤ 7302250; omega⟩ ⟨(fun h => nomatch h), (fun _ => Or.inr hok4)⟩ rfl (Nat.le_of_ble_eq_true rfl) (fun r5 => ?_)
  show X E _ _ _ _ (kc + 0 + 0) (ks + 0 + 0) _ _ _ [aI r5] _
  refine x_kc (kc' := kc + 0) (ks' := ks + 0) rfl rfl ?_
  refine x_aload_n (pc := 1329) 2 dL_law_1329 rfl rfl ?_
  refine x_aload_n (pc := 1330) 0 dL_law_1330 rfl rfl ?_
  refine x_iload_n (pc := 1331) 3 dL_law_1331 rfl rfl ?_
  refine x_iconst (pc := 1332) 1 dL_law_1332 rfl ?_
  refine x_iadd (pc := 1333) dL_law_1333 ?_
  refine x_sld (pc := 1334) hsc dL_law_1334 (fun m6 => ?_)
  refine x_aload_n (pc := 1335) 0 dL_law_1335 rfl rfl ?_
  refine x_iload_n (pc := 1336) 3 dL_law_1336 rfl rfl ?_
  refine x_iconst (pc := 1337) 2 dL_law_1337 rfl ?_
  refine x_iadd (pc := 1338) dL_law_1338 ?_
  refine x_sld (pc := 1339) hsc dL_law_1339 (fun m7 => ?_)
  refine x_aload_n (pc := 1340) 0 dL_law_1340 rfl rfl ?_
  refine x_iload_n (pc := 1341) 3 dL_law_1341 rfl rfl ?_
  refine x_iconst (pc := 1342) 3 dL_law_1342 rfl ?_
  refine x_iadd (pc := 1343) dL_law_1343 ?_
  refine x_sld (pc := 1344) hsc dL_law_1344 (fun m8 => ?_)
  refine x_okc (fun hok9 => ?_)
  refine x_callVr (pc := 1345) (as := [aI (xs m6), aI (xs m7), aI (xs m8)]) (rest := [aI r5]) (fun l => c_12_inForce l (xs m6) (xs m7) (xs m8) σ) md_X12_inForce ⟨_, _, rfl, by decide⟩ tk_1772 tk_1773 tk_1771 dL_law_1345 rfl ⟨by decide, by decide, by show kc + 0 + 0 ≤ 600000; omega, by show ks + 0 + 0 ≤ 7302250; omega⟩ ⟨(fun h => nomatch h), (fun _ => Or.inr hok9)⟩ rfl (Nat.le_of_ble_eq_true rfl) (fun r10 => ?_)
  show X E _ _ _ _ (kc + 0 + 0) (ks + 0 + 0) _ _ _ [aI r10, aI r5] _
  refine x_kc (kc' := kc + 0) (ks' := ks + 0) rfl rfl ?_
  refine x_icmp_eq (pc := 1348) 1686 dL_law_1348 (by decide) (fun _ => ?_) (fun _ => x_none)
  exact x_widen (by omega) (by omega) (hK σ)
noncomputable def flaw_1353 (xs : Nat → Int32) (L : Nat) (i : Int32) (σ : zSt) (K : zSt → Option Unit) : Option Unit :=
  zix (i + 1) L fun m1 =>
  zix (i + 2) L fun m2 =>
  zokc σ <|
  zc2 (f11_judge (xs m1) (xs m2) σ) fun r4 s5 =>
  zix (i + 1) L fun m6 =>
  zix (i + 2) L fun m7 =>
  zokc s5 <|
  zc2 (f12_judge (xs m6) (xs m7) s5) fun r9 s10 =>
  if r4 = r9 then K s10 else none
set_option maxRecDepth 20000 in
theorem xlaw_1353 (E : zEn) {L : Nat} {xs : Nat → Int32} (hsc : zScr E L xs) (i : Int32) (σ : zSt) (kc ks : Nat) (hk : kc + 8 ≤ 600000 ∧ ks + 200 ≤ 7302250) {K : zSt → Option Unit} (hK : ∀ σ, X E cL_law mlaw false (zQl E) (kc + 8) (ks + 200) σ [(0, aR 15 (some 5)), (1, aR 11 (some 0)), (2, aR 12 (some 0)), (3, aI i)] 1686 [] (K σ)) : X E cL_law mlaw false (zQl E) kc ks σ [(0, aR 15 (some 5)), (1, aR 11 (some 0)), (2, aR 12 (some 0)), (3, aI i)] 1353 [] (flaw_1353 xs L i σ K) := by
  unfold flaw_1353
  obtain ⟨hk1, hk2⟩ := hk
  refine x_kc (kc' := kc + 0) (ks' := ks + 0) rfl rfl ?_
  refine x_aload_n (pc := 1353) 1 dL_law_1353 rfl rfl ?_
  refine x_aload_n (pc := 1354) 0 dL_law_1354 rfl rfl ?_
  refine x_iload_n (pc := 1355) 3 dL_law_1355 rfl rfl ?_
  refine x_iconst (pc := 1356) 1 dL_law_1356 rfl ?_
  refine x_iadd (pc := 1357) dL_law_1357 ?_
  refine x_sld (pc := 1358) hsc dL_law_1358 (fun m1 => ?_)
  refine x_aload_n (pc := 1359) 0 dL_law_1359 rfl rfl ?_
  refine x_iload_n (pc := 1360) 3 dL_law_1360 rfl rfl ?_
  refine x_iconst (pc := 1361) 2 dL_law_1361 rfl ?_
  refine x_iadd (pc := 1362) dL_law_1362 ?_
  refine x_sld (pc := 1363) hsc dL_law_1363 (fun m2 => ?_)
  refine x_okc (fun hok3 => ?_)
  refine x_callV (pc := 1364) (as := [aI (xs m1), aI (xs m2)]) (rest := []) (fun l => c_11_judge l (xs m1) (xs m2) σ) md_X11_judge ⟨_, _, rfl, by decide⟩ tk_983 tk_984 tk_982 dL_law_1364 rfl ⟨by decide, by decide, by show kc + 0 + 0 ≤ 600000; omega, by show ks + 0 + 0 ≤ 7302250; omega⟩ ⟨(fun h => nomatch h), (fun _ => Or.inr hok3)⟩ rfl (Nat.le_of_ble_eq_true rfl) (fun r4 s5 => ?_)
  show X E _ _ _ _ (kc + 0 + 0) (ks + 0 + 0) _ _ _ [aI r4] _
  refine x_kc (kc' := kc + 0) (ks' := ks + 0) rfl rfl ?_
  refine x_aload_n (pc := 1367) 2 dL_law_1367 rfl rfl ?_
  refine x_aload_n (pc := 1368) 0 dL_law_1368 rfl rfl ?_
  refine x_iload_n (pc := 1369) 3 dL_law_1369 rfl rfl ?_
  refine x_iconst (pc := 1370) 1 dL_law_1370 rfl ?_
  refine x_iadd (pc := 1371) dL_law_1371 ?_
  refine x_sld (pc := 1372) hsc dL_law_1372 (fun m6 => ?_)
  refine x_aload_n (pc := 1373) 0 dL_law_1373 rfl rfl ?_
  refine x_iload_n (pc := 1374) 3 dL_law_1374 rfl rfl ?_
  refine x_iconst (pc := 1375) 2 dL_law_1375 rfl ?_
  refine x_iadd (pc := 1376) dL_law_1376 ?_
  refine x_sld (pc := 1377) hsc dL_law_1377 (fun m7 => ?_)
  refine x_okc (fun hok8 => ?_)
  refine x_callV (pc := 1378) (as := [aI (xs m6), aI (xs m7)]) (rest := [aI r4]) (fun l => c_12_judge l (xs m6) (xs m7) s5) md_X12_judge ⟨_, _, rfl, by decide⟩ tk_1780 tk_1781 tk_1779 dL_law_1378 rfl ⟨by decide, by decide, by show kc + 0 + 0 ≤ 600000; omega, by show ks + 0 + 0 ≤ 7302250; omega⟩ ⟨(fun h => nomatch h), (fun _ => Or.inr hok8)⟩ rfl (Nat.le_of_ble_eq_true rfl) (fun r9 s10 => ?_)
  show X E _ _ _ _ (kc + 0 + 0) (ks + 0 + 0) _ _ _ [aI r9, aI r4] _
  refine x_kc (kc' := kc + 0) (ks' := ks + 0) rfl rfl ?_
  refine x_icmp_eq (pc := 1381) 1686 dL_law_1381 (by decide) (fun _ => ?_) (fun _ => x_none)
  exact x_widen (by omega) (by omega) (hK s10)
noncomputable def flaw_1386 (xs : Nat → Int32) (L : Nat) (i : Int32) (σ : zSt) (K : zSt → Option Unit) : Option Unit :=
  zix (i + 1) L fun m1 =>
  zokc σ <|
  zc2 (f11_free (xs m1) σ) fun r3 s4 =>
  zix (i + 1) L fun m5 =>
  zokc s4 <|
  zc2 (f12_free (xs m5) s4) fun r7 s8 =>
  if r3 = r7 then K s8 else none
set_option maxRecDepth 20000 in
theorem xlaw_1386 (E : zEn) {L : Nat} {xs : Nat → Int32} (hsc : zScr E L xs) (i : Int32) (σ : zSt) (kc ks : Nat) (hk : kc + 8 ≤ 600000 ∧ ks + 200 ≤ 7302250) {K : zSt → Option Unit} (hK : ∀ σ, X E cL_law mlaw false (zQl E) (kc + 8) (ks + 200) σ [(0, aR 15 (some 5)), (1, aR 11 (some 0)), (2, aR 12 (some 0)), (3, aI i)] 1686 [] (K σ)) : X E cL_law mlaw false (zQl E) kc ks σ [(0, aR 15 (some 5)), (1, aR 11 (some 0)), (2, aR 12 (some 0)), (3, aI i)] 1386 [] (flaw_1386 xs L i σ K) := by
  unfold flaw_1386
  obtain ⟨hk1, hk2⟩ := hk
  refine x_kc (kc' := kc + 0) (ks' := ks + 0) rfl rfl ?_
  refine x_aload_n (pc := 1386) 1 dL_law_1386 rfl rfl ?_
  refine x_aload_n (pc := 1387) 0 dL_law_1387 rfl rfl ?_
  refine x_iload_n (pc := 1388) 3 dL_law_1388 rfl rfl ?_
  refine x_iconst (pc := 1389) 1 dL_law_1389 rfl ?_
  refine x_iadd (pc := 1390) dL_law_1390 ?_
  refine x_sld (pc := 1391) hsc dL_law_1391 (fun m1 => ?_)
  refine x_okc (fun hok2 => ?_)
  refine x_callV (pc := 1392) (as := [aI (xs m1)]) (rest := []) (fun l => c_11_free l (xs m1) σ) md_X11_free ⟨_, _, rfl, by decide⟩ tk_1051 tk_1052 tk_1050 dL_law_1392 rfl ⟨by decide, by decide, by show kc + 0 + 0 ≤ 600000; omega, by show ks + 0 + 0 ≤ 7302250; omega⟩ ⟨(fun h => nomatch h), (fun _ => Or.inr hok2)⟩ rfl (Nat.le_of_ble_eq_true rfl) (fun r3 s4 => ?_)
  show X E _ _ _ _ (kc + 0 + 0) (ks + 0 + 0) _ _ _ [aI r3] _
  refine x_kc (kc' := kc + 0) (ks' := ks + 0) rfl rfl ?_
  refine x_aload_n (pc := 1395) 2 dL_law_1395 rfl rfl ?_
  refine x_aload_n (pc := 1396) 0 dL_law_1396 rfl rfl ?_
  refine x_iload_n (pc := 1397) 3 dL_law_1397 rfl rfl ?_
  refine x_iconst (pc := 1398) 1 dL_law_1398 rfl ?_
  refine x_iadd (pc := 1399) dL_law_1399 ?_
  refine x_sld (pc := 1400) hsc dL_law_1400 (fun m5 => ?_)
  refine x_okc (fun hok6 => ?_)
  refine x_callV (pc := 1401) (as := [aI (xs m5)]) (rest := [aI r3]) (fun l => c_12_free l (xs m5) s4) md_X12_free ⟨_, _, rfl, by decide⟩ tk_1792 tk_1793 tk_1791 dL_law_1401 rfl ⟨by decide, by decide, by show kc + 0 + 0 ≤ 600000; omega, by show ks + 0 + 0 ≤ 7302250; omega⟩ ⟨(fun h => nomatch h), (fun _ => Or.inr hok6)⟩ rfl (Nat.le_of_ble_eq_true rfl) (fun r7 s8 => ?_)
  show X E _ _ _ _ (kc + 0 + 0) (ks + 0 + 0) _ _ _ [aI r7, aI r3] _
  refine x_kc (kc' := kc + 0) (ks' := ks + 0) rfl rfl ?_
  refine x_icmp_eq (pc := 1404) 1686 dL_law_1404 (by decide) (fun _ => ?_) (fun _ => x_none)
  exact x_widen (by omega) (by omega) (hK s8)
noncomputable def flaw_1409 (xs : Nat → Int32) (L : Nat) (i : Int32) (σ : zSt) (K : zSt → Option Unit) : Option Unit :=
  zix (i + 1) L fun m1 =>
  zokc σ <|
  zc2 (f11_take (xs m1) σ) fun r3 s4 =>
  zix (i + 1) L fun m5 =>
  zokc s4 <|
  zc2 (f12_take (xs m5) s4) fun r7 s8 =>
  if r3 = r7 then K s8 else none
set_option maxRecDepth 20000 in
theorem xlaw_1409 (E : zEn) {L : Nat} {xs : Nat → Int32} (hsc : zScr E L xs) (i : Int32) (σ : zSt) (kc ks : Nat) (hk : kc + 8 ≤ 600000 ∧ ks + 200 ≤ 7302250) {K : zSt → Option Unit} (hK : ∀ σ, X E cL_law mlaw false (zQl E) (kc + 8) (ks + 200) σ [(0, aR 15 (some 5)), (1, aR 11 (some 0)), (2, aR 12 (some 0)), (3, aI i)] 1686 [] (K σ)) : X E cL_law mlaw false (zQl E) kc ks σ [(0, aR 15 (some 5)), (1, aR 11 (some 0)), (2, aR 12 (some 0)), (3, aI i)] 1409 [] (flaw_1409 xs L i σ K) := by
  unfold flaw_1409
  obtain ⟨hk1, hk2⟩ := hk
  refine x_kc (kc' := kc + 0) (ks' := ks + 0) rfl rfl ?_
  refine x_aload_n (pc := 1409) 1 dL_law_1409 rfl rfl ?_
  refine x_aload_n (pc := 1410) 0 dL_law_1410 rfl rfl ?_
  refine x_iload_n (pc := 1411) 3 dL_law_1411 rfl rfl ?_
  refine x_iconst (pc := 1412) 1 dL_law_1412 rfl ?_
  refine x_iadd (pc := 1413) dL_law_1413 ?_
  refine x_sld (pc := 1414) hsc dL_law_1414 (fun m1 => ?_)
  refine x_okc (fun hok2 => ?_)
  refine x_callV (pc := 1415) (as := [aI (xs m1)]) (rest := []) (fun l => c_11_take l (xs m1) σ) md_X11_take ⟨_, _, rfl, by decide⟩ tk_1085 tk_1086 tk_1084 dL_law_1415 rfl ⟨by decide, by decide, by show kc + 0 + 0 ≤ 600000; omega, by show ks + 0 + 0 ≤ 7302250; omega⟩ ⟨(fun h => nomatch h), (fun _ => Or.inr hok2)⟩ rfl (Nat.le_of_ble_eq_true rfl) (fun r3 s4 => ?_)
  show X E _ _ _ _ (kc + 0 + 0) (ks + 0 + 0) _ _ _ [aI r3] _
  refine x_kc (kc' := kc + 0) (ks' := ks + 0) rfl rfl ?_
  refine x_aload_n (pc := 1418) 2 dL_law_1418 rfl rfl ?_
  refine x_aload_n (pc := 1419) 0 dL_law_1419 rfl rfl ?_
  refine x_iload_n (pc := 1420) 3 dL_law_1420 rfl rfl ?_
  refine x_iconst (pc := 1421) 1 dL_law_1421 rfl ?_
  refine x_iadd (pc := 1422) dL_law_1422 ?_
  refine x_sld (pc := 1423) hsc dL_law_1423 (fun m5 => ?_)
  refine x_okc (fun hok6 => ?_)
  refine x_callV (pc := 1424) (as := [aI (xs m5)]) (rest := [aI r3]) (fun l => c_12_take l (xs m5) s4) md_X12_take ⟨_, _, rfl, by decide⟩ tk_1796 tk_1797 tk_1795 dL_law_1424 rfl ⟨by decide, by decide, by show kc + 0 + 0 ≤ 600000; omega, by show ks + 0 + 0 ≤ 7302250; omega⟩ ⟨(fun h => nomatch h), (fun _ => Or.inr hok6)⟩ rfl (Nat.le_of_ble_eq_true rfl) (fun r7 s8 => ?_)
  show X E _ _ _ _ (kc + 0 + 0) (ks + 0 + 0) _ _ _ [aI r7, aI r3] _
  refine x_kc (kc' := kc + 0) (ks' := ks + 0) rfl rfl ?_
  refine x_icmp_eq (pc := 1427) 1686 dL_law_1427 (by decide) (fun _ => ?_) (fun _ => x_none)
  exact x_widen (by omega) (by omega) (hK s8)
noncomputable def flaw_1432 (xs : Nat → Int32) (L : Nat) (i : Int32) (σ : zSt) (K : zSt → Option Unit) : Option Unit :=
  zix (i + 1) L fun m1 =>
  zix (i + 2) L fun m2 =>
  zix (i + 3) L fun m3 =>
  zokc σ <|
  zc1 (f11_doubles (xs m1) (xs m2) (xs m3) σ) fun r5 =>
  zix (i + 1) L fun m6 =>
  zix (i + 2) L fun m7 =>
  zix (i + 3) L fun m8 =>
  zokc σ <|
  zc1 (f12_doubles (xs m6) (xs m7) (xs m8) σ) fun r10 =>
  if r5 = r10 then K σ else none
set_option maxRecDepth 20000 in
theorem xlaw_1432 (E : zEn) {L : Nat} {xs : Nat → Int32} (hsc : zScr E L xs) (i : Int32) (σ : zSt) (kc ks : Nat) (hk : kc + 8 ≤ 600000 ∧ ks + 200 ≤ 7302250) {K : zSt → Option Unit} (hK : ∀ σ, X E cL_law mlaw false (zQl E) (kc + 8) (ks + 200) σ [(0, aR 15 (some 5)), (1, aR 11 (some 0)), (2, aR 12 (some 0)), (3, aI i)] 1686 [] (K σ)) : X E cL_law mlaw false (zQl E) kc ks σ [(0, aR 15 (some 5)), (1, aR 11 (some 0)), (2, aR 12 (some 0)), (3, aI i)] 1432 [] (flaw_1432 xs L i σ K) := by
  unfold flaw_1432
  obtain ⟨hk1, hk2⟩ := hk
  refine x_kc (kc' := kc + 0) (ks' := ks + 0) rfl rfl ?_
  refine x_aload_n (pc := 1432) 1 dL_law_1432 rfl rfl ?_
  refine x_aload_n (pc := 1433) 0 dL_law_1433 rfl rfl ?_
  refine x_iload_n (pc := 1434) 3 dL_law_1434 rfl rfl ?_
  refine x_iconst (pc := 1435) 1 dL_law_1435 rfl ?_
  refine x_iadd (pc := 1436) dL_law_1436 ?_
  refine x_sld (pc := 1437) hsc dL_law_1437 (fun m1 => ?_)
  refine x_aload_n (pc := 1438) 0 dL_law_1438 rfl rfl ?_
  refine x_iload_n (pc := 1439) 3 dL_law_1439 rfl rfl ?_
  refine x_iconst (pc := 1440) 2 dL_law_1440 rfl ?_
  refine x_iadd (pc := 1441) dL_law_1441 ?_
  refine x_sld (pc := 1442) hsc dL_law_1442 (fun m2 => ?_)
  refine x_aload_n (pc := 1443) 0 dL_law_1443 rfl rfl ?_
  refine x_iload_n (pc := 1444) 3 dL_law_1444 rfl rfl ?_
  refine x_iconst (pc := 1445) 3 dL_law_1445 rfl ?_
  refine x_iadd (pc := 1446) dL_law_1446 ?_
  refine x_sld (pc := 1447) hsc dL_law_1447 (fun m3 => ?_)
  refine x_okc (fun hok4 => ?_)
  refine x_callVr (pc := 1448) (as := [aI (xs m1), aI (xs m2), aI (xs m3)]) (rest := []) (fun l => c_11_doubles l (xs m1) (xs m2) (xs m3) σ) md_X11_doubles ⟨_, _, rfl, by decide⟩ tk_1089 tk_1090 tk_1088 dL_law_1448 rfl ⟨by decide, by decide, by show kc + 0 + 0 ≤ 600000; omega, by show ks + 0 + 0 ≤ 7302250; omega⟩ ⟨(fun h => nomatch h), (fun _ => Or.inr hok4)⟩ rfl (Nat.le_of_ble_eq_true rfl) (fun r5 => ?_)
  show X E _ _ _ _ (kc + 0 + 0) (ks + 0 + 0) _ _ _ [aI r5] _
  refine x_kc (kc' := kc + 0) (ks' := ks + 0) rfl rfl ?_
  refine x_aload_n (pc := 1451) 2 dL_law_1451 rfl rfl ?_
  refine x_aload_n (pc := 1452) 0 dL_law_1452 rfl rfl ?_
  refine x_iload_n (pc := 1453) 3 dL_law_1453 rfl rfl ?_
  refine x_iconst (pc := 1454) 1 dL_law_1454 rfl ?_
  refine x_iadd (pc := 1455) dL_law_1455 ?_
  refine x_sld (pc := 1456) hsc dL_law_1456 (fun m6 => ?_)
  refine x_aload_n (pc := 1457) 0 dL_law_1457 rfl rfl ?_
  refine x_iload_n (pc := 1458) 3 dL_law_1458 rfl rfl ?_
  refine x_iconst (pc := 1459) 2 dL_law_1459 rfl ?_
  refine x_iadd (pc := 1460) dL_law_1460 ?_
  refine x_sld (pc := 1461) hsc dL_law_1461 (fun m7 => ?_)
  refine x_aload_n (pc := 1462) 0 dL_law_1462 rfl rfl ?_
  refine x_iload_n (pc := 1463) 3 dL_law_1463 rfl rfl ?_
  refine x_iconst (pc := 1464) 3 dL_law_1464 rfl ?_
  refine x_iadd (pc := 1465) dL_law_1465 ?_
  refine x_sld (pc := 1466) hsc dL_law_1466 (fun m8 => ?_)
  refine x_okc (fun hok9 => ?_)
  refine x_callVr (pc := 1467) (as := [aI (xs m6), aI (xs m7), aI (xs m8)]) (rest := [aI r5]) (fun l => c_12_doubles l (xs m6) (xs m7) (xs m8) σ) md_X12_doubles ⟨_, _, rfl, by decide⟩ tk_1800 tk_1801 tk_1799 dL_law_1467 rfl ⟨by decide, by decide, by show kc + 0 + 0 ≤ 600000; omega, by show ks + 0 + 0 ≤ 7302250; omega⟩ ⟨(fun h => nomatch h), (fun _ => Or.inr hok9)⟩ rfl (Nat.le_of_ble_eq_true rfl) (fun r10 => ?_)
  show X E _ _ _ _ (kc + 0 + 0) (ks + 0 + 0) _ _ _ [aI r10, aI r5] _
  refine x_kc (kc' := kc + 0) (ks' := ks + 0) rfl rfl ?_
  refine x_icmp_eq (pc := 1470) 1686 dL_law_1470 (by decide) (fun _ => ?_) (fun _ => x_none)
  exact x_widen (by omega) (by omega) (hK σ)
noncomputable def flaw_1475 (xs : Nat → Int32) (L : Nat) (i : Int32) (σ : zSt) (K : zSt → Option Unit) : Option Unit :=
  zix (i + 1) L fun m1 =>
  zc2 (f11_lots (xs m1) σ) fun r2 s3 =>
  zix (i + 1) L fun m4 =>
  zc2 (f12_lots (xs m4) s3) fun r5 s6 =>
  if r2 = r5 then K s6 else none
set_option maxRecDepth 20000 in
theorem xlaw_1475 (E : zEn) {L : Nat} {xs : Nat → Int32} (hsc : zScr E L xs) (i : Int32) (σ : zSt) (kc ks : Nat) (hk : kc + 8 ≤ 600000 ∧ ks + 200 ≤ 7302250) {K : zSt → Option Unit} (hK : ∀ σ, X E cL_law mlaw false (zQl E) (kc + 8) (ks + 200) σ [(0, aR 15 (some 5)), (1, aR 11 (some 0)), (2, aR 12 (some 0)), (3, aI i)] 1686 [] (K σ)) : X E cL_law mlaw false (zQl E) kc ks σ [(0, aR 15 (some 5)), (1, aR 11 (some 0)), (2, aR 12 (some 0)), (3, aI i)] 1475 [] (flaw_1475 xs L i σ K) := by
  unfold flaw_1475
  obtain ⟨hk1, hk2⟩ := hk
  refine x_kc (kc' := kc + 0) (ks' := ks + 0) rfl rfl ?_
  refine x_aload_n (pc := 1475) 1 dL_law_1475 rfl rfl ?_
  refine x_aload_n (pc := 1476) 0 dL_law_1476 rfl rfl ?_
  refine x_iload_n (pc := 1477) 3 dL_law_1477 rfl rfl ?_
  refine x_iconst (pc := 1478) 1 dL_law_1478 rfl ?_
  refine x_iadd (pc := 1479) dL_law_1479 ?_
  refine x_sld (pc := 1480) hsc dL_law_1480 (fun m1 => ?_)
  refine x_callV (pc := 1481) (as := [aI (xs m1)]) (rest := []) (fun l => c_11_lots l false (xs m1) σ) md_X11_lots ⟨_, _, rfl, by decide⟩ tk_1125 tk_1126 tk_1124 dL_law_1481 rfl ⟨by decide, by decide, by show kc + 0 + 0 ≤ 600000; omega, by show ks + 0 + 0 ≤ 7302250; omega⟩ ⟨(fun h => nomatch h), (fun h => nomatch h)⟩ rfl (Nat.le_of_ble_eq_true rfl) (fun r2 s3 => ?_)
  show X E _ _ _ _ (kc + 0 + 0) (ks + 0 + 0) _ _ _ [aI r2] _
  refine x_kc (kc' := kc + 0) (ks' := ks + 0) rfl rfl ?_
  refine x_aload_n (pc := 1484) 2 dL_law_1484 rfl rfl ?_
  refine x_aload_n (pc := 1485) 0 dL_law_1485 rfl rfl ?_
  refine x_iload_n (pc := 1486) 3 dL_law_1486 rfl rfl ?_
  refine x_iconst (pc := 1487) 1 dL_law_1487 rfl ?_
  refine x_iadd (pc := 1488) dL_law_1488 ?_
  refine x_sld (pc := 1489) hsc dL_law_1489 (fun m4 => ?_)
  refine x_callV (pc := 1490) (as := [aI (xs m4)]) (rest := [aI r2]) (fun l => c_12_lots l false (xs m4) s3) md_X12_lots ⟨_, _, rfl, by decide⟩ tk_1812 tk_1813 tk_1811 dL_law_1490 rfl ⟨by decide, by decide, by show kc + 0 + 0 ≤ 600000; omega, by show ks + 0 + 0 ≤ 7302250; omega⟩ ⟨(fun h => nomatch h), (fun h => nomatch h)⟩ rfl (Nat.le_of_ble_eq_true rfl) (fun r5 s6 => ?_)
  show X E _ _ _ _ (kc + 0 + 0) (ks + 0 + 0) _ _ _ [aI r5, aI r2] _
  refine x_kc (kc' := kc + 0) (ks' := ks + 0) rfl rfl ?_
  refine x_icmp_eq (pc := 1493) 1686 dL_law_1493 (by decide) (fun _ => ?_) (fun _ => x_none)
  exact x_widen (by omega) (by omega) (hK s6)
noncomputable def flaw_1498 (xs : Nat → Int32) (L : Nat) (i : Int32) (σ : zSt) (K : zSt → Option Unit) : Option Unit :=
  zix (i + 1) L fun m1 =>
  zokc σ <|
  zc2 (f11_draw (xs m1) σ) fun r3 s4 =>
  zix (i + 1) L fun m5 =>
  zokc s4 <|
  zc2 (f12_draw (xs m5) s4) fun r7 s8 =>
  if r3 = r7 then K s8 else none
set_option maxRecDepth 20000 in
theorem xlaw_1498 (E : zEn) {L : Nat} {xs : Nat → Int32} (hsc : zScr E L xs) (i : Int32) (σ : zSt) (kc ks : Nat) (hk : kc + 8 ≤ 600000 ∧ ks + 200 ≤ 7302250) {K : zSt → Option Unit} (hK : ∀ σ, X E cL_law mlaw false (zQl E) (kc + 8) (ks + 200) σ [(0, aR 15 (some 5)), (1, aR 11 (some 0)), (2, aR 12 (some 0)), (3, aI i)] 1686 [] (K σ)) : X E cL_law mlaw false (zQl E) kc ks σ [(0, aR 15 (some 5)), (1, aR 11 (some 0)), (2, aR 12 (some 0)), (3, aI i)] 1498 [] (flaw_1498 xs L i σ K) := by
  unfold flaw_1498
  obtain ⟨hk1, hk2⟩ := hk
  refine x_kc (kc' := kc + 0) (ks' := ks + 0) rfl rfl ?_
  refine x_aload_n (pc := 1498) 1 dL_law_1498 rfl rfl ?_
  refine x_aload_n (pc := 1499) 0 dL_law_1499 rfl rfl ?_
  refine x_iload_n (pc := 1500) 3 dL_law_1500 rfl rfl ?_
  refine x_iconst (pc := 1501) 1 dL_law_1501 rfl ?_
  refine x_iadd (pc := 1502) dL_law_1502 ?_
  refine x_sld (pc := 1503) hsc dL_law_1503 (fun m1 => ?_)
  refine x_okc (fun hok2 => ?_)
  refine x_callV (pc := 1504) (as := [aI (xs m1)]) (rest := []) (fun l => c_11_draw l (xs m1) σ) md_X11_draw ⟨_, _, rfl, by decide⟩ tk_1129 tk_1130 tk_1128 dL_law_1504 rfl ⟨by decide, by decide, by show kc + 0 + 0 ≤ 600000; omega, by show ks + 0 + 0 ≤ 7302250; omega⟩ ⟨(fun h => nomatch h), (fun _ => Or.inr hok2)⟩ rfl (Nat.le_of_ble_eq_true rfl) (fun r3 s4 => ?_)
  show X E _ _ _ _ (kc + 0 + 0) (ks + 0 + 0) _ _ _ [aI r3] _
  refine x_kc (kc' := kc + 0) (ks' := ks + 0) rfl rfl ?_
  refine x_aload_n (pc := 1507) 2 dL_law_1507 rfl rfl ?_
  refine x_aload_n (pc := 1508) 0 dL_law_1508 rfl rfl ?_
  refine x_iload_n (pc := 1509) 3 dL_law_1509 rfl rfl ?_
  refine x_iconst (pc := 1510) 1 dL_law_1510 rfl ?_
  refine x_iadd (pc := 1511) dL_law_1511 ?_
  refine x_sld (pc := 1512) hsc dL_law_1512 (fun m5 => ?_)
  refine x_okc (fun hok6 => ?_)
  refine x_callV (pc := 1513) (as := [aI (xs m5)]) (rest := [aI r3]) (fun l => c_12_draw l (xs m5) s4) md_X12_draw ⟨_, _, rfl, by decide⟩ tk_1816 tk_1817 tk_1815 dL_law_1513 rfl ⟨by decide, by decide, by show kc + 0 + 0 ≤ 600000; omega, by show ks + 0 + 0 ≤ 7302250; omega⟩ ⟨(fun h => nomatch h), (fun _ => Or.inr hok6)⟩ rfl (Nat.le_of_ble_eq_true rfl) (fun r7 s8 => ?_)
  show X E _ _ _ _ (kc + 0 + 0) (ks + 0 + 0) _ _ _ [aI r7, aI r3] _
  refine x_kc (kc' := kc + 0) (ks' := ks + 0) rfl rfl ?_
  refine x_icmp_eq (pc := 1516) 1686 dL_law_1516 (by decide) (fun _ => ?_) (fun _ => x_none)
  exact x_widen (by omega) (by omega) (hK s8)
noncomputable def flaw_1521 (xs : Nat → Int32) (L : Nat) (i : Int32) (σ : zSt) (K : zSt → Option Unit) : Option Unit :=
  zix (i + 1) L fun m1 =>
  zix (i + 2) L fun m2 =>
  zokc σ <|
  zc1 (f11_ofCrew (xs m1) (xs m2) σ) fun r4 =>
  zix (i + 1) L fun m5 =>
  zix (i + 2) L fun m6 =>
  zokc σ <|
  zc2 (f12_ofCrew (xs m5) (xs m6) σ) fun r8 s9 =>
  if r4 = r8 then K s9 else none
set_option maxRecDepth 20000 in
theorem xlaw_1521 (E : zEn) {L : Nat} {xs : Nat → Int32} (hsc : zScr E L xs) (i : Int32) (σ : zSt) (kc ks : Nat) (hk : kc + 8 ≤ 600000 ∧ ks + 200 ≤ 7302250) {K : zSt → Option Unit} (hK : ∀ σ, X E cL_law mlaw false (zQl E) (kc + 8) (ks + 200) σ [(0, aR 15 (some 5)), (1, aR 11 (some 0)), (2, aR 12 (some 0)), (3, aI i)] 1686 [] (K σ)) : X E cL_law mlaw false (zQl E) kc ks σ [(0, aR 15 (some 5)), (1, aR 11 (some 0)), (2, aR 12 (some 0)), (3, aI i)] 1521 [] (flaw_1521 xs L i σ K) := by
  unfold flaw_1521
  obtain ⟨hk1, hk2⟩ := hk
  refine x_kc (kc' := kc + 0) (ks' := ks + 0) rfl rfl ?_
  refine x_aload_n (pc := 1521) 1 dL_law_1521 rfl rfl ?_
  refine x_aload_n (pc := 1522) 0 dL_law_1522 rfl rfl ?_
  refine x_iload_n (pc := 1523) 3 dL_law_1523 rfl rfl ?_
  refine x_iconst (pc := 1524) 1 dL_law_1524 rfl ?_
  refine x_iadd (pc := 1525) dL_law_1525 ?_
  refine x_sld (pc := 1526) hsc dL_law_1526 (fun m1 => ?_)
  refine x_aload_n (pc := 1527) 0 dL_law_1527 rfl rfl ?_
  refine x_iload_n (pc := 1528) 3 dL_law_1528 rfl rfl ?_
  refine x_iconst (pc := 1529) 2 dL_law_1529 rfl ?_
  refine x_iadd (pc := 1530) dL_law_1530 ?_
  refine x_sld (pc := 1531) hsc dL_law_1531 (fun m2 => ?_)
  refine x_okc (fun hok3 => ?_)
  refine x_callVr (pc := 1532) (as := [aI (xs m1), aI (xs m2)]) (rest := []) (fun l => c_11_ofCrew l (xs m1) (xs m2) σ) md_X11_ofCrew ⟨_, _, rfl, by decide⟩ tk_1139 tk_1140 tk_1138 dL_law_1532 rfl ⟨by decide, by decide, by show kc + 0 + 0 ≤ 600000; omega, by show ks + 0 + 0 ≤ 7302250; omega⟩ ⟨(fun h => nomatch h), (fun _ => Or.inr hok3)⟩ rfl (Nat.le_of_ble_eq_true rfl) (fun r4 => ?_)
  show X E _ _ _ _ (kc + 0 + 0) (ks + 0 + 0) _ _ _ [aI r4] _
  refine x_kc (kc' := kc + 0) (ks' := ks + 0) rfl rfl ?_
  refine x_aload_n (pc := 1535) 2 dL_law_1535 rfl rfl ?_
  refine x_aload_n (pc := 1536) 0 dL_law_1536 rfl rfl ?_
  refine x_iload_n (pc := 1537) 3 dL_law_1537 rfl rfl ?_
  refine x_iconst (pc := 1538) 1 dL_law_1538 rfl ?_
  refine x_iadd (pc := 1539) dL_law_1539 ?_
  refine x_sld (pc := 1540) hsc dL_law_1540 (fun m5 => ?_)
  refine x_aload_n (pc := 1541) 0 dL_law_1541 rfl rfl ?_
  refine x_iload_n (pc := 1542) 3 dL_law_1542 rfl rfl ?_
  refine x_iconst (pc := 1543) 2 dL_law_1543 rfl ?_
  refine x_iadd (pc := 1544) dL_law_1544 ?_
  refine x_sld (pc := 1545) hsc dL_law_1545 (fun m6 => ?_)
  refine x_okc (fun hok7 => ?_)
  refine x_callV (pc := 1546) (as := [aI (xs m5), aI (xs m6)]) (rest := [aI r4]) (fun l => c_12_ofCrew l (xs m5) (xs m6) σ) md_X12_ofCrew ⟨_, _, rfl, by decide⟩ tk_1825 tk_1826 tk_1824 dL_law_1546 rfl ⟨by decide, by decide, by show kc + 0 + 0 ≤ 600000; omega, by show ks + 0 + 0 ≤ 7302250; omega⟩ ⟨(fun h => nomatch h), (fun _ => Or.inr hok7)⟩ rfl (Nat.le_of_ble_eq_true rfl) (fun r8 s9 => ?_)
  show X E _ _ _ _ (kc + 0 + 0) (ks + 0 + 0) _ _ _ [aI r8, aI r4] _
  refine x_kc (kc' := kc + 0) (ks' := ks + 0) rfl rfl ?_
  refine x_icmp_eq (pc := 1549) 1686 dL_law_1549 (by decide) (fun _ => ?_) (fun _ => x_none)
  exact x_widen (by omega) (by omega) (hK s9)
noncomputable def flaw_1554 (xs : Nat → Int32) (L : Nat) (i : Int32) (σ : zSt) (K : zSt → Option Unit) : Option Unit :=
  zix (i + 1) L fun m1 =>
  zix (i + 2) L fun m2 =>
  zix (i + 3) L fun m3 =>
  zokc σ <|
  zc1 (f11_bounds (xs m1) (xs m2) (xs m3) σ) fun r5 =>
  zix (i + 1) L fun m6 =>
  zix (i + 2) L fun m7 =>
  zix (i + 3) L fun m8 =>
  zokc σ <|
  zc1 (f12_bounds (xs m6) (xs m7) (xs m8) σ) fun r10 =>
  if r5 = r10 then K σ else none
set_option maxRecDepth 20000 in
theorem xlaw_1554 (E : zEn) {L : Nat} {xs : Nat → Int32} (hsc : zScr E L xs) (i : Int32) (σ : zSt) (kc ks : Nat) (hk : kc + 8 ≤ 600000 ∧ ks + 200 ≤ 7302250) {K : zSt → Option Unit} (hK : ∀ σ, X E cL_law mlaw false (zQl E) (kc + 8) (ks + 200) σ [(0, aR 15 (some 5)), (1, aR 11 (some 0)), (2, aR 12 (some 0)), (3, aI i)] 1686 [] (K σ)) : X E cL_law mlaw false (zQl E) kc ks σ [(0, aR 15 (some 5)), (1, aR 11 (some 0)), (2, aR 12 (some 0)), (3, aI i)] 1554 [] (flaw_1554 xs L i σ K) := by
  unfold flaw_1554
  obtain ⟨hk1, hk2⟩ := hk
  refine x_kc (kc' := kc + 0) (ks' := ks + 0) rfl rfl ?_
  refine x_aload_n (pc := 1554) 1 dL_law_1554 rfl rfl ?_
  refine x_aload_n (pc := 1555) 0 dL_law_1555 rfl rfl ?_
  refine x_iload_n (pc := 1556) 3 dL_law_1556 rfl rfl ?_
  refine x_iconst (pc := 1557) 1 dL_law_1557 rfl ?_
  refine x_iadd (pc := 1558) dL_law_1558 ?_
  refine x_sld (pc := 1559) hsc dL_law_1559 (fun m1 => ?_)
  refine x_aload_n (pc := 1560) 0 dL_law_1560 rfl rfl ?_
  refine x_iload_n (pc := 1561) 3 dL_law_1561 rfl rfl ?_
  refine x_iconst (pc := 1562) 2 dL_law_1562 rfl ?_
  refine x_iadd (pc := 1563) dL_law_1563 ?_
  refine x_sld (pc := 1564) hsc dL_law_1564 (fun m2 => ?_)
  refine x_aload_n (pc := 1565) 0 dL_law_1565 rfl rfl ?_
  refine x_iload_n (pc := 1566) 3 dL_law_1566 rfl rfl ?_
  refine x_iconst (pc := 1567) 3 dL_law_1567 rfl ?_
  refine x_iadd (pc := 1568) dL_law_1568 ?_
  refine x_sld (pc := 1569) hsc dL_law_1569 (fun m3 => ?_)
  refine x_okc (fun hok4 => ?_)
  refine x_callVr (pc := 1570) (as := [aI (xs m1), aI (xs m2), aI (xs m3)]) (rest := []) (fun l => c_11_bounds l (xs m1) (xs m2) (xs m3) σ) md_X11_bounds ⟨_, _, rfl, by decide⟩ tk_1155 tk_1156 tk_1154 dL_law_1570 rfl ⟨by decide, by decide, by show kc + 0 + 0 ≤ 600000; omega, by show ks + 0 + 0 ≤ 7302250; omega⟩ ⟨(fun h => nomatch h), (fun _ => Or.inr hok4)⟩ rfl (Nat.le_of_ble_eq_true rfl) (fun r5 => ?_)
  show X E _ _ _ _ (kc + 0 + 0) (ks + 0 + 0) _ _ _ [aI r5] _
  refine x_kc (kc' := kc + 0) (ks' := ks + 0) rfl rfl ?_
  refine x_aload_n (pc := 1573) 2 dL_law_1573 rfl rfl ?_
  refine x_aload_n (pc := 1574) 0 dL_law_1574 rfl rfl ?_
  refine x_iload_n (pc := 1575) 3 dL_law_1575 rfl rfl ?_
  refine x_iconst (pc := 1576) 1 dL_law_1576 rfl ?_
  refine x_iadd (pc := 1577) dL_law_1577 ?_
  refine x_sld (pc := 1578) hsc dL_law_1578 (fun m6 => ?_)
  refine x_aload_n (pc := 1579) 0 dL_law_1579 rfl rfl ?_
  refine x_iload_n (pc := 1580) 3 dL_law_1580 rfl rfl ?_
  refine x_iconst (pc := 1581) 2 dL_law_1581 rfl ?_
  refine x_iadd (pc := 1582) dL_law_1582 ?_
  refine x_sld (pc := 1583) hsc dL_law_1583 (fun m7 => ?_)
  refine x_aload_n (pc := 1584) 0 dL_law_1584 rfl rfl ?_
  refine x_iload_n (pc := 1585) 3 dL_law_1585 rfl rfl ?_
  refine x_iconst (pc := 1586) 3 dL_law_1586 rfl ?_
  refine x_iadd (pc := 1587) dL_law_1587 ?_
  refine x_sld (pc := 1588) hsc dL_law_1588 (fun m8 => ?_)
  refine x_okc (fun hok9 => ?_)
  refine x_callVr (pc := 1589) (as := [aI (xs m6), aI (xs m7), aI (xs m8)]) (rest := [aI r5]) (fun l => c_12_bounds l (xs m6) (xs m7) (xs m8) σ) md_X12_bounds ⟨_, _, rfl, by decide⟩ tk_1829 tk_1830 tk_1828 dL_law_1589 rfl ⟨by decide, by decide, by show kc + 0 + 0 ≤ 600000; omega, by show ks + 0 + 0 ≤ 7302250; omega⟩ ⟨(fun h => nomatch h), (fun _ => Or.inr hok9)⟩ rfl (Nat.le_of_ble_eq_true rfl) (fun r10 => ?_)
  show X E _ _ _ _ (kc + 0 + 0) (ks + 0 + 0) _ _ _ [aI r10, aI r5] _
  refine x_kc (kc' := kc + 0) (ks' := ks + 0) rfl rfl ?_
  refine x_icmp_eq (pc := 1592) 1686 dL_law_1592 (by decide) (fun _ => ?_) (fun _ => x_none)
  exact x_widen (by omega) (by omega) (hK σ)
noncomputable def flaw_1597 (xs : Nat → Int32) (L : Nat) (i : Int32) (σ : zSt) (K : zSt → Option Unit) : Option Unit :=
  zix (i + 1) L fun m1 =>
  zix (i + 2) L fun m2 =>
  zokc σ <|
  zc1 (f11_worst (xs m1) (xs m2) σ) fun r4 =>
  zix (i + 1) L fun m5 =>
  zix (i + 2) L fun m6 =>
  zokc σ <|
  zc1 (f12_worst (xs m5) (xs m6) σ) fun r8 =>
  if r4 = r8 then K σ else none
set_option maxRecDepth 20000 in
theorem xlaw_1597 (E : zEn) {L : Nat} {xs : Nat → Int32} (hsc : zScr E L xs) (i : Int32) (σ : zSt) (kc ks : Nat) (hk : kc + 8 ≤ 600000 ∧ ks + 200 ≤ 7302250) {K : zSt → Option Unit} (hK : ∀ σ, X E cL_law mlaw false (zQl E) (kc + 8) (ks + 200) σ [(0, aR 15 (some 5)), (1, aR 11 (some 0)), (2, aR 12 (some 0)), (3, aI i)] 1686 [] (K σ)) : X E cL_law mlaw false (zQl E) kc ks σ [(0, aR 15 (some 5)), (1, aR 11 (some 0)), (2, aR 12 (some 0)), (3, aI i)] 1597 [] (flaw_1597 xs L i σ K) := by
  unfold flaw_1597
  obtain ⟨hk1, hk2⟩ := hk
  refine x_kc (kc' := kc + 0) (ks' := ks + 0) rfl rfl ?_
  refine x_aload_n (pc := 1597) 1 dL_law_1597 rfl rfl ?_
  refine x_aload_n (pc := 1598) 0 dL_law_1598 rfl rfl ?_
  refine x_iload_n (pc := 1599) 3 dL_law_1599 rfl rfl ?_
  refine x_iconst (pc := 1600) 1 dL_law_1600 rfl ?_
  refine x_iadd (pc := 1601) dL_law_1601 ?_
  refine x_sld (pc := 1602) hsc dL_law_1602 (fun m1 => ?_)
  refine x_aload_n (pc := 1603) 0 dL_law_1603 rfl rfl ?_
  refine x_iload_n (pc := 1604) 3 dL_law_1604 rfl rfl ?_
  refine x_iconst (pc := 1605) 2 dL_law_1605 rfl ?_
  refine x_iadd (pc := 1606) dL_law_1606 ?_
  refine x_sld (pc := 1607) hsc dL_law_1607 (fun m2 => ?_)
  refine x_okc (fun hok3 => ?_)
  refine x_callVr (pc := 1608) (as := [aI (xs m1), aI (xs m2)]) (rest := []) (fun l => c_11_worst l (xs m1) (xs m2) σ) md_X11_worst ⟨_, _, rfl, by decide⟩ tk_1166 tk_1167 tk_1165 dL_law_1608 rfl ⟨by decide, by decide, by show kc + 0 + 0 ≤ 600000; omega, by show ks + 0 + 0 ≤ 7302250; omega⟩ ⟨(fun h => nomatch h), (fun _ => Or.inr hok3)⟩ rfl (Nat.le_of_ble_eq_true rfl) (fun r4 => ?_)
  show X E _ _ _ _ (kc + 0 + 0) (ks + 0 + 0) _ _ _ [aI r4] _
  refine x_kc (kc' := kc + 0) (ks' := ks + 0) rfl rfl ?_
  refine x_aload_n (pc := 1611) 2 dL_law_1611 rfl rfl ?_
  refine x_aload_n (pc := 1612) 0 dL_law_1612 rfl rfl ?_
  refine x_iload_n (pc := 1613) 3 dL_law_1613 rfl rfl ?_
  refine x_iconst (pc := 1614) 1 dL_law_1614 rfl ?_
  refine x_iadd (pc := 1615) dL_law_1615 ?_
  refine x_sld (pc := 1616) hsc dL_law_1616 (fun m5 => ?_)
  refine x_aload_n (pc := 1617) 0 dL_law_1617 rfl rfl ?_
  refine x_iload_n (pc := 1618) 3 dL_law_1618 rfl rfl ?_
  refine x_iconst (pc := 1619) 2 dL_law_1619 rfl ?_
  refine x_iadd (pc := 1620) dL_law_1620 ?_
  refine x_sld (pc := 1621) hsc dL_law_1621 (fun m6 => ?_)
  refine x_okc (fun hok7 => ?_)
  refine x_callVr (pc := 1622) (as := [aI (xs m5), aI (xs m6)]) (rest := [aI r4]) (fun l => c_12_worst l (xs m5) (xs m6) σ) md_X12_worst ⟨_, _, rfl, by decide⟩ tk_1845 tk_1846 tk_1844 dL_law_1622 rfl ⟨by decide, by decide, by show kc + 0 + 0 ≤ 600000; omega, by show ks + 0 + 0 ≤ 7302250; omega⟩ ⟨(fun h => nomatch h), (fun _ => Or.inr hok7)⟩ rfl (Nat.le_of_ble_eq_true rfl) (fun r8 => ?_)
  show X E _ _ _ _ (kc + 0 + 0) (ks + 0 + 0) _ _ _ [aI r8, aI r4] _
  refine x_kc (kc' := kc + 0) (ks' := ks + 0) rfl rfl ?_
  refine x_icmp_eq (pc := 1625) 1686 dL_law_1625 (by decide) (fun _ => ?_) (fun _ => x_none)
  exact x_widen (by omega) (by omega) (hK σ)
noncomputable def flaw_1630 (xs : Nat → Int32) (L : Nat) (i : Int32) (σ : zSt) (K : zSt → Option Unit) : Option Unit :=
  zix (i + 1) L fun m1 =>
  zix (i + 2) L fun m2 =>
  zokc σ <|
  zc1 (f11_weight (xs m1) (xs m2) σ) fun r4 =>
  zix (i + 1) L fun m5 =>
  zix (i + 2) L fun m6 =>
  zokc σ <|
  zc1 (f12_weight (xs m5) (xs m6) σ) fun r8 =>
  if r4 = r8 then K σ else none
set_option maxRecDepth 20000 in
theorem xlaw_1630 (E : zEn) {L : Nat} {xs : Nat → Int32} (hsc : zScr E L xs) (i : Int32) (σ : zSt) (kc ks : Nat) (hk : kc + 8 ≤ 600000 ∧ ks + 200 ≤ 7302250) {K : zSt → Option Unit} (hK : ∀ σ, X E cL_law mlaw false (zQl E) (kc + 8) (ks + 200) σ [(0, aR 15 (some 5)), (1, aR 11 (some 0)), (2, aR 12 (some 0)), (3, aI i)] 1686 [] (K σ)) : X E cL_law mlaw false (zQl E) kc ks σ [(0, aR 15 (some 5)), (1, aR 11 (some 0)), (2, aR 12 (some 0)), (3, aI i)] 1630 [] (flaw_1630 xs L i σ K) := by
  unfold flaw_1630
  obtain ⟨hk1, hk2⟩ := hk
  refine x_kc (kc' := kc + 0) (ks' := ks + 0) rfl rfl ?_
  refine x_aload_n (pc := 1630) 1 dL_law_1630 rfl rfl ?_
  refine x_aload_n (pc := 1631) 0 dL_law_1631 rfl rfl ?_
  refine x_iload_n (pc := 1632) 3 dL_law_1632 rfl rfl ?_
  refine x_iconst (pc := 1633) 1 dL_law_1633 rfl ?_
  refine x_iadd (pc := 1634) dL_law_1634 ?_
  refine x_sld (pc := 1635) hsc dL_law_1635 (fun m1 => ?_)
  refine x_aload_n (pc := 1636) 0 dL_law_1636 rfl rfl ?_
  refine x_iload_n (pc := 1637) 3 dL_law_1637 rfl rfl ?_
  refine x_iconst (pc := 1638) 2 dL_law_1638 rfl ?_
  refine x_iadd (pc := 1639) dL_law_1639 ?_
  refine x_sld (pc := 1640) hsc dL_law_1640 (fun m2 => ?_)
  refine x_okc (fun hok3 => ?_)
  refine x_callVr (pc := 1641) (as := [aI (xs m1), aI (xs m2)]) (rest := []) (fun l => c_11_weight l (xs m1) (xs m2) σ) md_X11_weight ⟨_, _, rfl, by decide⟩ tk_1178 tk_1179 tk_1177 dL_law_1641 rfl ⟨by decide, by decide, by show kc + 0 + 0 ≤ 600000; omega, by show ks + 0 + 0 ≤ 7302250; omega⟩ ⟨(fun h => nomatch h), (fun _ => Or.inr hok3)⟩ rfl (Nat.le_of_ble_eq_true rfl) (fun r4 => ?_)
  show X E _ _ _ _ (kc + 0 + 0) (ks + 0 + 0) _ _ _ [aI r4] _
  refine x_kc (kc' := kc + 0) (ks' := ks + 0) rfl rfl ?_
  refine x_aload_n (pc := 1644) 2 dL_law_1644 rfl rfl ?_
  refine x_aload_n (pc := 1645) 0 dL_law_1645 rfl rfl ?_
  refine x_iload_n (pc := 1646) 3 dL_law_1646 rfl rfl ?_
  refine x_iconst (pc := 1647) 1 dL_law_1647 rfl ?_
  refine x_iadd (pc := 1648) dL_law_1648 ?_
  refine x_sld (pc := 1649) hsc dL_law_1649 (fun m5 => ?_)
  refine x_aload_n (pc := 1650) 0 dL_law_1650 rfl rfl ?_
  refine x_iload_n (pc := 1651) 3 dL_law_1651 rfl rfl ?_
  refine x_iconst (pc := 1652) 2 dL_law_1652 rfl ?_
  refine x_iadd (pc := 1653) dL_law_1653 ?_
  refine x_sld (pc := 1654) hsc dL_law_1654 (fun m6 => ?_)
  refine x_okc (fun hok7 => ?_)
  refine x_callVr (pc := 1655) (as := [aI (xs m5), aI (xs m6)]) (rest := [aI r4]) (fun l => c_12_weight l (xs m5) (xs m6) σ) md_X12_weight ⟨_, _, rfl, by decide⟩ tk_1837 tk_1838 tk_1836 dL_law_1655 rfl ⟨by decide, by decide, by show kc + 0 + 0 ≤ 600000; omega, by show ks + 0 + 0 ≤ 7302250; omega⟩ ⟨(fun h => nomatch h), (fun _ => Or.inr hok7)⟩ rfl (Nat.le_of_ble_eq_true rfl) (fun r8 => ?_)
  show X E _ _ _ _ (kc + 0 + 0) (ks + 0 + 0) _ _ _ [aI r8, aI r4] _
  refine x_kc (kc' := kc + 0) (ks' := ks + 0) rfl rfl ?_
  refine x_icmp_eq (pc := 1658) 1686 dL_law_1658 (by decide) (fun _ => ?_) (fun _ => x_none)
  exact x_widen (by omega) (by omega) (hK σ)
noncomputable def flaw_1663 (xs : Nat → Int32) (L : Nat) (i : Int32) (σ : zSt) (K : zSt → Option Unit) : Option Unit :=
  zix (i + 1) L fun m1 =>
  zokc σ <|
  zc1 (f11_count (xs m1) σ) fun r3 =>
  zix (i + 1) L fun m4 =>
  zokc σ <|
  zc1 (f12_count (xs m4) σ) fun r6 =>
  if r3 = r6 then K σ else none
set_option maxRecDepth 20000 in
theorem xlaw_1663 (E : zEn) {L : Nat} {xs : Nat → Int32} (hsc : zScr E L xs) (i : Int32) (σ : zSt) (kc ks : Nat) (hk : kc + 8 ≤ 600000 ∧ ks + 200 ≤ 7302250) {K : zSt → Option Unit} (hK : ∀ σ, X E cL_law mlaw false (zQl E) (kc + 8) (ks + 200) σ [(0, aR 15 (some 5)), (1, aR 11 (some 0)), (2, aR 12 (some 0)), (3, aI i)] 1686 [] (K σ)) : X E cL_law mlaw false (zQl E) kc ks σ [(0, aR 15 (some 5)), (1, aR 11 (some 0)), (2, aR 12 (some 0)), (3, aI i)] 1663 [] (flaw_1663 xs L i σ K) := by
  unfold flaw_1663
  obtain ⟨hk1, hk2⟩ := hk
  refine x_kc (kc' := kc + 0) (ks' := ks + 0) rfl rfl ?_
  refine x_aload_n (pc := 1663) 1 dL_law_1663 rfl rfl ?_
  refine x_aload_n (pc := 1664) 0 dL_law_1664 rfl rfl ?_
  refine x_iload_n (pc := 1665) 3 dL_law_1665 rfl rfl ?_
  refine x_iconst (pc := 1666) 1 dL_law_1666 rfl ?_
  refine x_iadd (pc := 1667) dL_law_1667 ?_
  refine x_sld (pc := 1668) hsc dL_law_1668 (fun m1 => ?_)
  refine x_okc (fun hok2 => ?_)
  refine x_callVr (pc := 1669) (as := [aI (xs m1)]) (rest := []) (fun l => c_11_count l (xs m1) σ) md_X11_count ⟨_, _, rfl, by decide⟩ tk_1182 tk_1183 tk_1181 dL_law_1669 rfl ⟨by decide, by decide, by show kc + 0 + 0 ≤ 600000; omega, by show ks + 0 + 0 ≤ 7302250; omega⟩ ⟨(fun h => nomatch h), (fun _ => Or.inr hok2)⟩ rfl (Nat.le_of_ble_eq_true rfl) (fun r3 => ?_)
  show X E _ _ _ _ (kc + 0 + 0) (ks + 0 + 0) _ _ _ [aI r3] _
  refine x_kc (kc' := kc + 0) (ks' := ks + 0) rfl rfl ?_
  refine x_aload_n (pc := 1672) 2 dL_law_1672 rfl rfl ?_
  refine x_aload_n (pc := 1673) 0 dL_law_1673 rfl rfl ?_
  refine x_iload_n (pc := 1674) 3 dL_law_1674 rfl rfl ?_
  refine x_iconst (pc := 1675) 1 dL_law_1675 rfl ?_
  refine x_iadd (pc := 1676) dL_law_1676 ?_
  refine x_sld (pc := 1677) hsc dL_law_1677 (fun m4 => ?_)
  refine x_okc (fun hok5 => ?_)
  refine x_callVr (pc := 1678) (as := [aI (xs m4)]) (rest := [aI r3]) (fun l => c_12_count l (xs m4) σ) md_X12_count ⟨_, _, rfl, by decide⟩ tk_1849 tk_1850 tk_1848 dL_law_1678 rfl ⟨by decide, by decide, by show kc + 0 + 0 ≤ 600000; omega, by show ks + 0 + 0 ≤ 7302250; omega⟩ ⟨(fun h => nomatch h), (fun _ => Or.inr hok5)⟩ rfl (Nat.le_of_ble_eq_true rfl) (fun r6 => ?_)
  show X E _ _ _ _ (kc + 0 + 0) (ks + 0 + 0) _ _ _ [aI r6, aI r3] _
  refine x_kc (kc' := kc + 0) (ks' := ks + 0) rfl rfl ?_
  refine x_icmp_eq (pc := 1681) 1686 dL_law_1681 (by decide) (fun _ => ?_) (fun _ => x_none)
  exact x_widen (by omega) (by omega) (hK σ)
noncomputable def flaw_L (xs : Nat → Int32) (L : Nat) : Nat → Int32 → zSt → Option Unit
  | 0, _, _ => none
  | n + 1, i, σ => if nI L - 5 < i then some () else zix i L fun m =>
      if xs m &&& 63 = 0 then flaw_224 xs L i σ (fun σ => flaw_L xs L n (i + 5) σ) else
      if xs m &&& 63 = 1 then flaw_247 xs L i σ (fun σ => flaw_L xs L n (i + 5) σ) else
      if xs m &&& 63 = 2 then flaw_290 xs L i σ (fun σ => flaw_L xs L n (i + 5) σ) else
      if xs m &&& 63 = 3 then flaw_323 xs L i σ (fun σ => flaw_L xs L n (i + 5) σ) else
      if xs m &&& 63 = 4 then flaw_346 xs L i σ (fun σ => flaw_L xs L n (i + 5) σ) else
      if xs m &&& 63 = 5 then flaw_379 xs L i σ (fun σ => flaw_L xs L n (i + 5) σ) else
      if xs m &&& 63 = 6 then flaw_422 xs L i σ (fun σ => flaw_L xs L n (i + 5) σ) else
      if xs m &&& 63 = 7 then flaw_455 xs L i σ (fun σ => flaw_L xs L n (i + 5) σ) else
      if xs m &&& 63 = 8 then flaw_498 xs L i σ (fun σ => flaw_L xs L n (i + 5) σ) else
      if xs m &&& 63 = 9 then flaw_551 xs L i σ (fun σ => flaw_L xs L n (i + 5) σ) else
      if xs m &&& 63 = 10 then flaw_584 xs L i σ (fun σ => flaw_L xs L n (i + 5) σ) else
      if xs m &&& 63 = 11 then flaw_617 xs L i σ (fun σ => flaw_L xs L n (i + 5) σ) else
      if xs m &&& 63 = 12 then flaw_650 xs L i σ (fun σ => flaw_L xs L n (i + 5) σ) else
      if xs m &&& 63 = 13 then flaw_673 xs L i σ (fun σ => flaw_L xs L n (i + 5) σ) else
      if xs m &&& 63 = 14 then flaw_706 xs L i σ (fun σ => flaw_L xs L n (i + 5) σ) else
      if xs m &&& 63 = 15 then flaw_739 xs L i σ (fun σ => flaw_L xs L n (i + 5) σ) else
      if xs m &&& 63 = 16 then flaw_772 xs L i σ (fun σ => flaw_L xs L n (i + 5) σ) else
      if xs m &&& 63 = 17 then flaw_795 xs L i σ (fun σ => flaw_L xs L n (i + 5) σ) else
      if xs m &&& 63 = 18 then flaw_828 xs L i σ (fun σ => flaw_L xs L n (i + 5) σ) else
      if xs m &&& 63 = 19 then flaw_881 xs L i σ (fun σ => flaw_L xs L n (i + 5) σ) else
      if xs m &&& 63 = 20 then flaw_924 xs L i σ (fun σ => flaw_L xs L n (i + 5) σ) else
      if xs m &&& 63 = 21 then flaw_967 xs L i σ (fun σ => flaw_L xs L n (i + 5) σ) else
      if xs m &&& 63 = 22 then flaw_1010 xs L i σ (fun σ => flaw_L xs L n (i + 5) σ) else
      if xs m &&& 63 = 23 then flaw_1043 xs L i σ (fun σ => flaw_L xs L n (i + 5) σ) else
      if xs m &&& 63 = 24 then flaw_1076 xs L i σ (fun σ => flaw_L xs L n (i + 5) σ) else
      if xs m &&& 63 = 25 then flaw_1109 xs L i σ (fun σ => flaw_L xs L n (i + 5) σ) else
      if xs m &&& 63 = 26 then flaw_1142 xs L i σ (fun σ => flaw_L xs L n (i + 5) σ) else
      if xs m &&& 63 = 27 then flaw_1175 xs L i σ (fun σ => flaw_L xs L n (i + 5) σ) else
      if xs m &&& 63 = 28 then flaw_1198 xs L i σ (fun σ => flaw_L xs L n (i + 5) σ) else
      if xs m &&& 63 = 29 then flaw_1221 xs L i σ (fun σ => flaw_L xs L n (i + 5) σ) else
      if xs m &&& 63 = 30 then flaw_1244 xs L i σ (fun σ => flaw_L xs L n (i + 5) σ) else
      if xs m &&& 63 = 31 then flaw_1277 xs L i σ (fun σ => flaw_L xs L n (i + 5) σ) else
      if xs m &&& 63 = 32 then flaw_1310 xs L i σ (fun σ => flaw_L xs L n (i + 5) σ) else
      if xs m &&& 63 = 33 then flaw_1353 xs L i σ (fun σ => flaw_L xs L n (i + 5) σ) else
      if xs m &&& 63 = 34 then flaw_1386 xs L i σ (fun σ => flaw_L xs L n (i + 5) σ) else
      if xs m &&& 63 = 35 then flaw_1409 xs L i σ (fun σ => flaw_L xs L n (i + 5) σ) else
      if xs m &&& 63 = 36 then flaw_1432 xs L i σ (fun σ => flaw_L xs L n (i + 5) σ) else
      if xs m &&& 63 = 37 then flaw_1475 xs L i σ (fun σ => flaw_L xs L n (i + 5) σ) else
      if xs m &&& 63 = 38 then flaw_1498 xs L i σ (fun σ => flaw_L xs L n (i + 5) σ) else
      if xs m &&& 63 = 39 then flaw_1521 xs L i σ (fun σ => flaw_L xs L n (i + 5) σ) else
      if xs m &&& 63 = 40 then flaw_1554 xs L i σ (fun σ => flaw_L xs L n (i + 5) σ) else
      if xs m &&& 63 = 41 then flaw_1597 xs L i σ (fun σ => flaw_L xs L n (i + 5) σ) else
      if xs m &&& 63 = 42 then flaw_1630 xs L i σ (fun σ => flaw_L xs L n (i + 5) σ) else
      if xs m &&& 63 = 43 then flaw_1663 xs L i σ (fun σ => flaw_L xs L n (i + 5) σ) else flaw_L xs L n (i + 5) σ
theorem xlaw_inc (E : zEn) {i : Int32} {σ : zSt} {kc ks : Nat} {f : Option Unit} (h : X E cL_law mlaw false (zQl E) kc ks σ [(0, aR 15 (some 5)), (1, aR 11 (some 0)), (2, aR 12 (some 0)), (3, aI (i + 5))] 18 [] f) : X E cL_law mlaw false (zQl E) kc ks σ [(0, aR 15 (some 5)), (1, aR 11 (some 0)), (2, aR 12 (some 0)), (3, aI i)] 1686 [] f := by
  refine x_iinc (pc := 1686) (als' := [(3, aI (i + 5)), (0, aR 15 (some 5)), (1, aR 11 (some 0)), (2, aR 12 (some 0))]) 3 3 (c := 5) dL_law_1686 rfl rfl (by decide) rfl ?_
  refine x_goto (pc := 1689) 18 dL_law_1689 (by decide) ?_
  exact x_sub [1, 2, 3, 0] rfl h
set_option maxRecDepth 20000 in
theorem xlaw_L (E : zEn) {L : Nat} {xs : Nat → Int32} (hsc : zScr E L xs) (hb0 : oB E.2.1 = (zsh E.1).size) {b : Nat} (hargs : E.1.2.2.2.2.2.2.1 = #[Value.ref b]) : ∀ (n : Nat) (i : Int32) (σ : zSt) (kc ks : Nat), kc + 8 * n ≤ 600000 → ks + 200 * n ≤ 7302250 → X E cL_law mlaw false (zQl E) kc ks σ [(0, aR 15 (some 5)), (1, aR 11 (some 0)), (2, aR 12 (some 0)), (3, aI i)] 18 [] (flaw_L xs L n i σ) := by
  intro n
  induction n with
  | zero => intros; exact x_none
  | succ n ih =>
    intro i σ kc ks hk1 hk2
    rw [flaw_L]
    refine x_iload_n (pc := 18) 3 dL_law_18 rfl rfl ?_
    refine x_aload_n (pc := 19) 0 dL_law_19 rfl rfl ?_
    refine x_sclen (pc := 20) hsc dL_law_20 ?_
    refine x_iconst (pc := 21) 5 dL_law_21 rfl ?_
    refine x_isub (pc := 22) dL_law_22 ?_
    refine x_icmp_gt (pc := 23) 1692 dL_law_23 (by decide) (fun _ => ?_) (fun _ => ?_)
    · refine x_iconst (pc := 1692) 1 dL_law_1692 rfl ?_
      exact x_law1 (Γ := E.1) (E2 := E.2) rfl hb0 hargs ⟨by omega, by omega⟩ dL_law_1693
    refine x_aload_n (pc := 26) 0 dL_law_26 rfl rfl ?_
    refine x_iload_n (pc := 27) 3 dL_law_27 rfl rfl ?_
    refine x_sld (pc := 28) hsc dL_law_28 (fun m => ?_)
    refine x_bipush (pc := 29) 63 dL_law_29 rfl ?_
    refine x_iand (pc := 31) dL_law_31 ?_
    have hinc : ∀ σ, X E cL_law mlaw false (zQl E) (kc + 8) (ks + 200) σ [(0, aR 15 (some 5)), (1, aR 11 (some 0)), (2, aR 12 (some 0)), (3, aI i)] 1686 [] (flaw_L xs L n (i + 5) σ) := fun σ => xlaw_inc E (ih (i + 5) σ (kc + 8) (ks + 200) (by omega) (by omega))
    refine x_table (pc := 32) dL_law_32 (by decide) (fun tg ht => ?_) (fun x => ztoff_pos (by decide) (by decide) x)
    refine x_ite (fun hc0 => ?_) (fun hc0 => ?_)
    · obtain rfl : tg = 224 := zsw_at hc0 ht (by decide)
      exact xlaw_224 E hsc i σ kc ks ⟨by omega, by omega⟩ fun σ => hinc σ
    refine x_ite (fun hc1 => ?_) (fun hc1 => ?_)
    · obtain rfl : tg = 247 := zsw_at hc1 ht (by decide)
      exact xlaw_247 E hsc i σ kc ks ⟨by omega, by omega⟩ fun σ => hinc σ
    refine x_ite (fun hc2 => ?_) (fun hc2 => ?_)
    · obtain rfl : tg = 290 := zsw_at hc2 ht (by decide)
      exact xlaw_290 E hsc i σ kc ks ⟨by omega, by omega⟩ fun σ => hinc σ
    refine x_ite (fun hc3 => ?_) (fun hc3 => ?_)
    · obtain rfl : tg = 323 := zsw_at hc3 ht (by decide)
      exact xlaw_323 E hsc i σ kc ks ⟨by omega, by omega⟩ fun σ => hinc σ
    refine x_ite (fun hc4 => ?_) (fun hc4 => ?_)
    · obtain rfl : tg = 346 := zsw_at hc4 ht (by decide)
      exact xlaw_346 E hsc i σ kc ks ⟨by omega, by omega⟩ fun σ => hinc σ
    refine x_ite (fun hc5 => ?_) (fun hc5 => ?_)
    · obtain rfl : tg = 379 := zsw_at hc5 ht (by decide)
      exact xlaw_379 E hsc i σ kc ks ⟨by omega, by omega⟩ fun σ => hinc σ
    refine x_ite (fun hc6 => ?_) (fun hc6 => ?_)
    · obtain rfl : tg = 422 := zsw_at hc6 ht (by decide)
      exact xlaw_422 E hsc i σ kc ks ⟨by omega, by omega⟩ fun σ => hinc σ
    refine x_ite (fun hc7 => ?_) (fun hc7 => ?_)
    · obtain rfl : tg = 455 := zsw_at hc7 ht (by decide)
      exact xlaw_455 E hsc i σ kc ks ⟨by omega, by omega⟩ fun σ => hinc σ
    refine x_ite (fun hc8 => ?_) (fun hc8 => ?_)
    · obtain rfl : tg = 498 := zsw_at hc8 ht (by decide)
      exact xlaw_498 E hsc i σ kc ks ⟨by omega, by omega⟩ fun σ => hinc σ
    refine x_ite (fun hc9 => ?_) (fun hc9 => ?_)
    · obtain rfl : tg = 551 := zsw_at hc9 ht (by decide)
      exact xlaw_551 E hsc i σ kc ks ⟨by omega, by omega⟩ fun σ => hinc σ
    refine x_ite (fun hc10 => ?_) (fun hc10 => ?_)
    · obtain rfl : tg = 584 := zsw_at hc10 ht (by decide)
      exact xlaw_584 E hsc i σ kc ks ⟨by omega, by omega⟩ fun σ => hinc σ
    refine x_ite (fun hc11 => ?_) (fun hc11 => ?_)
    · obtain rfl : tg = 617 := zsw_at hc11 ht (by decide)
      exact xlaw_617 E hsc i σ kc ks ⟨by omega, by omega⟩ fun σ => hinc σ
    refine x_ite (fun hc12 => ?_) (fun hc12 => ?_)
    · obtain rfl : tg = 650 := zsw_at hc12 ht (by decide)
      exact xlaw_650 E hsc i σ kc ks ⟨by omega, by omega⟩ fun σ => hinc σ
    refine x_ite (fun hc13 => ?_) (fun hc13 => ?_)
    · obtain rfl : tg = 673 := zsw_at hc13 ht (by decide)
      exact xlaw_673 E hsc i σ kc ks ⟨by omega, by omega⟩ fun σ => hinc σ
    refine x_ite (fun hc14 => ?_) (fun hc14 => ?_)
    · obtain rfl : tg = 706 := zsw_at hc14 ht (by decide)
      exact xlaw_706 E hsc i σ kc ks ⟨by omega, by omega⟩ fun σ => hinc σ
    refine x_ite (fun hc15 => ?_) (fun hc15 => ?_)
    · obtain rfl : tg = 739 := zsw_at hc15 ht (by decide)
      exact xlaw_739 E hsc i σ kc ks ⟨by omega, by omega⟩ fun σ => hinc σ
    refine x_ite (fun hc16 => ?_) (fun hc16 => ?_)
    · obtain rfl : tg = 772 := zsw_at hc16 ht (by decide)
      exact xlaw_772 E hsc i σ kc ks ⟨by omega, by omega⟩ fun σ => hinc σ
    refine x_ite (fun hc17 => ?_) (fun hc17 => ?_)
    · obtain rfl : tg = 795 := zsw_at hc17 ht (by decide)
      exact xlaw_795 E hsc i σ kc ks ⟨by omega, by omega⟩ fun σ => hinc σ
    refine x_ite (fun hc18 => ?_) (fun hc18 => ?_)
    · obtain rfl : tg = 828 := zsw_at hc18 ht (by decide)
      exact xlaw_828 E hsc i σ kc ks ⟨by omega, by omega⟩ fun σ => hinc σ
    refine x_ite (fun hc19 => ?_) (fun hc19 => ?_)
    · obtain rfl : tg = 881 := zsw_at hc19 ht (by decide)
      exact xlaw_881 E hsc i σ kc ks ⟨by omega, by omega⟩ fun σ => hinc σ
    refine x_ite (fun hc20 => ?_) (fun hc20 => ?_)
    · obtain rfl : tg = 924 := zsw_at hc20 ht (by decide)
      exact xlaw_924 E hsc i σ kc ks ⟨by omega, by omega⟩ fun σ => hinc σ
    refine x_ite (fun hc21 => ?_) (fun hc21 => ?_)
    · obtain rfl : tg = 967 := zsw_at hc21 ht (by decide)
      exact xlaw_967 E hsc i σ kc ks ⟨by omega, by omega⟩ fun σ => hinc σ
    refine x_ite (fun hc22 => ?_) (fun hc22 => ?_)
    · obtain rfl : tg = 1010 := zsw_at hc22 ht (by decide)
      exact xlaw_1010 E hsc i σ kc ks ⟨by omega, by omega⟩ fun σ => hinc σ
    refine x_ite (fun hc23 => ?_) (fun hc23 => ?_)
    · obtain rfl : tg = 1043 := zsw_at hc23 ht (by decide)
      exact xlaw_1043 E hsc i σ kc ks ⟨by omega, by omega⟩ fun σ => hinc σ
    refine x_ite (fun hc24 => ?_) (fun hc24 => ?_)
    · obtain rfl : tg = 1076 := zsw_at hc24 ht (by decide)
      exact xlaw_1076 E hsc i σ kc ks ⟨by omega, by omega⟩ fun σ => hinc σ
    refine x_ite (fun hc25 => ?_) (fun hc25 => ?_)
    · obtain rfl : tg = 1109 := zsw_at hc25 ht (by decide)
      exact xlaw_1109 E hsc i σ kc ks ⟨by omega, by omega⟩ fun σ => hinc σ
    refine x_ite (fun hc26 => ?_) (fun hc26 => ?_)
    · obtain rfl : tg = 1142 := zsw_at hc26 ht (by decide)
      exact xlaw_1142 E hsc i σ kc ks ⟨by omega, by omega⟩ fun σ => hinc σ
    refine x_ite (fun hc27 => ?_) (fun hc27 => ?_)
    · obtain rfl : tg = 1175 := zsw_at hc27 ht (by decide)
      exact xlaw_1175 E hsc i σ kc ks ⟨by omega, by omega⟩ fun σ => hinc σ
    refine x_ite (fun hc28 => ?_) (fun hc28 => ?_)
    · obtain rfl : tg = 1198 := zsw_at hc28 ht (by decide)
      exact xlaw_1198 E hsc i σ kc ks ⟨by omega, by omega⟩ fun σ => hinc σ
    refine x_ite (fun hc29 => ?_) (fun hc29 => ?_)
    · obtain rfl : tg = 1221 := zsw_at hc29 ht (by decide)
      exact xlaw_1221 E hsc i σ kc ks ⟨by omega, by omega⟩ fun σ => hinc σ
    refine x_ite (fun hc30 => ?_) (fun hc30 => ?_)
    · obtain rfl : tg = 1244 := zsw_at hc30 ht (by decide)
      exact xlaw_1244 E hsc i σ kc ks ⟨by omega, by omega⟩ fun σ => hinc σ
    refine x_ite (fun hc31 => ?_) (fun hc31 => ?_)
    · obtain rfl : tg = 1277 := zsw_at hc31 ht (by decide)
      exact xlaw_1277 E hsc i σ kc ks ⟨by omega, by omega⟩ fun σ => hinc σ
    refine x_ite (fun hc32 => ?_) (fun hc32 => ?_)
    · obtain rfl : tg = 1310 := zsw_at hc32 ht (by decide)
      exact xlaw_1310 E hsc i σ kc ks ⟨by omega, by omega⟩ fun σ => hinc σ
    refine x_ite (fun hc33 => ?_) (fun hc33 => ?_)
    · obtain rfl : tg = 1353 := zsw_at hc33 ht (by decide)
      exact xlaw_1353 E hsc i σ kc ks ⟨by omega, by omega⟩ fun σ => hinc σ
    refine x_ite (fun hc34 => ?_) (fun hc34 => ?_)
    · obtain rfl : tg = 1386 := zsw_at hc34 ht (by decide)
      exact xlaw_1386 E hsc i σ kc ks ⟨by omega, by omega⟩ fun σ => hinc σ
    refine x_ite (fun hc35 => ?_) (fun hc35 => ?_)
    · obtain rfl : tg = 1409 := zsw_at hc35 ht (by decide)
      exact xlaw_1409 E hsc i σ kc ks ⟨by omega, by omega⟩ fun σ => hinc σ
    refine x_ite (fun hc36 => ?_) (fun hc36 => ?_)
    · obtain rfl : tg = 1432 := zsw_at hc36 ht (by decide)
      exact xlaw_1432 E hsc i σ kc ks ⟨by omega, by omega⟩ fun σ => hinc σ
    refine x_ite (fun hc37 => ?_) (fun hc37 => ?_)
    · obtain rfl : tg = 1475 := zsw_at hc37 ht (by decide)
      exact xlaw_1475 E hsc i σ kc ks ⟨by omega, by omega⟩ fun σ => hinc σ
    refine x_ite (fun hc38 => ?_) (fun hc38 => ?_)
    · obtain rfl : tg = 1498 := zsw_at hc38 ht (by decide)
      exact xlaw_1498 E hsc i σ kc ks ⟨by omega, by omega⟩ fun σ => hinc σ
    refine x_ite (fun hc39 => ?_) (fun hc39 => ?_)
    · obtain rfl : tg = 1521 := zsw_at hc39 ht (by decide)
      exact xlaw_1521 E hsc i σ kc ks ⟨by omega, by omega⟩ fun σ => hinc σ
    refine x_ite (fun hc40 => ?_) (fun hc40 => ?_)
    · obtain rfl : tg = 1554 := zsw_at hc40 ht (by decide)
      exact xlaw_1554 E hsc i σ kc ks ⟨by omega, by omega⟩ fun σ => hinc σ
    refine x_ite (fun hc41 => ?_) (fun hc41 => ?_)
    · obtain rfl : tg = 1597 := zsw_at hc41 ht (by decide)
      exact xlaw_1597 E hsc i σ kc ks ⟨by omega, by omega⟩ fun σ => hinc σ
    refine x_ite (fun hc42 => ?_) (fun hc42 => ?_)
    · obtain rfl : tg = 1630 := zsw_at hc42 ht (by decide)
      exact xlaw_1630 E hsc i σ kc ks ⟨by omega, by omega⟩ fun σ => hinc σ
    refine x_ite (fun hc43 => ?_) (fun hc43 => ?_)
    · obtain rfl : tg = 1663 := zsw_at hc43 ht (by decide)
      exact xlaw_1663 E hsc i σ kc ks ⟨by omega, by omega⟩ fun σ => hinc σ
    obtain rfl : tg = 1686 := zswd_at (cs := [0, 1, 2, 3, 4, 5, 6, 7, 8, 9, 10, 11, 12, 13, 14, 15, 16, 17, 18, 19, 20, 21, 22, 23, 24, 25, 26, 27, 28, 29, 30, 31, 32, 33, 34, 35, 36, 37, 38, 39, 40, 41, 42, 43]) ht (by decide) (by simp only [List.mem_cons, List.not_mem_nil, or_false, not_or]; exact ⟨hc0, hc1, hc2, hc3, hc4, hc5, hc6, hc7, hc8, hc9, hc10, hc11, hc12, hc13, hc14, hc15, hc16, hc17, hc18, hc19, hc20, hc21, hc22, hc23, hc24, hc25, hc26, hc27, hc28, hc29, hc30, hc31, hc32, hc33, hc34, hc35, hc36, hc37, hc38, hc39, hc40, hc41, hc42, hc43⟩) (by decide)
    exact x_widen (by omega) (by omega) (hinc σ)
