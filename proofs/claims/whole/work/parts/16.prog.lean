/-! of the JDK: what Arrays.copyOf and String.indexOf answer -/
def ztx (σ : zSt) (i n : Nat) : zSt := (fun a b c => if a = 1100 ∧ b = gN σ 1100 ∧ c < n then gI σ 1210 i c else (nw σ 1100 n).1 a b c, (nw σ 1100 n).2)
def fJ7_copyOf_59c91 (h0 : Nat) (v1 : Int32) (σ : zSt) : Option (Option Nat × zSt) := if v1 < 0 ∨ 160 < v1 then none else some (some (gN σ 1100), ztx σ h0 v1.toNatClampNeg)
def zidx : List Int32 → Int32 → Nat → Int32
  | [], _, _ => -1
  | b :: r, x, n => if b = x then nI n else zidx r x (n + 1)
def fJ0_indexOf_0f7a4 (k : Nat) (v1 : Int32) (σ : zSt) : Option Int32 := if v1 < 0 ∨ 65535 < v1 then none else some (zidx (zsbyt.getD k []) v1 0)

noncomputable def fJ7_fill_53178_L5  (h0 : Nat) (h1 : Int32) (h3 : Int32)  : Nat → Int32 → zSt → Option (Unit × zSt)
  | 0, _, _ => none
  | n + 1, v2, σ =>
    if h3 ≤ v2 then (some ((), σ)) else
    zix v2 10 fun m2 =>
    zlt (pI σ 100 h0 m2 h1) fun s3 =>
    zlt (v2 + 1 : Int32) fun x4 =>
    fJ7_fill_53178_L5 h0 h1 h3 n x4 s3
noncomputable def fJ7_fill_53178  (h0 : Nat) (v1 : Int32) (σ : zSt) : Option (Unit × zSt) :=
  zlt (nI 10 : Int32) fun x1 =>
  fJ7_fill_53178_L5 h0 v1 x1 zfuel 0 σ
noncomputable def f0_init  (h : Nat) (σ : zSt) : Option (Unit × zSt) :=
  zlt (gN σ 100) fun i1 =>
  zlt (nw σ 100 10) fun s2 =>
  zlt (pR s2 0 h 0 (some i1)) fun s3 =>
  zlt (gN s3 101) fun i4 =>
  zlt (nw s3 101 7) fun s5 =>
  zlt (pR s5 0 h 1 (some i4)) fun s6 =>
  zlt (gN s6 103) fun i7 =>
  zlt (nw s6 103 7) fun s8 =>
  zlt (pR s8 0 h 3 (some i7)) fun s9 =>
  zlt (gN s9 105) fun i10 =>
  zlt (nw s9 105 128) fun s11 =>
  zlt (pR s11 0 h 5 (some i10)) fun s12 =>
  zlt (gN s12 106) fun i13 =>
  zlt (nw s12 106 128) fun s14 =>
  zlt (pR s14 0 h 6 (some i13)) fun s15 =>
  zlt (gN s15 107) fun i16 =>
  zlt (nw s15 107 128) fun s17 =>
  zlt (pR s17 0 h 7 (some i16)) fun s18 =>
  zlt (gR s18 0 h 0) fun o19 =>
  zoc o19 none fun i20 =>
  zc2 (fJ7_fill_53178 i20 1 s18) fun _ s22 =>
  some ((), s22)
noncomputable def f0_has_L2  (h1 : Nat) (σ : zSt)  : Nat → Int32 → Option Int32
  | 0, _ => none
  | n + 1, v2 =>
    if (gI σ 0 0 2) ≤ v2 then (some 0) else
    zix v2 7 fun m1 =>
    zlt (gR σ 101 0 m1) fun o2 =>
    if o2 = (some h1) then (some 1) else
    zlt (v2 + 1 : Int32) fun x3 =>
    f0_has_L2 h1 σ n x3
noncomputable def f0_has  (h1 : Nat) (σ : zSt) : Option Int32 :=
  f0_has_L2 h1 σ zfuel 0
noncomputable def f0_add  (h1 : Nat) (σ : zSt) : Option (Int32 × zSt) :=
  if (gI σ 0 0 2) < 7 then (zix (gI σ 0 0 2) 7 fun m1 =>
  zlt (pR σ 101 0 m1 (some h1)) fun s2 =>
  zlt (pI s2 0 0 2 ((gI s2 0 0 2) + 1)) fun s3 =>
  some (1, s3)) else
  some (0, σ)
noncomputable def f11_isIn  (v0 : Int32) (v1 : Int32) (σ : zSt) : Option Int32 :=
  zlt (some 0) fun j1 =>
  if v0 < 0 then (j1) else
  if v1 ≤ v0 then (j1) else
  some 1
noncomputable def f0_areEnough_L29  (h1 : Int32) (h2 : Int32) (h3 : Int32) (σ : zSt) (K81 : Int32 → Option Int32) : Nat → Int32 → Int32 → Option Int32
  | 0, _, _ => none
  | n + 1, v4, v5 =>
    if (gI σ 0 0 2) ≤ v5 then (K81 v4) else
    zlt (fun (a7 : Int32) =>
    zlt (v4 + a7 : Int32) fun x10 =>
    zlt (v5 + 1 : Int32) fun x11 =>
    f0_areEnough_L29 h1 h2 h3 σ K81 n x10 x11) fun j8 =>
    zlt (j8 0) fun j13 =>
    if ((zop_ishr h1 v5) &&& 1) = 1 then (zix v5 7 fun m15 =>
    zlt (gR σ 101 0 m15) fun o16 =>
    zoc o16 none fun i17 =>
    zlt (gR σ 1 i17 4) fun o18 =>
    zoc o18 none fun i19 =>
    if (gI σ 7 i19 0) = h3 then (j8 1) else
    j13) else
    j13
noncomputable def f0_areEnough_L2  (h1 : Int32) (σ : zSt)  : Nat → Int32 → Option Int32
  | 0, _ => none
  | n + 1, v2 =>
    if (gI σ 0 0 2) ≤ v2 then (some 1) else
    zix v2 7 fun m1 =>
    zlt (gR σ 101 0 m1) fun o2 =>
    zoc o2 none fun i3 =>
    zlt (gR σ 1 i3 4) fun o4 =>
    zoc o4 none fun i5 =>
    zlt (gI σ 7 i5 0 : Int32) fun x6 =>
    f0_areEnough_L29 h1 v2 x6 σ (fun (a20 : Int32) =>
    zc1 (f11_isIn x6 10 σ) fun r21 =>
    zlt (zlt (v2 + 1 : Int32) fun x24 =>
    f0_areEnough_L2 h1 σ n x24) fun j22 =>
    if r21 = 0 then (j22) else
    zix x6 10 fun m26 =>
    if a20 ≤ (gI σ 100 0 m26) then (j22) else
    some 0) zfuel 0 0
noncomputable def f0_areEnough  (v1 : Int32) (σ : zSt) : Option Int32 :=
  f0_areEnough_L2 v1 σ zfuel 0
noncomputable def f0_firstOf_L2  (h1 : Int32) (σ : zSt)  : Nat → Int32 → Option Int32
  | 0, _ => none
  | n + 1, v2 =>
    if ((gI σ 0 0 2) - 1) ≤ v2 then (some v2) else
    if ((zop_ishr h1 v2) &&& 1) = 0 then (zlt (v2 + 1 : Int32) fun x1 =>
    f0_firstOf_L2 h1 σ n x1) else
    some v2
noncomputable def f0_firstOf  (v1 : Int32) (σ : zSt) : Option Int32 :=
  f0_firstOf_L2 v1 σ zfuel 0
noncomputable def f0_digit_L4  (σ : zSt)  : Nat → Int64 → Int32 → Option Int64
  | 0, _, _ => none
  | n + 1, v1, v3 =>
    if (6 : Int32) ≤ v3 then (some v1) else
    zlt (v1 * 15 : Int64) fun l1 =>
    zlt (v3 + 1 : Int32) fun x2 =>
    f0_digit_L4 σ n l1 x2
noncomputable def f0_digit  (v0 : Int32) (σ : zSt) : Option Int64 :=
  f0_digit_L4 σ zfuel 1 v0
noncomputable def f5_isInOn  (h : Nat) (v1 : Int32) (σ : zSt) : Option Int32 :=
  if ((zop_ishr (gI σ 5 h 5) (zop_irem v1 7)) &&& 1) = 1 then (some 1) else
  some 0
noncomputable def f0_priceDay_L10  (h1 : Int32) (h2 : Int32) (h3 : Int32)  : Nat → Int32 → zSt → Option (Unit × zSt)
  | 0, _, _ => none
  | n + 1, v4, σ =>
    if h1 ≤ v4 then (some ((), σ)) else
    zc1 (f0_firstOf v4 σ) fun r3 =>
    zix r3 7 fun m4 =>
    zlt (gR σ 101 0 m4) fun o5 =>
    zoc o5 none fun i6 =>
    zlt (fun (a7 : Int64) =>
    zc1 (f0_digit r3 σ) fun r10 =>
    zlt (a7 + (((Int32.toInt64 h3) * 170859375) + ((Int32.toInt64 h3) * r10)) : Int64) fun l11 =>
    zix v4 128 fun m12 =>
    zlt (fun (a13 : Int32) =>
    zlt (fun (a16 : Int64) =>
    zix v4 128 fun m19 =>
    zlt (pL σ 106 0 m19 a16) fun s20 =>
    zlt (v4 + 1 : Int32) fun x21 =>
    f0_priceDay_L10 h1 h2 h3 n x21 s20) fun j17 =>
    if a13 = 0 then (j17 174960000000000) else
    zix (v4 &&& (v4 - 1)) 128 fun m23 =>
    j17 (zminl 174960000000000 ((gL σ 106 0 m23) + l11))) fun j14 =>
    zlt (j14 0) fun j24 =>
    if (gI σ 107 0 m12) = 0 then (j24) else
    zlt (gR σ 1 i6 1) fun o26 =>
    zoc o26 none fun i27 =>
    zc1 (f5_isInOn i27 (h2 + h3) σ) fun r28 =>
    if r28 = 0 then (j24) else
    j14 1) fun j8 =>
    if (h2 + h3) ≤ (gI σ 1 i6 12) then (j8 0) else
    j8 ((Int32.toInt64 (gI σ 1 i6 5)) * 174960000000)
noncomputable def f0_priceDay  (v1 : Int32) (v2 : Int32) (v3 : Int32) (σ : zSt) : Option (Unit × zSt) :=
  zix 0 128 fun m1 =>
  zlt (pL σ 106 0 m1 0) fun s2 =>
  f0_priceDay_L10 v1 v2 v3 zfuel 1 s2
noncomputable def f0_addDay_L10  (h2 : Int32) (K53 : zSt → Option (Unit × zSt)) : Nat → Int32 → zSt → Option (Unit × zSt)
  | 0, _, _ => none
  | n + 1, v3, σ =>
    if v3 ≤ 0 then (K53 σ) else
    zix h2 128 fun m2 =>
    zix (h2 - v3) 128 fun m3 =>
    zix v3 128 fun m4 =>
    zix h2 128 fun m5 =>
    zlt (pL σ 105 0 m5 (zminl (gL σ 105 0 m2) ((gL σ 105 0 m3) + (gL σ 106 0 m4)))) fun s6 =>
    zlt ((v3 - 1) &&& h2 : Int32) fun x7 =>
    f0_addDay_L10 h2 K53 n x7 s6
noncomputable def f0_addDay_L4    : Nat → Int32 → zSt → Option (Unit × zSt)
  | 0, _, _ => none
  | n + 1, v2, σ =>
    if v2 ≤ 0 then (some ((), σ)) else
    f0_addDay_L10 v2 (fun (s8 : zSt) =>
    zlt (v2 + (-1) : Int32) fun x9 =>
    f0_addDay_L4 n x9 s8) zfuel v2 σ
noncomputable def f0_addDay  (v1 : Int32) (σ : zSt) : Option (Unit × zSt) :=
  zlt (v1 - 1 : Int32) fun x1 =>
  f0_addDay_L4 zfuel x1 σ
noncomputable def f0_priceWithout_L5  (h1 : Int32) (σ : zSt)  : Nat → Int64 → Int32 → Option Int64
  | 0, _, _ => none
  | n + 1, v2, v4 =>
    if (gI σ 0 0 2) ≤ v4 then (some v2) else
    zlt (fun (a1 : Int64) =>
    zlt (v4 + 1 : Int32) fun x4 =>
    f0_priceWithout_L5 h1 σ n a1 x4) fun j2 =>
    if ((zop_ishr h1 v4) &&& 1) = 1 then (zix v4 7 fun m6 =>
    zlt (gR σ 101 0 m6) fun o7 =>
    zoc o7 none fun i8 =>
    zc1 (f0_digit v4 σ) fun r9 =>
    zlt (v2 + ((((Int32.toInt64 (gI σ 1 i8 5)) * 174960000000) + 21870000000) + (14 * r9)) : Int64) fun l10 =>
    j2 l10) else
    j2 v2
noncomputable def f0_priceWithout  (v1 : Int32) (σ : zSt) : Option Int64 :=
  f0_priceWithout_L5 v1 σ zfuel 0 0
noncomputable def f0_readDays_L3  (h1 : Int64) (h3 : Int32) (K63 : zSt → Option (Unit × zSt)) : Nat → Int32 → zSt → Option (Unit × zSt)
  | 0, _, _ => none
  | n + 1, v4, σ =>
    if (gI σ 0 0 2) ≤ v4 then (K63 σ) else
    zc1 (f0_digit v4 σ) fun r1 =>
    znl r1 <|
    zlt (Int64.toInt32 (zop_lrem (zop_ldiv h1 r1) 15) : Int32) fun x2 =>
    zix v4 7 fun m7 =>
    zlt (pI σ 103 0 m7 (if x2 = 14 then (-4) else (h3 + x2))) fun s8 =>
    zix v4 7 fun m9 =>
    zlt (pR s8 101 0 m9 none) fun s10 =>
    zlt (v4 + 1 : Int32) fun x11 =>
    f0_readDays_L3 h1 h3 K63 n x11 s10
noncomputable def f0_readDays  (v1 : Int64) (v3 : Int32) (σ : zSt) : Option (Unit × zSt) :=
  f0_readDays_L3 v1 v3 (fun (s13 : zSt) =>
  zlt (pI s13 0 0 4 (gI s13 0 0 2)) fun s14 =>
  zlt (pI s14 0 0 2 0) fun s15 =>
  some ((), s15)) zfuel 0 σ
noncomputable def f0_settle_L10  (h1 : Int32) (h2 : Int32) (h3 : Int32) (K54 : zSt → Option (Int32 × zSt)) : Nat → Int32 → zSt → Option (Int32 × zSt)
  | 0, _, _ => none
  | n + 1, v4, σ =>
    if h3 ≤ v4 then (K54 σ) else
    zc1 (f0_areEnough v4 σ) fun r2 =>
    zix v4 128 fun m3 =>
    zlt (pI σ 107 0 m3 (vp_nar .boolean r2)) fun s4 =>
    zlt (fun (a5 : Int64) =>
    zix v4 128 fun m8 =>
    zlt (pL s4 105 0 m8 a5) fun s9 =>
    zlt (v4 + 1 : Int32) fun x10 =>
    f0_settle_L10 h1 h2 h3 K54 n x10 s9) fun j6 =>
    if v4 = 0 then (j6 0) else
    j6 174960000000000
noncomputable def f0_settle_L57  (h1 : Int32) (h2 : Int32) (h3 : Int32) (K82 : zSt → Option (Int32 × zSt)) : Nat → Int32 → zSt → Option (Int32 × zSt)
  | 0, _, _ => none
  | n + 1, v4, σ =>
    if h2 ≤ v4 then (K82 σ) else
    zc2 (f0_priceDay h3 h1 v4 σ) fun _ s14 =>
    zc2 (f0_addDay h3 s14) fun _ s16 =>
    zlt (v4 + 1 : Int32) fun x17 =>
    f0_settle_L57 h1 h2 h3 K82 n x17 s16
noncomputable def f0_settle_L90  (h1 : Int32) (h3 : Int32) (σ : zSt) (K127 : Int64 → Option (Int32 × zSt)) : Nat → Int64 → Int32 → Option (Int32 × zSt)
  | 0, _, _ => none
  | n + 1, v4, v6 =>
    if h3 ≤ v6 then (K127 v4) else
    zix v6 128 fun m20 =>
    zc1 (f0_priceWithout ((h3 - 1) - v6) σ) fun r21 =>
    zlt (zminl v4 ((gL σ 105 0 m20) + r21) : Int64) fun l22 =>
    zlt (v6 + 1 : Int32) fun x23 =>
    f0_settle_L90 h1 h3 σ K127 n l22 x23
noncomputable def f0_settle  (v1 : Int32) (v2 : Int32) (σ : zSt) : Option (Int32 × zSt) :=
  zlt (zop_ishl 1 (gI σ 0 0 2) : Int32) fun x1 =>
  f0_settle_L10 v1 v2 x1 (fun (s12 : zSt) =>
  f0_settle_L57 v1 v2 x1 (fun (s19 : zSt) =>
  f0_settle_L90 v1 x1 s19 (fun (a25 : Int64) =>
  zc2 (f0_readDays a25 v1 s19) fun _ s27 =>
  some (Int64.toInt32 (zop_ldiv a25 174960000000), s27)) zfuel 174960000000000 0) zfuel 0 s12) zfuel 0 σ
noncomputable def f4_init  (h : Nat) (σ : zSt) : Option (Unit × zSt) :=
  zlt (gN σ 500) fun i1 =>
  zlt (nw σ 500 30) fun s2 =>
  zlt (pR s2 4 h 0 (some i1)) fun s3 =>
  zlt (gN s3 501) fun i4 =>
  zlt (nw s3 501 30) fun s5 =>
  zlt (pR s5 4 h 1 (some i4)) fun s6 =>
  zlt (gN s6 502) fun i7 =>
  zlt (nw s6 502 30) fun s8 =>
  zlt (pR s8 4 h 2 (some i7)) fun s9 =>
  some ((), s9)
noncomputable def f7_has  (h : Nat) (v1 : Int32) (σ : zSt) : Option Int32 :=
  if ((gI σ 7 h 2) &&& v1) = 0 then (some 0) else
  some 1
noncomputable def f3_init  (h : Nat) (σ : zSt) : Option (Unit × zSt) :=
  zlt (gN σ 400) fun i1 =>
  zlt (nw σ 400 12) fun s2 =>
  zlt (pR s2 3 h 0 (some i1)) fun s3 =>
  zlt (gN s3 401) fun i4 =>
  zlt (nw s3 401 12) fun s5 =>
  zlt (pR s5 3 h 1 (some i4)) fun s6 =>
  some ((), s6)
noncomputable def f1_init  (h : Nat) (v1 : Int32) (h2 : Nat) (v3 : Int32) (v4 : Int32) (h5 : Nat) (v6 : Int32) (v7 : Int32) (σ : zSt) : Option (Unit × zSt) :=
  zlt (gN σ 4) fun i1 =>
  zlt (nw σ 4 0) fun s2 =>
  zc2 (f4_init i1 s2) fun _ s4 =>
  zlt (pR s4 1 h 7 (some i1)) fun s5 =>
  zlt (pI s5 1 h 12 (-1)) fun s6 =>
  zlt (pI s6 1 h 13 0) fun s7 =>
  zlt (pI s7 1 h 0 v1) fun s8 =>
  zlt (pR s8 1 h 1 (some h2)) fun s9 =>
  zlt (pI s9 1 h 2 v3) fun s10 =>
  zlt (pI s10 1 h 3 v4) fun s11 =>
  zlt (pR s11 1 h 4 (some h5)) fun s12 =>
  zlt (pI s12 1 h 5 v6) fun s13 =>
  zlt (pI s13 1 h 6 v7) fun s14 =>
  zc1 (f7_has h5 2 s14) fun r15 =>
  zlt (fun (a16 : (Option Nat)) (s17 : zSt) =>
  zlt (pR s17 1 h 8 a16) fun s20 =>
  some ((), s20)) fun j18 =>
  if r15 = 0 then (j18 none s14) else
  zlt (gN s14 3) fun i21 =>
  zlt (nw s14 3 0) fun s22 =>
  zc2 (f3_init i21 s22) fun _ s24 =>
  j18 (some i21) s24
noncomputable def f5_hasKey  (h : Nat) (σ : zSt) : Option Int32 :=
  if (gI σ 5 h 4) = (-1) then (some 0) else
  some 1
noncomputable def f4_add  (h : Nat) (v1 : Int32) (v2 : Int32) (v3 : Int32) (σ : zSt) : Option (Unit × zSt) :=
  if (30 : Int32) ≤ (gI σ 4 h 3) then (some ((), σ)) else
  zix (gI σ 4 h 3) 30 fun m1 =>
  zlt (pI σ 501 h m1 v1) fun s2 =>
  zix (gI s2 4 h 3) 30 fun m3 =>
  zlt (pI s2 500 h m3 v2) fun s4 =>
  zix (gI s4 4 h 3) 30 fun m5 =>
  zlt (pI s4 502 h m5 v3) fun s6 =>
  zlt (pI s6 4 h 3 ((gI s6 4 h 3) + 1)) fun s7 =>
  some ((), s7)
noncomputable def f1_tell  (h : Nat) (v1 : Int32) (v2 : Int32) (σ : zSt) : Option (Unit × zSt) :=
  zlt (pI σ 1 h 9 v1) fun s1 =>
  zlt (gR s1 1 h 1) fun o2 =>
  zoc o2 none fun i3 =>
  zc1 (f5_hasKey i3 s1) fun r4 =>
  zlt (fun (a5 : Int32) =>
  zbo a5 <|
  zlt (pI s1 1 h 10 a5) fun s8 =>
  zbo (if (gI s8 1 h 10) = 0 then (if v2 = 0 then 1 else 0) else 0) <|
  zlt (pI s8 1 h 11 (if (gI s8 1 h 10) = 0 then (if v2 = 0 then 1 else 0) else 0)) fun s16 =>
  zc2 (f4_add h 0 v1 (-1) s16) fun _ s18 =>
  some ((), s18)) fun j6 =>
  zlt (j6 1) fun j19 =>
  if r4 = 0 then (j19) else
  zlt (gR s1 1 h 1) fun o21 =>
  zoc o21 none fun i22 =>
  if (gI s1 5 i22 4) < v1 then (j6 0) else
  j19
noncomputable def f1_isAheadOfKey  (h : Nat) (σ : zSt) : Option Int32 :=
  zlt (gR σ 1 h 1) fun o1 =>
  zoc o1 none fun i2 =>
  zc1 (f5_hasKey i2 σ) fun r3 =>
  zlt (some 1) fun j4 =>
  if r3 = 0 then (j4) else
  zlt (gR σ 1 h 1) fun o6 =>
  zoc o6 none fun i7 =>
  if (gI σ 5 i7 4) ≤ (gI σ 1 h 9) then (some 0) else
  j4
noncomputable def f4_now  (h : Nat) (σ : zSt) : Option Int32 :=
  if (gI σ 4 h 3) = 0 then (some (-4)) else
  zix ((gI σ 4 h 3) - 1) 30 fun m1 =>
  some (gI σ 501 h m1)
noncomputable def f1_isWaiting  (h : Nat) (σ : zSt) : Option Int32 :=
  zc1 (f4_now h σ) fun r1 =>
  zlt (some 1) fun j2 =>
  if r1 = 0 then (j2) else
  zc1 (f4_now h σ) fun r4 =>
  if r4 = 1 then (j2) else
  some 0
noncomputable def f4_onDay_L5  (h0 : Nat) (h1 : Int32) (σ : zSt)  : Nat → Int32 → Int32 → Option Int32
  | 0, _, _ => none
  | n + 1, v2, v3 =>
    if (gI σ 4 h0 3) ≤ v3 then (some v2) else
    zix v3 30 fun m1 =>
    if h1 < (gI σ 500 h0 m1) then (some v2) else
    zix v3 30 fun m2 =>
    zlt (gI σ 501 h0 m2 : Int32) fun x3 =>
    zlt (v3 + 1 : Int32) fun x4 =>
    f4_onDay_L5 h0 h1 σ n x3 x4
noncomputable def f4_onDay  (h : Nat) (v1 : Int32) (σ : zSt) : Option Int32 :=
  f4_onDay_L5 h v1 σ zfuel (-4) 0
noncomputable def f1_isLeftOn  (h : Nat) (v1 : Int32) (σ : zSt) : Option Int32 :=
  zc1 (f4_onDay h v1 σ) fun r1 =>
  zlt (some 0) fun j2 =>
  if r1 = (-4) then (j2) else
  if r1 = 3 then (j2) else
  if r1 = 4 then (j2) else
  some 1
noncomputable def f1_isSameThing  (h : Nat) (h1 : Nat) (σ : zSt) : Option Int32 :=
  zlt (gR σ 1 h 1) fun o1 =>
  zlt (gR σ 1 h1 1) fun o2 =>
  zlt (some 0) fun j3 =>
  if o1 = o2 then (if (gI σ 1 h 2) = (gI σ 1 h1 2) then (if (gI σ 1 h 3) = (gI σ 1 h1 3) then (some 1) else
  j3) else
  j3) else
  j3
noncomputable def f1_isListedBy  (h : Nat) (v1 : Int32) (σ : zSt) : Option Int32 :=
  zlt (some 0) fun j1 =>
  if (gI σ 1 h 10) = 0 then (j1) else
  if (gI σ 1 h 6) = v1 then (some 1) else
  j1
noncomputable def f4_lastSaid_L7  (h0 : Nat) (h1 : Int32) (h2 : Int32) (σ : zSt)  : Nat → Int32 → Option Int32
  | 0, _ => none
  | n + 1, v3 =>
    if v3 < 0 then (some (-1)) else
    zix v3 30 fun m2 =>
    zlt (zlt (v3 + (-1) : Int32) fun x5 =>
    f4_lastSaid_L7 h0 h1 h2 σ n x5) fun j3 =>
    if (gI σ 501 h0 m2) = 2 then (zix v3 30 fun m7 =>
    if (gI σ 500 h0 m7) < h1 then (j3) else
    zix v3 30 fun m8 =>
    if h2 < (gI σ 500 h0 m8) then (j3) else
    some v3) else
    j3
noncomputable def f4_lastSaid  (h : Nat) (v1 : Int32) (v2 : Int32) (σ : zSt) : Option Int32 :=
  zlt ((gI σ 4 h 3) - 1 : Int32) fun x1 =>
  f4_lastSaid_L7 h v1 v2 σ zfuel x1
noncomputable def f4_crewAt  (h : Nat) (v1 : Int32) (σ : zSt) : Option Int32 :=
  zc1 (f11_isIn v1 (gI σ 4 h 3) σ) fun r1 =>
  if r1 = 0 then (some (-1)) else
  zix v1 30 fun m2 =>
  some (gI σ 502 h m2)
noncomputable def f1_lastCrew  (h : Nat) (σ : zSt) : Option Int32 :=
  zc1 (f4_lastSaid h 0 9999 σ) fun r1 =>
  zc1 (f4_crewAt h r1 σ) fun r2 =>
  some r2
noncomputable def f1_isSaidNowBy  (h : Nat) (v1 : Int32) (σ : zSt) : Option Int32 :=
  zc1 (f4_now h σ) fun r1 =>
  zlt (some 0) fun j2 =>
  if r1 = 2 then (zc1 (f1_lastCrew h σ) fun r4 =>
  if r4 = v1 then (some 1) else
  j2) else
  j2
noncomputable def f1_price  (h : Nat) (σ : zSt) : Option Int32 :=
  zlt (gR σ 1 h 4) fun o1 =>
  zoc o1 none fun i2 =>
  zlt ((gI σ 7 i2 1) * (gI σ 1 h 5) : Int32) fun x3 =>
  if (zop_idiv (gI σ 1 h 2) 4) = 2 then (some (x3 + (zop_idiv (x3 + 1) 2))) else
  some x3
noncomputable def f3_paceAt  (h : Nat) (v1 : Int32) (σ : zSt) : Option Int32 :=
  zc1 (f11_isIn v1 ((gI σ 3 h 2) - 1) σ) fun r1 =>
  if r1 = 0 then (some (-2000000000)) else
  zix (v1 + 1) 12 fun m2 =>
  zix v1 12 fun m3 =>
  zlt ((gI σ 400 h m2) - (gI σ 400 h m3) : Int32) fun x4 =>
  if x4 = 0 then (some 0) else
  zix (v1 + 1) 12 fun m5 =>
  zix v1 12 fun m6 =>
  znz x4 <|
  some (zop_idiv (((gI σ 401 h m5) - (gI σ 401 h m6)) * 1000) x4)
noncomputable def f3_isDrying_L2  (h0 : Nat) (h1 : Int32) (σ : zSt) (K42 : Option Int32) : Nat → Int32 → Option Int32
  | 0, _ => none
  | n + 1, v2 =>
    if h1 ≤ v2 then (K42) else
    zc1 (f3_paceAt h0 v2 σ) fun r1 =>
    if r1 < 0 then (some 0) else
    zlt (zlt (v2 + 1 : Int32) fun x4 =>
    f3_isDrying_L2 h0 h1 σ K42 n x4) fun j2 =>
    if v2 ≤ 0 then (j2) else
    zc1 (f3_paceAt h0 v2 σ) fun r6 =>
    zc1 (f3_paceAt h0 (v2 - 1) σ) fun r7 =>
    if r6 ≤ r7 then (j2) else
    some 0
noncomputable def f3_isDrying  (h : Nat) (v1 : Int32) (σ : zSt) : Option Int32 :=
  f3_isDrying_L2 h v1 σ (zc1 (f3_paceAt h (v1 - 1) σ) fun r8 =>
  zc1 (f3_paceAt h 0 σ) fun r9 =>
  if 0 < (lg_cmp ((Int32.toInt64 r8) * 4) (Int32.toInt64 r9)) then (some 0) else
  some 1) zfuel 0
noncomputable def f3_swings_L13  (h0 : Nat) (h1 : Int32) (σ : zSt) (K136 : Int32 → Int32 → Int32 → Int32 → Option Int32) : Nat → Int32 → Int32 → Int32 → Int32 → Int32 → Option Int32
  | 0, _, _, _, _, _ => none
  | n + 1, v2, v3, v4, v5, v6 =>
    if h1 ≤ v6 then (K136 v2 v3 v4 v5) else
    zc1 (f3_paceAt h0 v6 σ) fun r1 =>
    zix (v6 + 1) 12 fun m2 =>
    zlt (if (6 : Int32) ≤ (zop_irem (zop_idiv (gI σ 400 h0 m2) 30) 12) then 0 else 1 : Int32) fun x7 =>
    zlt (v2 ||| (if x7 = 0 then 0 else (if r1 ≤ 0 then 0 else 1)) : Int32) fun x15 =>
    zlt (v3 ||| (if x7 = 0 then 0 else (if 0 ≤ r1 then 0 else 1)) : Int32) fun x23 =>
    zlt (v4 ||| (if x7 = 0 then (if r1 ≤ 0 then 0 else 1) else 0) : Int32) fun x31 =>
    zlt (v5 ||| (if x7 = 0 then (if 0 ≤ r1 then 0 else 1) else 0) : Int32) fun x39 =>
    zlt (v6 + 1 : Int32) fun x40 =>
    f3_swings_L13 h0 h1 σ K136 n x15 x23 x31 x39 x40
noncomputable def f3_swings  (h : Nat) (v1 : Int32) (σ : zSt) : Option Int32 :=
  f3_swings_L13 h v1 σ (fun (a42 : Int32) (a43 : Int32) (a44 : Int32) (a45 : Int32) =>
  zlt (some 1) fun j46 =>
  zlt (zlt (some 0) fun j50 =>
  if a43 = 0 then (j50) else
  if a44 = 0 then (j50) else
  j46) fun j48 =>
  if a42 = 0 then (j48) else
  if a45 = 0 then (j48) else
  j46) zfuel 0 0 0 0 0
noncomputable def f3_quickens  (h : Nat) (v1 : Int32) (σ : zSt) : Option Int32 :=
  zc1 (f3_paceAt h (v1 - 1) σ) fun r1 =>
  zc1 (f3_paceAt h 0 σ) fun r2 =>
  zlt (some 0) fun j3 =>
  if r1 ≤ r2 then (j3) else
  if r1 ≤ 0 then (j3) else
  some 1
noncomputable def f3_says_L2  (h0 : Nat) (h1 : Int32) (σ : zSt) (K26 : Int32 → Option Int32) : Nat → Int32 → Option Int32
  | 0, _ => none
  | n + 1, v2 =>
    if (gI σ 3 h0 2) ≤ v2 then (K26 v2) else
    zix v2 12 fun m1 =>
    if h1 < (gI σ 400 h0 m1) then (K26 v2) else
    zlt (v2 + 1 : Int32) fun x2 =>
    f3_says_L2 h0 h1 σ K26 n x2
noncomputable def f3_says  (h : Nat) (v1 : Int32) (σ : zSt) : Option Int32 :=
  f3_says_L2 h v1 σ (fun (a4 : Int32) =>
  if (3 : Int32) ≤ a4 then (zc1 (f3_isDrying h (a4 - 1) σ) fun r5 =>
  if r5 = 0 then (zc1 (f3_swings h (a4 - 1) σ) fun r6 =>
  zlt (some 2) fun j7 =>
  if r6 = 0 then (zc1 (f3_quickens h (a4 - 1) σ) fun r9 =>
  if r9 = 0 then (some 0) else
  j7) else
  j7) else
  some 1) else
  some 0) zfuel 0
noncomputable def f1_gaugeSays  (h : Nat) (v1 : Int32) (σ : zSt) : Option Int32 :=
  zlt (gR σ 1 h 8) fun o1 =>
  zoc o1 (some 0) fun i2 =>
  zlt (gR σ 1 h 8) fun o3 =>
  zoc o3 none fun i4 =>
  zc1 (f3_says i4 v1 σ) fun r5 =>
  some r5
noncomputable def f1_promiseOn  (h : Nat) (v1 : Int32) (σ : zSt) : Option Int32 :=
  zlt (some (gI σ 1 h 13)) fun j1 =>
  if (gI σ 1 h 13) = 1 then (if v1 ≤ (gI σ 1 h 12) then (j1) else
  some 3) else
  j1
noncomputable def f1_brokenBy  (h : Nat) (v1 : Int32) (σ : zSt) : Option Int32 :=
  zc1 (f1_promiseOn h v1 σ) fun r1 =>
  some ((gI σ 1 h 14) + (if r1 = 3 then 1 else 0))
noncomputable def f1_promiseAnew  (h : Nat) (v1 : Int32) (v2 : Int32) (σ : zSt) : Option (Unit × zSt) :=
  zc1 (f1_brokenBy h v2 σ) fun r1 =>
  zlt (pI σ 1 h 14 r1) fun s2 =>
  zc1 (f1_promiseOn h v2 s2) fun r3 =>
  zlt (pI s2 1 h 15 ((gI s2 1 h 15) + (if r3 = 1 then 1 else 0))) fun s8 =>
  zlt (pI s8 1 h 13 1) fun s9 =>
  zlt (pI s9 1 h 12 v1) fun s10 =>
  zc2 (f4_add h 1 v2 (-1) s10) fun _ s12 =>
  some ((), s12)
noncomputable def f1_saidBy  (h : Nat) (v1 : Int32) (v2 : Int32) (σ : zSt) : Option (Unit × zSt) :=
  zc1 (f1_promiseOn h v2 σ) fun r1 =>
  zlt (fun (a2 : Int32) =>
  zlt (pI σ 1 h 13 a2) fun s5 =>
  zc2 (f4_add h 2 v2 v1 s5) fun _ s7 =>
  some ((), s7)) fun j3 =>
  if r1 = 1 then (j3 2) else
  zc1 (f1_promiseOn h v2 σ) fun r8 =>
  j3 r8
noncomputable def f1_endWith  (h : Nat) (v1 : Int32) (v2 : Int32) (σ : zSt) : Option (Unit × zSt) :=
  zc1 (f1_promiseOn h v2 σ) fun r1 =>
  zlt (fun (a2 : Int32) =>
  zlt (pI σ 1 h 13 a2) fun s5 =>
  zc2 (f4_add h v1 v2 (-1) s5) fun _ s7 =>
  some ((), s7)) fun j3 =>
  if r1 = 1 then (j3 0) else
  zc1 (f1_promiseOn h v2 σ) fun r8 =>
  j3 r8
noncomputable def f2_init  (h : Nat) (σ : zSt) : Option (Unit × zSt) :=
  zlt (gN σ 300) fun i1 =>
  zlt (nw σ 300 5) fun s2 =>
  zlt (pR s2 2 h 0 (some i1)) fun s3 =>
  zlt (gN s3 301) fun i4 =>
  zlt (nw s3 301 7) fun s5 =>
  zlt (pR s5 2 h 1 (some i4)) fun s6 =>
  zlt (gN s6 302) fun i7 =>
  zlt (nw s6 302 7) fun s8 =>
  zlt (pR s8 2 h 2 (some i7)) fun s9 =>
  some ((), s9)
noncomputable def f11_isDigit  (v0 : Int32) (σ : zSt) : Option Int32 :=
  zlt (some 0) fun j1 =>
  if v0 < 48 then (j1) else
  if (57 : Int32) < v0 then (j1) else
  some 1
noncomputable def f2_isName  (v0 : Int32) (σ : zSt) : Option Int32 :=
  zc1 (fJ0_indexOf_0f7a4 3 (zi2c v0) σ) fun r1 =>
  if r1 < 0 then (some 0) else
  some 1
noncomputable def f2_isSign  (v0 : Int32) (σ : zSt) : Option Int32 :=
  zc1 (fJ0_indexOf_0f7a4 4 (zi2c v0) σ) fun r1 =>
  if r1 < 0 then (some 0) else
  some 1
noncomputable def f2_faultIn_L13  (h0 : Nat) (h1 : Int32) (σ : zSt) (K209 : Int32 → Int32 → Option Int32) : Nat → Int32 → Int32 → Int32 → Int32 → Int32 → Option Int32
  | 0, _, _, _, _, _ => none
  | n + 1, v2, v3, v4, v5, v6 =>
    if h1 ≤ v6 then (K209 v2 v4) else
    if (nI 160) ≤ v6 then (K209 v2 v4) else
    zix v6 160 fun m1 =>
    zlt (gI σ 1210 h0 m1 : Int32) fun x2 =>
    zlt (fun (a3 : Int32) (a4 : Int32) (a5 : Int32) (a6 : Int32) =>
    zlt (v6 + 1 : Int32) fun x9 =>
    f2_faultIn_L13 h0 h1 σ K209 n a3 a4 a5 a6 x9) fun j7 =>
    if v4 = 0 then (zc1 (f11_isDigit x2 σ) fun r11 =>
    zlt (zlt (zc1 (f2_isSign x2 σ) fun r16 =>
    zlt (zlt (if x2 = 58 then 1 else (if v5 = 0 then 0 else (if x2 = 59 then 0 else 1)) : Int32) fun x29 =>
    j7 v2 v3 1 x29) fun j17 =>
    if r16 = 0 then (if v2 = 0 then (if x2 = 59 then (j17) else
    if x2 = 58 then (if v5 = 0 then (j17) else
    some v6) else
    some v6) else
    some v6) else
    j17) fun j14 =>
    if x2 = 41 then (if v2 ≤ 0 then (j14) else
    zlt (v2 + (-1) : Int32) fun x30 =>
    j7 x30 0 v4 v5) else
    j14) fun j12 =>
    if r11 = 0 then (j12) else
    if v3 ≤ 0 then (j12) else
    if (5 : Int32) ≤ v3 then (j12) else
    zlt (v3 + 1 : Int32) fun x32 =>
    j7 v2 x32 v4 v5) else
    zlt (zc1 (f11_isDigit x2 σ) fun r36 =>
    zlt (zc1 (f11_isDigit x2 σ) fun r39 =>
    zlt (if r39 = 0 then 0 else 1 : Int32) fun x44 =>
    j7 v2 x44 0 v5) fun j37 =>
    if r36 = 0 then (zc1 (f2_isName x2 σ) fun r45 =>
    if r45 = 0 then (some v6) else
    j37) else
    j37) fun j34 =>
    if x2 = 40 then (if (6 : Int32) ≤ v2 then (j34) else
    zlt (v2 + 1 : Int32) fun x46 =>
    j7 x46 v3 v4 v5) else
    j34
noncomputable def f2_faultIn  (h0 : Nat) (v1 : Int32) (σ : zSt) : Option Int32 :=
  f2_faultIn_L13 h0 v1 σ (fun (a48 : Int32) (a49 : Int32) =>
  zlt (some v1) fun j50 =>
  if a49 = 0 then (if a48 ≤ 0 then (some (-1)) else
  j50) else
  j50) zfuel 0 0 1 0 0
noncomputable def f2_setFacts  (v1 : Int32) (v2 : Int32) (v3 : Int32) (v4 : Int32) (v5 : Int32) (σ : zSt) : Option (Unit × zSt) :=
  zix 0 5 fun m1 =>
  zlt (pI σ 300 0 m1 v1) fun s2 =>
  zix 1 5 fun m3 =>
  zlt (pI s2 300 0 m3 v2) fun s4 =>
  zix 2 5 fun m5 =>
  zlt (pI s4 300 0 m5 v3) fun s6 =>
  zix 3 5 fun m7 =>
  zlt (pI s6 300 0 m7 v4) fun s8 =>
  zix 4 5 fun m9 =>
  zlt (pI s8 300 0 m9 v5) fun s10 =>
  some ((), s10)
noncomputable def f2_startLevel   (σ : zSt) : Option (Unit × zSt) :=
  zc1 (f11_isIn (gI σ 2 0 3) (nI 7) σ) fun r1 =>
  if r1 = 0 then (some ((), σ)) else
  zix (gI σ 2 0 3) 7 fun m2 =>
  zlt (pI σ 301 0 m2 0) fun s3 =>
  zix (gI s3 2 0 3) 7 fun m4 =>
  zlt (pI s3 302 0 m4 43) fun s5 =>
  some ((), s5)
noncomputable def f2_startPart   (σ : zSt) : Option (Unit × zSt) :=
  zlt (pI σ 2 0 3 0) fun s1 =>
  zc2 (f2_startLevel s1) fun _ s3 =>
  some ((), s3)
noncomputable def f10_length  (h : Nat) (σ : zSt) : Option Int32 :=
  some (nI (gZ σ 1100 h))
noncomputable def f10_at  (h : Nat) (v1 : Int32) (σ : zSt) : Option Int32 :=
  zlt (some (-1)) fun j1 =>
  if v1 < 0 then (j1) else
  if (nI (gZ σ 1100 h)) ≤ v1 then (j1) else
  zix v1 (gZ σ 1100 h) fun m3 =>
  some (gI σ 1100 h m3)
noncomputable def f2_workOut  (v0 : Int32) (v1 : Int32) (v2 : Int32) (σ : zSt) : Option Int32 :=
  if v1 = 42 then (some (v0 * v2)) else
  if v1 = 43 then (some (v0 + v2)) else
  if v1 = 45 then (some (v0 - v2)) else
  if v2 = 0 then (some 0) else
  znz v2 <|
  some (zop_idiv v0 v2)
noncomputable def f2_join  (v1 : Int32) (σ : zSt) : Option (Unit × zSt) :=
  zc1 (f11_isIn (gI σ 2 0 3) (nI 7) σ) fun r1 =>
  if r1 = 0 then (some ((), σ)) else
  zix (gI σ 2 0 3) 7 fun m2 =>
  zix (gI σ 2 0 3) 7 fun m3 =>
  zc1 (f2_workOut (gI σ 301 0 m2) (gI σ 302 0 m3) v1 σ) fun r4 =>
  zix (gI σ 2 0 3) 7 fun m5 =>
  zlt (pI σ 301 0 m5 r4) fun s6 =>
  some ((), s6)
noncomputable def f2_step  (v1 : Int32) (σ : zSt) : Option (Unit × zSt) :=
  zc1 (fJ0_indexOf_0f7a4 3 (zi2c v1) σ) fun r1 =>
  zc1 (f11_isIn r1 (nI 5) σ) fun r2 =>
  if r2 = 0 then (zlt (zlt (zc1 (f11_isIn (gI σ 2 0 3) (nI 7) σ) fun r7 =>
  if r7 = 0 then (some ((), σ)) else
  zix (gI σ 2 0 3) 7 fun m8 =>
  zlt (pI σ 302 0 m8 v1) fun s9 =>
  some ((), s9)) fun j5 =>
  if v1 = 41 then (if (gI σ 2 0 3) ≤ 0 then (j5) else
  if (6 : Int32) < (gI σ 2 0 3) then (j5) else
  zlt (pI σ 2 0 3 ((gI σ 2 0 3) - 1)) fun s10 =>
  zix ((gI s10 2 0 3) + 1) 7 fun m11 =>
  zc2 (f2_join (gI s10 301 0 m11) s10) fun _ s13 =>
  some ((), s13)) else
  j5) fun j3 =>
  if v1 = 40 then (if (6 : Int32) ≤ (gI σ 2 0 3) then (j3) else
  zlt (pI σ 2 0 3 ((gI σ 2 0 3) + 1)) fun s14 =>
  zc2 (f2_startLevel s14) fun _ s16 =>
  some ((), s16)) else
  j3) else
  zix r1 5 fun m17 =>
  zc2 (f2_join (gI σ 300 0 m17) σ) fun _ s19 =>
  some ((), s19)
noncomputable def f2_gives_L11  (h1 : Nat) (K111 : zSt → Option (Int32 × zSt)) (K139 : Int32 → zSt → Option (Int32 × zSt)) : Nat → Int32 → Int32 → Int32 → zSt → Option (Int32 × zSt)
  | 0, _, _, _, _ => none
  | n + 1, v2, v3, v4, σ =>
    zc1 (f10_length h1 σ) fun r3 =>
    if r3 ≤ v4 then (K139 v2 σ) else
    zc1 (f10_at h1 v4 σ) fun r4 =>
    zc1 (f11_isDigit r4 σ) fun r5 =>
    zlt (fun (a6 : Int32) (a7 : Int32) (s8 : zSt) =>
    zlt (v4 + 1 : Int32) fun x11 =>
    f2_gives_L11 h1 K111 K139 n a6 a7 x11 s8) fun j9 =>
    if r5 = 0 then (if r4 = 58 then (zix 0 7 fun m13 =>
    zlt (if (gI σ 301 0 m13) = 0 then 0 else 1 : Int32) fun x18 =>
    zc2 (f2_startPart σ) fun _ s20 =>
    j9 x18 v3 s20) else
    if r4 = 59 then (if v2 = 0 then (zc2 (f2_startPart σ) fun _ s22 =>
    j9 1 v3 s22) else
    K111 σ) else
    zc2 (f2_step r4 σ) fun _ s24 =>
    j9 v2 v3 s24) else
    zlt ((v3 * 10) + (r4 - 48) : Int32) fun x25 =>
    zc1 (f10_at h1 (v4 + 1) σ) fun r26 =>
    zc1 (f11_isDigit r26 σ) fun r27 =>
    if r27 = 0 then (zc2 (f2_join x25 σ) fun _ s29 =>
    j9 v2 0 s29) else
    j9 v2 x25 σ
noncomputable def f2_gives  (h1 : Nat) (σ : zSt) : Option (Int32 × zSt) :=
  zc2 (f2_startPart σ) fun _ s2 =>
  f2_gives_L11 h1 (fun (s30 : zSt) =>
  zix 0 7 fun m31 =>
  some (gI s30 301 0 m31, s30)) (fun (a32 : Int32) (s33 : zSt) =>
  if a32 = 0 then (some (0, s33)) else
  zix 0 7 fun m34 =>
  some (gI s33 301 0 m34, s33)) zfuel 1 0 0 s2
noncomputable def f3_lastDay  (h : Nat) (σ : zSt) : Option Int32 :=
  if (gI σ 3 h 2) = 0 then (some (-1)) else
  zix ((gI σ 3 h 2) - 1) 12 fun m1 =>
  some (gI σ 400 h m1)
noncomputable def f3_add  (h : Nat) (v1 : Int32) (v2 : Int32) (σ : zSt) : Option (Int32 × zSt) :=
  if (gI σ 3 h 2) < 12 then (zix (gI σ 3 h 2) 12 fun m1 =>
  zlt (pI σ 400 h m1 v1) fun s2 =>
  zix (gI s2 3 h 2) 12 fun m3 =>
  zlt (pI s2 401 h m3 v2) fun s4 =>
  zlt (pI s4 3 h 2 ((gI s4 3 h 2) + 1)) fun s5 =>
  some (1, s5)) else
  some (0, σ)
noncomputable def f4_isFull  (h : Nat) (σ : zSt) : Option Int32 :=
  if (gI σ 4 h 3) < 30 then (some 0) else
  some 1
noncomputable def f4_dayAt  (h : Nat) (v1 : Int32) (σ : zSt) : Option Int32 :=
  zc1 (f11_isIn v1 (gI σ 4 h 3) σ) fun r1 =>
  if r1 = 0 then (some (-1)) else
  zix v1 30 fun m2 =>
  some (gI σ 500 h m2)
noncomputable def f4_isSaidAt  (h : Nat) (v1 : Int32) (v2 : Int32) (σ : zSt) : Option Int32 :=
  zix v1 30 fun m1 =>
  zlt (some 0) fun j2 =>
  if (gI σ 501 h m1) = 2 then (zlt (some 1) fun j4 =>
  if v2 = (-1) then (j4) else
  zix v1 30 fun m6 =>
  if (gI σ 502 h m6) = v2 then (j4) else
  j2) else
  j2
noncomputable def f4_timesSaid_L4  (h0 : Nat) (h1 : Int32) (σ : zSt)  : Nat → Int32 → Int32 → Option Int32
  | 0, _, _ => none
  | n + 1, v2, v3 =>
    if (gI σ 4 h0 3) ≤ v3 then (some v2) else
    zc1 (f4_isSaidAt h0 v3 h1 σ) fun r1 =>
    zlt (v2 + (if r1 = 0 then 0 else 1) : Int32) fun x6 =>
    zlt (v3 + 1 : Int32) fun x7 =>
    f4_timesSaid_L4 h0 h1 σ n x6 x7
noncomputable def f4_timesSaid  (h : Nat) (v1 : Int32) (σ : zSt) : Option Int32 :=
  f4_timesSaid_L4 h v1 σ zfuel 0 0
noncomputable def f4_timesFalse_L4  (h0 : Nat) (h1 : Int32) (σ : zSt)  : Nat → Int32 → Int32 → Option Int32
  | 0, _, _ => none
  | n + 1, v2, v3 =>
    if (gI σ 4 h0 3) ≤ (v3 + 1) then (some v2) else
    zc1 (f4_isSaidAt h0 v3 h1 σ) fun r1 =>
    zlt (fun (a2 : Int32) =>
    zlt (v2 + a2 : Int32) fun x5 =>
    zlt (v3 + 1 : Int32) fun x6 =>
    f4_timesFalse_L4 h0 h1 σ n x5 x6) fun j3 =>
    zlt (j3 0) fun j8 =>
    if r1 = 0 then (j8) else
    zix (v3 + 1) 30 fun m10 =>
    if (gI σ 501 h0 m10) = 0 then (j3 1) else
    j8
noncomputable def f4_timesFalse  (h : Nat) (v1 : Int32) (σ : zSt) : Option Int32 :=
  f4_timesFalse_L4 h v1 σ zfuel 0 0
noncomputable def fJ7_fill_611_L5  (h0 : Nat) (h1 : Int32) (h3 : Int32)  : Nat → Int32 → zSt → Option (Unit × zSt)
  | 0, _, _ => none
  | n + 1, v2, σ =>
    if h3 ≤ v2 then (some ((), σ)) else
    zix v2 10 fun m2 =>
    zlt (pI σ 611 h0 m2 h1) fun s3 =>
    zlt (v2 + 1 : Int32) fun x4 =>
    fJ7_fill_611_L5 h0 h1 h3 n x4 s3
noncomputable def fJ7_fill_611  (h0 : Nat) (v1 : Int32) (σ : zSt) : Option (Unit × zSt) :=
  zlt (nI 10 : Int32) fun x1 =>
  fJ7_fill_611_L5 h0 v1 x1 zfuel 0 σ
noncomputable def f5_init  (h : Nat) (v1 : Int32) (v2 : Int32) (v3 : Int32) (v4 : Int32) (σ : zSt) : Option (Unit × zSt) :=
  zlt (pI σ 5 h 4 (-1)) fun s1 =>
  zlt (pI s1 5 h 5 127) fun s2 =>
  zlt (gN s2 610) fun i3 =>
  zlt (nw s2 610 20) fun s4 =>
  zlt (pR s4 5 h 10 (some i3)) fun s5 =>
  zlt (gN s5 611) fun i6 =>
  zlt (nw s5 611 10) fun s7 =>
  zlt (pR s7 5 h 11 (some i6)) fun s8 =>
  zlt (pI s8 5 h 0 v1) fun s9 =>
  zlt (pI s9 5 h 1 v2) fun s10 =>
  zlt (pI s10 5 h 2 v3) fun s11 =>
  zlt (pI s11 5 h 3 v4) fun s12 =>
  zlt (gR s12 5 h 11) fun o13 =>
  zoc o13 none fun i14 =>
  zc2 (fJ7_fill_611 i14 (-1) s12) fun _ s16 =>
  some ((), s16)
noncomputable def f5_crewOf  (h : Nat) (v1 : Int32) (σ : zSt) : Option Int32 :=
  zc1 (f11_isIn v1 10 σ) fun r1 =>
  if r1 = 0 then (some (-1)) else
  zix v1 10 fun m2 =>
  some (gI σ 611 h m2)
noncomputable def f5_addSale  (h : Nat) (v1 : Int32) (σ : zSt) : Option (Int32 × zSt) :=
  if (gI σ 5 h 9) < 20 then (zix (gI σ 5 h 9) 20 fun m1 =>
  zlt (pI σ 610 h m1 v1) fun s2 =>
  zlt (pI s2 5 h 9 ((gI s2 5 h 9) + 1)) fun s3 =>
  some (1, s3)) else
  some (0, σ)
noncomputable def f5_salesBy_L4  (h0 : Nat) (h1 : Int32) (σ : zSt)  : Nat → Int32 → Int32 → Option Int32
  | 0, _, _ => none
  | n + 1, v2, v3 =>
    if (gI σ 5 h0 9) ≤ v3 then (some v2) else
    zix v3 20 fun m1 =>
    zlt (v2 + (if h1 < (gI σ 610 h0 m1) then 0 else 1) : Int32) fun x6 =>
    zlt (v3 + 1 : Int32) fun x7 =>
    f5_salesBy_L4 h0 h1 σ n x6 x7
noncomputable def f5_salesBy  (h : Nat) (v1 : Int32) (σ : zSt) : Option Int32 :=
  f5_salesBy_L4 h v1 σ zfuel 0 0
noncomputable def f6_init  (h : Nat) (σ : zSt) : Option (Unit × zSt) :=
  zlt (gN σ 700) fun i1 =>
  zlt (nw σ 700 9) fun s2 =>
  zlt (pR s2 6 h 0 (some i1)) fun s3 =>
  some ((), s3)
noncomputable def f6_nextPhaseIf  (h0 : Nat) (v1 : Int32) (v2 : Int32) (σ : zSt) : Option Int32 :=
  z5 h0 <|
  zc1 (fJ0_indexOf_0f7a4 h0 (zi2c v1) σ) fun r1 =>
  if r1 < 0 then (some 7) else
  some v2
noncomputable def f6_nextPhase  (v0 : Int32) (v1 : Int32) (σ : zSt) : Option Int32 :=
  if v0 = 0 then (if v1 = 62 then (some 5) else
  zc1 (f6_nextPhaseIf 0 v1 2 σ) fun r4 =>
  some r4) else
  if v0 = 1 then (zc1 (f6_nextPhaseIf 0 v1 2 σ) fun r6 =>
  some r6) else
  if v0 = 2 then (zc1 (f6_nextPhaseIf 1 v1 3 σ) fun r8 =>
  some r8) else
  if v0 = 3 then (zc1 (f11_isDigit v1 σ) fun r10 =>
  if r10 = 0 then (some 7) else
  some 4) else
  if v0 = 4 then (if v1 = 38 then (some 1) else
  if v1 = 62 then (some 5) else
  zc1 (f11_isDigit v1 σ) fun r12 =>
  if r12 = 0 then (some 7) else
  some 4) else
  if v0 = 5 then (zc1 (f6_nextPhaseIf 2 v1 6 σ) fun r14 =>
  some r14) else
  if v0 = 6 then (if v1 = 59 then (some 0) else
  zc1 (f11_isDigit v1 σ) fun r16 =>
  if r16 = 0 then (some 7) else
  some 6) else
  some 7
noncomputable def f6_faultIn_L7  (h0 : Nat) (h1 : Int32) (σ : zSt) (K79 : Int32 → Option Int32) : Nat → Int32 → Int32 → Int32 → Option Int32
  | 0, _, _, _ => none
  | n + 1, v2, v3, v4 =>
    if h1 ≤ v4 then (K79 v2) else
    if (nI 160) ≤ v4 then (K79 v2) else
    zix v4 160 fun m1 =>
    zc1 (f11_isDigit (gI σ 1210 h0 m1) σ) fun r2 =>
    zlt (zix v4 160 fun m5 =>
    zc1 (f6_nextPhase v2 (gI σ 1210 h0 m5) σ) fun r6 =>
    if r6 = 7 then (some v4) else
    zlt (if r2 = 0 then 0 else (v3 + 1) : Int32) fun x11 =>
    zlt (v4 + 1 : Int32) fun x12 =>
    f6_faultIn_L7 h0 h1 σ K79 n r6 x11 x12) fun j3 =>
    if r2 = 0 then (j3) else
    if v3 < 4 then (j3) else
    some v4
noncomputable def f6_faultIn  (h0 : Nat) (v1 : Int32) (σ : zSt) : Option Int32 :=
  f6_faultIn_L7 h0 v1 σ (fun (a14 : Int32) =>
  zlt (some v1) fun j15 =>
  if v1 ≤ 0 then (j15) else
  if a14 = 0 then (some (-1)) else
  j15) zfuel 0 0 0
noncomputable def f6_set  (v1 : Int32) (v2 : Int32) (v3 : Int32) (v4 : Int32) (σ : zSt) : Option (Unit × zSt) :=
  zlt (pI σ 6 0 1 v1) fun s1 =>
  zlt (pI s1 6 0 2 v2) fun s2 =>
  zlt (pI s2 6 0 3 v3) fun s3 =>
  zlt (pI s3 6 0 4 v4) fun s4 =>
  some ((), s4)
noncomputable def f6_builderPaysAll  (v1 : Int32) (σ : zSt) : Option (Unit × zSt) :=
  zc2 (f6_set 0 0 v1 (-1) σ) fun _ s2 =>
  some ((), s2)
noncomputable def f6_ownerPaysAll  (v1 : Int32) (σ : zSt) : Option (Unit × zSt) :=
  zc2 (f6_set 2 v1 0 (-1) σ) fun _ s2 =>
  some ((), s2)
noncomputable def f6_readNumber_L2    : Nat → Int32 → zSt → Option (Int32 × zSt)
  | 0, _, _ => none
  | n + 1, v1, σ =>
    zlt (gR σ 6 0 5) fun o1 =>
    zoc o1 none fun i2 =>
    zc1 (f10_length i2 σ) fun r3 =>
    if r3 ≤ (gI σ 6 0 6) then (some (v1, σ)) else
    zlt (gR σ 6 0 5) fun o4 =>
    zoc o4 none fun i5 =>
    zc1 (f10_at i5 (gI σ 6 0 6) σ) fun r6 =>
    zc1 (f11_isDigit r6 σ) fun r7 =>
    if r7 = 0 then (some (v1, σ)) else
    zlt (gR σ 6 0 5) fun o8 =>
    zoc o8 none fun i9 =>
    zc1 (f10_at i9 (gI σ 6 0 6) σ) fun r10 =>
    zlt ((v1 * 10) + (r10 - 48) : Int32) fun x11 =>
    zlt (pI σ 6 0 6 ((gI σ 6 0 6) + 1)) fun s12 =>
    f6_readNumber_L2 n x11 s12
noncomputable def f6_readNumber   (σ : zSt) : Option (Int32 × zSt) :=
  f6_readNumber_L2 zfuel 0 σ
noncomputable def f6_compares  (v0 : Int32) (v1 : Int32) (v2 : Int32) (σ : zSt) : Option Int32 :=
  if v1 = 33 then (if v0 = v2 then (some 0) else
  some 1) else
  if v1 = 60 then (if v2 ≤ v0 then (some 0) else
  some 1) else
  if v1 = 61 then (if v0 = v2 then (some 1) else
  some 0) else
  if v0 < v2 then (some 0) else
  some 1
noncomputable def f6_readTests_L2   (K146 : Int32 → zSt → Option (Int32 × zSt)) : Nat → Int32 → zSt → Option (Int32 × zSt)
  | 0, _, _ => none
  | n + 1, v1, σ =>
    zlt (gR σ 6 0 5) fun o1 =>
    zoc o1 none fun i2 =>
    zc1 (f10_length i2 σ) fun r3 =>
    if r3 ≤ (gI σ 6 0 6) then (K146 v1 σ) else
    zlt (gR σ 6 0 5) fun o4 =>
    zoc o4 none fun i5 =>
    zc1 (f10_at i5 (gI σ 6 0 6) σ) fun r6 =>
    if r6 = 62 then (K146 v1 σ) else
    zlt (gR σ 6 0 5) fun o7 =>
    zoc o7 none fun i8 =>
    zc1 (f10_at i8 (gI σ 6 0 6) σ) fun r9 =>
    zc1 (fJ0_indexOf_0f7a4 0 (zi2c r9) σ) fun r10 =>
    zlt (gR σ 6 0 5) fun o11 =>
    zoc o11 none fun i12 =>
    zc1 (f10_at i12 ((gI σ 6 0 6) + 1) σ) fun r13 =>
    zlt (pI σ 6 0 6 ((gI σ 6 0 6) + 2)) fun s14 =>
    zc2 (f6_readNumber s14) fun r15 s16 =>
    zlt (fun (a17 : Int32) =>
    zlt (gR s16 6 0 5) fun o20 =>
    zoc o20 none fun i21 =>
    zc1 (f10_at i21 (gI s16 6 0 6) s16) fun r22 =>
    zlt (fun (s23 : zSt) =>
    f6_readTests_L2 K146 n a17 s23) fun j24 =>
    if r22 = 38 then (zlt (pI s16 6 0 6 ((gI s16 6 0 6) + 1)) fun s26 =>
    j24 s26) else
    j24 s16) fun j18 =>
    zlt (j18 0) fun j27 =>
    if v1 = 0 then (j27) else
    zc1 (f11_isIn r10 (nI 9) s16) fun r29 =>
    if r29 = 0 then (j27) else
    zix r10 9 fun m30 =>
    zc1 (f6_compares (gI s16 700 0 m30) r13 r15 s16) fun r31 =>
    if r31 = 0 then (j27) else
    j18 1
noncomputable def f6_readTests   (σ : zSt) : Option (Int32 × zSt) :=
  f6_readTests_L2 (fun (a32 : Int32) (s33 : zSt) =>
  zlt (pI s33 6 0 6 ((gI s33 6 0 6) + 1)) fun s34 =>
  zbo a32 (some (a32, s34))) zfuel 1 σ
noncomputable def f6_findLine_L10    : Nat → zSt → Option (Int32 × zSt)
  | 0, _ => none
  | n + 1, σ =>
    zlt (gR σ 6 0 5) fun o3 =>
    zoc o3 none fun i4 =>
    zc1 (f10_length i4 σ) fun r5 =>
    if r5 ≤ (gI σ 6 0 6) then (some (0, σ)) else
    zc2 (f6_readTests σ) fun r6 s7 =>
    zlt (gR s7 6 0 5) fun o8 =>
    zoc o8 none fun i9 =>
    zc1 (f10_at i9 (gI s7 6 0 6) s7) fun r10 =>
    zlt (pI s7 6 0 7 r10) fun s11 =>
    zlt (pI s11 6 0 6 ((gI s11 6 0 6) + 1)) fun s12 =>
    zc2 (f6_readNumber s12) fun r13 s14 =>
    zlt (pI s14 6 0 8 r13) fun s15 =>
    zlt (pI s15 6 0 6 ((gI s15 6 0 6) + 1)) fun s16 =>
    if r6 = 0 then (zlt (pI s16 6 0 4 ((gI s16 6 0 4) + 1)) fun s17 =>
    f6_findLine_L10 n s17) else
    some (1, s16)
noncomputable def f6_findLine   (σ : zSt) : Option (Int32 × zSt) :=
  zlt (pI σ 6 0 6 0) fun s1 =>
  zlt (pI s1 6 0 4 0) fun s2 =>
  f6_findLine_L10 zfuel s2
noncomputable def f6_decideBy  (h1 : Nat) (v2 : Int32) (v3 : Int32) (σ : zSt) : Option (Unit × zSt) :=
  zlt (pR σ 6 0 5 (some h1)) fun s1 =>
  zc2 (f6_findLine s1) fun r2 s3 =>
  if r2 = 0 then (zc2 (f6_ownerPaysAll v2 s3) fun _ s5 =>
  some ((), s5)) else
  zlt (zmin (gI s3 6 0 8) v2 : Int32) fun x6 =>
  zlt (gI s3 6 0 7 : Int32) fun x7 =>
  if x7 = 98 then (zc2 (f6_set 0 x6 (v2 - x6) (gI s3 6 0 4) s3) fun _ s12 =>
  some ((), s12)) else
  if x7 = 99 then (zc2 (f6_set (if v3 = (-1) then 0 else (10 + v3)) x6 (v2 - x6) (gI s3 6 0 4) s3) fun _ s19 =>
  some ((), s19)) else
  if x7 = 118 then (zc2 (f6_set 3 0 0 (gI s3 6 0 4) s3) fun _ s22 =>
  some ((), s22)) else
  if x7 = 119 then (zc2 (f6_set 1 x6 (v2 - x6) (gI s3 6 0 4) s3) fun _ s25 =>
  some ((), s25)) else
  zc2 (f6_set 2 v2 0 (gI s3 6 0 4) s3) fun _ s27 =>
  some ((), s27)
noncomputable def f7_init  (h : Nat) (v1 : Int32) (v2 : Int32) (v3 : Int32) (σ : zSt) : Option (Unit × zSt) :=
  zlt (pI σ 7 h 0 v1) fun s1 =>
  zlt (pI s1 7 h 1 v2) fun s2 =>
  zlt (pI s2 7 h 2 v3) fun s3 =>
  some ((), s3)
noncomputable def f8_choose_L16  (h0 : Int32) (h1 : Int32) (σ : zSt)  : Nat → Int64 → Int32 → Option Int64
  | 0, _, _ => none
  | n + 1, v2, v4 =>
    if h1 < v4 then (some v2) else
    znl (Int32.toInt64 v4) <|
    zlt (zop_ldiv (v2 * (Int32.toInt64 ((h0 - h1) + v4))) (Int32.toInt64 v4) : Int64) fun l1 =>
    zlt (v4 + 1 : Int32) fun x2 =>
    f8_choose_L16 h0 h1 σ n l1 x2
noncomputable def f8_choose  (v0 : Int32) (v1 : Int32) (σ : zSt) : Option Int64 :=
  if v1 < 0 then (some 0) else
  if v1 ≤ v0 then (f8_choose_L16 v0 v1 σ zfuel 1 1) else
  some 0
noncomputable def f8_ways_L6  (h0 : Int32) (h1 : Int32) (h2 : Int32) (h4 : Int32) (σ : zSt)  : Nat → Int64 → Int32 → Option Int64
  | 0, _, _ => none
  | n + 1, v5, v7 =>
    if h4 < v7 then (some v5) else
    zc1 (f8_choose h1 v7 σ) fun r1 =>
    zc1 (f8_choose (h0 - h1) (h2 - v7) σ) fun r2 =>
    zlt (v5 + (r1 * r2) : Int64) fun l3 =>
    zlt (v7 + 1 : Int32) fun x4 =>
    f8_ways_L6 h0 h1 h2 h4 σ n l3 x4
noncomputable def f8_ways  (v0 : Int32) (v1 : Int32) (v2 : Int32) (v3 : Int32) (v4 : Int32) (σ : zSt) : Option Int64 :=
  f8_ways_L6 v0 v1 v2 v4 σ zfuel 0 v3
noncomputable def f8_chanceOfMany  (v0 : Int32) (v1 : Int32) (v2 : Int32) (v3 : Int32) (σ : zSt) : Option Int32 :=
  zc1 (f8_choose v0 v2 σ) fun r1 =>
  if v2 = 0 then (some 10000) else
  if (lg_cmp r1 0) = 0 then (some 10000) else
  zc1 (f8_ways v0 v1 v2 v3 v2 σ) fun r2 =>
  znl r1 <|
  some (Int64.toInt32 (zop_ldiv (((r2 * 10000) + r1) - 1) r1))
noncomputable def f8_leastFalse_L10  (h0 : Int32) (h1 : Int32) (h2 : Int32) (h3 : Int32) (h4 : Int64) (σ : zSt)  : Nat → Int32 → Option Int32
  | 0, _ => none
  | n + 1, v6 =>
    if ((h0 - h1) + h2) ≤ v6 then (some v6) else
    zc1 (f8_ways h0 v6 h1 h2 h1 σ) fun r2 =>
    if 0 ≤ (lg_cmp (r2 * 100) ((Int32.toInt64 h3) * h4)) then (some v6) else
    zlt (v6 + 1 : Int32) fun x3 =>
    f8_leastFalse_L10 h0 h1 h2 h3 h4 σ n x3
noncomputable def f8_leastFalse  (v0 : Int32) (v1 : Int32) (v2 : Int32) (v3 : Int32) (σ : zSt) : Option Int32 :=
  zc1 (f8_choose v0 v1 σ) fun r1 =>
  f8_leastFalse_L10 v0 v1 v2 v3 r1 σ zfuel v2
noncomputable def f8_greatestFalse_L14  (h0 : Int32) (h1 : Int32) (h2 : Int32) (h3 : Int32) (h4 : Int64) (σ : zSt)  : Nat → Int32 → Option Int32
  | 0, _ => none
  | n + 1, v6 =>
    if v6 ≤ h2 then (some v6) else
    zc1 (f8_ways h0 v6 h1 0 h2 σ) fun r3 =>
    if 0 ≤ (lg_cmp (r3 * 100) ((Int32.toInt64 h3) * h4)) then (some v6) else
    zlt (v6 + (-1) : Int32) fun x4 =>
    f8_greatestFalse_L14 h0 h1 h2 h3 h4 σ n x4
noncomputable def f8_greatestFalse  (v0 : Int32) (v1 : Int32) (v2 : Int32) (v3 : Int32) (σ : zSt) : Option Int32 :=
  zc1 (f8_choose v0 v1 σ) fun r1 =>
  zlt ((v0 - v1) + v2 : Int32) fun x2 =>
  f8_greatestFalse_L14 v0 v1 v2 v3 r1 σ zfuel x2
noncomputable def f9_init  (h : Nat) (σ : zSt) : Option (Unit × zSt) :=
  zlt (gN σ 1000) fun i1 =>
  zlt (nw σ 1000 10) fun s2 =>
  zlt (pR s2 9 h 0 (some i1)) fun s3 =>
  some ((), s3)
noncomputable def f9_isFull  (h : Nat) (σ : zSt) : Option Int32 :=
  if (gI σ 9 h 1) < 10 then (some 0) else
  some 1
noncomputable def f9_add  (h : Nat) (h1 : Nat) (σ : zSt) : Option (Int32 × zSt) :=
  if (gI σ 9 h 1) < 10 then (zix (gI σ 9 h 1) 10 fun m1 =>
  zlt (pR σ 1000 h m1 (some h1)) fun s2 =>
  zlt (pI s2 9 h 1 ((gI s2 9 h 1) + 1)) fun s3 =>
  some ((gI s3 9 h 1) - 1, s3)) else
  some ((-2), σ)
noncomputable def f9_at  (h : Nat) (v1 : Int32) (σ : zSt) : Option (Option Nat) :=
  zc1 (f11_isIn v1 (gI σ 9 h 1) σ) fun r1 =>
  if r1 = 0 then (some none) else
  zix v1 10 fun m2 =>
  zlt (gR σ 1000 h m2) fun o3 =>
  some o3
noncomputable def f9_holding_L7  (h0 : Nat) (h1 : Nat) (h2 : Int32) (σ : zSt)  : Nat → Int32 → Option Int32
  | 0, _ => none
  | n + 1, v3 =>
    if v3 < 0 then (some (-4)) else
    zix v3 10 fun m2 =>
    zlt (gR σ 1000 h0 m2) fun o3 =>
    zoc o3 none fun i4 =>
    zlt (zlt (v3 + (-1) : Int32) fun x7 =>
    f9_holding_L7 h0 h1 h2 σ n x7) fun j5 =>
    if h2 < (gI σ 10 i4 1) then (j5) else
    zix v3 10 fun m9 =>
    zlt (gR σ 1000 h0 m9) fun o10 =>
    zoc o10 none fun i11 =>
    if (gI σ 5 h1 4) < (gI σ 10 i11 2) then (j5) else
    some v3
noncomputable def f9_holding  (h : Nat) (h1 : Nat) (v2 : Int32) (σ : zSt) : Option Int32 :=
  zlt ((gI σ 9 h 1) - 1 : Int32) fun x1 =>
  f9_holding_L7 h h1 v2 σ zfuel x1
noncomputable def f10_init  (h : Nat) (h1 : Nat) (v2 : Int32) (v3 : Int32) (σ : zSt) : Option (Unit × zSt) :=
  zlt (pR σ 10 h 0 (some h1)) fun s1 =>
  zlt (pI s1 10 h 1 v2) fun s2 =>
  zlt (pI s2 10 h 2 v3) fun s3 =>
  some ((), s3)
noncomputable def f11_init  (h : Nat) (σ : zSt) : Option (Unit × zSt) :=
  zlt (gN σ 1200) fun i1 =>
  zlt (nw σ 1200 40) fun s2 =>
  zlt (pR s2 11 h 0 (some i1)) fun s3 =>
  zlt (gN s3 1202) fun i4 =>
  zlt (nw s3 1202 20) fun s5 =>
  zlt (pR s5 11 h 2 (some i4)) fun s6 =>
  zlt (gN s6 1204) fun i7 =>
  zlt (nw s6 1204 200) fun s8 =>
  zlt (pR s8 11 h 4 (some i7)) fun s9 =>
  zlt (pI s9 11 h 7 14) fun s10 =>
  zlt (pI s10 11 h 8 100) fun s11 =>
  zlt (pI s11 11 h 9 1) fun s12 =>
  zlt (gN s12 1210) fun i13 =>
  zlt (nw s12 1210 160) fun s14 =>
  zlt (pR s14 11 h 10 (some i13)) fun s15 =>
  zlt (gN s15 9) fun i16 =>
  zlt (nw s15 9 0) fun s17 =>
  zc2 (f9_init i16 s17) fun _ s19 =>
  zlt (pR s19 11 h 12 (some i16)) fun s20 =>
  zlt (gN s20 9) fun i21 =>
  zlt (nw s20 9 0) fun s22 =>
  zc2 (f9_init i21 s22) fun _ s24 =>
  zlt (pR s24 11 h 13 (some i21)) fun s25 =>
  zlt (gN s25 6) fun i26 =>
  zlt (nw s25 6 0) fun s27 =>
  zc2 (f6_init i26 s27) fun _ s29 =>
  zlt (pR s29 11 h 14 (some i26)) fun s30 =>
  zlt (gN s30 2) fun i31 =>
  zlt (nw s30 2 0) fun s32 =>
  zc2 (f2_init i31 s32) fun _ s34 =>
  zlt (pR s34 11 h 15 (some i31)) fun s35 =>
  zlt (gN s35 0) fun i36 =>
  zlt (nw s35 0 0) fun s37 =>
  zc2 (f0_init i36 s37) fun _ s39 =>
  zlt (pR s39 11 h 16 (some i36)) fun s40 =>
  zlt (gN s40 1217) fun i41 =>
  zlt (nw s40 1217 10) fun s42 =>
  zlt (pR s42 11 h 17 (some i41)) fun s43 =>
  zlt (gN s43 1218) fun i44 =>
  zlt (nw s43 1218 40) fun s45 =>
  zlt (pR s45 11 h 18 (some i44)) fun s46 =>
  some ((), s46)
noncomputable def f11_days  (v1 : Int32) (σ : zSt) : Option (Int32 × zSt) :=
  if v1 < 1 then (some ((-1), σ)) else
  if (360 : Int32) < v1 then (some ((-1), σ)) else
  if ((gI σ 11 0 6) + v1) ≤ 9999 then (zlt (pI σ 11 0 6 ((gI σ 11 0 6) + v1)) fun s1 =>
  some (gI s1 11 0 6, s1)) else
  some ((-1), σ)
noncomputable def f11_home  (v1 : Int32) (v2 : Int32) (v3 : Int32) (σ : zSt) : Option (Int32 × zSt) :=
  zc1 (f11_isIn v1 800 σ) fun r1 =>
  zlt (fun (a2 : Int32) =>
  if a2 = 0 then (some ((-1), σ)) else
  if (gI σ 11 0 1) < 40 then (zlt (gR σ 11 0 0) fun o5 =>
  zlt (gN σ 5) fun i6 =>
  zlt (nw σ 5 0) fun s7 =>
  zc2 (f5_init i6 (zop_idiv v1 100) (zop_irem v1 100) v2 v3 s7) fun _ s9 =>
  zoc o5 none fun i10 =>
  zix (gI σ 11 0 1) 40 fun m11 =>
  zlt (pR s9 1200 i10 m11 (some i6)) fun s12 =>
  zlt (pI s12 11 0 1 ((gI s12 11 0 1) + 1)) fun s13 =>
  some ((gI s13 11 0 1) - 1, s13)) else
  some ((-2), σ)) fun j3 =>
  zlt (j3 0) fun j14 =>
  if r1 = 0 then (j14) else
  zc1 (f11_isIn v2 1000 σ) fun r16 =>
  if r16 = 0 then (j14) else
  zc1 (f11_isIn v3 10 σ) fun r17 =>
  if r17 = 0 then (j14) else
  j3 1
noncomputable def f11_homeAt  (v1 : Int32) (σ : zSt) : Option (Option Nat) :=
  zc1 (f11_isIn v1 (gI σ 11 0 1) σ) fun r1 =>
  if r1 = 0 then (some none) else
  zix v1 40 fun m2 =>
  zlt (gR σ 1200 0 m2) fun o3 =>
  some o3
noncomputable def f11_key  (v1 : Int32) (v2 : Int32) (σ : zSt) : Option (Int32 × zSt) :=
  zc1 (f11_homeAt v1 σ) fun o2 =>
  zoc o2 (some ((-1), σ)) fun i3 =>
  zc1 (f11_isIn v2 100000 σ) fun r4 =>
  if r4 = 0 then (some ((-1), σ)) else
  zc1 (f5_hasKey i3 σ) fun r5 =>
  if r5 = 0 then (zlt (pI σ 5 i3 4 (gI σ 11 0 6)) fun s6 =>
  zlt (pI s6 5 i3 6 v2) fun s7 =>
  some (1, s7)) else
  some ((-3), σ)
noncomputable def f11_sell  (v1 : Int32) (σ : zSt) : Option (Int32 × zSt) :=
  zc1 (f11_homeAt v1 σ) fun o2 =>
  zoc o2 (some ((-1), σ)) fun i3 =>
  zc1 (f5_hasKey i3 σ) fun r4 =>
  if r4 = 0 then (some ((-3), σ)) else
  zc2 (f5_addSale i3 (gI σ 11 0 6) σ) fun r5 s6 =>
  if r5 = 0 then (some ((-2), s6)) else
  some (gI s6 5 i3 9, s6)
noncomputable def f11_in  (v1 : Int32) (v2 : Int32) (σ : zSt) : Option (Int32 × zSt) :=
  zc1 (f11_homeAt v1 σ) fun o2 =>
  zoc o2 (some ((-1), σ)) fun i3 =>
  zc1 (f11_isIn v2 128 σ) fun r4 =>
  if r4 = 0 then (some ((-1), σ)) else
  zlt (gI σ 5 i3 5 : Int32) fun x5 =>
  zlt (pI σ 5 i3 5 v2) fun s6 =>
  some (x5, s6)
noncomputable def f11_crew  (v1 : Int32) (v2 : Int32) (v3 : Int32) (σ : zSt) : Option (Int32 × zSt) :=
  zc1 (f11_homeAt v1 σ) fun o2 =>
  zoc o2 (some ((-2000000000), σ)) fun i3 =>
  zc1 (f11_isIn v2 10 σ) fun r4 =>
  if r4 = 0 then (some ((-2000000000), σ)) else
  zlt (zc1 (f5_crewOf i3 v2 σ) fun r7 =>
  zix v2 10 fun m8 =>
  zlt (pI σ 611 i3 m8 v3) fun s9 =>
  some (r7, s9)) fun j5 =>
  if v3 = (-1) then (j5) else
  zc1 (f11_isIn v3 10 σ) fun r10 =>
  if r10 = 0 then (some ((-2000000000), σ)) else
  j5
noncomputable def f11_toldIn_L4  (h1 : Nat) (σ : zSt)  : Nat → Int32 → Int32 → Option Int32
  | 0, _, _ => none
  | n + 1, v2, v3 =>
    if (gI σ 11 0 5) ≤ v3 then (some v2) else
    zix v3 200 fun m1 =>
    zlt (gR σ 1204 0 m1) fun o2 =>
    zoc o2 none fun i3 =>
    zlt (gR σ 1 i3 1) fun o4 =>
    zlt (v2 + (if o4 = (some h1) then 1 else 0) : Int32) fun x9 =>
    zlt (v3 + 1 : Int32) fun x10 =>
    f11_toldIn_L4 h1 σ n x9 x10
noncomputable def f11_toldIn  (h1 : Nat) (σ : zSt) : Option Int32 :=
  f11_toldIn_L4 h1 σ zfuel 0 0
noncomputable def f11_leftIn_L4  (h1 : Nat) (σ : zSt)  : Nat → Int32 → Int32 → Option Int32
  | 0, _, _ => none
  | n + 1, v2, v3 =>
    if (gI σ 11 0 5) ≤ v3 then (some v2) else
    zix v3 200 fun m1 =>
    zlt (gR σ 1204 0 m1) fun o2 =>
    zoc o2 none fun i3 =>
    zlt (gR σ 1 i3 1) fun o4 =>
    zlt (fun (a5 : Int32) =>
    zlt (v2 + a5 : Int32) fun x8 =>
    zlt (v3 + 1 : Int32) fun x9 =>
    f11_leftIn_L4 h1 σ n x8 x9) fun j6 =>
    zlt (j6 0) fun j11 =>
    if o4 = (some h1) then (zix v3 200 fun m13 =>
    zlt (gR σ 1204 0 m13) fun o14 =>
    zoc o14 none fun i15 =>
    zc1 (f1_isLeftOn i15 (gI σ 11 0 6) σ) fun r16 =>
    if r16 = 0 then (j11) else
    j6 1) else
    j11
noncomputable def f11_leftIn  (h1 : Nat) (σ : zSt) : Option Int32 :=
  f11_leftIn_L4 h1 σ zfuel 0 0
noncomputable def f11_falseIn_L4  (h1 : Nat) (σ : zSt)  : Nat → Int32 → Int32 → Option Int32
  | 0, _, _ => none
  | n + 1, v2, v3 =>
    if (gI σ 11 0 5) ≤ v3 then (some v2) else
    zix v3 200 fun m1 =>
    zlt (gR σ 1204 0 m1) fun o2 =>
    zoc o2 none fun i3 =>
    zlt (gR σ 1 i3 1) fun o4 =>
    zlt (fun (a5 : Int32) =>
    zlt (v2 + a5 : Int32) fun x8 =>
    zlt (v3 + 1 : Int32) fun x9 =>
    f11_falseIn_L4 h1 σ n x8 x9) fun j6 =>
    if o4 = (some h1) then (zix v3 200 fun m11 =>
    zlt (gR σ 1204 0 m11) fun o12 =>
    zoc o12 none fun i13 =>
    zc1 (f4_timesFalse i13 (-1) σ) fun r14 =>
    j6 r14) else
    j6 0
noncomputable def f11_falseIn  (h1 : Nat) (σ : zSt) : Option Int32 :=
  f11_falseIn_L4 h1 σ zfuel 0 0
noncomputable def f11_brokenIn_L4  (h1 : Nat) (σ : zSt)  : Nat → Int32 → Int32 → Option Int32
  | 0, _, _ => none
  | n + 1, v2, v3 =>
    if (gI σ 11 0 5) ≤ v3 then (some v2) else
    zix v3 200 fun m1 =>
    zlt (gR σ 1204 0 m1) fun o2 =>
    zoc o2 none fun i3 =>
    zlt (gR σ 1 i3 1) fun o4 =>
    zlt (fun (a5 : Int32) =>
    zlt (v2 + a5 : Int32) fun x8 =>
    zlt (v3 + 1 : Int32) fun x9 =>
    f11_brokenIn_L4 h1 σ n x8 x9) fun j6 =>
    if o4 = (some h1) then (zix v3 200 fun m11 =>
    zlt (gR σ 1204 0 m11) fun o12 =>
    zoc o12 none fun i13 =>
    zc1 (f1_brokenBy i13 (gI σ 11 0 6) σ) fun r14 =>
    j6 r14) else
    j6 0
noncomputable def f11_brokenIn  (h1 : Nat) (σ : zSt) : Option Int32 :=
  f11_brokenIn_L4 h1 σ zfuel 0 0
noncomputable def f11_ofHome  (v1 : Int32) (v2 : Int32) (σ : zSt) : Option Int32 :=
  zc1 (f11_homeAt v1 σ) fun o2 =>
  zoc o2 (some (-1)) fun i3 =>
  if v2 = 0 then (some (gI σ 5 i3 0)) else
  if v2 = 1 then (some (gI σ 5 i3 1)) else
  if v2 = 2 then (some (gI σ 5 i3 2)) else
  if v2 = 3 then (some (gI σ 5 i3 3)) else
  if v2 = 4 then (some (gI σ 5 i3 4)) else
  if v2 = 5 then (some (gI σ 5 i3 9)) else
  if v2 = 6 then (zc1 (f11_toldIn i3 σ) fun r13 =>
  some r13) else
  if v2 = 7 then (zc1 (f11_leftIn i3 σ) fun r15 =>
  some r15) else
  if v2 = 8 then (zc1 (f11_falseIn i3 σ) fun r17 =>
  some r17) else
  if v2 = 9 then (zc1 (f11_brokenIn i3 σ) fun r19 =>
  some r19) else
  if v2 = 10 then (some (gI σ 5 i3 6)) else
  if v2 = 11 then (some (gI σ 5 i3 7)) else
  if v2 = 12 then (some (gI σ 5 i3 8)) else
  some (-1)
noncomputable def f11_kind  (v1 : Int32) (v2 : Int32) (v3 : Int32) (σ : zSt) : Option (Int32 × zSt) :=
  zc1 (f11_isIn v1 10 σ) fun r1 =>
  if r1 = 0 then (some ((-1), σ)) else
  if v2 < 1 then (some ((-1), σ)) else
  if (999 : Int32) < v2 then (some ((-1), σ)) else
  zc1 (f11_isIn v3 8 σ) fun r2 =>
  if r2 = 0 then (some ((-1), σ)) else
  if (gI σ 11 0 3) < 20 then (zlt (gR σ 11 0 2) fun o3 =>
  zlt (gN σ 7) fun i4 =>
  zlt (nw σ 7 0) fun s5 =>
  zc2 (f7_init i4 v1 v2 v3 s5) fun _ s7 =>
  zoc o3 none fun i8 =>
  zix (gI σ 11 0 3) 20 fun m9 =>
  zlt (pR s7 1202 i8 m9 (some i4)) fun s10 =>
  zlt (pI s10 11 0 3 ((gI s10 11 0 3) + 1)) fun s11 =>
  some ((gI s11 11 0 3) - 1, s11)) else
  some ((-2), σ)
noncomputable def f11_kindAt  (v1 : Int32) (σ : zSt) : Option (Option Nat) :=
  zc1 (f11_isIn v1 (gI σ 11 0 3) σ) fun r1 =>
  if r1 = 0 then (some none) else
  zix v1 20 fun m2 =>
  zlt (gR σ 1202 0 m2) fun o3 =>
  some o3
noncomputable def f11_isToldBefore_L2  (h1 : Nat) (σ : zSt)  : Nat → Int32 → Option Int32
  | 0, _ => none
  | n + 1, v2 =>
    if (gI σ 11 0 5) ≤ v2 then (some 0) else
    zix v2 200 fun m1 =>
    zlt (gR σ 1204 0 m1) fun o2 =>
    zoc o2 none fun i3 =>
    zc1 (f1_isSameThing i3 h1 σ) fun r4 =>
    zlt (fun (a5 : Int32) =>
    zlt (zlt (v2 + 1 : Int32) fun x10 =>
    f11_isToldBefore_L2 h1 σ n x10) fun j8 =>
    if a5 = 4 then (j8) else
    if (gI σ 1 i3 10) = 0 then (if a5 = 3 then (j8) else
    some 1) else
    some 1) fun j6 =>
    if r4 = 0 then (j6 4) else
    zc1 (f4_now i3 σ) fun r12 =>
    j6 r12
noncomputable def f11_isToldBefore  (h1 : Nat) (σ : zSt) : Option Int32 :=
  f11_isToldBefore_L2 h1 σ zfuel 0
noncomputable def f11_fault  (v1 : Int32) (v2 : Int32) (v3 : Int32) (v4 : Int32) (σ : zSt) : Option (Int32 × zSt) :=
  zlt (fun (a1 : (Option Nat)) =>
  zokc σ <|
  zc1 (f11_kindAt v2 σ) fun o6 =>
  zoc a1 (some ((-1), σ)) fun i7 =>
  zoc o6 (some ((-1), σ)) fun i8 =>
  if v3 < 1 then (some ((-1), σ)) else
  if (9 : Int32) < v3 then (some ((-1), σ)) else
  zc1 (f11_isIn v4 11 σ) fun r9 =>
  if r9 = 0 then (some ((-1), σ)) else
  if (gI σ 11 0 5) < 200 then (zlt (gN σ 1) fun i10 =>
  zlt (nw σ 1 0) fun s11 =>
  zc2 (f1_init i10 (gI s11 11 0 5) i7 (zop_irem v1 12) v2 i8 v3 v4 s11) fun _ s13 =>
  zokc s13 <|
  zc1 (f11_isToldBefore i10 s13) fun r15 =>
  zokc s13 <|
  zc2 (f1_tell i10 (gI s13 11 0 6) r15 s13) fun _ s18 =>
  zlt (gR s18 11 0 4) fun o19 =>
  zoc o19 none fun i20 =>
  zix (gI s18 11 0 5) 200 fun m21 =>
  zlt (pR s18 1204 i20 m21 (some i10)) fun s22 =>
  zlt (pI s22 11 0 5 ((gI s22 11 0 5) + 1)) fun s23 =>
  some ((gI s23 11 0 5) - 1, s23)) else
  some ((-2), σ)) fun j2 =>
  if 0 ≤ v1 then (zokc σ <|
  zc1 (f11_homeAt (zop_idiv v1 12) σ) fun o26 =>
  j2 o26) else
  j2 none
noncomputable def f11_faultAt  (v1 : Int32) (σ : zSt) : Option (Option Nat) :=
  zc1 (f11_isIn v1 (gI σ 11 0 5) σ) fun r1 =>
  if r1 = 0 then (some none) else
  zix v1 200 fun m2 =>
  zlt (gR σ 1204 0 m2) fun o3 =>
  some o3
noncomputable def f11_promise  (v1 : Int32) (v2 : Int32) (σ : zSt) : Option (Int32 × zSt) :=
  zc1 (f11_faultAt v1 σ) fun o2 =>
  zoc o2 (some ((-1), σ)) fun i3 =>
  if v2 < (gI σ 11 0 6) then (some ((-1), σ)) else
  if v2 ≤ 9999 then (zc1 (f1_isWaiting i3 σ) fun r4 =>
  if r4 = 0 then (some ((-3), σ)) else
  zc1 (f4_isFull i3 σ) fun r5 =>
  if r5 = 0 then (zc2 (f1_promiseAnew i3 v2 (gI σ 11 0 6) σ) fun _ s7 =>
  some (1, s7)) else
  some ((-2), σ)) else
  some ((-1), σ)
noncomputable def f11_said  (v1 : Int32) (v2 : Int32) (σ : zSt) : Option (Int32 × zSt) :=
  zc1 (f11_faultAt v1 σ) fun o2 =>
  zoc o2 (some ((-1), σ)) fun i3 =>
  zc1 (f11_isIn v2 10 σ) fun r4 =>
  if r4 = 0 then (some ((-1), σ)) else
  zc1 (f1_isWaiting i3 σ) fun r5 =>
  if r5 = 0 then (some ((-3), σ)) else
  zc1 (f4_isFull i3 σ) fun r6 =>
  if r6 = 0 then (zc2 (f1_saidBy i3 v2 (gI σ 11 0 6) σ) fun _ s8 =>
  some (1, s8)) else
  some ((-2), σ)
noncomputable def f11_look  (v1 : Int32) (v2 : Int32) (σ : zSt) : Option (Int32 × zSt) :=
  zc1 (f11_faultAt v1 σ) fun o2 =>
  zoc o2 (some ((-1), σ)) fun i3 =>
  zc1 (f11_isIn v2 2 σ) fun r4 =>
  if r4 = 0 then (some ((-1), σ)) else
  zc1 (f4_now i3 σ) fun r5 =>
  if r5 = 2 then (zc1 (f4_isFull i3 σ) fun r6 =>
  if r6 = 0 then (zc1 (f1_lastCrew i3 σ) fun r7 =>
  zc1 (f11_isIn r7 10 σ) fun r8 =>
  zlt (fun (s9 : zSt) =>
  zc2 (f4_add i3 (if v2 = 1 then 3 else 0) (gI s9 11 0 6) (-1) s9) fun _ s17 =>
  some (1, s17)) fun j10 =>
  if r8 = 0 then (j10 σ) else
  zc1 (f1_lastCrew i3 σ) fun r18 =>
  zix r18 10 fun m19 =>
  zix r18 10 fun m20 =>
  zlt (pI σ 1217 0 m20 ((gI σ 1217 0 m19) + 1)) fun s21 =>
  j10 s21) else
  some ((-2), σ)) else
  some ((-3), σ)
noncomputable def f11_voids  (v1 : Int32) (σ : zSt) : Option (Int32 × zSt) :=
  zc1 (f11_faultAt v1 σ) fun o2 =>
  zoc o2 (some ((-1), σ)) fun i3 =>
  zc1 (f1_isWaiting i3 σ) fun r4 =>
  if r4 = 0 then (some ((-3), σ)) else
  zc1 (f4_isFull i3 σ) fun r5 =>
  if r5 = 0 then (zc2 (f1_endWith i3 4 (gI σ 11 0 6) σ) fun _ s7 =>
  some (1, s7)) else
  some ((-2), σ)
noncomputable def f11_isDay  (v0 : Int32) (σ : zSt) : Option Int32 :=
  zc1 (f11_isIn v0 10000 σ) fun r1 =>
  zbo r1 (some r1)
noncomputable def f11_state  (v1 : Int32) (v2 : Int32) (σ : zSt) : Option Int32 :=
  zc1 (f11_faultAt v1 σ) fun o2 =>
  zoc o2 (some (-1)) fun i3 =>
  zc1 (f11_isDay v2 σ) fun r4 =>
  if r4 = 0 then (some (-1)) else
  zc1 (f4_onDay i3 v2 σ) fun r5 =>
  some r5
noncomputable def f11_homeNumber_L2  (h1 : Nat) (σ : zSt)  : Nat → Int32 → Option Int32
  | 0, _ => none
  | n + 1, v2 =>
    if (gI σ 11 0 1) ≤ v2 then (some (-1)) else
    zix v2 40 fun m1 =>
    zlt (gR σ 1200 0 m1) fun o2 =>
    if o2 = (some h1) then (some v2) else
    zlt (v2 + 1 : Int32) fun x3 =>
    f11_homeNumber_L2 h1 σ n x3
noncomputable def f11_homeNumber  (h1 : Nat) (σ : zSt) : Option Int32 :=
  f11_homeNumber_L2 h1 σ zfuel 0
noncomputable def f11_ofFault  (v1 : Int32) (v2 : Int32) (σ : zSt) : Option Int32 :=
  zc1 (f11_faultAt v1 σ) fun o2 =>
  zoc o2 (some (-1)) fun i3 =>
  if v2 = 0 then (zlt (gR σ 1 i3 1) fun o7 =>
  zoc o7 none fun i8 =>
  zc1 (f11_homeNumber i8 σ) fun r9 =>
  some r9) else
  if v2 = 1 then (some (gI σ 1 i3 2)) else
  if v2 = 2 then (some (gI σ 1 i3 3)) else
  if v2 = 3 then (some (gI σ 1 i3 5)) else
  if v2 = 4 then (some (gI σ 1 i3 9)) else
  if v2 = 5 then (some (gI σ 1 i3 6)) else
  if v2 = 6 then (if (gI σ 1 i3 10) = 0 then (some 0) else
  some 1) else
  if v2 = 7 then (if (gI σ 1 i3 11) = 0 then (some 0) else
  some 1) else
  if v2 = 8 then (zc1 (f1_price i3 σ) fun r18 =>
  some r18) else
  if v2 = 9 then (zc1 (f1_promiseOn i3 (gI σ 11 0 6) σ) fun r20 =>
  some r20) else
  if v2 = 10 then (some (gI σ 1 i3 15)) else
  if v2 = 11 then (zc1 (f4_timesSaid i3 (-1) σ) fun r23 =>
  some r23) else
  if v2 = 12 then (zc1 (f4_timesFalse i3 (-1) σ) fun r25 =>
  some r25) else
  if v2 = 13 then (zc1 (f1_lastCrew i3 σ) fun r27 =>
  some r27) else
  some (-1)
noncomputable def f11_leakAbove_L2  (h1 : Nat) (h2 : Int32) (σ : zSt)  : Nat → Int32 → Option (Option Nat)
  | 0, _ => none
  | n + 1, v3 =>
    if (gI σ 11 0 5) ≤ v3 then (some none) else
    zix v3 200 fun m1 =>
    zlt (gR σ 1204 0 m1) fun o2 =>
    zoc o2 none fun i3 =>
    zlt (gR σ 1 i3 1) fun o4 =>
    zlt (gR σ 1 h1 1) fun o5 =>
    zlt (if o4 = o5 then (if (gI σ 1 i3 2) = ((gI σ 1 h1 2) + 4) then 1 else 0) else 0 : Int32) fun x13 =>
    zlt (zlt (v3 + 1 : Int32) fun x16 =>
    f11_leakAbove_L2 h1 h2 σ n x16) fun j14 =>
    if x13 = 0 then (j14) else
    zlt (gR σ 1 i3 4) fun o18 =>
    zoc o18 none fun i19 =>
    zc1 (f7_has i19 1 σ) fun r20 =>
    if r20 = 0 then (j14) else
    zc1 (f1_isLeftOn i3 h2 σ) fun r21 =>
    if r21 = 0 then (j14) else
    some (some i3)
noncomputable def f11_leakAbove  (h1 : Nat) (v2 : Int32) (σ : zSt) : Option (Option Nat) :=
  f11_leakAbove_L2 h1 v2 σ zfuel 0
noncomputable def f11_source_L30  (h2 : Int32) (σ : zSt) (K60 : (Option Nat) → Option Int32) (K74 : (Option Nat) → Option Int32) : Nat → (Option Nat) → Int32 → Option Int32
  | 0, _, _ => none
  | n + 1, v3, v4 =>
    if (2 : Int32) < v4 then (K74 v3) else
    zoc v3 none fun i5 =>
    zlt (gR σ 1 i5 4) fun o6 =>
    zoc o6 none fun i7 =>
    zc1 (f7_has i7 4 σ) fun r8 =>
    if r8 = 0 then (K74 (some i5)) else
    zc1 (f11_leakAbove i5 h2 σ) fun o10 =>
    zoc o10 (K60 (some i5)) fun i11 =>
    zlt (v4 + 1 : Int32) fun x12 =>
    f11_source_L30 h2 σ K60 K74 n (some i11) x12
noncomputable def f11_source  (v1 : Int32) (v2 : Int32) (σ : zSt) : Option Int32 :=
  zc1 (f11_faultAt v1 σ) fun o2 =>
  zoc o2 (some (-1)) fun i3 =>
  zc1 (f11_isDay v2 σ) fun r4 =>
  if r4 = 0 then (some (-1)) else
  if (gI σ 1 i3 9) ≤ v2 then (f11_source_L30 v2 σ (fun (a14 : (Option Nat)) =>
  zoc a14 none fun i15 =>
  some (gI σ 1 i15 0)) (fun (a16 : (Option Nat)) =>
  zoc a16 none fun i17 =>
  some (gI σ 1 i17 0)) zfuel (some i3) 0) else
  some (-1)
noncomputable def f11_saidAheadOf  (h1 : Nat) (h2 : Nat) (σ : zSt) : Option Int32 :=
  zc1 (f4_lastSaid h2 ((gI σ 1 h1 9) - (gI σ 11 0 7)) ((gI σ 1 h1 9) - 1) σ) fun r1 =>
  some r1
noncomputable def f11_damager_L7  (h1 : Nat) (σ : zSt)  : Nat → (Option Nat) → Int32 → Int32 → Option (Option Nat)
  | 0, _, _, _ => none
  | n + 1, v2, v3, v4 =>
    if (gI σ 11 0 5) ≤ v4 then (some v2) else
    zix v4 200 fun m1 =>
    zlt (gR σ 1204 0 m1) fun o2 =>
    zoc o2 none fun i3 =>
    zlt (gR σ 1 i3 1) fun o4 =>
    zlt (gR σ 1 h1 1) fun o5 =>
    zlt (fun (a6 : (Option Nat)) (a7 : Int32) =>
    zlt (v4 + 1 : Int32) fun x10 =>
    f11_damager_L7 h1 σ n a6 a7 x10) fun j8 =>
    if o4 = o5 then (if (gI σ 1 i3 2) = (gI σ 1 h1 2) then (if (gI σ 1 i3 3) = (gI σ 1 h1 3) then (j8 v2 v3) else
    zc1 (f11_saidAheadOf h1 i3 σ) fun r12 =>
    zc1 (f4_dayAt i3 r12 σ) fun r13 =>
    if r13 = (-1) then (j8 v2 v3) else
    if r13 < v3 then (j8 v2 v3) else
    j8 (some i3) r13) else
    j8 v2 v3) else
    j8 v2 v3
noncomputable def f11_damager  (h1 : Nat) (σ : zSt) : Option (Option Nat) :=
  f11_damager_L7 h1 σ zfuel none (-1) 0
noncomputable def f11_damage  (v1 : Int32) (σ : zSt) : Option Int32 :=
  zc1 (f11_faultAt v1 σ) fun o2 =>
  zoc o2 (some (-1)) fun i3 =>
  zc1 (f11_damager i3 σ) fun o5 =>
  zoc o5 (some (-4)) fun i6 =>
  some (gI σ 1 i6 0)
noncomputable def f11_rule  (v1 : Int32) (v2 : Int32) (σ : zSt) : Option (Int32 × zSt) :=
  zlt (if v1 = 1 then (zc1 (f11_isIn v2 1000 σ) fun r3 =>
  if r3 = 0 then (some ((-1), σ)) else
  zlt (gI σ 11 0 8 : Int32) fun x4 =>
  zlt (pI σ 11 0 8 v2) fun s5 =>
  some (x4, s5)) else
  some ((-1), σ)) fun j1 =>
  if v1 = 0 then (zc1 (f11_isIn v2 61 σ) fun r6 =>
  if r6 = 0 then (j1) else
  zlt (gI σ 11 0 7 : Int32) fun x7 =>
  zlt (pI σ 11 0 7 v2) fun s8 =>
  some (x7, s8)) else
  j1
noncomputable def f11_isGroup  (v0 : Int32) (σ : zSt) : Option Int32 :=
  zc1 (f11_isIn v0 8 σ) fun r1 =>
  zlt (some 1) fun j2 =>
  if r1 = 0 then (zlt (some 0) fun j4 =>
  if v0 < 10 then (j4) else
  if (30 : Int32) < v0 then (j4) else
  j2) else
  j2
noncomputable def f11_hasKind_L3  (h1 : Nat) (h2 : Nat) (h3 : Int32) (σ : zSt)  : Nat → Int32 → Option Int32
  | 0, _ => none
  | n + 1, v4 =>
    if (gI σ 11 0 5) ≤ v4 then (some 0) else
    zix v4 200 fun m1 =>
    zlt (gR σ 1204 0 m1) fun o2 =>
    zoc o2 none fun i3 =>
    zlt (gR σ 1 i3 1) fun o4 =>
    zlt (zlt (v4 + 1 : Int32) fun x7 =>
    f11_hasKind_L3 h1 h2 h3 σ n x7) fun j5 =>
    if o4 = (some h1) then (zlt (gR σ 1 i3 4) fun o9 =>
    if o9 = (some h2) then (zc1 (f4_onDay i3 h3 σ) fun r10 =>
    if r10 = (-4) then (j5) else
    if r10 = 4 then (j5) else
    some 1) else
    j5) else
    j5
noncomputable def f11_hasKind  (h1 : Nat) (h2 : Nat) (v3 : Int32) (σ : zSt) : Option Int32 :=
  f11_hasKind_L3 h1 h2 v3 σ zfuel 0
noncomputable def f11_markHomesWith_L5  (h1 : Nat) (h2 : Int32)  : Nat → Int32 → Int32 → zSt → Option (Int32 × zSt)
  | 0, _, _, _ => none
  | n + 1, v3, v4, σ =>
    if (gI σ 11 0 1) ≤ v4 then (some (v3, σ)) else
    zix v4 40 fun m1 =>
    zlt (gR σ 1200 0 m1) fun o2 =>
    zoc o2 none fun i3 =>
    zc1 (f11_hasKind i3 h1 h2 σ) fun r4 =>
    zix v4 40 fun m5 =>
    zlt (pI σ 1218 0 m5 (vp_nar .boolean r4)) fun s6 =>
    zix v4 40 fun m7 =>
    zlt (v3 + (if (gI s6 1218 0 m7) = 0 then 0 else 1) : Int32) fun x12 =>
    zlt (v4 + 1 : Int32) fun x13 =>
    f11_markHomesWith_L5 h1 h2 n x12 x13 s6
noncomputable def f11_markHomesWith  (h1 : Nat) (v2 : Int32) (σ : zSt) : Option (Int32 × zSt) :=
  f11_markHomesWith_L5 h1 v2 zfuel 0 0 σ
noncomputable def f11_isOfGroup  (h1 : Nat) (h2 : Nat) (v3 : Int32) (σ : zSt) : Option Int32 :=
  zlt (zop_irem v3 10 : Int32) fun x1 =>
  zlt (zop_idiv v3 10 : Int32) fun x2 =>
  if x2 = 0 then (if (gI σ 5 h1 0) = x1 then (some 1) else
  some 0) else
  if x2 = 1 then (zc1 (f5_crewOf h1 (gI σ 7 h2 0) σ) fun r7 =>
  if r7 = x1 then (some 1) else
  some 0) else
  if x2 = 2 then (if (gI σ 5 h1 3) = x1 then (some 1) else
  some 0) else
  if (gI σ 11 0 8) ≤ (gI σ 5 h1 2) then (some 0) else
  some 1
noncomputable def f11_sizeOfGroup_L6  (h1 : Nat) (h2 : Int32) (h3 : Int32) (σ : zSt)  : Nat → Int32 → Int32 → Option Int32
  | 0, _, _ => none
  | n + 1, v4, v5 =>
    if (gI σ 11 0 1) ≤ v5 then (some v4) else
    zix v5 40 fun m1 =>
    zlt (gR σ 1200 0 m1) fun o2 =>
    zoc o2 none fun i3 =>
    zc1 (f11_isOfGroup i3 h1 h2 σ) fun r4 =>
    zlt (fun (a5 : Int32) =>
    zlt (v5 + 1 : Int32) fun x8 =>
    f11_sizeOfGroup_L6 h1 h2 h3 σ n a5 x8) fun j6 =>
    if r4 = 0 then (j6 v4) else
    zix v5 40 fun m10 =>
    zlt (zlt (v4 + 1 : Int32) fun x13 =>
    j6 x13) fun j11 =>
    if (gI σ 1218 0 m10) = 0 then (if h3 = 0 then (j11) else
    j6 v4) else
    j11
noncomputable def f11_sizeOfGroup  (h1 : Nat) (v2 : Int32) (v3 : Int32) (σ : zSt) : Option Int32 :=
  f11_sizeOfGroup_L6 h1 v2 v3 σ zfuel 0 0
noncomputable def f11_joined  (v1 : Int32) (v2 : Int32) (v3 : Int32) (v4 : Int32) (σ : zSt) : Option (Int32 × zSt) :=
  zc1 (f11_kindAt v1 σ) fun o2 =>
  zoc o2 (some ((-1), σ)) fun i3 =>
  zc1 (f11_isGroup v2 σ) fun r4 =>
  if r4 = 0 then (some ((-1), σ)) else
  zc1 (f11_isDay v3 σ) fun r5 =>
  if r5 = 0 then (some ((-1), σ)) else
  zc1 (f11_isIn v4 3 σ) fun r6 =>
  if r6 = 0 then (some ((-1), σ)) else
  zc2 (f11_markHomesWith i3 v3 σ) fun r7 s8 =>
  if v4 = 0 then (some (r7, s8)) else
  if v4 = 1 then (zc1 (f11_sizeOfGroup i3 v2 1 s8) fun r9 =>
  some (r9, s8)) else
  zc1 (f11_sizeOfGroup i3 v2 0 s8) fun r10 =>
  some (r10, s8)
noncomputable def f11_chanceOf  (h1 : Nat) (v2 : Int32) (v3 : Int32) (σ : zSt) : Option Int32 :=
  zc1 (f11_sizeOfGroup h1 v2 0 σ) fun r1 =>
  zc1 (f11_sizeOfGroup h1 v2 1 σ) fun r2 =>
  zc1 (f8_chanceOfMany (gI σ 11 0 1) v3 r1 r2 σ) fun r3 =>
  some r3
noncomputable def f11_chance  (v1 : Int32) (v2 : Int32) (v3 : Int32) (σ : zSt) : Option (Int32 × zSt) :=
  zc1 (f11_kindAt v1 σ) fun o2 =>
  zoc o2 (some ((-1), σ)) fun i3 =>
  zc1 (f11_isGroup v2 σ) fun r4 =>
  if r4 = 0 then (some ((-1), σ)) else
  zc1 (f11_isDay v3 σ) fun r5 =>
  if r5 = 0 then (some ((-1), σ)) else
  zc2 (f11_markHomesWith i3 v3 σ) fun r6 s7 =>
  zc1 (f11_chanceOf i3 v2 r6 s7) fun r8 =>
  some (r8, s7)
noncomputable def f11_likeliestGroup_L10  (h1 : Nat) (h2 : Int32) (h3 : Int32) (σ : zSt)  : Nat → Int32 → Int32 → Int32 → Option Int32
  | 0, _, _, _ => none
  | n + 1, v4, v5, v6 =>
    if (30 : Int32) < v6 then (some v4) else
    zc1 (f11_isGroup v6 σ) fun r1 =>
    zlt (fun (a2 : Int32) =>
    zlt (fun (a5 : Int32) (a6 : Int32) =>
    zlt (v6 + 1 : Int32) fun x9 =>
    f11_likeliestGroup_L10 h1 h2 h3 σ n a5 a6 x9) fun j7 =>
    if v5 ≤ a2 then (j7 v4 v5) else
    j7 v6 a2) fun j3 =>
    if r1 = 0 then (j3 h3) else
    zc1 (f11_chanceOf h1 v6 h2 σ) fun r11 =>
    j3 r11
noncomputable def f11_likeliestGroup  (h1 : Nat) (v2 : Int32) (v3 : Int32) (σ : zSt) : Option Int32 :=
  f11_likeliestGroup_L10 h1 v2 v3 σ zfuel (-4) v3 0
noncomputable def f11_cause  (v1 : Int32) (v2 : Int32) (v3 : Int32) (σ : zSt) : Option (Int32 × zSt) :=
  zc1 (f11_kindAt v1 σ) fun o2 =>
  zoc o2 (some ((-1), σ)) fun i3 =>
  zc1 (f11_isDay v2 σ) fun r4 =>
  if r4 = 0 then (some ((-1), σ)) else
  if v3 < 1 then (some ((-1), σ)) else
  if v3 ≤ 9999 then (zc2 (f11_markHomesWith i3 v2 σ) fun r5 s6 =>
  zc1 (f11_likeliestGroup i3 r5 v3 s6) fun r7 =>
  some (r7, s6)) else
  some ((-1), σ)
noncomputable def f11_areSameHomes_L3  (h1 : Nat) (h2 : Int32) (h3 : Int32) (σ : zSt)  : Nat → Int32 → Option Int32
  | 0, _ => none
  | n + 1, v4 =>
    if (gI σ 11 0 1) ≤ v4 then (some 1) else
    zix v4 40 fun m1 =>
    zlt (gR σ 1200 0 m1) fun o2 =>
    zoc o2 none fun i3 =>
    zc1 (f11_isOfGroup i3 h1 h2 σ) fun r4 =>
    zix v4 40 fun m5 =>
    zlt (gR σ 1200 0 m5) fun o6 =>
    zoc o6 none fun i7 =>
    zc1 (f11_isOfGroup i7 h1 h3 σ) fun r8 =>
    if r4 = r8 then (zlt (v4 + 1 : Int32) fun x9 =>
    f11_areSameHomes_L3 h1 h2 h3 σ n x9) else
    some 0
noncomputable def f11_areSameHomes  (h1 : Nat) (v2 : Int32) (v3 : Int32) (σ : zSt) : Option Int32 :=
  f11_areSameHomes_L3 h1 v2 v3 σ zfuel 0
noncomputable def f11_rivals_L69  (h3 : Int32) (h4 : Nat) (h5 : Int32) (h6 : Int32) (σ : zSt)  : Nat → Int32 → Int32 → Option (Int32 × zSt)
  | 0, _, _ => none
  | n + 1, v7, v8 =>
    if (30 : Int32) < v8 then (some (v7, σ)) else
    zc1 (f11_isGroup v8 σ) fun r8 =>
    zlt (fun (a9 : Int32) =>
    zlt (v8 + 1 : Int32) fun x12 =>
    f11_rivals_L69 h3 h4 h5 h6 σ n a9 x12) fun j10 =>
    if r8 = 0 then (j10 v7) else
    zc1 (f11_chanceOf h4 v8 h5 σ) fun r14 =>
    if h3 ≤ r14 then (j10 v7) else
    zc1 (f11_areSameHomes h4 v8 h6 σ) fun r15 =>
    if r15 = 0 then (zlt (v7 + 1 : Int32) fun x16 =>
    j10 x16) else
    j10 v7
noncomputable def f11_rivals  (v1 : Int32) (v2 : Int32) (v3 : Int32) (σ : zSt) : Option (Int32 × zSt) :=
  zc1 (f11_kindAt v1 σ) fun o2 =>
  zoc o2 (some ((-1), σ)) fun i3 =>
  zc1 (f11_isDay v2 σ) fun r4 =>
  if r4 = 0 then (some ((-1), σ)) else
  if v3 < 1 then (some ((-1), σ)) else
  if v3 ≤ 9999 then (zc2 (f11_markHomesWith i3 v2 σ) fun r5 s6 =>
  zc1 (f11_likeliestGroup i3 r5 v3 s6) fun r7 =>
  if r7 = (-4) then (some ((-4), s6)) else
  f11_rivals_L69 v3 i3 r5 r7 s6 zfuel 0 0) else
  some ((-1), σ)
noncomputable def f11_read  (v1 : Int32) (v2 : Int32) (σ : zSt) : Option (Int32 × zSt) :=
  zc1 (f11_faultAt v1 σ) fun o2 =>
  zoc o2 (some ((-1), σ)) fun i3 =>
  zlt (gR σ 1 i3 8) fun o4 =>
  zoc o4 (some ((-1), σ)) fun i5 =>
  zc1 (f11_isIn v2 10000 σ) fun r6 =>
  if r6 = 0 then (some ((-1), σ)) else
  zlt (gR σ 1 i3 8) fun o7 =>
  zoc o7 none fun i8 =>
  zc1 (f3_lastDay i8 σ) fun r9 =>
  if r9 = (gI σ 11 0 6) then (some ((-3), σ)) else
  zlt (gR σ 1 i3 8) fun o10 =>
  zoc o10 none fun i11 =>
  zc2 (f3_add i11 (gI σ 11 0 6) v2 σ) fun r12 s13 =>
  if r12 = 0 then (some ((-2), s13)) else
  zlt (gR s13 1 i3 8) fun o14 =>
  zoc o14 none fun i15 =>
  some (gI s13 3 i15 2, s13)
noncomputable def f11_gauge  (v1 : Int32) (v2 : Int32) (σ : zSt) : Option Int32 :=
  zc1 (f11_faultAt v1 σ) fun o2 =>
  zoc o2 (some (-1)) fun i3 =>
  zlt (gR σ 1 i3 8) fun o4 =>
  zoc o4 (some (-1)) fun i5 =>
  zc1 (f11_isDay v2 σ) fun r6 =>
  if r6 = 0 then (some (-1)) else
  zlt (gR σ 1 i3 8) fun o7 =>
  zoc o7 none fun i8 =>
  zc1 (f3_says i8 v2 σ) fun r9 =>
  some r9
noncomputable def f11_pace  (v1 : Int32) (v2 : Int32) (σ : zSt) : Option Int32 :=
  zc1 (f11_faultAt v1 σ) fun o2 =>
  zoc o2 (some (-2000000000)) fun i3 =>
  zlt (gR σ 1 i3 8) fun o4 =>
  zoc o4 (some (-2000000000)) fun i5 =>
  if v2 < 0 then (some (-2000000000)) else
  zlt (gR σ 1 i3 8) fun o6 =>
  zoc o6 none fun i7 =>
  if v2 < ((gI σ 3 i7 2) - 1) then (zlt (gR σ 1 i3 8) fun o8 =>
  zoc o8 none fun i9 =>
  zc1 (f3_paceAt i9 v2 σ) fun r10 =>
  some r10) else
  some (-2000000000)
noncomputable def f11_isSinking_L2  (h1 : Nat) (σ : zSt)  : Nat → Int32 → Option Int32
  | 0, _ => none
  | n + 1, v2 =>
    if (gI σ 11 0 5) ≤ v2 then (some 0) else
    zix v2 200 fun m1 =>
    zlt (gR σ 1204 0 m1) fun o2 =>
    zoc o2 none fun i3 =>
    zlt (gR σ 1 i3 1) fun o4 =>
    zlt (zlt (v2 + 1 : Int32) fun x7 =>
    f11_isSinking_L2 h1 σ n x7) fun j5 =>
    if o4 = (some h1) then (zc1 (f1_isLeftOn i3 (gI σ 11 0 6) σ) fun r9 =>
    if r9 = 0 then (j5) else
    zc1 (f1_gaugeSays i3 (gI σ 11 0 6) σ) fun r10 =>
    if r10 = 2 then (some 1) else
    j5) else
    j5
noncomputable def f11_isSinking  (h1 : Nat) (σ : zSt) : Option Int32 :=
  f11_isSinking_L2 h1 σ zfuel 0
noncomputable def f11_sinking_L30  (h1 : Int32) (h2 : Int32) (σ : zSt) (K111 : Int32 → Int32 → Int32 → Option Int32) : Nat → Int32 → Int32 → Int32 → Int32 → Option Int32
  | 0, _, _, _, _ => none
  | n + 1, v3, v4, v5, v6 =>
    if (gI σ 11 0 1) ≤ v6 then (K111 v3 v4 v5) else
    zix v6 40 fun m3 =>
    zlt (gR σ 1200 0 m3) fun o4 =>
    zoc o4 none fun i5 =>
    zlt (fun (a6 : Int32) (a7 : Int32) (a8 : Int32) =>
    zlt (v6 + 1 : Int32) fun x11 =>
    f11_sinking_L30 h1 h2 σ K111 n a6 a7 a8 x11) fun j9 =>
    if (gI σ 5 i5 0) = h1 then (zc1 (f11_isSinking i5 σ) fun r13 =>
    if r13 = 0 then (j9 v3 v4 v5) else
    zlt (fun (a14 : Int32) =>
    zlt (zmax v5 (gI σ 5 i5 1) : Int32) fun x17 =>
    zlt (v3 + 1 : Int32) fun x18 =>
    j9 x18 a14 x17) fun j15 =>
    if v3 = 0 then (j15 (gI σ 5 i5 1)) else
    j15 (zmin v4 (gI σ 5 i5 1))) else
    j9 v3 v4 v5
noncomputable def f11_sinking  (v1 : Int32) (v2 : Int32) (σ : zSt) : Option Int32 :=
  zc1 (f11_isIn v1 8 σ) fun r1 =>
  if r1 = 0 then (some (-1)) else
  zc1 (f11_isIn v2 3 σ) fun r2 =>
  if r2 = 0 then (some (-1)) else
  f11_sinking_L30 v1 v2 σ (fun (a20 : Int32) (a21 : Int32) (a22 : Int32) =>
  if v2 = 0 then (some a20) else
  if v2 = 1 then (some a21) else
  some a22) zfuel 0 (-1) (-1) 0
noncomputable def f11_men  (v1 : Int32) (v2 : Int32) (σ : zSt) : Option (Int32 × zSt) :=
  zc1 (f11_isIn v1 10 σ) fun r1 =>
  if r1 = 0 then (some ((-1), σ)) else
  zc1 (f11_isIn v2 10 σ) fun r2 =>
  if r2 = 0 then (some ((-1), σ)) else
  zix v1 10 fun m3 =>
  zlt (gI σ 100 0 m3 : Int32) fun x4 =>
  zix v1 10 fun m5 =>
  zlt (pI σ 100 0 m5 v2) fun s6 =>
  some (x4, s6)
noncomputable def f11_job  (v1 : Int32) (σ : zSt) : Option (Int32 × zSt) :=
  zc1 (f11_faultAt v1 σ) fun o2 =>
  zoc o2 (some ((-1), σ)) fun i3 =>
  zc1 (f4_now i3 σ) fun r4 =>
  if r4 = 1 then (zc1 (f0_has i3 σ) fun r5 =>
  if r5 = 0 then (zc2 (f0_add i3 σ) fun r6 s7 =>
  if r6 = 0 then (some ((-2), s7)) else
  some (gI s7 0 0 2, s7)) else
  some ((-3), σ)) else
  some ((-3), σ)
noncomputable def f11_plan  (v1 : Int32) (σ : zSt) : Option (Int32 × zSt) :=
  if v1 < 1 then (some ((-1), σ)) else
  if v1 ≤ 14 then (if (gI σ 0 0 2) = 0 then (some ((-3), σ)) else
  zc2 (f0_settle (gI σ 11 0 6) (zmin v1 ((9999 - (gI σ 11 0 6)) + 1)) σ) fun r1 s2 =>
  some (r1, s2)) else
  some ((-1), σ)
noncomputable def f11_planned  (v1 : Int32) (σ : zSt) : Option Int32 :=
  zc1 (f11_isIn v1 (gI σ 0 0 4) σ) fun r1 =>
  if r1 = 0 then (some (-1)) else
  zix v1 7 fun m2 =>
  some (gI σ 103 0 m2)
noncomputable def f11_feed_L29  (h1 : Int32) (h2 : Int32) (K69 : zSt → Option (Int32 × zSt)) : Nat → Int32 → zSt → Option (Int32 × zSt)
  | 0, _, _ => none
  | n + 1, v3, σ =>
    if h1 ≤ v3 then (K69 σ) else
    zix (gI σ 11 0 11) 160 fun m1 =>
    zlt (pI σ 1210 0 m1 ((zop_iushr h2 (8 * v3)) &&& 255)) fun s2 =>
    zlt (pI s2 11 0 11 ((gI s2 11 0 11) + 1)) fun s3 =>
    zlt (v3 + 1 : Int32) fun x4 =>
    f11_feed_L29 h1 h2 K69 n x4 s3
noncomputable def f11_feed  (v1 : Int32) (v2 : Int32) (σ : zSt) : Option (Int32 × zSt) :=
  if v1 < 1 then (some ((-1), σ)) else
  if v1 ≤ 4 then (if ((gI σ 11 0 11) + v1) ≤ 160 then (f11_feed_L29 v1 v2 (fun (s6 : zSt) =>
  some (gI s6 11 0 11, s6)) zfuel 0 σ) else
  some ((-2), σ)) else
  some ((-1), σ)
noncomputable def f11_text  (v1 : Int32) (v2 : Int32) (σ : zSt) : Option (Int32 × zSt) :=
  zc1 (f11_isIn v1 2 σ) fun r1 =>
  if r1 = 0 then (some ((-1), σ)) else
  zc1 (f11_isDay v2 σ) fun r2 =>
  if r2 = 0 then (some ((-1), σ)) else
  zlt (fun (a3 : (Option Nat)) =>
  zoc a3 none fun i6 =>
  zc1 (f9_isFull i6 σ) fun r7 =>
  if r7 = 0 then (zlt (gI σ 11 0 11 : Int32) fun x8 =>
  zlt (pI σ 11 0 11 0) fun s9 =>
  zlt (fun (a10 : Int32) =>
  if a10 = (-1) then (zlt (gN s9 10) fun i13 =>
  zlt (nw s9 10 0) fun s14 =>
  zlt (gR s14 11 0 10) fun o15 =>
  zoc o15 none fun i16 =>
  zc2 (fJ7_copyOf_59c91 i16 x8 s14) fun o18 s19 =>
  zoc o18 none fun i20 =>
  zc2 (f10_init i13 i20 (gI s19 11 0 6) v2 s19) fun _ s22 =>
  zokc s22 <|
  zc2 (f9_add i6 i13 s22) fun r24 s25 =>
  some (r24, s25)) else
  some ((-100) - a10, s9)) fun j11 =>
  if v1 = 0 then (zlt (gR s9 11 0 10) fun o26 =>
  zoc o26 none fun i27 =>
  zc1 (f6_faultIn i27 x8 s9) fun r28 =>
  j11 r28) else
  zlt (gR s9 11 0 10) fun o29 =>
  zoc o29 none fun i30 =>
  zc1 (f2_faultIn i30 x8 s9) fun r31 =>
  j11 r31) else
  some ((-2), σ)) fun j4 =>
  if v1 = 0 then (zlt (gR σ 11 0 12) fun o32 =>
  j4 o32) else
  zlt (gR σ 11 0 13) fun o33 =>
  j4 o33
noncomputable def f11_inForce  (v1 : Int32) (v2 : Int32) (v3 : Int32) (σ : zSt) : Option Int32 :=
  zc1 (f11_homeAt v2 σ) fun o2 =>
  zc1 (f11_isIn v1 2 σ) fun r3 =>
  if r3 = 0 then (some (-1)) else
  zoc o2 (some (-1)) fun i4 =>
  zc1 (f11_isDay v3 σ) fun r5 =>
  if r5 = 0 then (some (-1)) else
  zc1 (f5_hasKey i4 σ) fun r6 =>
  if r6 = 0 then (some (-1)) else
  if v1 = 0 then (zc1 (f9_holding 0 i4 v3 σ) fun r7 =>
  some r7) else
  zc1 (f9_holding 1 i4 v3 σ) fun r8 =>
  some r8
noncomputable def f11_chargedCrew  (h1 : Nat) (σ : zSt) : Option Int32 :=
  zc1 (f11_damager h1 σ) fun o2 =>
  zoc o2 (some (-4)) fun i3 =>
  zc1 (f11_saidAheadOf h1 i3 σ) fun r4 =>
  zc1 (f4_crewAt i3 r4 σ) fun r5 =>
  some r5
noncomputable def f11_decide  (h1 : Nat) (σ : zSt) : Option (Unit × zSt) :=
  zc1 (f1_isAheadOfKey h1 σ) fun r1 =>
  if r1 = 0 then (zlt (gR σ 1 h1 1) fun o2 =>
  zoc o2 none fun i3 =>
  zc1 (f9_holding 0 i3 (gI σ 11 0 6) σ) fun r4 =>
  zc1 (f9_at 0 r4 σ) fun o6 =>
  zoc o6 (zc1 (f1_price h1 σ) fun r8 =>
  zc2 (f6_ownerPaysAll r8 σ) fun _ s10 =>
  some ((), s10)) fun i7 =>
  zc1 (f11_chargedCrew h1 σ) fun r11 =>
  zlt (gR σ 1 h1 1) fun o12 =>
  zoc o12 none fun i13 =>
  zix 0 9 fun m14 =>
  zlt (pI σ 700 0 m14 (zop_idiv ((gI σ 1 h1 9) - (gI σ 5 i13 4)) 360)) fun s15 =>
  zix 1 9 fun m16 =>
  zlt (pI s15 700 0 m16 (gI s15 1 h1 3)) fun s17 =>
  zlt (gR s17 1 h1 4) fun o18 =>
  zoc o18 none fun i19 =>
  zix 2 9 fun m20 =>
  zlt (pI s17 700 0 m20 (gI s17 7 i19 0)) fun s21 =>
  zix 3 9 fun m22 =>
  zlt (pI s21 700 0 m22 (gI s21 1 h1 5)) fun s23 =>
  zix 4 9 fun m28 =>
  zlt (pI s23 700 0 m28 (if (gI s23 1 h1 11) = 0 then 0 else 1)) fun s29 =>
  zlt (gR s29 1 h1 1) fun o30 =>
  zoc o30 none fun i31 =>
  zc1 (f5_salesBy i31 (gI s29 1 h1 9) s29) fun r32 =>
  zix 5 9 fun m33 =>
  zlt (pI s29 700 0 m33 r32) fun s34 =>
  zc1 (f1_gaugeSays h1 (gI s34 11 0 6) s34) fun r35 =>
  zix 6 9 fun m36 =>
  zlt (pI s34 700 0 m36 r35) fun s37 =>
  zix 7 9 fun m42 =>
  zlt (pI s37 700 0 m42 (if r11 = (-4) then 0 else 1)) fun s43 =>
  zix 8 9 fun m44 =>
  zlt (pI s43 700 0 m44 (zop_idiv (gI s43 1 h1 2) 4)) fun s45 =>
  zlt (fun (a46 : Int32) =>
  zc1 (f1_price h1 s45) fun r49 =>
  zc2 (f6_decideBy i7 r49 a46 s45) fun _ s51 =>
  some ((), s51)) fun j47 =>
  if r11 = (-4) then (zlt (gR s45 1 h1 1) fun o52 =>
  zlt (gR s45 1 h1 4) fun o53 =>
  zoc o53 none fun i54 =>
  zoc o52 none fun i55 =>
  zc1 (f5_crewOf i55 (gI s45 7 i54 0) s45) fun r56 =>
  j47 r56) else
  j47 r11) else
  zc1 (f1_price h1 σ) fun r57 =>
  zc2 (f6_builderPaysAll r57 σ) fun _ s59 =>
  some ((), s59)
noncomputable def f11_judge  (v1 : Int32) (v2 : Int32) (σ : zSt) : Option (Int32 × zSt) :=
  zc1 (f11_faultAt v1 σ) fun o2 =>
  zoc o2 (some ((-1), σ)) fun i3 =>
  zc1 (f11_isIn v2 4 σ) fun r4 =>
  if r4 = 0 then (some ((-1), σ)) else
  zc2 (f11_decide i3 σ) fun _ s6 =>
  if v2 = 0 then (some (gI s6 6 0 1, s6)) else
  if v2 = 1 then (some (gI s6 6 0 2, s6)) else
  if v2 = 2 then (some (gI s6 6 0 3, s6)) else
  some (gI s6 6 0 4, s6)
noncomputable def f11_free  (v1 : Int32) (σ : zSt) : Option (Int32 × zSt) :=
  zc1 (f11_homeAt v1 σ) fun o2 =>
  zoc o2 (some ((-1), σ)) fun i3 =>
  zc1 (f5_hasKey i3 σ) fun r4 =>
  if r4 = 0 then (some ((-3), σ)) else
  zc1 (f9_holding 1 i3 (gI σ 11 0 6) σ) fun r5 =>
  zc1 (f9_at 1 r5 σ) fun o7 =>
  zlt (fun (a8 : Int32) (s9 : zSt) =>
  zlt (zmax 0 (zmin a8 (gI s9 5 i3 6)) : Int32) fun x12 =>
  zlt (pI s9 5 i3 6 ((gI s9 5 i3 6) - x12)) fun s13 =>
  zlt (pI s13 5 i3 7 ((gI s13 5 i3 7) + x12)) fun s14 =>
  some (x12, s14)) fun j10 =>
  zoc o7 (j10 0 σ) fun i15 =>
  zc1 (f11_leftIn i3 σ) fun r16 =>
  zc1 (f11_falseIn i3 σ) fun r17 =>
  zc1 (f11_brokenIn i3 σ) fun r18 =>
  zc2 (f2_setFacts r16 ((gI σ 11 0 6) - (gI σ 5 i3 4)) r17 r18 (gI σ 5 i3 6) σ) fun _ s20 =>
  zc2 (f2_gives i15 s20) fun r21 s22 =>
  j10 r21 s22
noncomputable def f11_take  (v1 : Int32) (σ : zSt) : Option (Int32 × zSt) :=
  zc1 (f11_faultAt v1 σ) fun o2 =>
  zoc o2 (some ((-1), σ)) fun i3 =>
  zc1 (f1_isWaiting i3 σ) fun r4 =>
  if r4 = 0 then (some ((-3), σ)) else
  zc1 (f4_isFull i3 σ) fun r5 =>
  if r5 = 0 then (zc2 (f11_decide i3 σ) fun _ s7 =>
  zlt (gI s7 6 0 3 : Int32) fun x8 =>
  if (gI s7 6 0 1) = 0 then (zlt (gR s7 1 i3 1) fun o9 =>
  zoc o9 none fun i10 =>
  if x8 ≤ (gI s7 5 i10 6) then (zlt (gR s7 1 i3 1) fun o11 =>
  zoc o11 none fun i12 =>
  zlt (pI s7 5 i12 6 ((gI s7 5 i12 6) - x8)) fun s13 =>
  zlt (gR s13 1 i3 1) fun o14 =>
  zoc o14 none fun i15 =>
  zlt (pI s13 5 i15 8 ((gI s13 5 i15 8) + x8)) fun s16 =>
  zc2 (f1_endWith i3 3 (gI s16 11 0 6) s16) fun _ s18 =>
  some (x8, s18)) else
  some ((-3), s7)) else
  some ((-3), s7)) else
  some ((-3), σ)
noncomputable def f11_hasListed_L2  (h1 : Nat) (h2 : Int32) (σ : zSt)  : Nat → Int32 → Option Int32
  | 0, _ => none
  | n + 1, v3 =>
    if (gI σ 11 0 5) ≤ v3 then (some 0) else
    zix v3 200 fun m1 =>
    zlt (gR σ 1204 0 m1) fun o2 =>
    zoc o2 none fun i3 =>
    zlt (gR σ 1 i3 1) fun o4 =>
    zlt (zlt (v3 + 1 : Int32) fun x7 =>
    f11_hasListed_L2 h1 h2 σ n x7) fun j5 =>
    if o4 = (some h1) then (zix v3 200 fun m9 =>
    zlt (gR σ 1204 0 m9) fun o10 =>
    zoc o10 none fun i11 =>
    zc1 (f1_isListedBy i11 h2 σ) fun r12 =>
    if r12 = 0 then (j5) else
    some 1) else
    j5
noncomputable def f11_hasListed  (h1 : Nat) (v2 : Int32) (σ : zSt) : Option Int32 :=
  f11_hasListed_L2 h1 v2 σ zfuel 0
noncomputable def f11_areDoubles  (h1 : Nat) (v2 : Int32) (v3 : Int32) (σ : zSt) : Option Int32 :=
  zc1 (f11_hasListed h1 v2 σ) fun r1 =>
  zlt (some 0) fun j2 =>
  if r1 = 0 then (j2) else
  zc1 (f11_hasListed h1 v3 σ) fun r4 =>
  if r4 = 0 then (j2) else
  some 1
noncomputable def f11_doubleHomes_L5  (h1 : Int32) (h2 : Int32) (σ : zSt)  : Nat → Int32 → Int32 → Option Int32
  | 0, _, _ => none
  | n + 1, v3, v4 =>
    if (gI σ 11 0 1) ≤ v4 then (some v3) else
    zix v4 40 fun m1 =>
    zlt (gR σ 1200 0 m1) fun o2 =>
    zoc o2 none fun i3 =>
    zc1 (f11_areDoubles i3 h1 h2 σ) fun r4 =>
    zlt (v3 + (if r4 = 0 then 0 else 1) : Int32) fun x9 =>
    zlt (v4 + 1 : Int32) fun x10 =>
    f11_doubleHomes_L5 h1 h2 σ n x9 x10
noncomputable def f11_doubleHomes  (v1 : Int32) (v2 : Int32) (σ : zSt) : Option Int32 :=
  f11_doubleHomes_L5 v1 v2 σ zfuel 0 0
noncomputable def f11_firstListed_L2  (h1 : Nat) (h2 : Int32) (σ : zSt) (K36 : Int32 → Option (Option Nat)) : Nat → Int32 → Option (Option Nat)
  | 0, _ => none
  | n + 1, v3 =>
    if (gI σ 11 0 5) ≤ v3 then (some none) else
    zix v3 200 fun m1 =>
    zlt (gR σ 1204 0 m1) fun o2 =>
    zoc o2 none fun i3 =>
    zc1 (f1_isListedBy i3 h2 σ) fun r4 =>
    zlt (zlt (v3 + 1 : Int32) fun x7 =>
    f11_firstListed_L2 h1 h2 σ K36 n x7) fun j5 =>
    if r4 = 0 then (j5) else
    zix v3 200 fun m9 =>
    zlt (gR σ 1204 0 m9) fun o10 =>
    zoc o10 none fun i11 =>
    zc1 (f1_isSameThing i11 h1 σ) fun r12 =>
    if r12 = 0 then (j5) else
    K36 v3
noncomputable def f11_firstListed  (h1 : Nat) (v2 : Int32) (σ : zSt) : Option (Option Nat) :=
  f11_firstListed_L2 h1 v2 σ (fun (a13 : Int32) =>
  zix a13 200 fun m14 =>
  zlt (gR σ 1204 0 m14) fun o15 =>
  some o15) zfuel 0
noncomputable def f11_toldByOne_L6  (h1 : Int32) (h2 : Int32) (h3 : Int32) (σ : zSt)  : Nat → Int32 → Int32 → Option Int32
  | 0, _, _ => none
  | n + 1, v4, v5 =>
    if (gI σ 11 0 5) ≤ v5 then (some v4) else
    zix v5 200 fun m1 =>
    zlt (gR σ 1204 0 m1) fun o2 =>
    zoc o2 none fun i3 =>
    zc1 (f1_isListedBy i3 h1 σ) fun r4 =>
    zlt (fun (a5 : Int32) =>
    zlt (fun (a8 : Int32) =>
    zlt (v5 + 1 : Int32) fun x11 =>
    f11_toldByOne_L6 h1 h2 h3 σ n a8 x11) fun j9 =>
    if a5 = 0 then (j9 v4) else
    zlt (gR σ 1 i3 1) fun o13 =>
    zoc o13 none fun i14 =>
    zc1 (f11_areDoubles i14 h1 h2 σ) fun r15 =>
    if r15 = 0 then (j9 v4) else
    zc1 (f11_firstListed i3 h2 σ) fun o17 =>
    zlt (fun (a18 : Int32) =>
    if a18 = h3 then (zlt (v4 + 1 : Int32) fun x21 =>
    j9 x21) else
    j9 v4) fun j19 =>
    zoc o17 (j19 0) fun i23 =>
    j19 1) fun j6 =>
    zlt (j6 0) fun j24 =>
    if r4 = 0 then (j24) else
    zc1 (f11_firstListed i3 h1 σ) fun o27 =>
    if o27 = (some i3) then (j6 1) else
    j24
noncomputable def f11_toldByOne  (v1 : Int32) (v2 : Int32) (v3 : Int32) (σ : zSt) : Option Int32 :=
  f11_toldByOne_L6 v1 v2 v3 σ zfuel 0 0
noncomputable def f11_missed  (v1 : Int32) (v2 : Int32) (σ : zSt) : Option Int32 :=
  zc1 (f11_toldByOne v2 v1 0 σ) fun r1 =>
  zc1 (f11_toldByOne v2 v1 1 σ) fun r2 =>
  zlt (r1 + r2 : Int32) fun x3 =>
  if x3 = 0 then (some 0) else
  znz x3 <|
  some (zop_idiv (10000 * r1) x3)
noncomputable def f11_harsh_L5  (h1 : Int32) (h2 : Int32) (σ : zSt)  : Nat → Int32 → Int32 → Option Int32
  | 0, _, _ => none
  | n + 1, v3, v4 =>
    if (gI σ 11 0 5) ≤ v4 then (some v3) else
    zix v4 200 fun m1 =>
    zlt (gR σ 1204 0 m1) fun o2 =>
    zoc o2 none fun i3 =>
    zc1 (f1_isListedBy i3 h1 σ) fun r4 =>
    zlt (fun (a5 : Int32) =>
    zlt (fun (a8 : (Option Nat)) =>
    zlt (fun (a11 : Int32) =>
    zlt (v3 + a11 : Int32) fun x14 =>
    zlt (v4 + 1 : Int32) fun x15 =>
    f11_harsh_L5 h1 h2 σ n x14 x15) fun j12 =>
    zoc a8 (j12 0) fun i17 =>
    j12 ((gI σ 1 i3 5) - (gI σ 1 i17 5))) fun j9 =>
    if a5 = 0 then (j9 none) else
    zc1 (f11_firstListed i3 h2 σ) fun o19 =>
    j9 o19) fun j6 =>
    zlt (j6 0) fun j20 =>
    if r4 = 0 then (j20) else
    zc1 (f11_firstListed i3 h1 σ) fun o23 =>
    if o23 = (some i3) then (j6 1) else
    j20
noncomputable def f11_harsh  (v1 : Int32) (v2 : Int32) (σ : zSt) : Option Int32 :=
  f11_harsh_L5 v1 v2 σ zfuel 0 0
noncomputable def f11_doubles  (v1 : Int32) (v2 : Int32) (v3 : Int32) (σ : zSt) : Option Int32 :=
  zc1 (f11_isIn v1 10 σ) fun r1 =>
  if r1 = 0 then (some (-2000000000)) else
  zc1 (f11_isIn v2 10 σ) fun r2 =>
  if r2 = 0 then (some (-2000000000)) else
  if v1 = v2 then (some (-2000000000)) else
  zc1 (f11_isIn v3 6 σ) fun r3 =>
  if r3 = 0 then (some (-2000000000)) else
  if v3 = 0 then (zc1 (f11_doubleHomes v1 v2 σ) fun r7 =>
  some r7) else
  if v3 = 1 then (zc1 (f11_toldByOne v1 v2 1 σ) fun r9 =>
  some r9) else
  if v3 = 2 then (zc1 (f11_toldByOne v1 v2 0 σ) fun r11 =>
  some r11) else
  if v3 = 3 then (zc1 (f11_toldByOne v2 v1 0 σ) fun r13 =>
  some r13) else
  if v3 = 4 then (zc1 (f11_missed v1 v2 σ) fun r15 =>
  some r15) else
  zc1 (f11_harsh v1 v2 σ) fun r16 =>
  some r16
noncomputable def f11_lots  (v1 : Int32) (σ : zSt) : Option (Int32 × zSt) :=
  zlt (pI σ 11 0 9 v1) fun s1 =>
  some (1, s1)
noncomputable def f11_draw_L15  (h1 : Int32) (σ : zSt) (K50 : Int32 → Option (Int32 × zSt)) : Nat → Int32 → Int32 → Option (Int32 × zSt)
  | 0, _, _ => none
  | n + 1, v2, v3 =>
    if (gI σ 11 0 5) ≤ v3 then (K50 v2) else
    zix v3 200 fun m2 =>
    zlt (gR σ 1204 0 m2) fun o3 =>
    zoc o3 none fun i4 =>
    zc1 (f1_isSaidNowBy i4 h1 σ) fun r5 =>
    zlt (v2 + (if r5 = 0 then 0 else 1) : Int32) fun x10 =>
    zlt (v3 + 1 : Int32) fun x11 =>
    f11_draw_L15 h1 σ K50 n x10 x11
noncomputable def f11_draw_L86  (h1 : Int32) (σ : zSt)  : Nat → Int32 → Int32 → Option (Int32 × zSt)
  | 0, _, _ => none
  | n + 1, v3, v4 =>
    if (gI σ 11 0 5) ≤ v4 then (some ((-4), σ)) else
    zix v4 200 fun m16 =>
    zlt (gR σ 1204 0 m16) fun o17 =>
    zoc o17 none fun i18 =>
    zc1 (f1_isSaidNowBy i18 h1 σ) fun r19 =>
    zlt (fun (a20 : Int32) =>
    zlt (v4 + 1 : Int32) fun x23 =>
    f11_draw_L86 h1 σ n a20 x23) fun j21 =>
    if r19 = 0 then (j21 v3) else
    if v3 = 0 then (some (v4, σ)) else
    zlt (v3 + (-1) : Int32) fun x25 =>
    j21 x25
noncomputable def f11_draw  (v1 : Int32) (σ : zSt) : Option (Int32 × zSt) :=
  zc1 (f11_isIn v1 10 σ) fun r1 =>
  if r1 = 0 then (some ((-1), σ)) else
  f11_draw_L15 v1 σ (fun (a13 : Int32) =>
  if a13 = 0 then (some ((-4), σ)) else
  zlt (pI σ 11 0 9 (((gI σ 11 0 9) * 1103515245) + 12345)) fun s14 =>
  znz a13 <|
  zlt (zop_irem (zop_iushr (gI s14 11 0 9) 8) a13 : Int32) fun x15 =>
  f11_draw_L86 v1 s14 zfuel x15 0) zfuel 0 0
noncomputable def f11_saidBy_L4  (h1 : Int32) (σ : zSt)  : Nat → Int32 → Int32 → Option Int32
  | 0, _, _ => none
  | n + 1, v2, v3 =>
    if (gI σ 11 0 5) ≤ v3 then (some v2) else
    zix v3 200 fun m1 =>
    zlt (gR σ 1204 0 m1) fun o2 =>
    zoc o2 none fun i3 =>
    zc1 (f4_timesSaid i3 h1 σ) fun r4 =>
    zlt (v2 + r4 : Int32) fun x5 =>
    zlt (v3 + 1 : Int32) fun x6 =>
    f11_saidBy_L4 h1 σ n x5 x6
noncomputable def f11_saidBy  (v1 : Int32) (σ : zSt) : Option Int32 :=
  f11_saidBy_L4 v1 σ zfuel 0 0
noncomputable def f11_falseBy_L4  (h1 : Int32) (σ : zSt)  : Nat → Int32 → Int32 → Option Int32
  | 0, _, _ => none
  | n + 1, v2, v3 =>
    if (gI σ 11 0 5) ≤ v3 then (some v2) else
    zix v3 200 fun m1 =>
    zlt (gR σ 1204 0 m1) fun o2 =>
    zoc o2 none fun i3 =>
    zc1 (f4_timesFalse i3 h1 σ) fun r4 =>
    zlt (v2 + r4 : Int32) fun x5 =>
    zlt (v3 + 1 : Int32) fun x6 =>
    f11_falseBy_L4 h1 σ n x5 x6
noncomputable def f11_falseBy  (v1 : Int32) (σ : zSt) : Option Int32 :=
  f11_falseBy_L4 v1 σ zfuel 0 0
noncomputable def f11_chargedTo_L4  (h1 : Int32) (σ : zSt)  : Nat → Int32 → Int32 → Option Int32
  | 0, _, _ => none
  | n + 1, v2, v3 =>
    if (gI σ 11 0 5) ≤ v3 then (some v2) else
    zix v3 200 fun m1 =>
    zlt (gR σ 1204 0 m1) fun o2 =>
    zoc o2 none fun i3 =>
    zc1 (f11_chargedCrew i3 σ) fun r4 =>
    zlt (v2 + (if r4 = h1 then 1 else 0) : Int32) fun x9 =>
    zlt (v3 + 1 : Int32) fun x10 =>
    f11_chargedTo_L4 h1 σ n x9 x10
noncomputable def f11_chargedTo  (v1 : Int32) (σ : zSt) : Option Int32 :=
  f11_chargedTo_L4 v1 σ zfuel 0 0
noncomputable def f11_ofCrew  (v1 : Int32) (v2 : Int32) (σ : zSt) : Option Int32 :=
  zc1 (f11_isIn v1 10 σ) fun r1 =>
  if r1 = 0 then (some (-1)) else
  if v2 = 0 then (zc1 (f11_saidBy v1 σ) fun r5 =>
  some r5) else
  if v2 = 1 then (zix v1 10 fun m7 =>
  some (gI σ 1217 0 m7)) else
  if v2 = 2 then (zc1 (f11_falseBy v1 σ) fun r9 =>
  some r9) else
  if v2 = 3 then (zc1 (f11_chargedTo v1 σ) fun r11 =>
  some r11) else
  some (-1)
noncomputable def f11_bounds  (v1 : Int32) (v2 : Int32) (v3 : Int32) (σ : zSt) : Option Int32 :=
  zc1 (f11_isIn v1 10 σ) fun r1 =>
  if r1 = 0 then (some (-1)) else
  if v2 < 1 then (some (-1)) else
  if (49 : Int32) < v2 then (some (-1)) else
  zc1 (f11_isIn v3 2 σ) fun r2 =>
  if r2 = 0 then (some (-1)) else
  zc1 (f11_saidBy v1 σ) fun r3 =>
  if r3 ≤ 40 then (zix v1 10 fun m4 =>
  zlt (gI σ 1217 0 m4 : Int32) fun x5 =>
  zc1 (f11_falseBy v1 σ) fun r6 =>
  if v3 = 0 then (zc1 (f8_leastFalse r3 x5 r6 v2 σ) fun r7 =>
  some r7) else
  zc1 (f8_greatestFalse r3 x5 r6 v2 σ) fun r8 =>
  some r8) else
  some (-5)
noncomputable def f11_weightOf_L5  (h1 : Int32) (h2 : Int32) (σ : zSt)  : Nat → Int32 → Int32 → Option Int32
  | 0, _, _ => none
  | n + 1, v3, v4 =>
    if (gI σ 11 0 5) ≤ v4 then (some v3) else
    zix v4 200 fun m1 =>
    zlt (gR σ 1204 0 m1) fun o2 =>
    zoc o2 none fun i3 =>
    zlt (gR σ 1 i3 1) fun o4 =>
    zoc o4 none fun i5 =>
    zlt (fun (a6 : Int32) =>
    zlt (v3 + a6 : Int32) fun x9 =>
    zlt (v4 + 1 : Int32) fun x10 =>
    f11_weightOf_L5 h1 h2 σ n x9 x10) fun j7 =>
    zlt (j7 0) fun j12 =>
    if (gI σ 5 i5 0) = h1 then (zc1 (f1_isLeftOn i3 h2 σ) fun r14 =>
    if r14 = 0 then (j12) else
    j7 (gI σ 1 i3 5)) else
    j12
noncomputable def f11_weightOf  (v1 : Int32) (v2 : Int32) (σ : zSt) : Option Int32 :=
  f11_weightOf_L5 v1 v2 σ zfuel 0 0
noncomputable def f11_placeOf_L13  (h1 : Int32) (h2 : Int32) (h3 : Int32) (σ : zSt)  : Nat → Int32 → Int32 → Option Int32
  | 0, _, _ => none
  | n + 1, v4, v5 =>
    if (8 : Int32) ≤ v5 then (some v4) else
    zc1 (f11_weightOf v5 h2 σ) fun r2 =>
    zlt (v4 + (if h3 < r2 then 1 else (if r2 = h3 then (if h1 ≤ v5 then 0 else 1) else 0)) : Int32) fun x13 =>
    zlt (v5 + 1 : Int32) fun x14 =>
    f11_placeOf_L13 h1 h2 h3 σ n x13 x14
noncomputable def f11_placeOf  (v1 : Int32) (v2 : Int32) (σ : zSt) : Option Int32 :=
  zc1 (f11_weightOf v1 v2 σ) fun r1 =>
  f11_placeOf_L13 v1 v2 r1 σ zfuel 0 0
noncomputable def f11_worst_L20  (h1 : Int32) (h2 : Int32) (σ : zSt)  : Nat → Int32 → Option Int32
  | 0, _ => none
  | n + 1, v3 =>
    if (8 : Int32) ≤ v3 then (some (-1)) else
    zc1 (f11_placeOf v3 h2 σ) fun r3 =>
    if r3 = h1 then (some v3) else
    zlt (v3 + 1 : Int32) fun x4 =>
    f11_worst_L20 h1 h2 σ n x4
noncomputable def f11_worst  (v1 : Int32) (v2 : Int32) (σ : zSt) : Option Int32 :=
  zc1 (f11_isIn v1 8 σ) fun r1 =>
  if r1 = 0 then (some (-1)) else
  zc1 (f11_isDay v2 σ) fun r2 =>
  if r2 = 0 then (some (-1)) else
  f11_worst_L20 v1 v2 σ zfuel 0
noncomputable def f11_weight  (v1 : Int32) (v2 : Int32) (σ : zSt) : Option Int32 :=
  zc1 (f11_isIn v1 8 σ) fun r1 =>
  if r1 = 0 then (some (-1)) else
  zc1 (f11_isDay v2 σ) fun r2 =>
  if r2 = 0 then (some (-1)) else
  zc1 (f11_weightOf v1 v2 σ) fun r3 =>
  some r3
noncomputable def f11_sumOfHomes_L4  (h1 : Int32) (σ : zSt)  : Nat → Int32 → Int32 → Option Int32
  | 0, _, _ => none
  | n + 1, v2, v3 =>
    if (gI σ 11 0 1) ≤ v3 then (some v2) else
    zix v3 40 fun m1 =>
    zlt (gR σ 1200 0 m1) fun o2 =>
    zlt (fun (a3 : Int32) =>
    zlt (v3 + 1 : Int32) fun x6 =>
    f11_sumOfHomes_L4 h1 σ n a3 x6) fun j4 =>
    if h1 = 8 then (zoc o2 none fun i11 =>
    zlt (v2 + (gI σ 5 i11 6) : Int32) fun x12 =>
    j4 x12) else
    if h1 = 9 then (zoc o2 none fun i14 =>
    zlt (v2 + (gI σ 5 i14 7) : Int32) fun x15 =>
    j4 x15) else
    if h1 = 10 then (zoc o2 none fun i17 =>
    zlt (v2 + (gI σ 5 i17 8) : Int32) fun x18 =>
    j4 x18) else
    zoc o2 none fun i19 =>
    zc1 (f5_hasKey i19 σ) fun r20 =>
    zlt (v2 + (if r20 = 0 then 0 else 1) : Int32) fun x25 =>
    j4 x25
noncomputable def f11_sumOfHomes  (v1 : Int32) (σ : zSt) : Option Int32 :=
  f11_sumOfHomes_L4 v1 σ zfuel 0 0
noncomputable def f11_count  (v1 : Int32) (σ : zSt) : Option Int32 :=
  if v1 = 0 then (some (gI σ 11 0 1)) else
  if v1 = 1 then (some (gI σ 11 0 3)) else
  if v1 = 2 then (some (gI σ 11 0 5)) else
  if v1 = 3 then (some (gI σ 11 0 6)) else
  if v1 = 4 then (some (gI σ 9 0 1)) else
  if v1 = 5 then (some (gI σ 9 1 1)) else
  if v1 = 6 then (some (gI σ 11 0 11)) else
  if v1 = 7 then (some (gI σ 0 0 2)) else
  if v1 = 8 then (zc1 (f11_sumOfHomes v1 σ) fun r12 =>
  some r12) else
  if v1 = 9 then (zc1 (f11_sumOfHomes v1 σ) fun r14 =>
  some r14) else
  if v1 = 10 then (zc1 (f11_sumOfHomes v1 σ) fun r16 =>
  some r16) else
  if v1 = 11 then (zc1 (f11_sumOfHomes v1 σ) fun r18 =>
  some r18) else
  some (-1)
noncomputable def f12_init_L462  (h0 : Nat)  : Nat → Int32 → zSt → Option (Unit × zSt)
  | 0, _, _ => none
  | n + 1, v1, σ =>
    if (10 : Int32) ≤ v1 then (some ((), σ)) else
    zlt (gR σ 12 h0 45) fun o160 =>
    zoc o160 none fun i161 =>
    zix v1 10 fun m162 =>
    zlt (pI σ 1345 i161 m162 1) fun s163 =>
    zlt (v1 + 1 : Int32) fun x164 =>
    f12_init_L462 h0 n x164 s163
noncomputable def f12_init  (h : Nat) (σ : zSt) : Option (Unit × zSt) :=
  zlt (gN σ 1301) fun i1 =>
  zlt (nw σ 1301 40) fun s2 =>
  zlt (pR s2 12 h 1 (some i1)) fun s3 =>
  zlt (gN s3 1302) fun i4 =>
  zlt (nw s3 1302 40) fun s5 =>
  zlt (pR s5 12 h 2 (some i4)) fun s6 =>
  zlt (gN s6 1303) fun i7 =>
  zlt (nw s6 1303 40) fun s8 =>
  zlt (pR s8 12 h 3 (some i7)) fun s9 =>
  zlt (gN s9 1304) fun i10 =>
  zlt (nw s9 1304 40) fun s11 =>
  zlt (pR s11 12 h 4 (some i10)) fun s12 =>
  zlt (gN s12 1305) fun i13 =>
  zlt (nw s12 1305 40) fun s14 =>
  zlt (pR s14 12 h 5 (some i13)) fun s15 =>
  zlt (gN s15 1306) fun i16 =>
  zlt (nw s15 1306 800) fun s17 =>
  zlt (pR s17 12 h 6 (some i16)) fun s18 =>
  zlt (gN s18 1307) fun i19 =>
  zlt (nw s18 1307 40) fun s20 =>
  zlt (pR s20 12 h 7 (some i19)) fun s21 =>
  zlt (gN s21 1308) fun i22 =>
  zlt (nw s21 1308 40) fun s23 =>
  zlt (pR s23 12 h 8 (some i22)) fun s24 =>
  zlt (gN s24 1309) fun i25 =>
  zlt (nw s24 1309 400) fun s26 =>
  zlt (pR s26 12 h 9 (some i25)) fun s27 =>
  zlt (gN s27 1310) fun i28 =>
  zlt (nw s27 1310 40) fun s29 =>
  zlt (pR s29 12 h 10 (some i28)) fun s30 =>
  zlt (gN s30 1311) fun i31 =>
  zlt (nw s30 1311 40) fun s32 =>
  zlt (pR s32 12 h 11 (some i31)) fun s33 =>
  zlt (gN s33 1312) fun i34 =>
  zlt (nw s33 1312 40) fun s35 =>
  zlt (pR s35 12 h 12 (some i34)) fun s36 =>
  zlt (gN s36 1314) fun i37 =>
  zlt (nw s36 1314 20) fun s38 =>
  zlt (pR s38 12 h 14 (some i37)) fun s39 =>
  zlt (gN s39 1315) fun i40 =>
  zlt (nw s39 1315 20) fun s41 =>
  zlt (pR s41 12 h 15 (some i40)) fun s42 =>
  zlt (gN s42 1316) fun i43 =>
  zlt (nw s42 1316 20) fun s44 =>
  zlt (pR s44 12 h 16 (some i43)) fun s45 =>
  zlt (gN s45 1318) fun i46 =>
  zlt (nw s45 1318 200) fun s47 =>
  zlt (pR s47 12 h 18 (some i46)) fun s48 =>
  zlt (gN s48 1319) fun i49 =>
  zlt (nw s48 1319 200) fun s50 =>
  zlt (pR s50 12 h 19 (some i49)) fun s51 =>
  zlt (gN s51 1320) fun i52 =>
  zlt (nw s51 1320 200) fun s53 =>
  zlt (pR s53 12 h 20 (some i52)) fun s54 =>
  zlt (gN s54 1321) fun i55 =>
  zlt (nw s54 1321 200) fun s56 =>
  zlt (pR s56 12 h 21 (some i55)) fun s57 =>
  zlt (gN s57 1322) fun i58 =>
  zlt (nw s57 1322 200) fun s59 =>
  zlt (pR s59 12 h 22 (some i58)) fun s60 =>
  zlt (gN s60 1323) fun i61 =>
  zlt (nw s60 1323 200) fun s62 =>
  zlt (pR s62 12 h 23 (some i61)) fun s63 =>
  zlt (gN s63 1324) fun i64 =>
  zlt (nw s63 1324 200) fun s65 =>
  zlt (pR s65 12 h 24 (some i64)) fun s66 =>
  zlt (gN s66 1325) fun i67 =>
  zlt (nw s66 1325 200) fun s68 =>
  zlt (pR s68 12 h 25 (some i67)) fun s69 =>
  zlt (gN s69 1326) fun i70 =>
  zlt (nw s69 1326 6000) fun s71 =>
  zlt (pR s71 12 h 26 (some i70)) fun s72 =>
  zlt (gN s72 1327) fun i73 =>
  zlt (nw s72 1327 6000) fun s74 =>
  zlt (pR s74 12 h 27 (some i73)) fun s75 =>
  zlt (gN s75 1328) fun i76 =>
  zlt (nw s75 1328 6000) fun s77 =>
  zlt (pR s77 12 h 28 (some i76)) fun s78 =>
  zlt (gN s78 1329) fun i79 =>
  zlt (nw s78 1329 200) fun s80 =>
  zlt (pR s80 12 h 29 (some i79)) fun s81 =>
  zlt (gN s81 1330) fun i82 =>
  zlt (nw s81 1330 200) fun s83 =>
  zlt (pR s83 12 h 30 (some i82)) fun s84 =>
  zlt (gN s84 1331) fun i85 =>
  zlt (nw s84 1331 200) fun s86 =>
  zlt (pR s86 12 h 31 (some i85)) fun s87 =>
  zlt (gN s87 1332) fun i88 =>
  zlt (nw s87 1332 200) fun s89 =>
  zlt (pR s89 12 h 32 (some i88)) fun s90 =>
  zlt (gN s90 1333) fun i91 =>
  zlt (nw s90 1333 200) fun s92 =>
  zlt (pR s92 12 h 33 (some i91)) fun s93 =>
  zlt (gN s93 1334) fun i94 =>
  zlt (nw s93 1334 200) fun s95 =>
  zlt (pR s95 12 h 34 (some i94)) fun s96 =>
  zlt (gN s96 1335) fun i97 =>
  zlt (nw s96 1335 200) fun s98 =>
  zlt (pR s98 12 h 35 (some i97)) fun s99 =>
  zlt (gN s99 1337) fun i100 =>
  zlt (nw s99 1337 10) fun s101 =>
  zlt (pR s101 12 h 37 (some i100)) fun s102 =>
  zlt (gN s102 1338) fun i103 =>
  zlt (nw s102 1338 10) fun s104 =>
  zlt (pR s104 12 h 38 (some i103)) fun s105 =>
  zlt (gN s105 1339) fun i106 =>
  zlt (nw s105 1339 10) fun s107 =>
  zlt (pR s107 12 h 39 (some i106)) fun s108 =>
  zlt (pI s108 12 h 40 14) fun s109 =>
  zlt (pI s109 12 h 41 100) fun s110 =>
  zlt (gN s110 1342) fun i111 =>
  zlt (nw s110 1342 2400) fun s112 =>
  zlt (pR s112 12 h 42 (some i111)) fun s113 =>
  zlt (gN s113 1343) fun i114 =>
  zlt (nw s113 1343 2400) fun s115 =>
  zlt (pR s115 12 h 43 (some i114)) fun s116 =>
  zlt (gN s116 1344) fun i117 =>
  zlt (nw s116 1344 200) fun s118 =>
  zlt (pR s118 12 h 44 (some i117)) fun s119 =>
  zlt (gN s119 1345) fun i120 =>
  zlt (nw s119 1345 10) fun s121 =>
  zlt (pR s121 12 h 45 (some i120)) fun s122 =>
  zlt (gN s122 1346) fun i123 =>
  zlt (nw s122 1346 7) fun s124 =>
  zlt (pR s124 12 h 46 (some i123)) fun s125 =>
  zlt (gN s125 1348) fun i126 =>
  zlt (nw s125 1348 160) fun s127 =>
  zlt (pR s127 12 h 48 (some i126)) fun s128 =>
  zlt (gN s128 1350) fun i129 =>
  zlt (nw s128 1350 3200) fun s130 =>
  zlt (pR s130 12 h 50 (some i129)) fun s131 =>
  zlt (gN s131 1351) fun i132 =>
  zlt (nw s131 1351 20) fun s133 =>
  zlt (pR s133 12 h 51 (some i132)) fun s134 =>
  zlt (gN s134 1352) fun i135 =>
  zlt (nw s134 1352 20) fun s136 =>
  zlt (pR s136 12 h 52 (some i135)) fun s137 =>
  zlt (gN s137 1353) fun i138 =>
  zlt (nw s137 1353 20) fun s139 =>
  zlt (pR s139 12 h 53 (some i138)) fun s140 =>
  zlt (gN s140 1354) fun i141 =>
  zlt (nw s140 1354 2) fun s142 =>
  zlt (pR s142 12 h 54 (some i141)) fun s143 =>
  zlt (pI s143 12 h 55 1) fun s144 =>
  zlt (gN s144 1357) fun i145 =>
  zlt (nw s144 1357 40) fun s146 =>
  zlt (pR s146 12 h 57 (some i145)) fun s147 =>
  zlt (gN s147 1360) fun i148 =>
  zlt (nw s147 1360 7) fun s149 =>
  zlt (pR s149 12 h 60 (some i148)) fun s150 =>
  zlt (gN s150 1361) fun i151 =>
  zlt (nw s150 1361 7) fun s152 =>
  zlt (pR s152 12 h 61 (some i151)) fun s153 =>
  zlt (gN s153 1371) fun i154 =>
  zlt (nw s153 1371 9) fun s155 =>
  zlt (pR s155 12 h 71 (some i154)) fun s156 =>
  zlt (gN s156 1377) fun i157 =>
  zlt (nw s156 1377 5) fun s158 =>
  zlt (pR s158 12 h 77 (some i157)) fun s159 =>
  f12_init_L462 h zfuel 0 s159
noncomputable def f12_within  (v0 : Int32) (v1 : Int32) (v2 : Int32) (σ : zSt) : Option Int32 :=
  zlt (some 0) fun j1 =>
  if v0 < v1 then (j1) else
  if v2 < v0 then (j1) else
  some 1
noncomputable def f12_isDay  (v0 : Int32) (σ : zSt) : Option Int32 :=
  zc1 (f12_within v0 0 9999 σ) fun r1 =>
  zbo r1 (some r1)
noncomputable def f12_isHome  (v1 : Int32) (σ : zSt) : Option Int32 :=
  zlt (some 0) fun j1 =>
  if v1 < 0 then (j1) else
  if (gI σ 12 0 13) ≤ v1 then (j1) else
  some 1
noncomputable def f12_isKind  (v1 : Int32) (σ : zSt) : Option Int32 :=
  zlt (some 0) fun j1 =>
  if v1 < 0 then (j1) else
  if (gI σ 12 0 17) ≤ v1 then (j1) else
  some 1
noncomputable def f12_isFault  (v1 : Int32) (σ : zSt) : Option Int32 :=
  zlt (some 0) fun j1 =>
  if v1 < 0 then (j1) else
  if (gI σ 12 0 36) ≤ v1 then (j1) else
  some 1
noncomputable def f12_isCrew  (v0 : Int32) (σ : zSt) : Option Int32 :=
  zc1 (f12_within v0 0 9 σ) fun r1 =>
  zbo r1 (some r1)
noncomputable def f12_isTrade  (v0 : Int32) (σ : zSt) : Option Int32 :=
  zc1 (f12_within v0 0 9 σ) fun r1 =>
  zbo r1 (some r1)
noncomputable def f12_days  (v1 : Int32) (σ : zSt) : Option (Int32 × zSt) :=
  zc1 (f12_within v1 1 360 σ) fun r1 =>
  if r1 = 0 then (some ((-1), σ)) else
  if ((gI σ 12 0 0) + v1) ≤ 9999 then (zlt (pI σ 12 0 0 ((gI σ 12 0 0) + v1)) fun s2 =>
  some (gI s2 12 0 0, s2)) else
  some ((-1), σ)
noncomputable def f12_home_L118   (K147 : zSt → Option (Int32 × zSt)) : Nat → Int32 → zSt → Option (Int32 × zSt)
  | 0, _, _ => none
  | n + 1, v4, σ =>
    if (10 : Int32) ≤ v4 then (K147 σ) else
    zix ((10 * (gI σ 12 0 13)) + v4) 400 fun m15 =>
    zlt (pI σ 1309 0 m15 (-1)) fun s16 =>
    zlt (v4 + 1 : Int32) fun x17 =>
    f12_home_L118 K147 n x17 s16
noncomputable def f12_home  (v1 : Int32) (v2 : Int32) (v3 : Int32) (σ : zSt) : Option (Int32 × zSt) :=
  if v1 < 0 then (some ((-1), σ)) else
  if (8 : Int32) ≤ (zop_idiv v1 100) then (some ((-1), σ)) else
  zc1 (f12_within v2 0 999 σ) fun r1 =>
  if r1 = 0 then (some ((-1), σ)) else
  zc1 (f12_within v3 0 9 σ) fun r2 =>
  if r2 = 0 then (some ((-1), σ)) else
  if (gI σ 12 0 13) = 40 then (some ((-2), σ)) else
  zix (gI σ 12 0 13) 40 fun m3 =>
  zlt (pI σ 1301 0 m3 (zop_idiv v1 100)) fun s4 =>
  zix (gI s4 12 0 13) 40 fun m5 =>
  zlt (pI s4 1302 0 m5 (zop_irem v1 100)) fun s6 =>
  zix (gI s6 12 0 13) 40 fun m7 =>
  zlt (pI s6 1303 0 m7 v2) fun s8 =>
  zix (gI s8 12 0 13) 40 fun m9 =>
  zlt (pI s8 1304 0 m9 v3) fun s10 =>
  zix (gI s10 12 0 13) 40 fun m11 =>
  zlt (pI s10 1305 0 m11 (-1)) fun s12 =>
  zix (gI s12 12 0 13) 40 fun m13 =>
  zlt (pI s12 1308 0 m13 127) fun s14 =>
  f12_home_L118 (fun (s19 : zSt) =>
  zlt (pI s19 12 0 13 ((gI s19 12 0 13) + 1)) fun s20 =>
  some ((gI s20 12 0 13) - 1, s20)) zfuel 0 s14
noncomputable def f12_key  (v1 : Int32) (v2 : Int32) (σ : zSt) : Option (Int32 × zSt) :=
  zc1 (f12_isHome v1 σ) fun r1 =>
  if r1 = 0 then (some ((-1), σ)) else
  zc1 (f12_within v2 0 99999 σ) fun r2 =>
  if r2 = 0 then (some ((-1), σ)) else
  zix v1 40 fun m3 =>
  if (gI σ 1305 0 m3) < 0 then (zix v1 40 fun m4 =>
  zlt (pI σ 1305 0 m4 (gI σ 12 0 0)) fun s5 =>
  zix v1 40 fun m6 =>
  zlt (pI s5 1310 0 m6 v2) fun s7 =>
  some (1, s7)) else
  some ((-3), σ)
noncomputable def f12_sell  (v1 : Int32) (σ : zSt) : Option (Int32 × zSt) :=
  zc1 (f12_isHome v1 σ) fun r1 =>
  if r1 = 0 then (some ((-1), σ)) else
  zix v1 40 fun m2 =>
  if 0 ≤ (gI σ 1305 0 m2) then (zix v1 40 fun m3 =>
  if (gI σ 1307 0 m3) = 20 then (some ((-2), σ)) else
  zix v1 40 fun m4 =>
  zix ((20 * v1) + (gI σ 1307 0 m4)) 800 fun m5 =>
  zlt (pI σ 1306 0 m5 (gI σ 12 0 0)) fun s6 =>
  zix v1 40 fun m7 =>
  zix v1 40 fun m8 =>
  zlt (pI s6 1307 0 m8 ((gI s6 1307 0 m7) + 1)) fun s9 =>
  zix v1 40 fun m10 =>
  some (gI s9 1307 0 m10, s9)) else
  some ((-3), σ)
noncomputable def f12_in  (v1 : Int32) (v2 : Int32) (σ : zSt) : Option (Int32 × zSt) :=
  zc1 (f12_isHome v1 σ) fun r1 =>
  if r1 = 0 then (some ((-1), σ)) else
  zc1 (f12_within v2 0 127 σ) fun r2 =>
  if r2 = 0 then (some ((-1), σ)) else
  zix v1 40 fun m3 =>
  zlt (gI σ 1308 0 m3 : Int32) fun x4 =>
  zix v1 40 fun m5 =>
  zlt (pI σ 1308 0 m5 v2) fun s6 =>
  some (x4, s6)
noncomputable def f12_crew  (v1 : Int32) (v2 : Int32) (v3 : Int32) (σ : zSt) : Option (Int32 × zSt) :=
  zc1 (f12_isHome v1 σ) fun r1 =>
  if r1 = 0 then (some ((-2000000000), σ)) else
  zc1 (f12_isTrade v2 σ) fun r2 =>
  if r2 = 0 then (some ((-2000000000), σ)) else
  zc1 (f12_within v3 (-1) 9 σ) fun r3 =>
  if r3 = 0 then (some ((-2000000000), σ)) else
  zix ((10 * v1) + v2) 400 fun m4 =>
  zlt (gI σ 1309 0 m4 : Int32) fun x5 =>
  zix ((10 * v1) + v2) 400 fun m6 =>
  zlt (pI σ 1309 0 m6 v3) fun s7 =>
  some (x5, s7)
noncomputable def f12_stateOn_L8  (h1 : Int32) (h2 : Int32) (σ : zSt)  : Nat → Int32 → Int32 → Option Int32
  | 0, _, _ => none
  | n + 1, v3, v4 =>
    zix h1 200 fun m2 =>
    if ((30 * h1) + (gI σ 1329 0 m2)) ≤ v4 then (some v3) else
    zix v4 6000 fun m3 =>
    zlt (fun (a4 : Int32) =>
    zlt (v4 + 1 : Int32) fun x7 =>
    f12_stateOn_L8 h1 h2 σ n a4 x7) fun j5 =>
    if h2 < (gI σ 1327 0 m3) then (j5 v3) else
    zix v4 6000 fun m9 =>
    j5 (gI σ 1326 0 m9)
noncomputable def f12_stateOn  (v1 : Int32) (v2 : Int32) (σ : zSt) : Option Int32 :=
  zlt (30 * v1 : Int32) fun x1 =>
  f12_stateOn_L8 v1 v2 σ zfuel (-1) x1
noncomputable def f12_isLeft  (v1 : Int32) (v2 : Int32) (σ : zSt) : Option Int32 :=
  zc1 (f12_stateOn v1 v2 σ) fun r1 =>
  zlt (some 0) fun j2 =>
  if r1 < 0 then (j2) else
  if r1 = 3 then (j2) else
  if r1 = 4 then (j2) else
  some 1
noncomputable def f12_leftOf_L4  (h1 : Int32) (σ : zSt)  : Nat → Int32 → Int32 → Option Int32
  | 0, _, _ => none
  | n + 1, v2, v3 =>
    if (gI σ 12 0 36) ≤ v3 then (some v2) else
    zix v3 200 fun m1 =>
    zlt (fun (a2 : Int32) =>
    zlt (v2 + a2 : Int32) fun x5 =>
    zlt (v3 + 1 : Int32) fun x6 =>
    f12_leftOf_L4 h1 σ n x5 x6) fun j3 =>
    zlt (j3 0) fun j8 =>
    if (gI σ 1318 0 m1) = h1 then (zc1 (f12_isLeft v3 (gI σ 12 0 0) σ) fun r10 =>
    if r10 = 0 then (j8) else
    j3 1) else
    j8
noncomputable def f12_leftOf  (v1 : Int32) (σ : zSt) : Option Int32 :=
  f12_leftOf_L4 v1 σ zfuel 0 0
noncomputable def f12_falseOf_L4  (h1 : Int32) (σ : zSt)  : Nat → Int32 → Int32 → Option Int32
  | 0, _, _ => none
  | n + 1, v2, v3 =>
    if (gI σ 12 0 36) ≤ v3 then (some v2) else
    zix v3 200 fun m1 =>
    zlt (fun (a2 : Int32) =>
    zlt (v2 + a2 : Int32) fun x5 =>
    zlt (v3 + 1 : Int32) fun x6 =>
    f12_falseOf_L4 h1 σ n x5 x6) fun j3 =>
    if (gI σ 1318 0 m1) = h1 then (zix v3 200 fun m8 =>
    j3 (gI σ 1335 0 m8)) else
    j3 0
noncomputable def f12_falseOf  (v1 : Int32) (σ : zSt) : Option Int32 :=
  f12_falseOf_L4 v1 σ zfuel 0 0
noncomputable def f12_promiseNow  (v1 : Int32) (σ : zSt) : Option Int32 :=
  zix v1 200 fun m1 =>
  zlt (zix v1 200 fun m4 =>
  some (gI σ 1330 0 m4)) fun j2 =>
  if (gI σ 1330 0 m1) = 1 then (zix v1 200 fun m5 =>
  if (gI σ 12 0 0) ≤ (gI σ 1331 0 m5) then (j2) else
  some 3) else
  j2
noncomputable def f12_brokenOf_L4  (h1 : Int32) (σ : zSt)  : Nat → Int32 → Int32 → Option Int32
  | 0, _, _ => none
  | n + 1, v2, v3 =>
    if (gI σ 12 0 36) ≤ v3 then (some v2) else
    zix v3 200 fun m1 =>
    zlt (fun (a2 : Int32) =>
    zlt (v2 + a2 : Int32) fun x5 =>
    zlt (v3 + 1 : Int32) fun x6 =>
    f12_brokenOf_L4 h1 σ n x5 x6) fun j3 =>
    if (gI σ 1318 0 m1) = h1 then (zix v3 200 fun m8 =>
    zc1 (f12_promiseNow v3 σ) fun r9 =>
    j3 ((gI σ 1333 0 m8) + (if r9 = 3 then 1 else 0))) else
    j3 0
noncomputable def f12_brokenOf  (v1 : Int32) (σ : zSt) : Option Int32 :=
  f12_brokenOf_L4 v1 σ zfuel 0 0
noncomputable def f12_ofHome_L123  (h1 : Int32) (σ : zSt)  : Nat → Int32 → Int32 → Option Int32
  | 0, _, _ => none
  | n + 1, v3, v4 =>
    if (gI σ 12 0 36) ≤ v4 then (some v3) else
    zix v4 200 fun m17 =>
    zlt (v3 + (if (gI σ 1318 0 m17) = h1 then 1 else 0) : Int32) fun x22 =>
    zlt (v4 + 1 : Int32) fun x23 =>
    f12_ofHome_L123 h1 σ n x22 x23
noncomputable def f12_ofHome  (v1 : Int32) (v2 : Int32) (σ : zSt) : Option Int32 :=
  zc1 (f12_isHome v1 σ) fun r1 =>
  if r1 = 0 then (some (-1)) else
  if v2 = 0 then (zix v1 40 fun m5 =>
  some (gI σ 1301 0 m5)) else
  if v2 = 1 then (zix v1 40 fun m7 =>
  some (gI σ 1302 0 m7)) else
  if v2 = 2 then (zix v1 40 fun m9 =>
  some (gI σ 1303 0 m9)) else
  if v2 = 3 then (zix v1 40 fun m11 =>
  some (gI σ 1304 0 m11)) else
  if v2 = 4 then (zix v1 40 fun m13 =>
  some (gI σ 1305 0 m13)) else
  if v2 = 5 then (zix v1 40 fun m15 =>
  some (gI σ 1307 0 m15)) else
  if v2 = 6 then (f12_ofHome_L123 v1 σ zfuel 0 0) else
  if v2 = 7 then (zc1 (f12_leftOf v1 σ) fun r26 =>
  some r26) else
  if v2 = 8 then (zc1 (f12_falseOf v1 σ) fun r28 =>
  some r28) else
  if v2 = 9 then (zc1 (f12_brokenOf v1 σ) fun r30 =>
  some r30) else
  if v2 = 10 then (zix v1 40 fun m32 =>
  some (gI σ 1310 0 m32)) else
  if v2 = 11 then (zix v1 40 fun m34 =>
  some (gI σ 1311 0 m34)) else
  if v2 = 12 then (zix v1 40 fun m36 =>
  some (gI σ 1312 0 m36)) else
  some (-1)
noncomputable def f12_kind  (v1 : Int32) (v2 : Int32) (v3 : Int32) (σ : zSt) : Option (Int32 × zSt) :=
  zc1 (f12_isTrade v1 σ) fun r1 =>
  if r1 = 0 then (some ((-1), σ)) else
  zc1 (f12_within v2 1 999 σ) fun r2 =>
  if r2 = 0 then (some ((-1), σ)) else
  zc1 (f12_within v3 0 7 σ) fun r3 =>
  if r3 = 0 then (some ((-1), σ)) else
  if (gI σ 12 0 17) = 20 then (some ((-2), σ)) else
  zix (gI σ 12 0 17) 20 fun m4 =>
  zlt (pI σ 1314 0 m4 v1) fun s5 =>
  zix (gI s5 12 0 17) 20 fun m6 =>
  zlt (pI s5 1315 0 m6 v2) fun s7 =>
  zix (gI s7 12 0 17) 20 fun m8 =>
  zlt (pI s7 1316 0 m8 v3) fun s9 =>
  zlt (pI s9 12 0 17 ((gI s9 12 0 17) + 1)) fun s10 =>
  some ((gI s10 12 0 17) - 1, s10)
noncomputable def f12_become  (v1 : Int32) (v2 : Int32) (v3 : Int32) (σ : zSt) : Option (Unit × zSt) :=
  zix v1 200 fun m1 =>
  zlt ((30 * v1) + (gI σ 1329 0 m1) : Int32) fun x2 =>
  zix x2 6000 fun m3 =>
  zlt (pI σ 1326 0 m3 v2) fun s4 =>
  zix x2 6000 fun m5 =>
  zlt (pI s4 1327 0 m5 (gI s4 12 0 0)) fun s6 =>
  zix x2 6000 fun m7 =>
  zlt (pI s6 1328 0 m7 v3) fun s8 =>
  zix v1 200 fun m9 =>
  zix v1 200 fun m10 =>
  zlt (pI s8 1329 0 m10 ((gI s8 1329 0 m9) + 1)) fun s11 =>
  some ((), s11)
noncomputable def f12_stateNow  (v1 : Int32) (σ : zSt) : Option Int32 :=
  zix v1 200 fun m1 =>
  zix (((30 * v1) + (gI σ 1329 0 m1)) - 1) 6000 fun m2 =>
  some (gI σ 1326 0 m2)
noncomputable def f12_fault_L175  (h2 : Int32) (h5 : Int32) (h6 : Int32) (σ : zSt) (K282 : Int32 → Option (Int32 × zSt)) : Nat → Int32 → Int32 → Option (Int32 × zSt)
  | 0, _, _ => none
  | n + 1, v7, v8 =>
    if h5 ≤ v8 then (K282 v7) else
    zix v8 200 fun m27 =>
    zlt (fun (a28 : Int32) =>
    zlt (fun (a31 : Int32) =>
    zlt (v8 + 1 : Int32) fun x34 =>
    f12_fault_L175 h2 h5 h6 σ K282 n a31 x34) fun j32 =>
    zlt (j32 1) fun j36 =>
    if v7 = 0 then (zlt (j32 0) fun j38 =>
    if a28 = 0 then (j38) else
    zix v8 200 fun m40 =>
    if (gI σ 1324 0 m40) = 0 then (zc1 (f12_stateNow v8 σ) fun r41 =>
    if r41 = 3 then (j38) else
    j36) else
    j36) else
    j36) fun j29 =>
    zlt (j29 0) fun j42 =>
    if (gI σ 1318 0 m27) = h6 then (zix v8 200 fun m44 =>
    zix h5 200 fun m45 =>
    if (gI σ 1319 0 m44) = (gI σ 1319 0 m45) then (zix v8 200 fun m46 =>
    if (gI σ 1320 0 m46) = h2 then (zc1 (f12_stateNow v8 σ) fun r47 =>
    if r47 = 4 then (j42) else
    j29 1) else
    j42) else
    j42) else
    j42
noncomputable def f12_fault  (v1 : Int32) (v2 : Int32) (v3 : Int32) (v4 : Int32) (σ : zSt) : Option (Int32 × zSt) :=
  if v1 < 0 then (some ((-1), σ)) else
  zc1 (f12_isHome (zop_idiv v1 12) σ) fun r1 =>
  if r1 = 0 then (some ((-1), σ)) else
  zc1 (f12_isKind v2 σ) fun r2 =>
  if r2 = 0 then (some ((-1), σ)) else
  zc1 (f12_within v3 1 9 σ) fun r3 =>
  if r3 = 0 then (some ((-1), σ)) else
  zc1 (f12_within v4 0 10 σ) fun r4 =>
  if r4 = 0 then (some ((-1), σ)) else
  if (gI σ 12 0 36) = 200 then (some ((-2), σ)) else
  zlt (gI σ 12 0 36 : Int32) fun x5 =>
  zlt (zop_idiv v1 12 : Int32) fun x6 =>
  zix x5 200 fun m7 =>
  zlt (pI σ 1318 0 m7 x6) fun s8 =>
  zix x5 200 fun m9 =>
  zlt (pI s8 1319 0 m9 (zop_irem v1 12)) fun s10 =>
  zix x5 200 fun m11 =>
  zlt (pI s10 1320 0 m11 v2) fun s12 =>
  zix x5 200 fun m13 =>
  zlt (pI s12 1321 0 m13 v3) fun s14 =>
  zix x5 200 fun m15 =>
  zlt (pI s14 1322 0 m15 (gI s14 12 0 0)) fun s16 =>
  zix x5 200 fun m17 =>
  zlt (pI s16 1323 0 m17 v4) fun s18 =>
  zix x6 40 fun m19 =>
  zlt (fun (a20 : Int32) =>
  zix x5 200 fun m23 =>
  zlt (pI s18 1324 0 m23 (vp_nar .boolean a20)) fun s24 =>
  zix x5 200 fun m25 =>
  zlt (gI s24 1324 0 m25 : Int32) fun x26 =>
  f12_fault_L175 v2 x5 x6 s24 (fun (a48 : Int32) =>
  zix x5 200 fun m53 =>
  zlt (pI s24 1325 0 m53 (vp_nar .boolean (if a48 = 0 then 1 else 0))) fun s54 =>
  zlt (pI s54 12 0 36 ((gI s54 12 0 36) + 1)) fun s55 =>
  zc2 (f12_become x5 0 (-1) s55) fun _ s57 =>
  some (x5, s57)) zfuel x26 0) fun j21 =>
  zlt (j21 1) fun j58 =>
  if (gI s18 1305 0 m19) < 0 then (j58) else
  zix x6 40 fun m60 =>
  if (gI s18 1305 0 m60) < (gI s18 12 0 0) then (j21 0) else
  j58
noncomputable def f12_isOpen  (v1 : Int32) (σ : zSt) : Option Int32 :=
  zc1 (f12_stateNow v1 σ) fun r1 =>
  zlt (some 1) fun j2 =>
  if r1 = 0 then (j2) else
  zc1 (f12_stateNow v1 σ) fun r4 =>
  if r4 = 1 then (j2) else
  some 0
noncomputable def f12_promise  (v1 : Int32) (v2 : Int32) (σ : zSt) : Option (Int32 × zSt) :=
  zc1 (f12_isFault v1 σ) fun r1 =>
  if r1 = 0 then (some ((-1), σ)) else
  zc1 (f12_within v2 (gI σ 12 0 0) 9999 σ) fun r2 =>
  if r2 = 0 then (some ((-1), σ)) else
  zc1 (f12_isOpen v1 σ) fun r3 =>
  if r3 = 0 then (some ((-3), σ)) else
  zix v1 200 fun m4 =>
  if (gI σ 1329 0 m4) = 30 then (some ((-2), σ)) else
  zix v1 200 fun m5 =>
  zc1 (f12_promiseNow v1 σ) fun r6 =>
  zix v1 200 fun m11 =>
  zlt (pI σ 1333 0 m11 ((gI σ 1333 0 m5) + (if r6 = 3 then 1 else 0))) fun s12 =>
  zix v1 200 fun m13 =>
  zc1 (f12_promiseNow v1 s12) fun r14 =>
  zix v1 200 fun m19 =>
  zlt (pI s12 1332 0 m19 ((gI s12 1332 0 m13) + (if r14 = 1 then 1 else 0))) fun s20 =>
  zix v1 200 fun m21 =>
  zlt (pI s20 1330 0 m21 1) fun s22 =>
  zix v1 200 fun m23 =>
  zlt (pI s22 1331 0 m23 v2) fun s24 =>
  zc2 (f12_become v1 1 (-1) s24) fun _ s26 =>
  some (1, s26)
noncomputable def f12_said  (v1 : Int32) (v2 : Int32) (σ : zSt) : Option (Int32 × zSt) :=
  zc1 (f12_isFault v1 σ) fun r1 =>
  if r1 = 0 then (some ((-1), σ)) else
  zc1 (f12_isCrew v2 σ) fun r2 =>
  if r2 = 0 then (some ((-1), σ)) else
  zc1 (f12_isOpen v1 σ) fun r3 =>
  if r3 = 0 then (some ((-3), σ)) else
  zix v1 200 fun m4 =>
  if (gI σ 1329 0 m4) = 30 then (some ((-2), σ)) else
  zc1 (f12_promiseNow v1 σ) fun r5 =>
  zlt (fun (a6 : Int32) =>
  zix v1 200 fun m9 =>
  zlt (pI σ 1330 0 m9 a6) fun s10 =>
  zix v1 200 fun m11 =>
  zix v1 200 fun m12 =>
  zlt (pI s10 1334 0 m12 ((gI s10 1334 0 m11) + 1)) fun s13 =>
  zix v2 10 fun m14 =>
  zix v2 10 fun m15 =>
  zlt (pI s13 1339 0 m15 ((gI s13 1339 0 m14) + 1)) fun s16 =>
  zc2 (f12_become v1 2 v2 s16) fun _ s18 =>
  some (1, s18)) fun j7 =>
  if r5 = 1 then (j7 2) else
  zc1 (f12_promiseNow v1 σ) fun r19 =>
  j7 r19
noncomputable def f12_lastCrew_L7  (h1 : Int32) (σ : zSt)  : Nat → Int32 → Int32 → Option Int32
  | 0, _, _ => none
  | n + 1, v2, v3 =>
    zix h1 200 fun m2 =>
    if ((30 * h1) + (gI σ 1329 0 m2)) ≤ v3 then (some v2) else
    zix v3 6000 fun m3 =>
    zlt (fun (a4 : Int32) =>
    zlt (v3 + 1 : Int32) fun x7 =>
    f12_lastCrew_L7 h1 σ n a4 x7) fun j5 =>
    if (gI σ 1326 0 m3) = 2 then (zix v3 6000 fun m9 =>
    j5 (gI σ 1328 0 m9)) else
    j5 v2
noncomputable def f12_lastCrew  (v1 : Int32) (σ : zSt) : Option Int32 :=
  zlt (30 * v1 : Int32) fun x1 =>
  f12_lastCrew_L7 v1 σ zfuel (-1) x1
noncomputable def f12_look  (v1 : Int32) (v2 : Int32) (σ : zSt) : Option (Int32 × zSt) :=
  zc1 (f12_isFault v1 σ) fun r1 =>
  if r1 = 0 then (some ((-1), σ)) else
  zc1 (f12_within v2 0 1 σ) fun r2 =>
  if r2 = 0 then (some ((-1), σ)) else
  zc1 (f12_stateNow v1 σ) fun r3 =>
  if r3 = 2 then (zix v1 200 fun m4 =>
  if (gI σ 1329 0 m4) = 30 then (some ((-2), σ)) else
  zc1 (f12_lastCrew v1 σ) fun r5 =>
  zix r5 10 fun m6 =>
  zix r5 10 fun m7 =>
  zlt (pI σ 1337 0 m7 ((gI σ 1337 0 m6) + 1)) fun s8 =>
  zix r5 10 fun m9 =>
  zix r5 10 fun m14 =>
  zlt (pI s8 1338 0 m14 ((gI s8 1338 0 m9) + (if v2 = 1 then 0 else 1))) fun s15 =>
  zix v1 200 fun m16 =>
  zix v1 200 fun m21 =>
  zlt (pI s15 1335 0 m21 ((gI s15 1335 0 m16) + (if v2 = 1 then 0 else 1))) fun s22 =>
  zc2 (f12_become v1 (if v2 = 1 then 3 else 0) (-1) s22) fun _ s28 =>
  some (1, s28)) else
  some ((-3), σ)
noncomputable def f12_endPromise  (v1 : Int32) (σ : zSt) : Option (Unit × zSt) :=
  zc1 (f12_promiseNow v1 σ) fun r1 =>
  zix v1 200 fun m6 =>
  zlt (pI σ 1330 0 m6 (if r1 = 1 then 0 else r1)) fun s7 =>
  some ((), s7)
noncomputable def f12_voids  (v1 : Int32) (σ : zSt) : Option (Int32 × zSt) :=
  zc1 (f12_isFault v1 σ) fun r1 =>
  if r1 = 0 then (some ((-1), σ)) else
  zc1 (f12_isOpen v1 σ) fun r2 =>
  if r2 = 0 then (some ((-3), σ)) else
  zix v1 200 fun m3 =>
  if (gI σ 1329 0 m3) = 30 then (some ((-2), σ)) else
  zc2 (f12_endPromise v1 σ) fun _ s5 =>
  zc2 (f12_become v1 4 (-1) s5) fun _ s7 =>
  some (1, s7)
noncomputable def f12_state  (v1 : Int32) (v2 : Int32) (σ : zSt) : Option Int32 :=
  zc1 (f12_isFault v1 σ) fun r1 =>
  if r1 = 0 then (some (-1)) else
  zc1 (f12_isDay v2 σ) fun r2 =>
  if r2 = 0 then (some (-1)) else
  zc1 (f12_stateOn v1 v2 σ) fun r3 =>
  if 0 ≤ r3 then (some r3) else
  some (-4)
noncomputable def f12_priceOf  (v1 : Int32) (σ : zSt) : Option Int32 :=
  zix v1 200 fun m1 =>
  zix (gI σ 1320 0 m1) 20 fun m2 =>
  zix v1 200 fun m3 =>
  zlt ((gI σ 1315 0 m2) * (gI σ 1321 0 m3) : Int32) fun x4 =>
  zix v1 200 fun m5 =>
  if (zop_idiv (gI σ 1319 0 m5) 4) = 2 then (some (zop_idiv ((3 * x4) + 1) 2)) else
  some x4
noncomputable def f12_ofFault  (v1 : Int32) (v2 : Int32) (σ : zSt) : Option Int32 :=
  zc1 (f12_isFault v1 σ) fun r1 =>
  if r1 = 0 then (some (-1)) else
  if v2 = 0 then (zix v1 200 fun m5 =>
  some (gI σ 1318 0 m5)) else
  if v2 = 1 then (zix v1 200 fun m7 =>
  some (gI σ 1319 0 m7)) else
  if v2 = 2 then (zix v1 200 fun m9 =>
  some (gI σ 1320 0 m9)) else
  if v2 = 3 then (zix v1 200 fun m11 =>
  some (gI σ 1321 0 m11)) else
  if v2 = 4 then (zix v1 200 fun m13 =>
  some (gI σ 1322 0 m13)) else
  if v2 = 5 then (zix v1 200 fun m15 =>
  some (gI σ 1323 0 m15)) else
  if v2 = 6 then (zix v1 200 fun m17 =>
  if (gI σ 1324 0 m17) = 0 then (some 0) else
  some 1) else
  if v2 = 7 then (zix v1 200 fun m19 =>
  if (gI σ 1325 0 m19) = 0 then (some 0) else
  some 1) else
  if v2 = 8 then (zc1 (f12_priceOf v1 σ) fun r21 =>
  some r21) else
  if v2 = 9 then (zc1 (f12_promiseNow v1 σ) fun r23 =>
  some r23) else
  if v2 = 10 then (zix v1 200 fun m25 =>
  some (gI σ 1332 0 m25)) else
  if v2 = 11 then (zix v1 200 fun m27 =>
  some (gI σ 1334 0 m27)) else
  if v2 = 12 then (zix v1 200 fun m29 =>
  some (gI σ 1335 0 m29)) else
  if v2 = 13 then (zc1 (f12_lastCrew v1 σ) fun r31 =>
  some r31) else
  some (-1)
noncomputable def f12_hasFlag  (v1 : Int32) (v2 : Int32) (σ : zSt) : Option Int32 :=
  zix v1 200 fun m1 =>
  zix (gI σ 1320 0 m1) 20 fun m2 =>
  if ((gI σ 1316 0 m2) &&& v2) = 0 then (some 0) else
  some 1
noncomputable def f12_leakAbove_L2  (h1 : Int32) (h2 : Int32) (σ : zSt)  : Nat → Int32 → Option Int32
  | 0, _ => none
  | n + 1, v3 =>
    if (gI σ 12 0 36) ≤ v3 then (some (-1)) else
    zlt (zlt (v3 + 1 : Int32) fun x3 =>
    f12_leakAbove_L2 h1 h2 σ n x3) fun j1 =>
    if v3 = h1 then (j1) else
    zix v3 200 fun m5 =>
    zix h1 200 fun m6 =>
    if (gI σ 1318 0 m5) = (gI σ 1318 0 m6) then (zix v3 200 fun m7 =>
    zix h1 200 fun m8 =>
    if (gI σ 1319 0 m7) = ((gI σ 1319 0 m8) + 4) then (zc1 (f12_hasFlag v3 1 σ) fun r9 =>
    if r9 = 0 then (j1) else
    zc1 (f12_isLeft v3 h2 σ) fun r10 =>
    if r10 = 0 then (j1) else
    some v3) else
    j1) else
    j1
noncomputable def f12_leakAbove  (v1 : Int32) (v2 : Int32) (σ : zSt) : Option Int32 :=
  f12_leakAbove_L2 v1 v2 σ zfuel 0
noncomputable def f12_source_L50  (h2 : Int32) (σ : zSt)  : Nat → Int32 → Int32 → Option Int32
  | 0, _, _ => none
  | n + 1, v3, v4 =>
    if v4 < 0 then (some v3) else
    zc1 (f12_hasFlag v4 4 σ) fun r8 =>
    zlt (fun (a9 : Int32) =>
    f12_source_L50 h2 σ n v4 a9) fun j10 =>
    if r8 = 0 then (j10 (-1)) else
    zc1 (f12_leakAbove v4 h2 σ) fun r12 =>
    j10 r12
noncomputable def f12_source  (v1 : Int32) (v2 : Int32) (σ : zSt) : Option Int32 :=
  zc1 (f12_isFault v1 σ) fun r1 =>
  if r1 = 0 then (some (-1)) else
  zc1 (f12_isDay v2 σ) fun r2 =>
  if r2 = 0 then (some (-1)) else
  zix v1 200 fun m3 =>
  if (gI σ 1322 0 m3) ≤ v2 then (zc1 (f12_hasFlag v1 4 σ) fun r4 =>
  zlt (fun (a5 : Int32) =>
  f12_source_L50 v2 σ zfuel v1 a5) fun j6 =>
  if r4 = 0 then (j6 (-1)) else
  zc1 (f12_leakAbove v1 v2 σ) fun r13 =>
  j6 r13) else
  some (-1)
noncomputable def f12_damageBy_L84  (h1 : Int32) (h4 : Int32) (h5 : Int32) (K188 : Int32 → Int32 → zSt → Option (Int32 × zSt)) : Nat → Int32 → Int32 → Int32 → zSt → Option (Int32 × zSt)
  | 0, _, _, _, _ => none
  | n + 1, v2, v3, v6, σ =>
    zix h4 200 fun m5 =>
    if ((30 * h4) + (gI σ 1329 0 m5)) ≤ v6 then (K188 v2 v3 σ) else
    if h5 = 0 then (K188 v2 v3 σ) else
    zix h1 200 fun m6 =>
    zix v6 6000 fun m7 =>
    zlt ((gI σ 1322 0 m6) - (gI σ 1327 0 m7) : Int32) fun x8 =>
    zix v6 6000 fun m9 =>
    zlt (fun (a10 : Int32) (a11 : Int32) (s12 : zSt) =>
    zlt (v6 + 1 : Int32) fun x15 =>
    f12_damageBy_L84 h1 h4 h5 K188 n a10 a11 x15 s12) fun j13 =>
    if (gI σ 1326 0 m9) = 2 then (if x8 < 1 then (j13 v2 v3 σ) else
    if (gI σ 12 0 40) < x8 then (j13 v2 v3 σ) else
    zix v6 6000 fun m17 =>
    if (gI σ 1327 0 m17) < v3 then (j13 v2 v3 σ) else
    zix v6 6000 fun m18 =>
    zlt (gI σ 1327 0 m18 : Int32) fun x19 =>
    zix v6 6000 fun m20 =>
    zlt (pI σ 12 0 56 (gI σ 1328 0 m20)) fun s21 =>
    j13 h4 x19 s21) else
    j13 v2 v3 σ
noncomputable def f12_damageBy_L7  (h1 : Int32)  : Nat → Int32 → Int32 → Int32 → zSt → Option (Int32 × zSt)
  | 0, _, _, _, _ => none
  | n + 1, v2, v3, v4, σ =>
    if (gI σ 12 0 36) ≤ v4 then (some (v2, σ)) else
    zlt (fun (a1 : Int32) =>
    zlt (30 * v4 : Int32) fun x4 =>
    f12_damageBy_L84 h1 v4 a1 (fun (a22 : Int32) (a23 : Int32) (s24 : zSt) =>
    zlt (v4 + 1 : Int32) fun x25 =>
    f12_damageBy_L7 h1 n a22 a23 x25 s24) zfuel v2 v3 x4 σ) fun j2 =>
    zlt (j2 0) fun j27 =>
    if v4 = h1 then (j27) else
    zix v4 200 fun m29 =>
    zix h1 200 fun m30 =>
    if (gI σ 1318 0 m29) = (gI σ 1318 0 m30) then (zix v4 200 fun m31 =>
    zix h1 200 fun m32 =>
    if (gI σ 1319 0 m31) = (gI σ 1319 0 m32) then (zix v4 200 fun m33 =>
    zix h1 200 fun m34 =>
    if (gI σ 1320 0 m33) = (gI σ 1320 0 m34) then (j27) else
    j2 1) else
    j27) else
    j27
noncomputable def f12_damageBy  (v1 : Int32) (σ : zSt) : Option (Int32 × zSt) :=
  f12_damageBy_L7 v1 zfuel (-1) (-1) 0 σ
noncomputable def f12_damage  (v1 : Int32) (σ : zSt) : Option (Int32 × zSt) :=
  zc1 (f12_isFault v1 σ) fun r1 =>
  if r1 = 0 then (some ((-1), σ)) else
  zc2 (f12_damageBy v1 σ) fun r2 s3 =>
  if 0 ≤ r2 then (some (r2, s3)) else
  some ((-4), s3)
noncomputable def f12_rule  (v1 : Int32) (v2 : Int32) (σ : zSt) : Option (Int32 × zSt) :=
  zc1 (f12_within v1 0 1 σ) fun r1 =>
  if r1 = 0 then (some ((-1), σ)) else
  zc1 (f12_within v2 0 (if v1 = 0 then 60 else 999) σ) fun r6 =>
  if r6 = 0 then (some ((-1), σ)) else
  zlt (if v1 = 0 then (gI σ 12 0 40) else (gI σ 12 0 41) : Int32) fun x11 =>
  if v1 = 0 then (zlt (pI σ 12 0 40 v2) fun s12 =>
  some (x11, s12)) else
  zlt (pI σ 12 0 41 v2) fun s13 =>
  some (x11, s13)
noncomputable def f12_isGroup  (v0 : Int32) (σ : zSt) : Option Int32 :=
  zlt (some 0) fun j1 =>
  if v0 < 0 then (j1) else
  zlt (some 1) fun j3 =>
  zlt (if (zop_idiv v0 10) = 1 then (j3) else
  if (zop_idiv v0 10) = 2 then (j3) else
  if v0 = 30 then (j3) else
  j1) fun j5 =>
  if (zop_idiv v0 10) = 0 then (if (zop_irem v0 10) < 8 then (j3) else
  j5) else
  j5
noncomputable def f12_isIn  (v1 : Int32) (v2 : Int32) (v3 : Int32) (σ : zSt) : Option Int32 :=
  zlt (zop_irem v2 10 : Int32) fun x1 =>
  if (zop_idiv v2 10) = 0 then (zix v1 40 fun m2 =>
  if (gI σ 1301 0 m2) = x1 then (some 1) else
  some 0) else
  if (zop_idiv v2 10) = 1 then (zix v3 20 fun m3 =>
  zix ((10 * v1) + (gI σ 1314 0 m3)) 400 fun m4 =>
  if (gI σ 1309 0 m4) = x1 then (some 1) else
  some 0) else
  if (zop_idiv v2 10) = 2 then (zix v1 40 fun m5 =>
  if (gI σ 1304 0 m5) = x1 then (some 1) else
  some 0) else
  zix v1 40 fun m6 =>
  if (gI σ 12 0 41) ≤ (gI σ 1303 0 m6) then (some 0) else
  some 1
noncomputable def f12_hasKind_L6  (h1 : Int32) (h2 : Int32) (h3 : Int32) (σ : zSt)  : Nat → Int32 → Int32 → Option Int32
  | 0, _, _ => none
  | n + 1, v4, v5 =>
    if (gI σ 12 0 36) ≤ v5 then (zbo v4 (some v4)) else
    zix v5 200 fun m1 =>
    zlt (fun (a2 : Int32) =>
    zlt (if v4 = 0 then (if a2 < 0 then 0 else (if a2 = 4 then 0 else 1)) else 1 : Int32) fun x15 =>
    zlt (v5 + 1 : Int32) fun x16 =>
    f12_hasKind_L6 h1 h2 h3 σ n x15 x16) fun j3 =>
    zlt (j3 (-1)) fun j18 =>
    if (gI σ 1318 0 m1) = h1 then (zix v5 200 fun m20 =>
    if (gI σ 1320 0 m20) = h2 then (zc1 (f12_stateOn v5 h3 σ) fun r21 =>
    j3 r21) else
    j18) else
    j18
noncomputable def f12_hasKind  (v1 : Int32) (v2 : Int32) (v3 : Int32) (σ : zSt) : Option Int32 :=
  f12_hasKind_L6 v1 v2 v3 σ zfuel 0 0
noncomputable def f12_findWith_L7  (h1 : Int32) (h2 : Int32)  : Nat → Int32 → zSt → Option (Unit × zSt)
  | 0, _, _ => none
  | n + 1, v3, σ =>
    if (gI σ 12 0 13) ≤ v3 then (some ((), σ)) else
    zc1 (f12_hasKind v3 h1 h2 σ) fun r2 =>
    zix v3 40 fun m3 =>
    zlt (pI σ 1357 0 m3 (vp_nar .boolean r2)) fun s4 =>
    zix v3 40 fun m5 =>
    zlt (pI s4 12 0 58 ((gI s4 12 0 58) + (if (gI s4 1357 0 m5) = 0 then 0 else 1))) fun s10 =>
    zlt (v3 + 1 : Int32) fun x11 =>
    f12_findWith_L7 h1 h2 n x11 s10
noncomputable def f12_findWith  (v1 : Int32) (v2 : Int32) (σ : zSt) : Option (Unit × zSt) :=
  zlt (pI σ 12 0 58 0) fun s1 =>
  f12_findWith_L7 v1 v2 zfuel 0 s1
noncomputable def f12_sizeOf_L6  (h1 : Int32) (h2 : Int32) (h3 : Int32) (σ : zSt)  : Nat → Int32 → Int32 → Option Int32
  | 0, _, _ => none
  | n + 1, v4, v5 =>
    if (gI σ 12 0 13) ≤ v5 then (some v4) else
    zc1 (f12_isIn v5 h1 h2 σ) fun r1 =>
    zlt (fun (a2 : Int32) =>
    zlt (v4 + a2 : Int32) fun x5 =>
    zlt (v5 + 1 : Int32) fun x6 =>
    f12_sizeOf_L6 h1 h2 h3 σ n x5 x6) fun j3 =>
    zlt (j3 0) fun j8 =>
    if r1 = 0 then (j8) else
    zlt (j3 1) fun j10 =>
    if h3 = 0 then (j10) else
    zix v5 40 fun m12 =>
    if (gI σ 1357 0 m12) = 0 then (j8) else
    j10
noncomputable def f12_sizeOf  (v1 : Int32) (v2 : Int32) (v3 : Int32) (σ : zSt) : Option Int32 :=
  f12_sizeOf_L6 v1 v2 v3 σ zfuel 0 0
noncomputable def f12_joined  (v1 : Int32) (v2 : Int32) (v3 : Int32) (v4 : Int32) (σ : zSt) : Option (Int32 × zSt) :=
  zc1 (f12_isKind v1 σ) fun r1 =>
  if r1 = 0 then (some ((-1), σ)) else
  zc1 (f12_isGroup v2 σ) fun r2 =>
  if r2 = 0 then (some ((-1), σ)) else
  zc1 (f12_isDay v3 σ) fun r3 =>
  if r3 = 0 then (some ((-1), σ)) else
  zc1 (f12_within v4 0 2 σ) fun r4 =>
  if r4 = 0 then (some ((-1), σ)) else
  zc2 (f12_findWith v1 v3 σ) fun _ s6 =>
  if v4 = 0 then (some (gI s6 12 0 58, s6)) else
  zc1 (f12_sizeOf v2 v1 (if v4 = 1 then 1 else 0) s6) fun r11 =>
  some (r11, s6)
noncomputable def f12_choose_L16  (h0 : Int32) (h1 : Int32) (σ : zSt)  : Nat → Int64 → Int32 → Option Int64
  | 0, _, _ => none
  | n + 1, v2, v4 =>
    if h1 ≤ v4 then (some v2) else
    znl (Int32.toInt64 (v4 + 1)) <|
    zlt (zop_ldiv (v2 * (Int32.toInt64 (h0 - v4))) (Int32.toInt64 (v4 + 1)) : Int64) fun l1 =>
    zlt (v4 + 1 : Int32) fun x2 =>
    f12_choose_L16 h0 h1 σ n l1 x2
noncomputable def f12_choose  (v0 : Int32) (v1 : Int32) (σ : zSt) : Option Int64 :=
  if v1 < 0 then (some 0) else
  if v1 ≤ v0 then (f12_choose_L16 v0 v1 σ zfuel 1 0) else
  some 0
noncomputable def f12_chanceOf_L28  (h3 : Int32) (σ : zSt) (K80 : Int64 → Option Int32) : Nat → Int64 → Int32 → Option Int32
  | 0, _, _ => none
  | n + 1, v4, v6 =>
    if (gI σ 12 0 58) < v6 then (K80 v4) else
    if h3 < v6 then (K80 v4) else
    zc1 (f12_choose (gI σ 12 0 58) v6 σ) fun r3 =>
    zc1 (f12_choose ((gI σ 12 0 13) - (gI σ 12 0 58)) (h3 - v6) σ) fun r4 =>
    zlt (v4 + (r3 * r4) : Int64) fun l5 =>
    zlt (v6 + 1 : Int32) fun x6 =>
    f12_chanceOf_L28 h3 σ K80 n l5 x6
noncomputable def f12_chanceOf  (v1 : Int32) (v2 : Int32) (σ : zSt) : Option Int32 :=
  zc1 (f12_sizeOf v1 v2 0 σ) fun r1 =>
  if r1 = 0 then (some 10000) else
  zc1 (f12_sizeOf v1 v2 1 σ) fun r2 =>
  f12_chanceOf_L28 r1 σ (fun (a8 : Int64) =>
  zc1 (f12_choose (gI σ 12 0 13) r1 σ) fun r9 =>
  znl r9 <|
  some (Int64.toInt32 (zop_ldiv (((a8 * 10000) + r9) - 1) r9))) zfuel 0 r2
noncomputable def f12_chance  (v1 : Int32) (v2 : Int32) (v3 : Int32) (σ : zSt) : Option (Int32 × zSt) :=
  zc1 (f12_isKind v1 σ) fun r1 =>
  if r1 = 0 then (some ((-1), σ)) else
  zc1 (f12_isGroup v2 σ) fun r2 =>
  if r2 = 0 then (some ((-1), σ)) else
  zc1 (f12_isDay v3 σ) fun r3 =>
  if r3 = 0 then (some ((-1), σ)) else
  zc2 (f12_findWith v1 v3 σ) fun _ s5 =>
  zc1 (f12_chanceOf v2 v1 s5) fun r6 =>
  some (r6, s5)
noncomputable def f12_causeOf_L8  (h1 : Int32) (σ : zSt)  : Nat → Int32 → Int32 → Int32 → Option Int32
  | 0, _, _, _ => none
  | n + 1, v3, v4, v5 =>
    if (30 : Int32) < v5 then (some v3) else
    zc1 (f12_isGroup v5 σ) fun r1 =>
    zlt (fun (a2 : Int32) (a3 : Int32) =>
    zlt (v5 + 1 : Int32) fun x6 =>
    f12_causeOf_L8 h1 σ n a2 a3 x6) fun j4 =>
    if r1 = 0 then (j4 v3 v4) else
    zc1 (f12_chanceOf v5 h1 σ) fun r8 =>
    if v4 ≤ r8 then (j4 v3 v4) else
    zc1 (f12_chanceOf v5 h1 σ) fun r9 =>
    j4 v5 r9
noncomputable def f12_causeOf  (v1 : Int32) (v2 : Int32) (σ : zSt) : Option Int32 :=
  f12_causeOf_L8 v1 σ zfuel (-1) v2 0
noncomputable def f12_cause  (v1 : Int32) (v2 : Int32) (v3 : Int32) (σ : zSt) : Option (Int32 × zSt) :=
  zc1 (f12_isKind v1 σ) fun r1 =>
  if r1 = 0 then (some ((-1), σ)) else
  zc1 (f12_isDay v2 σ) fun r2 =>
  if r2 = 0 then (some ((-1), σ)) else
  zc1 (f12_within v3 1 9999 σ) fun r3 =>
  if r3 = 0 then (some ((-1), σ)) else
  zc2 (f12_findWith v1 v2 σ) fun _ s5 =>
  zc1 (f12_causeOf v1 v3 s5) fun r6 =>
  if 0 ≤ r6 then (some (r6, s5)) else
  some ((-4), s5)
noncomputable def f12_areSame_L6  (h1 : Int32) (h2 : Int32) (h3 : Int32) (σ : zSt)  : Nat → Int32 → Int32 → Option Int32
  | 0, _, _ => none
  | n + 1, v4, v5 =>
    if (gI σ 12 0 13) ≤ v5 then (zbo v4 (some v4)) else
    zlt (fun (a1 : Int32) =>
    zlt (v5 + 1 : Int32) fun x4 =>
    f12_areSame_L6 h1 h2 h3 σ n a1 x4) fun j2 =>
    zlt (j2 0) fun j6 =>
    if v4 = 0 then (j6) else
    zc1 (f12_isIn v5 h1 h3 σ) fun r8 =>
    zc1 (f12_isIn v5 h2 h3 σ) fun r9 =>
    if r8 = r9 then (j2 1) else
    j6
noncomputable def f12_areSame  (v1 : Int32) (v2 : Int32) (v3 : Int32) (σ : zSt) : Option Int32 :=
  f12_areSame_L6 v1 v2 v3 σ zfuel 1 0
noncomputable def f12_rivals_L56  (h1 : Int32) (h3 : Int32) (h4 : Int32) (σ : zSt)  : Nat → Int32 → Int32 → Option (Int32 × zSt)
  | 0, _, _ => none
  | n + 1, v5, v6 =>
    if (30 : Int32) < v6 then (some (v5, σ)) else
    zc1 (f12_isGroup v6 σ) fun r7 =>
    zlt (fun (a8 : Int32) =>
    zlt (v5 + a8 : Int32) fun x11 =>
    zlt (v6 + 1 : Int32) fun x12 =>
    f12_rivals_L56 h1 h3 h4 σ n x11 x12) fun j9 =>
    zlt (j9 0) fun j14 =>
    if r7 = 0 then (j14) else
    if v6 = h4 then (j14) else
    zc1 (f12_chanceOf v6 h1 σ) fun r16 =>
    if h3 ≤ r16 then (j14) else
    zc1 (f12_areSame v6 h4 h1 σ) fun r17 =>
    if r17 = 0 then (j9 1) else
    j14
noncomputable def f12_rivals  (v1 : Int32) (v2 : Int32) (v3 : Int32) (σ : zSt) : Option (Int32 × zSt) :=
  zc1 (f12_isKind v1 σ) fun r1 =>
  if r1 = 0 then (some ((-1), σ)) else
  zc1 (f12_isDay v2 σ) fun r2 =>
  if r2 = 0 then (some ((-1), σ)) else
  zc1 (f12_within v3 1 9999 σ) fun r3 =>
  if r3 = 0 then (some ((-1), σ)) else
  zc2 (f12_findWith v1 v2 σ) fun _ s5 =>
  zc1 (f12_causeOf v1 v3 s5) fun r6 =>
  if 0 ≤ r6 then (f12_rivals_L56 v1 v3 r6 s5 zfuel 0 0) else
  some ((-4), s5)
noncomputable def f12_read  (v1 : Int32) (v2 : Int32) (σ : zSt) : Option (Int32 × zSt) :=
  zc1 (f12_isFault v1 σ) fun r1 =>
  if r1 = 0 then (some ((-1), σ)) else
  zc1 (f12_hasFlag v1 2 σ) fun r2 =>
  if r2 = 0 then (some ((-1), σ)) else
  zc1 (f12_within v2 0 9999 σ) fun r3 =>
  if r3 = 0 then (some ((-1), σ)) else
  zix v1 200 fun m4 =>
  zlt (zix v1 200 fun m7 =>
  if (gI σ 1344 0 m7) = 12 then (some ((-2), σ)) else
  zix v1 200 fun m8 =>
  zix ((12 * v1) + (gI σ 1344 0 m8)) 2400 fun m9 =>
  zlt (pI σ 1342 0 m9 (gI σ 12 0 0)) fun s10 =>
  zix v1 200 fun m11 =>
  zix ((12 * v1) + (gI s10 1344 0 m11)) 2400 fun m12 =>
  zlt (pI s10 1343 0 m12 v2) fun s13 =>
  zix v1 200 fun m14 =>
  zix v1 200 fun m15 =>
  zlt (pI s13 1344 0 m15 ((gI s13 1344 0 m14) + 1)) fun s16 =>
  zix v1 200 fun m17 =>
  some (gI s16 1344 0 m17, s16)) fun j5 =>
  if (gI σ 1344 0 m4) ≤ 0 then (j5) else
  zix v1 200 fun m18 =>
  zix (((12 * v1) + (gI σ 1344 0 m18)) - 1) 2400 fun m19 =>
  if (gI σ 1342 0 m19) = (gI σ 12 0 0) then (some ((-3), σ)) else
  j5
noncomputable def f12_paceOf  (v1 : Int32) (v2 : Int32) (σ : zSt) : Option Int32 :=
  zlt ((12 * v1) + v2 : Int32) fun x1 =>
  zix (x1 + 1) 2400 fun m2 =>
  zix x1 2400 fun m3 =>
  zix (x1 + 1) 2400 fun m4 =>
  zix x1 2400 fun m5 =>
  znz ((gI σ 1342 0 m4) - (gI σ 1342 0 m5)) <|
  some (zop_idiv (((gI σ 1343 0 m2) - (gI σ 1343 0 m3)) * 1000) ((gI σ 1342 0 m4) - (gI σ 1342 0 m5)))
noncomputable def f12_gaugeOf_L2  (h1 : Int32) (h2 : Int32) (σ : zSt) (K33 : Int32 → Option Int32) : Nat → Int32 → Option Int32
  | 0, _ => none
  | n + 1, v3 =>
    zix h1 200 fun m1 =>
    if (gI σ 1344 0 m1) ≤ v3 then (K33 v3) else
    zix ((12 * h1) + v3) 2400 fun m2 =>
    if h2 < (gI σ 1342 0 m2) then (K33 v3) else
    zlt (v3 + 1 : Int32) fun x3 =>
    f12_gaugeOf_L2 h1 h2 σ K33 n x3
noncomputable def f12_gaugeOf_L103  (h1 : Int32) (h3 : Int32) (h4 : Int32) (h5 : Int32) (σ : zSt) (K282 : Int32 → Int32 → Int32 → Int32 → Int32 → Option Int32) : Nat → Int32 → Int32 → Int32 → Int32 → Int32 → Int32 → Option Int32
  | 0, _, _, _, _, _, _ => none
  | n + 1, v6, v7, v8, v9, v10, v11 =>
    if (h3 - 1) ≤ v11 then (K282 v6 v7 v8 v9 v10) else
    zc1 (f12_paceOf h1 v11 σ) fun r14 =>
    zlt (fun (a15 : Int32) =>
    zix (((12 * h1) + v11) + 1) 2400 fun m18 =>
    zlt (if (6 : Int32) ≤ (zop_irem (zop_idiv (gI σ 1342 0 m18) 30) 12) then 0 else 1 : Int32) fun x23 =>
    zlt (if v7 = 0 then (if x23 = 0 then 0 else (if r14 ≤ 0 then 0 else 1)) else 1 : Int32) fun x34 =>
    zlt (if v8 = 0 then (if x23 = 0 then 0 else (if 0 ≤ r14 then 0 else 1)) else 1 : Int32) fun x45 =>
    zlt (if v9 = 0 then (if x23 = 0 then (if r14 ≤ 0 then 0 else 1) else 0) else 1 : Int32) fun x56 =>
    zlt (if v10 = 0 then (if x23 = 0 then (if 0 ≤ r14 then 0 else 1) else 0) else 1 : Int32) fun x67 =>
    zlt (v11 + 1 : Int32) fun x68 =>
    f12_gaugeOf_L103 h1 h3 h4 h5 σ K282 n a15 x34 x45 x56 x67 x68) fun j16 =>
    zlt (j16 0) fun j70 =>
    if v6 = 0 then (j70) else
    if r14 < 0 then (j70) else
    zlt (j16 1) fun j72 =>
    if v11 = 0 then (j72) else
    zc1 (f12_paceOf h1 (v11 - 1) σ) fun r74 =>
    if r74 < r14 then (j70) else
    j72
noncomputable def f12_gaugeOf  (v1 : Int32) (v2 : Int32) (σ : zSt) : Option Int32 :=
  f12_gaugeOf_L2 v1 v2 σ (fun (a5 : Int32) =>
  zc1 (f12_hasFlag v1 2 σ) fun r6 =>
  if r6 = 0 then (some 0) else
  if (3 : Int32) ≤ a5 then (zc1 (f12_paceOf v1 0 σ) fun r7 =>
  zc1 (f12_paceOf v1 (a5 - 2) σ) fun r8 =>
  zlt (if 0 < (lg_cmp ((Int32.toInt64 r8) * 4) (Int32.toInt64 r7)) then 0 else 1 : Int32) fun x13 =>
  f12_gaugeOf_L103 v1 a5 r7 r8 σ (fun (a75 : Int32) (a76 : Int32) (a77 : Int32) (a78 : Int32) (a79 : Int32) =>
  zlt (if a76 = 0 then (if a77 = 0 then 0 else (if a78 = 0 then 0 else 1)) else (if a79 = 0 then (if a77 = 0 then 0 else (if a78 = 0 then 0 else 1)) else 1) : Int32) fun x99 =>
  if a75 = 0 then (zlt (some 2) fun j100 =>
  if x99 = 0 then (zlt (some 0) fun j102 =>
  if r8 ≤ r7 then (j102) else
  if r8 ≤ 0 then (j102) else
  j100) else
  j100) else
  some 1) zfuel x13 0 0 0 0 0) else
  some 0) zfuel 0
noncomputable def f12_gauge  (v1 : Int32) (v2 : Int32) (σ : zSt) : Option Int32 :=
  zc1 (f12_isFault v1 σ) fun r1 =>
  zlt (some (-1)) fun j2 =>
  if r1 = 0 then (j2) else
  zc1 (f12_hasFlag v1 2 σ) fun r4 =>
  if r4 = 0 then (j2) else
  zc1 (f12_isDay v2 σ) fun r5 =>
  if r5 = 0 then (j2) else
  zc1 (f12_gaugeOf v1 v2 σ) fun r6 =>
  some r6
noncomputable def f12_pace  (v1 : Int32) (v2 : Int32) (σ : zSt) : Option Int32 :=
  zc1 (f12_isFault v1 σ) fun r1 =>
  zlt (some (-2000000000)) fun j2 =>
  if r1 = 0 then (j2) else
  zc1 (f12_hasFlag v1 2 σ) fun r4 =>
  if r4 = 0 then (j2) else
  if v2 < 0 then (j2) else
  zix v1 200 fun m5 =>
  if ((gI σ 1344 0 m5) - 1) ≤ v2 then (j2) else
  zc1 (f12_paceOf v1 v2 σ) fun r6 =>
  some r6
noncomputable def f12_sinks_L4  (h1 : Int32) (σ : zSt)  : Nat → Int32 → Int32 → Option Int32
  | 0, _, _ => none
  | n + 1, v2, v3 =>
    if (gI σ 12 0 36) ≤ v3 then (zbo v2 (some v2)) else
    zlt (fun (a1 : Int32) =>
    zlt (v3 + 1 : Int32) fun x4 =>
    f12_sinks_L4 h1 σ n a1 x4) fun j2 =>
    zlt (j2 1) fun j6 =>
    if v2 = 0 then (zix v3 200 fun m8 =>
    zlt (j2 0) fun j9 =>
    if (gI σ 1318 0 m8) = h1 then (zc1 (f12_hasFlag v3 2 σ) fun r11 =>
    if r11 = 0 then (j9) else
    zc1 (f12_isLeft v3 (gI σ 12 0 0) σ) fun r12 =>
    if r12 = 0 then (j9) else
    zc1 (f12_gaugeOf v3 (gI σ 12 0 0) σ) fun r13 =>
    if r13 = 2 then (j6) else
    j9) else
    j9) else
    j6
noncomputable def f12_sinks  (v1 : Int32) (σ : zSt) : Option Int32 :=
  f12_sinks_L4 v1 σ zfuel 0 0
noncomputable def f12_sinking_L32  (h1 : Int32) (h2 : Int32) (σ : zSt) (K127 : Int32 → Int32 → Int32 → Option Int32) : Nat → Int32 → Int32 → Int32 → Int32 → Option Int32
  | 0, _, _, _, _ => none
  | n + 1, v3, v4, v5, v6 =>
    if (gI σ 12 0 13) ≤ v6 then (K127 v3 v4 v5) else
    zix v6 40 fun m3 =>
    zlt (fun (a4 : Int32) (a5 : Int32) (a6 : Int32) =>
    zlt (v6 + 1 : Int32) fun x9 =>
    f12_sinking_L32 h1 h2 σ K127 n a4 a5 a6 x9) fun j7 =>
    if (gI σ 1301 0 m3) = h1 then (zc1 (f12_sinks v6 σ) fun r11 =>
    if r11 = 0 then (j7 v3 v4 v5) else
    zlt (v3 + 1 : Int32) fun x12 =>
    zlt (fun (a14 : Int32) =>
    zix v6 40 fun m17 =>
    zlt (fun (a18 : Int32) =>
    j7 x12 a14 a18) fun j19 =>
    if (gI σ 1302 0 m17) ≤ v5 then (j19 v5) else
    zix v6 40 fun m21 =>
    j19 (gI σ 1302 0 m21)) fun j15 =>
    zlt (zix v6 40 fun m24 =>
    j15 (gI σ 1302 0 m24)) fun j22 =>
    if v4 < 0 then (j22) else
    zix v6 40 fun m25 =>
    if v4 ≤ (gI σ 1302 0 m25) then (j15 v4) else
    j22) else
    j7 v3 v4 v5
noncomputable def f12_sinking  (v1 : Int32) (v2 : Int32) (σ : zSt) : Option Int32 :=
  zc1 (f12_within v1 0 7 σ) fun r1 =>
  if r1 = 0 then (some (-1)) else
  zc1 (f12_within v2 0 2 σ) fun r2 =>
  if r2 = 0 then (some (-1)) else
  f12_sinking_L32 v1 v2 σ (fun (a26 : Int32) (a27 : Int32) (a28 : Int32) =>
  if v2 = 0 then (some a26) else
  if v2 = 1 then (some a27) else
  some a28) zfuel 0 (-1) (-1) 0
noncomputable def f12_men  (v1 : Int32) (v2 : Int32) (σ : zSt) : Option (Int32 × zSt) :=
  zc1 (f12_isTrade v1 σ) fun r1 =>
  if r1 = 0 then (some ((-1), σ)) else
  zc1 (f12_within v2 0 9 σ) fun r2 =>
  if r2 = 0 then (some ((-1), σ)) else
  zix v1 10 fun m3 =>
  zlt (gI σ 1345 0 m3 : Int32) fun x4 =>
  zix v1 10 fun m5 =>
  zlt (pI σ 1345 0 m5 v2) fun s6 =>
  some (x4, s6)
noncomputable def f12_job_L27  (h1 : Int32) (σ : zSt) (K61 : Int32 → Option (Int32 × zSt)) : Nat → Int32 → Int32 → Option (Int32 × zSt)
  | 0, _, _ => none
  | n + 1, v2, v3 =>
    if (gI σ 12 0 47) ≤ v3 then (K61 v2) else
    zlt (fun (a8 : Int32) =>
    zlt (v3 + 1 : Int32) fun x11 =>
    f12_job_L27 h1 σ K61 n a8 x11) fun j9 =>
    zlt (j9 1) fun j13 =>
    if v2 = 0 then (zix v3 7 fun m15 =>
    if (gI σ 1346 0 m15) = h1 then (j13) else
    j9 0) else
    j13
noncomputable def f12_job  (v1 : Int32) (σ : zSt) : Option (Int32 × zSt) :=
  zc1 (f12_isFault v1 σ) fun r1 =>
  if r1 = 0 then (some ((-1), σ)) else
  zc1 (f12_stateNow v1 σ) fun r2 =>
  zlt (if r2 = 1 then 0 else 1 : Int32) fun x7 =>
  f12_job_L27 v1 σ (fun (a16 : Int32) =>
  if a16 = 0 then (if (gI σ 12 0 47) = 7 then (some ((-2), σ)) else
  zix (gI σ 12 0 47) 7 fun m17 =>
  zlt (pI σ 1346 0 m17 v1) fun s18 =>
  zlt (pI s18 12 0 47 ((gI s18 12 0 47) + 1)) fun s19 =>
  some (gI s19 12 0 47, s19)) else
  some ((-3), σ)) zfuel x7 0
noncomputable def f12_mayBe  (v1 : Int32) (v2 : Int32) (σ : zSt) : Option Int32 :=
  zix v1 200 fun m1 =>
  zix (gI σ 1318 0 m1) 40 fun m2 =>
  zlt (some 0) fun j3 =>
  if ((zop_ishr (gI σ 1308 0 m2) (zop_irem v2 7)) &&& 1) = 1 then (zix v1 200 fun m5 =>
  zix (gI σ 1320 0 m5) 20 fun m6 =>
  zix (gI σ 1314 0 m6) 10 fun m7 =>
  if (gI σ 1345 0 m7) ≤ 0 then (j3) else
  some 1) else
  j3
noncomputable def f12_lastDay   (σ : zSt) : Option Int32 :=
  if (9999 : Int32) ≤ (((gI σ 12 0 0) + (gI σ 12 0 59)) - 1) then (some 9999) else
  some (((gI σ 12 0 0) + (gI σ 12 0 59)) - 1)
noncomputable def f12_firstDay_L7  (h1 : Int32) (σ : zSt)  : Nat → Int32 → Int32 → Option Int32
  | 0, _, _ => none
  | n + 1, v2, v3 =>
    if v3 < (gI σ 12 0 0) then (some v2) else
    zc1 (f12_mayBe h1 v3 σ) fun r2 =>
    zlt (if r2 = 0 then v2 else v3 : Int32) fun x7 =>
    zlt (v3 + (-1) : Int32) fun x8 =>
    f12_firstDay_L7 h1 σ n x7 x8
noncomputable def f12_firstDay  (v1 : Int32) (σ : zSt) : Option Int32 :=
  zc1 (f12_lastDay σ) fun r1 =>
  f12_firstDay_L7 v1 σ zfuel (-1) r1
noncomputable def f12_busy_L6  (h1 : Int32) (h2 : Int32) (h3 : Int32) (σ : zSt)  : Nat → Int32 → Int32 → Option Int32
  | 0, _, _ => none
  | n + 1, v4, v5 =>
    if h3 ≤ v5 then (some v4) else
    zix v5 7 fun m1 =>
    zlt (fun (a2 : Int32) =>
    zlt (v4 + a2 : Int32) fun x5 =>
    zlt (v5 + 1 : Int32) fun x6 =>
    f12_busy_L6 h1 h2 h3 σ n x5 x6) fun j3 =>
    zlt (j3 0) fun j8 =>
    if (gI σ 1360 0 m1) = h2 then (zix v5 7 fun m10 =>
    zix (gI σ 1346 0 m10) 200 fun m11 =>
    zix (gI σ 1320 0 m11) 20 fun m12 =>
    if (gI σ 1314 0 m12) = h1 then (j3 1) else
    j8) else
    j8
noncomputable def f12_busy  (v1 : Int32) (v2 : Int32) (v3 : Int32) (σ : zSt) : Option Int32 :=
  f12_busy_L6 v1 v2 v3 σ zfuel 0 0
noncomputable def f12_isLess  (v1 : Int32) (v2 : Int32) (v3 : Int32) (σ : zSt) : Option Int32 :=
  zlt (some 1) fun j1 =>
  if (gI σ 12 0 63) < 0 then (j1) else
  if v1 < (gI σ 12 0 63) then (j1) else
  zlt (some 0) fun j3 =>
  if v1 = (gI σ 12 0 63) then (if v2 < (gI σ 12 0 64) then (j1) else
  if v2 = (gI σ 12 0 64) then (if (gI σ 12 0 65) ≤ v3 then (j3) else
  j1) else
  j3) else
  j3
noncomputable def b12_go_L13 (go : Int32 → Int32 → Int32 → Int32 → zSt → Option (Unit × zSt)) (h1 : Int32) (h2 : Int32) (h3 : Int32) (h4 : Int32) (σ : zSt) (K115 : Int32 → Int32 → Int32 → Option (Unit × zSt)) : Nat → Int32 → Int32 → Int32 → Int32 → Option (Unit × zSt)
  | 0, _, _, _, _ => none
  | n + 1, v5, v6, v7, v8 =>
    if (gI σ 12 0 47) ≤ v8 then (K115 v5 v6 v7) else
    zix v8 7 fun m1 =>
    zc1 (f12_firstDay (gI σ 1346 0 m1) σ) fun r2 =>
    zlt (fun (a3 : Int32) =>
    zlt (v5 + a3 : Int32) fun x6 =>
    zlt (v6 + (if 0 ≤ r2 then 0 else 1) : Int32) fun x11 =>
    zlt (v7 + (if 0 ≤ r2 then r2 else 0) : Int32) fun x16 =>
    zlt (v8 + 1 : Int32) fun x17 =>
    b12_go_L13 go h1 h2 h3 h4 σ K115 n x6 x11 x16 x17) fun j4 =>
    zlt (zix v8 7 fun m21 =>
    zix (gI σ 1346 0 m21) 200 fun m22 =>
    j4 (gI σ 1321 0 m22)) fun j19 =>
    if r2 < 0 then (j19) else
    zix v8 7 fun m23 =>
    zix (gI σ 1346 0 m23) 200 fun m24 =>
    if r2 ≤ (gI σ 1331 0 m24) then (j4 0) else
    j19
noncomputable def b12_go_L206 (go : Int32 → Int32 → Int32 → Int32 → zSt → Option (Unit × zSt))   : Nat → Int32 → zSt → Option (Unit × zSt)
  | 0, _, _ => none
  | n + 1, v8, σ =>
    if (gI σ 12 0 47) ≤ v8 then (some ((), σ)) else
    zix v8 7 fun m34 =>
    zix v8 7 fun m35 =>
    zlt (pI σ 1361 0 m35 (gI σ 1360 0 m34)) fun s36 =>
    zlt (v8 + 1 : Int32) fun x37 =>
    b12_go_L206 go n x37 s36
noncomputable def b12_go_L264 (go : Int32 → Int32 → Int32 → Int32 → zSt → Option (Unit × zSt)) (h1 : Int32) (h2 : Int32) (h3 : Int32) (h4 : Int32) (h8 : Int32) (h9 : Int32) (K355 : zSt → Option (Unit × zSt)) : Nat → Int32 → zSt → Option (Unit × zSt)
  | 0, _, _ => none
  | n + 1, v10, σ =>
    zc1 (f12_lastDay σ) fun r45 =>
    if r45 < v10 then (K355 σ) else
    zc1 (f12_mayBe h8 v10 σ) fun r46 =>
    zlt (fun (s47 : zSt) =>
    zlt (v10 + 1 : Int32) fun x50 =>
    b12_go_L264 go h1 h2 h3 h4 h8 h9 K355 n x50 s47) fun j48 =>
    if r46 = 0 then (j48 σ) else
    zc1 (f12_busy h9 v10 h1 σ) fun r52 =>
    zix h9 10 fun m53 =>
    if (gI σ 1345 0 m53) ≤ r52 then (j48 σ) else
    zix h1 7 fun m54 =>
    zlt (pI σ 1360 0 m54 v10) fun s55 =>
    zix h8 200 fun m56 =>
    zlt (fun (a57 : Int32) =>
    zc2 (go (h1 + 1) (h2 + a57) h3 (h4 + v10) s55) fun _ s61 =>
    j48 s61) fun j58 =>
    if v10 ≤ (gI s55 1331 0 m56) then (j58 0) else
    zix h8 200 fun m62 =>
    j58 (gI s55 1321 0 m62)
noncomputable def b12_go (go : Int32 → Int32 → Int32 → Int32 → zSt → Option (Unit × zSt)) (v1 : Int32) (v2 : Int32) (v3 : Int32) (v4 : Int32) (σ : zSt) : Option (Unit × zSt) :=
  b12_go_L13 go v1 v2 v3 v4 σ (fun (a25 : Int32) (a26 : Int32) (a27 : Int32) =>
  zlt (if v1 = (gI σ 12 0 47) then (zc1 (f12_isLess v2 v3 v4 σ) fun r30 =>
  if r30 = 0 then (some ((), σ)) else
  zlt (pI σ 12 0 63 v2) fun s31 =>
  zlt (pI s31 12 0 64 v3) fun s32 =>
  zlt (pI s32 12 0 65 v4) fun s33 =>
  b12_go_L206 go zfuel 0 s33) else
  zix v1 7 fun m39 =>
  zlt (gI σ 1346 0 m39 : Int32) fun x40 =>
  zix x40 200 fun m41 =>
  zix (gI σ 1320 0 m41) 20 fun m42 =>
  zlt (gI σ 1314 0 m42 : Int32) fun x43 =>
  zlt (gI σ 12 0 0 : Int32) fun x44 =>
  b12_go_L264 go v1 v2 v3 v4 x40 x43 (fun (s63 : zSt) =>
  zix v1 7 fun m64 =>
  zlt (pI s63 1360 0 m64 (-1)) fun s65 =>
  zix x40 200 fun m66 =>
  zc2 (go (v1 + 1) (v2 + (gI s65 1321 0 m66)) (v3 + 1) v4 s65) fun _ s68 =>
  some ((), s68)) zfuel x44 σ) fun j28 =>
  if (gI σ 12 0 63) < 0 then (j28) else
  if (gI σ 12 0 63) < a25 then (some ((), σ)) else
  if a25 = (gI σ 12 0 63) then (if (gI σ 12 0 64) < a26 then (some ((), σ)) else
  if a26 = (gI σ 12 0 64) then (if a27 < (gI σ 12 0 65) then (j28) else
  some ((), σ)) else
  j28) else
  j28) zfuel v2 v3 v4 v1
noncomputable def g12_go : Nat → Int32 → Int32 → Int32 → Int32 → zSt → Option (Unit × zSt)
  | 0 => fun _ _ _ _ _ => none
  | d + 1 => b12_go (g12_go d)
noncomputable def f12_go (w0 : Int32) (w1 : Int32) (w2 : Int32) (w3 : Int32) (σ : zSt) : Option (Unit × zSt) := g12_go 10 w0 w1 w2 w3 σ
noncomputable def f12_plan  (v1 : Int32) (σ : zSt) : Option (Int32 × zSt) :=
  zc1 (f12_within v1 1 14 σ) fun r1 =>
  if r1 = 0 then (some ((-1), σ)) else
  if (gI σ 12 0 47) = 0 then (some ((-3), σ)) else
  zlt (pI σ 12 0 59 v1) fun s2 =>
  zlt (pI s2 12 0 63 (-1)) fun s3 =>
  zc2 (f12_go 0 0 0 0 s3) fun _ s5 =>
  zlt (pI s5 12 0 62 (gI s5 12 0 47)) fun s6 =>
  zlt (pI s6 12 0 47 0) fun s7 =>
  some (gI s7 12 0 63, s7)
noncomputable def f12_planned  (v1 : Int32) (σ : zSt) : Option Int32 :=
  if v1 < 0 then (some (-1)) else
  if v1 < (gI σ 12 0 62) then (zix v1 7 fun m1 =>
  if 0 ≤ (gI σ 1361 0 m1) then (zix v1 7 fun m2 =>
  some (gI σ 1361 0 m2)) else
  some (-4)) else
  some (-1)
noncomputable def f12_feed_L28  (h1 : Int32) (h2 : Int32) (K68 : zSt → Option (Int32 × zSt)) : Nat → Int32 → zSt → Option (Int32 × zSt)
  | 0, _, _ => none
  | n + 1, v3, σ =>
    if h1 ≤ v3 then (K68 σ) else
    zix (gI σ 12 0 49) 160 fun m2 =>
    zlt (pI σ 1348 0 m2 ((zop_ishr h2 (8 * v3)) &&& 255)) fun s3 =>
    zlt (pI s3 12 0 49 ((gI s3 12 0 49) + 1)) fun s4 =>
    zlt (v3 + 1 : Int32) fun x5 =>
    f12_feed_L28 h1 h2 K68 n x5 s4
noncomputable def f12_feed  (v1 : Int32) (v2 : Int32) (σ : zSt) : Option (Int32 × zSt) :=
  zc1 (f12_within v1 1 4 σ) fun r1 =>
  if r1 = 0 then (some ((-1), σ)) else
  if ((gI σ 12 0 49) + v1) ≤ 160 then (f12_feed_L28 v1 v2 (fun (s7 : zSt) =>
  some (gI s7 12 0 49, s7)) zfuel 0 σ) else
  some ((-2), σ)
noncomputable def f12_beginText  (v1 : Int32) (v2 : Int32) (σ : zSt) : Option (Unit × zSt) :=
  zlt (pI σ 12 0 66 v1) fun s1 =>
  zlt (pI s1 12 0 67 0) fun s2 =>
  zlt (pI s2 12 0 68 v2) fun s3 =>
  zlt (pI s3 12 0 69 (-1)) fun s4 =>
  zlt (pI s4 12 0 70 0) fun s5 =>
  some ((), s5)
noncomputable def f12_byteAt   (σ : zSt) : Option Int32 :=
  if (gI σ 12 0 68) ≤ (gI σ 12 0 67) then (some 0) else
  if 0 ≤ (gI σ 12 0 66) then (zix ((gI σ 12 0 66) + (gI σ 12 0 67)) 3200 fun m1 =>
  some (gI σ 1350 0 m1)) else
  zix (gI σ 12 0 67) 160 fun m2 =>
  some (gI σ 1348 0 m2)
noncomputable def f12_wrong   (σ : zSt) : Option (Int32 × zSt) :=
  zlt (pI σ 12 0 69 (if 0 ≤ (gI σ 12 0 69) then (gI σ 12 0 69) else (gI σ 12 0 67))) fun s5 =>
  some (0, s5)
noncomputable def f12_figure_L4  (h1 : Int32) (K56 : Int32 → Int32 → zSt → Option (Int32 × zSt)) : Nat → Int32 → Int32 → zSt → Option (Int32 × zSt)
  | 0, _, _, _ => none
  | n + 1, v2, v3, σ =>
    if h1 ≤ v3 then (K56 v2 v3 σ) else
    zc1 (f12_byteAt σ) fun r1 =>
    if r1 < 48 then (K56 v2 v3 σ) else
    zc1 (f12_byteAt σ) fun r2 =>
    if (57 : Int32) < r2 then (K56 v2 v3 σ) else
    zc1 (f12_byteAt σ) fun r3 =>
    zlt (((10 * v2) + r3) - 48 : Int32) fun x4 =>
    zlt (v3 + 1 : Int32) fun x5 =>
    zlt (pI σ 12 0 67 ((gI σ 12 0 67) + 1)) fun s7 =>
    f12_figure_L4 h1 K56 n x4 x5 s7
noncomputable def f12_figure  (v1 : Int32) (σ : zSt) : Option (Int32 × zSt) :=
  f12_figure_L4 v1 (fun (a8 : Int32) (a9 : Int32) (s10 : zSt) =>
  if a9 = 0 then (zc2 (f12_wrong s10) fun r11 s12 =>
  some (r11, s12)) else
  some (a8, s10)) zfuel 0 0 σ
noncomputable def f12_placeIn  (v0 : Int32) (v1 : Int32) (v2 : Int32) (v3 : Int32) (v4 : Int32) (v5 : Int32) (σ : zSt) : Option Int32 :=
  if v0 = v1 then (some 0) else
  if v0 = v2 then (some 1) else
  if v0 = v3 then (some 2) else
  if v0 = v4 then (some 3) else
  if v0 = v5 then (some 4) else
  some (-1)
noncomputable def f12_test   (σ : zSt) : Option (Int32 × zSt) :=
  zc1 (f12_byteAt σ) fun r1 =>
  zc1 (f12_placeIn r1 121 107 116 115 110 σ) fun r2 =>
  zc1 (f12_placeIn r1 111 103 100 102 (-9) σ) fun r3 =>
  zlt (zlt (pI σ 12 0 67 ((gI σ 12 0 67) + 1)) fun s6 =>
  zlt (fun (a7 : Int32) =>
  zc1 (f12_byteAt s6) fun r10 =>
  zc1 (f12_placeIn r10 60 61 33 43 (-9) s6) fun r11 =>
  if 0 ≤ r11 then (zlt (pI s6 12 0 67 ((gI s6 12 0 67) + 1)) fun s12 =>
  zc2 (f12_figure 4 s12) fun r13 s14 =>
  if r11 = 0 then (if r13 ≤ a7 then (some (0, s14)) else
  some (1, s14)) else
  if r11 = 1 then (if a7 = r13 then (some (1, s14)) else
  some (0, s14)) else
  if r11 = 2 then (if a7 = r13 then (some (0, s14)) else
  some (1, s14)) else
  if a7 < r13 then (some (0, s14)) else
  some (1, s14)) else
  zc2 (f12_wrong s6) fun r15 s16 =>
  if r15 ≤ 0 then (some (0, s16)) else
  some (1, s16)) fun j8 =>
  if r2 < 0 then (zix (5 + r3) 9 fun m17 =>
  j8 (gI s6 1371 0 m17)) else
  zix r2 9 fun m18 =>
  j8 (gI s6 1371 0 m18)) fun j4 =>
  if 0 ≤ r2 then (j4) else
  if 0 ≤ r3 then (j4) else
  zc2 (f12_wrong σ) fun r19 s20 =>
  if r19 ≤ 0 then (some (0, s20)) else
  some (1, s20)
noncomputable def f12_line_L13   (K79 : Int32 → zSt → Option (Int32 × zSt)) : Nat → Int32 → Int32 → zSt → Option (Int32 × zSt)
  | 0, _, _, _ => none
  | n + 1, v1, v2, σ =>
    if v2 = 0 then (K79 v1 σ) else
    zc2 (f12_test σ) fun r48 s49 =>
    zlt (if v1 = 0 then 0 else (if r48 = 0 then 0 else 1) : Int32) fun x57 =>
    zlt (fun (a58 : Int32) =>
    zlt (pI s49 12 0 67 ((gI s49 12 0 67) + (if a58 = 0 then 0 else 1))) fun s65 =>
    f12_line_L13 K79 n x57 a58 s65) fun j59 =>
    zlt (j59 0) fun j66 =>
    if 0 ≤ (gI s49 12 0 69) then (j66) else
    zc1 (f12_byteAt s49) fun r68 =>
    if r68 = 38 then (j59 1) else
    j66
noncomputable def f12_line   (σ : zSt) : Option (Int32 × zSt) :=
  zc1 (f12_byteAt σ) fun r1 =>
  zlt (fun (a2 : Int32) (s3 : zSt) =>
  zlt (zlt (pI s3 12 0 67 ((gI s3 12 0 67) + (if 0 ≤ (gI s3 12 0 69) then 0 else 1))) fun s12 =>
  zc1 (f12_byteAt s12) fun r13 =>
  zc1 (f12_placeIn r13 98 119 104 99 118 s12) fun r14 =>
  zlt (pI s12 12 0 72 r14) fun s15 =>
  zlt (zc2 (f12_wrong s15) fun r18 s19 =>
  if r18 ≤ 0 then (some (0, s19)) else
  some (1, s19)) fun j16 =>
  if 0 ≤ (gI s15 12 0 69) then (j16) else
  if 0 ≤ (gI s15 12 0 72) then (zlt (pI s15 12 0 67 ((gI s15 12 0 67) + 1)) fun s20 =>
  zc1 (f12_byteAt s20) fun r21 =>
  zlt (fun (a22 : Int32) =>
  zlt (fun (a25 : Int32) (s26 : zSt) =>
  zlt (pI s26 12 0 73 a25) fun s29 =>
  zlt (zlt (pI s29 12 0 67 ((gI s29 12 0 67) + (if 0 ≤ (gI s29 12 0 69) then 0 else 1))) fun s36 =>
  zbo a2 (some (a2, s36))) fun j30 =>
  if 0 ≤ (gI s29 12 0 69) then (j30) else
  zc1 (f12_byteAt s29) fun r37 =>
  if r37 = 59 then (j30) else
  zc2 (f12_wrong s29) fun r38 s39 =>
  if r38 ≤ 0 then (some (0, s39)) else
  some (1, s39)) fun j27 =>
  if a22 = 0 then (j27 0 s20) else
  zc2 (f12_figure 4 s20) fun r40 s41 =>
  j27 r40 s41) fun j23 =>
  zlt (j23 0) fun j42 =>
  if r21 < 48 then (j42) else
  zc1 (f12_byteAt s20) fun r44 =>
  if (57 : Int32) < r44 then (j42) else
  j23 1) else
  j16) fun j6 =>
  if 0 ≤ (gI s3 12 0 69) then (j6) else
  zc1 (f12_byteAt s3) fun r45 =>
  if r45 = 62 then (j6) else
  zc2 (f12_wrong s3) fun r46 s47 =>
  if r46 ≤ 0 then (some (0, s47)) else
  some (1, s47)) fun j4 =>
  if r1 = 62 then (j4 1 σ) else
  f12_line_L13 (fun (a69 : Int32) (s70 : zSt) =>
  j4 a69 s70) zfuel 1 1 σ
noncomputable def f12_readWarranty_L16    : Nat → Int32 → Int32 → zSt → Option (Unit × zSt)
  | 0, _, _, _ => none
  | n + 1, v3, v4, σ =>
    if v4 = 0 then (some ((), σ)) else
    zc2 (f12_line σ) fun r4 s5 =>
    zlt (fun (s6 : zSt) =>
    zlt (v3 + 1 : Int32) fun x9 =>
    zlt (if 0 ≤ (gI s6 12 0 69) then 0 else (if (gI s6 12 0 68) ≤ (gI s6 12 0 67) then 0 else 1) : Int32) fun x18 =>
    f12_readWarranty_L16 n x9 x18 s6) fun j7 =>
    if 0 ≤ (gI s5 12 0 69) then (j7 s5) else
    if r4 = 0 then (j7 s5) else
    if 0 ≤ (gI s5 12 0 74) then (j7 s5) else
    zlt (pI s5 12 0 74 v3) fun s19 =>
    zlt (pI s19 12 0 75 (gI s19 12 0 72)) fun s20 =>
    zlt (pI s20 12 0 76 (gI s20 12 0 73)) fun s21 =>
    j7 s21
noncomputable def f12_readWarranty  (v1 : Int32) (v2 : Int32) (σ : zSt) : Option (Unit × zSt) :=
  zc2 (f12_beginText v1 v2 σ) fun _ s2 =>
  zlt (pI s2 12 0 74 (-1)) fun s3 =>
  f12_readWarranty_L16 zfuel 0 1 s3
noncomputable def b12_one (sum : zSt → Option (Int32 × zSt))  (σ : zSt) : Option (Int32 × zSt) :=
  if (gI σ 12 0 69) < 0 then (zc1 (f12_byteAt σ) fun r1 =>
  if r1 = 40 then (if (gI σ 12 0 70) = 6 then (zc2 (f12_wrong σ) fun r2 s3 =>
  some (r2, s3)) else
  zlt (pI σ 12 0 70 ((gI σ 12 0 70) + 1)) fun s4 =>
  zlt (pI s4 12 0 67 ((gI s4 12 0 67) + 1)) fun s5 =>
  zc2 (sum s5) fun r6 s7 =>
  zlt (zlt (pI s7 12 0 67 ((gI s7 12 0 67) + 1)) fun s10 =>
  zlt (pI s10 12 0 70 ((gI s10 12 0 70) - 1)) fun s11 =>
  some (r6, s11)) fun j8 =>
  if 0 ≤ (gI s7 12 0 69) then (j8) else
  zc1 (f12_byteAt s7) fun r12 =>
  if r12 = 41 then (j8) else
  zc2 (f12_wrong s7) fun r13 s14 =>
  some (r13, s14)) else
  zc1 (f12_placeIn r1 113 121 120 98 114 σ) fun r15 =>
  if r15 < 0 then (zc2 (f12_figure 5 σ) fun r16 s17 =>
  some (r16, s17)) else
  zlt (pI σ 12 0 67 ((gI σ 12 0 67) + 1)) fun s18 =>
  zix r15 5 fun m19 =>
  some (gI s18 1377 0 m19, s18)) else
  some (0, σ)
noncomputable def b12_sum_L23 (one : zSt → Option (Int32 × zSt))   : Nat → Int32 → Int32 → zSt → Option (Int32 × zSt)
  | 0, _, _, _ => none
  | n + 1, v1, v2, σ =>
    if 0 ≤ (gI σ 12 0 69) then (some (v1, σ)) else
    if v2 < 0 then (some (v1, σ)) else
    zlt (pI σ 12 0 67 ((gI σ 12 0 67) + 1)) fun s5 =>
    zc2 (one s5) fun r6 s7 =>
    zlt (fun (a8 : Int32) =>
    zc1 (f12_byteAt s7) fun r11 =>
    zc1 (f12_placeIn r11 43 45 42 47 (-9) s7) fun r12 =>
    b12_sum_L23 one n a8 r12 s7) fun j9 =>
    if v2 = 0 then (j9 (v1 + r6)) else
    if v2 = 1 then (j9 (v1 - r6)) else
    if v2 = 2 then (j9 (v1 * r6)) else
    if r6 = 0 then (j9 0) else
    znz r6 <|
    j9 (zop_idiv v1 r6)
noncomputable def b12_sum (one : zSt → Option (Int32 × zSt))  (σ : zSt) : Option (Int32 × zSt) :=
  zc2 (one σ) fun r1 s2 =>
  zc1 (f12_byteAt s2) fun r3 =>
  zc1 (f12_placeIn r3 43 45 42 47 (-9) s2) fun r4 =>
  b12_sum_L23 one zfuel r1 r4 s2
noncomputable def g12_so : Nat → (zSt → Option (Int32 × zSt)) × (zSt → Option (Int32 × zSt))
  | 0 => (fun _ => none, fun _ => none)
  | d + 1 => (b12_sum (g12_so d).2, b12_one (g12_so d).1)
noncomputable def f12_sum (σ : zSt) : Option (Int32 × zSt) := (g12_so 20).1 σ
noncomputable def f12_one (σ : zSt) : Option (Int32 × zSt) := (g12_so 20).2 σ
noncomputable def f12_readFreeing_L14   (K140 : Int32 → zSt → Option (Int32 × zSt)) : Nat → Int32 → Int32 → Int32 → zSt → Option (Int32 × zSt)
  | 0, _, _, _, _ => none
  | n + 1, v3, v4, v5, σ =>
    if v5 = 0 then (K140 v3 σ) else
    zc2 (f12_sum σ) fun r3 s4 =>
    zlt (fun (a5 : Int32) (a6 : Int32) (s7 : zSt) =>
    zlt (fun (a10 : Int32) (a11 : Int32) =>
    zlt (fun (a14 : Int32) =>
    zlt (pI s7 12 0 67 ((gI s7 12 0 67) + (if a14 = 0 then 0 else 1))) fun s21 =>
    f12_readFreeing_L14 K140 n a10 a11 a14 s21) fun j15 =>
    zlt (j15 0) fun j22 =>
    if 0 ≤ (gI s7 12 0 69) then (j22) else
    zc1 (f12_byteAt s7) fun r24 =>
    if r24 = 59 then (j15 1) else
    j22) fun j12 =>
    if 0 ≤ (gI s7 12 0 69) then (j12 v3 v4) else
    if a6 = 0 then (j12 v3 v4) else
    if v4 = 0 then (j12 a5 1) else
    j12 v3 v4) fun j8 =>
    if 0 ≤ (gI s4 12 0 69) then (j8 r3 1 s4) else
    zc1 (f12_byteAt s4) fun r25 =>
    if r25 = 58 then (zlt (pI s4 12 0 67 ((gI s4 12 0 67) + 1)) fun s26 =>
    zlt (if r3 = 0 then 0 else 1 : Int32) fun x31 =>
    zc2 (f12_sum s26) fun r32 s33 =>
    j8 r32 x31 s33) else
    j8 r3 1 s4
noncomputable def f12_readFreeing  (v1 : Int32) (v2 : Int32) (σ : zSt) : Option (Int32 × zSt) :=
  zc2 (f12_beginText v1 v2 σ) fun _ s2 =>
  f12_readFreeing_L14 (fun (a34 : Int32) (s35 : zSt) =>
  if 0 ≤ (gI s35 12 0 69) then (some (a34, s35)) else
  if (gI s35 12 0 68) ≤ (gI s35 12 0 67) then (some (a34, s35)) else
  zc2 (f12_wrong s35) fun r36 s37 =>
  some (r36, s37)) zfuel 0 0 1 s2
noncomputable def f12_text_L99  (h1 : Int32) (h2 : Int32) (h3 : Int32) (h4 : Int32) (K132 : zSt → Option (Int32 × zSt)) : Nat → Int32 → zSt → Option (Int32 × zSt)
  | 0, _, _ => none
  | n + 1, v5, σ =>
    if h3 ≤ v5 then (K132 σ) else
    zix v5 160 fun m11 =>
    zix ((160 * h4) + v5) 3200 fun m12 =>
    zlt (pI σ 1350 0 m12 (gI σ 1348 0 m11)) fun s13 =>
    zlt (v5 + 1 : Int32) fun x14 =>
    f12_text_L99 h1 h2 h3 h4 K132 n x14 s13
noncomputable def f12_text  (v1 : Int32) (v2 : Int32) (σ : zSt) : Option (Int32 × zSt) :=
  zc1 (f12_within v1 0 1 σ) fun r1 =>
  if r1 = 0 then (some ((-1), σ)) else
  zc1 (f12_isDay v2 σ) fun r2 =>
  if r2 = 0 then (some ((-1), σ)) else
  zix v1 2 fun m3 =>
  if (gI σ 1354 0 m3) = 10 then (some ((-2), σ)) else
  zlt (fun (s4 : zSt) =>
  zlt (gI s4 12 0 49 : Int32) fun x7 =>
  zlt (pI s4 12 0 49 0) fun s8 =>
  if (gI s8 12 0 69) < 0 then (zix v1 2 fun m9 =>
  zlt ((10 * v1) + (gI s8 1354 0 m9) : Int32) fun x10 =>
  f12_text_L99 v1 v2 x7 x10 (fun (s16 : zSt) =>
  zix x10 20 fun m17 =>
  zlt (pI s16 1351 0 m17 x7) fun s18 =>
  zix x10 20 fun m19 =>
  zlt (pI s18 1352 0 m19 v2) fun s20 =>
  zix x10 20 fun m21 =>
  zlt (pI s20 1353 0 m21 (gI s20 12 0 0)) fun s22 =>
  zix v1 2 fun m23 =>
  zix v1 2 fun m24 =>
  zlt (pI s22 1354 0 m24 ((gI s22 1354 0 m23) + 1)) fun s25 =>
  zix v1 2 fun m26 =>
  some ((gI s25 1354 0 m26) - 1, s25)) zfuel 0 s8) else
  some ((-100) - (gI s8 12 0 69), s8)) fun j5 =>
  if v1 = 0 then (zc2 (f12_readWarranty (-1) (gI σ 12 0 49) σ) fun _ s28 =>
  j5 s28) else
  zc2 (f12_readFreeing (-1) (gI σ 12 0 49) σ) fun r29 s30 =>
  j5 s30
noncomputable def f12_force_L6  (h1 : Int32) (h2 : Int32) (h3 : Int32) (σ : zSt)  : Nat → Int32 → Int32 → Option Int32
  | 0, _, _ => none
  | n + 1, v4, v5 =>
    zix h1 2 fun m1 =>
    if (gI σ 1354 0 m1) ≤ v5 then (some v4) else
    zlt ((10 * h1) + v5 : Int32) fun x2 =>
    zix x2 20 fun m3 =>
    zlt (fun (a4 : Int32) =>
    zlt (v5 + 1 : Int32) fun x7 =>
    f12_force_L6 h1 h2 h3 σ n a4 x7) fun j5 =>
    zlt (j5 v4) fun j9 =>
    if h3 < (gI σ 1353 0 m3) then (j9) else
    zix x2 20 fun m11 =>
    zix h2 40 fun m12 =>
    if (gI σ 1305 0 m12) < (gI σ 1352 0 m11) then (j9) else
    j5 v5
noncomputable def f12_force  (v1 : Int32) (v2 : Int32) (v3 : Int32) (σ : zSt) : Option Int32 :=
  f12_force_L6 v1 v2 v3 σ zfuel (-1) 0
noncomputable def f12_inForce  (v1 : Int32) (v2 : Int32) (v3 : Int32) (σ : zSt) : Option Int32 :=
  zc1 (f12_within v1 0 1 σ) fun r1 =>
  if r1 = 0 then (some (-1)) else
  zc1 (f12_isHome v2 σ) fun r2 =>
  if r2 = 0 then (some (-1)) else
  zix v2 40 fun m3 =>
  if (gI σ 1305 0 m3) < 0 then (some (-1)) else
  zc1 (f12_isDay v3 σ) fun r4 =>
  if r4 = 0 then (some (-1)) else
  zc1 (f12_force v1 v2 v3 σ) fun r5 =>
  if 0 ≤ r5 then (some r5) else
  some (-4)
noncomputable def f12_nameFault_L104  (h1 : Int32) (h2 : Int32) (h3 : Int32) (K156 : zSt → Option (Unit × zSt)) : Nat → Int32 → zSt → Option (Unit × zSt)
  | 0, _, _ => none
  | n + 1, v4, σ =>
    zix h3 40 fun m27 =>
    if ((20 * h3) + (gI σ 1307 0 m27)) ≤ v4 then (K156 σ) else
    zix 5 9 fun m28 =>
    zix v4 800 fun m29 =>
    zix h1 200 fun m30 =>
    zix 5 9 fun m35 =>
    zlt (pI σ 1371 0 m35 ((gI σ 1371 0 m28) + (if (gI σ 1322 0 m30) < (gI σ 1306 0 m29) then 0 else 1))) fun s36 =>
    zlt (v4 + 1 : Int32) fun x37 =>
    f12_nameFault_L104 h1 h2 h3 K156 n x37 s36
noncomputable def f12_nameFault  (v1 : Int32) (v2 : Int32) (σ : zSt) : Option (Unit × zSt) :=
  zix v1 200 fun m1 =>
  zlt (gI σ 1318 0 m1 : Int32) fun x2 =>
  zix v1 200 fun m3 =>
  zix x2 40 fun m4 =>
  zix 0 9 fun m5 =>
  zlt (pI σ 1371 0 m5 (zop_idiv ((gI σ 1322 0 m3) - (gI σ 1305 0 m4)) 360)) fun s6 =>
  zix v1 200 fun m7 =>
  zix 1 9 fun m8 =>
  zlt (pI s6 1371 0 m8 (gI s6 1320 0 m7)) fun s9 =>
  zix v1 200 fun m10 =>
  zix (gI s9 1320 0 m10) 20 fun m11 =>
  zix 2 9 fun m12 =>
  zlt (pI s9 1371 0 m12 (gI s9 1314 0 m11)) fun s13 =>
  zix v1 200 fun m14 =>
  zix 3 9 fun m15 =>
  zlt (pI s13 1371 0 m15 (gI s13 1321 0 m14)) fun s16 =>
  zix v1 200 fun m17 =>
  zix 4 9 fun m22 =>
  zlt (pI s16 1371 0 m22 (if (gI s16 1325 0 m17) = 0 then 0 else 1)) fun s23 =>
  zix 5 9 fun m24 =>
  zlt (pI s23 1371 0 m24 0) fun s25 =>
  zlt (20 * x2 : Int32) fun x26 =>
  f12_nameFault_L104 v1 v2 x2 (fun (s39 : zSt) =>
  zc1 (f12_gaugeOf v1 (gI s39 12 0 0) s39) fun r40 =>
  zix 6 9 fun m41 =>
  zlt (pI s39 1371 0 m41 r40) fun s42 =>
  zix 7 9 fun m47 =>
  zlt (pI s42 1371 0 m47 (if v2 < 0 then 0 else 1)) fun s48 =>
  zix v1 200 fun m49 =>
  zix 8 9 fun m50 =>
  zlt (pI s48 1371 0 m50 (zop_idiv (gI s48 1319 0 m49) 4)) fun s51 =>
  some ((), s51)) zfuel x26 s25
noncomputable def f12_judged  (v1 : Int32) (σ : zSt) : Option (Unit × zSt) :=
  zix v1 200 fun m1 =>
  zlt (gI σ 1318 0 m1 : Int32) fun x2 =>
  zc1 (f12_priceOf v1 σ) fun r3 =>
  zlt (pI σ 12 0 78 0) fun s4 =>
  zlt (pI s4 12 0 79 0) fun s5 =>
  zlt (pI s5 12 0 80 r3) fun s6 =>
  zlt (pI s6 12 0 81 (-1)) fun s7 =>
  zix x2 40 fun m8 =>
  if (gI s7 1305 0 m8) < 0 then (some ((), s7)) else
  zix v1 200 fun m9 =>
  zix x2 40 fun m10 =>
  if (gI s7 1305 0 m10) ≤ (gI s7 1322 0 m9) then (zc1 (f12_force 0 x2 (gI s7 12 0 0) s7) fun r11 =>
  zc2 (f12_damageBy v1 s7) fun r12 s13 =>
  zlt (fun (s14 : zSt) =>
  zlt (zlt (pI s14 12 0 78 2) fun s19 =>
  zlt (pI s19 12 0 79 r3) fun s20 =>
  zlt (pI s20 12 0 80 0) fun s21 =>
  some ((), s21)) fun j17 =>
  if r11 < 0 then (j17) else
  if 0 ≤ (gI s14 12 0 74) then (zlt (pI s14 12 0 81 (gI s14 12 0 74)) fun s22 =>
  zlt (if r3 ≤ (gI s22 12 0 76) then r3 else (gI s22 12 0 76) : Int32) fun x27 =>
  zlt (fun (a28 : Int32) =>
  zlt (pI s22 12 0 78 (if (gI s22 12 0 75) = 0 then 0 else (if (gI s22 12 0 75) = 3 then (if 0 ≤ a28 then (if (gI s22 12 0 75) = 1 then 1 else (if (gI s22 12 0 75) = 2 then 2 else (if (gI s22 12 0 75) = 4 then 3 else (10 + a28)))) else 0) else (if (gI s22 12 0 75) = 1 then 1 else (if (gI s22 12 0 75) = 2 then 2 else (if (gI s22 12 0 75) = 4 then 3 else (10 + a28))))))) fun s59 =>
  zlt (pI s59 12 0 79 (if (gI s59 12 0 78) = 3 then 0 else (if (gI s59 12 0 78) = 2 then r3 else x27))) fun s67 =>
  zlt (pI s67 12 0 80 (if (gI s67 12 0 78) = 3 then 0 else (if (gI s67 12 0 78) = 2 then 0 else (r3 - x27)))) fun s75 =>
  some ((), s75)) fun j29 =>
  if r12 < 0 then (zix v1 200 fun m76 =>
  zix (gI s22 1320 0 m76) 20 fun m77 =>
  zix ((10 * x2) + (gI s22 1314 0 m77)) 400 fun m78 =>
  j29 (gI s22 1309 0 m78)) else
  j29 (gI s22 12 0 56)) else
  j17) fun j15 =>
  if r11 < 0 then (j15 s13) else
  zc2 (f12_nameFault v1 r12 s13) fun _ s80 =>
  zix r11 20 fun m81 =>
  zc2 (f12_readWarranty (160 * r11) (gI s80 1351 0 m81) s80) fun _ s83 =>
  j15 s83) else
  some ((), s7)
noncomputable def f12_judge  (v1 : Int32) (v2 : Int32) (σ : zSt) : Option (Int32 × zSt) :=
  zc1 (f12_isFault v1 σ) fun r1 =>
  if r1 = 0 then (some ((-1), σ)) else
  zc1 (f12_within v2 0 3 σ) fun r2 =>
  if r2 = 0 then (some ((-1), σ)) else
  zc2 (f12_judged v1 σ) fun _ s4 =>
  if v2 = 0 then (some (gI s4 12 0 78, s4)) else
  if v2 = 1 then (some (gI s4 12 0 79, s4)) else
  if v2 = 2 then (some (gI s4 12 0 80, s4)) else
  some (gI s4 12 0 81, s4)
noncomputable def f12_free  (v1 : Int32) (σ : zSt) : Option (Int32 × zSt) :=
  zc1 (f12_isHome v1 σ) fun r1 =>
  if r1 = 0 then (some ((-1), σ)) else
  zix v1 40 fun m2 =>
  if 0 ≤ (gI σ 1305 0 m2) then (zc1 (f12_force 1 v1 (gI σ 12 0 0) σ) fun r3 =>
  zc1 (f12_leftOf v1 σ) fun r4 =>
  zix 0 5 fun m5 =>
  zlt (pI σ 1377 0 m5 r4) fun s6 =>
  zix v1 40 fun m7 =>
  zix 1 5 fun m8 =>
  zlt (pI s6 1377 0 m8 ((gI s6 12 0 0) - (gI s6 1305 0 m7))) fun s9 =>
  zc1 (f12_falseOf v1 s9) fun r10 =>
  zix 2 5 fun m11 =>
  zlt (pI s9 1377 0 m11 r10) fun s12 =>
  zc1 (f12_brokenOf v1 s12) fun r13 =>
  zix 3 5 fun m14 =>
  zlt (pI s12 1377 0 m14 r13) fun s15 =>
  zix v1 40 fun m16 =>
  zix 4 5 fun m17 =>
  zlt (pI s15 1377 0 m17 (gI s15 1310 0 m16)) fun s18 =>
  zlt (fun (a19 : Int32) (s20 : zSt) =>
  zlt (fun (a23 : Int32) =>
  zix v1 40 fun m26 =>
  zix v1 40 fun m27 =>
  zlt (pI s20 1310 0 m27 ((gI s20 1310 0 m26) - a23)) fun s28 =>
  zix v1 40 fun m29 =>
  zix v1 40 fun m30 =>
  zlt (pI s28 1311 0 m30 ((gI s28 1311 0 m29) + a23)) fun s31 =>
  some (a23, s31)) fun j24 =>
  if 0 ≤ a19 then (zix v1 40 fun m32 =>
  if a19 ≤ (gI s20 1310 0 m32) then (j24 a19) else
  zix v1 40 fun m33 =>
  j24 (gI s20 1310 0 m33)) else
  j24 0) fun j21 =>
  if 0 ≤ r3 then (zix (10 + r3) 20 fun m34 =>
  zc2 (f12_readFreeing (160 * (10 + r3)) (gI s18 1351 0 m34) s18) fun r35 s36 =>
  j21 r35 s36) else
  j21 0 s18) else
  some ((-3), σ)
noncomputable def f12_take  (v1 : Int32) (σ : zSt) : Option (Int32 × zSt) :=
  zc1 (f12_isFault v1 σ) fun r1 =>
  if r1 = 0 then (some ((-1), σ)) else
  zc2 (f12_judged v1 σ) fun _ s3 =>
  zix v1 200 fun m4 =>
  zlt (gI s3 1318 0 m4 : Int32) fun x5 =>
  zc1 (f12_isOpen v1 s3) fun r6 =>
  if r6 = 0 then (some ((-3), s3)) else
  if (gI s3 12 0 78) = 0 then (zix x5 40 fun m7 =>
  if (gI s3 1310 0 m7) < (gI s3 12 0 80) then (some ((-3), s3)) else
  zix v1 200 fun m8 =>
  if (gI s3 1329 0 m8) = 30 then (some ((-3), s3)) else
  zix x5 40 fun m9 =>
  zix x5 40 fun m10 =>
  zlt (pI s3 1310 0 m10 ((gI s3 1310 0 m9) - (gI s3 12 0 80))) fun s11 =>
  zix x5 40 fun m12 =>
  zix x5 40 fun m13 =>
  zlt (pI s11 1312 0 m13 ((gI s11 1312 0 m12) + (gI s11 12 0 80))) fun s14 =>
  zc2 (f12_endPromise v1 s14) fun _ s16 =>
  zc2 (f12_become v1 3 (-1) s16) fun _ s18 =>
  some (gI s18 12 0 80, s18)) else
  some ((-3), s3)
noncomputable def f12_isEyeIn_L5  (h1 : Int32) (h2 : Int32) (σ : zSt)  : Nat → Int32 → Int32 → Option Int32
  | 0, _, _ => none
  | n + 1, v3, v4 =>
    if (gI σ 12 0 36) ≤ v4 then (zbo v3 (some v3)) else
    zlt (fun (a1 : Int32) =>
    zlt (v4 + 1 : Int32) fun x4 =>
    f12_isEyeIn_L5 h1 h2 σ n a1 x4) fun j2 =>
    zlt (j2 1) fun j6 =>
    if v3 = 0 then (zix v4 200 fun m8 =>
    zlt (j2 0) fun j9 =>
    if (gI σ 1324 0 m8) = 0 then (j9) else
    zix v4 200 fun m11 =>
    if (gI σ 1323 0 m11) = h1 then (zix v4 200 fun m12 =>
    if (gI σ 1318 0 m12) = h2 then (j6) else
    j9) else
    j9) else
    j6
noncomputable def f12_isEyeIn  (v1 : Int32) (v2 : Int32) (σ : zSt) : Option Int32 :=
  f12_isEyeIn_L5 v1 v2 σ zfuel 0 0
noncomputable def f12_firstTold_L3  (h1 : Int32) (h2 : Int32) (h3 : Int32) (h4 : Int32) (σ : zSt)  : Nat → Int32 → Option Int32
  | 0, _ => none
  | n + 1, v5 =>
    if (gI σ 12 0 36) ≤ v5 then (some (-1)) else
    zix v5 200 fun m1 =>
    zlt (zlt (v5 + 1 : Int32) fun x4 =>
    f12_firstTold_L3 h1 h2 h3 h4 σ n x4) fun j2 =>
    if (gI σ 1324 0 m1) = 0 then (j2) else
    zix v5 200 fun m6 =>
    if (gI σ 1323 0 m6) = h1 then (zix v5 200 fun m7 =>
    if (gI σ 1318 0 m7) = h2 then (zix v5 200 fun m8 =>
    if (gI σ 1319 0 m8) = h3 then (zix v5 200 fun m9 =>
    if (gI σ 1320 0 m9) = h4 then (some v5) else
    j2) else
    j2) else
    j2) else
    j2
noncomputable def f12_firstTold  (v1 : Int32) (v2 : Int32) (v3 : Int32) (v4 : Int32) (σ : zSt) : Option Int32 :=
  f12_firstTold_L3 v1 v2 v3 v4 σ zfuel 0
noncomputable def f12_doubles_L124  (h1 : Int32) (h2 : Int32) (h3 : Int32) (h4 : Int32) (h9 : Int32) (h10 : Int32) (h11 : Int32) (σ : zSt) (K259 : Int32 → Int32 → Int32 → Int32 → Option Int32) : Nat → Int32 → Int32 → Int32 → Int32 → Int32 → Option Int32
  | 0, _, _, _, _, _ => none
  | n + 1, v5, v6, v7, v8, v12 =>
    if (gI σ 12 0 17) ≤ v12 then (K259 v5 v6 v7 v8) else
    zc1 (f12_firstTold h1 h9 h11 v12 σ) fun r13 =>
    zc1 (f12_firstTold h2 h9 h11 v12 σ) fun r14 =>
    zlt (v5 + (if r13 < 0 then 0 else (if r14 < 0 then 0 else 1)) : Int32) fun x22 =>
    zlt (v6 + (if r13 < 0 then 0 else (if 0 ≤ r14 then 0 else 1)) : Int32) fun x30 =>
    zlt (v7 + (if 0 ≤ r13 then 0 else (if r14 < 0 then 0 else 1)) : Int32) fun x38 =>
    zlt (fun (a39 : Int32) =>
    zlt (v8 + a39 : Int32) fun x42 =>
    zlt (v12 + 1 : Int32) fun x43 =>
    f12_doubles_L124 h1 h2 h3 h4 h9 h10 h11 σ K259 n x22 x30 x38 x42 x43) fun j40 =>
    zlt (j40 0) fun j45 =>
    if r13 < 0 then (j45) else
    if r14 < 0 then (j45) else
    zix r13 200 fun m47 =>
    zix r14 200 fun m48 =>
    j40 ((gI σ 1321 0 m47) - (gI σ 1321 0 m48))
noncomputable def f12_doubles_L109  (h1 : Int32) (h2 : Int32) (h3 : Int32) (h4 : Int32) (h9 : Int32) (h10 : Int32) (σ : zSt) (K265 : Int32 → Int32 → Int32 → Int32 → Option Int32) : Nat → Int32 → Int32 → Int32 → Int32 → Int32 → Option Int32
  | 0, _, _, _, _, _ => none
  | n + 1, v5, v6, v7, v8, v11 =>
    if (12 : Int32) ≤ v11 then (K265 v5 v6 v7 v8) else
    if h10 = 0 then (K265 v5 v6 v7 v8) else
    f12_doubles_L124 h1 h2 h3 h4 h9 h10 v11 σ (fun (a49 : Int32) (a50 : Int32) (a51 : Int32) (a52 : Int32) =>
    zlt (v11 + 1 : Int32) fun x53 =>
    f12_doubles_L109 h1 h2 h3 h4 h9 h10 σ K265 n a49 a50 a51 a52 x53) zfuel v5 v6 v7 v8 0
noncomputable def f12_doubles_L55  (h1 : Int32) (h2 : Int32) (h3 : Int32) (σ : zSt) (K271 : Int32 → Int32 → Int32 → Int32 → Int32 → Option Int32) : Nat → Int32 → Int32 → Int32 → Int32 → Int32 → Int32 → Option Int32
  | 0, _, _, _, _, _, _ => none
  | n + 1, v4, v5, v6, v7, v8, v9 =>
    if (gI σ 12 0 13) ≤ v9 then (K271 v4 v5 v6 v7 v8) else
    zc1 (f12_isEyeIn h1 v9 σ) fun r4 =>
    zlt (fun (a5 : Int32) =>
    zlt (v4 + (if a5 = 0 then 0 else 1) : Int32) fun x12 =>
    f12_doubles_L109 h1 h2 h3 x12 v9 a5 σ (fun (a55 : Int32) (a56 : Int32) (a57 : Int32) (a58 : Int32) =>
    zlt (v9 + 1 : Int32) fun x59 =>
    f12_doubles_L55 h1 h2 h3 σ K271 n x12 a55 a56 a57 a58 x59) zfuel v5 v6 v7 v8 0) fun j6 =>
    zlt (j6 0) fun j61 =>
    if r4 = 0 then (j61) else
    zc1 (f12_isEyeIn h2 v9 σ) fun r63 =>
    if r63 = 0 then (j61) else
    j6 1
noncomputable def f12_doubles  (v1 : Int32) (v2 : Int32) (v3 : Int32) (σ : zSt) : Option Int32 :=
  zc1 (f12_within v1 0 9 σ) fun r1 =>
  if r1 = 0 then (some (-2000000000)) else
  zc1 (f12_within v2 0 9 σ) fun r2 =>
  if r2 = 0 then (some (-2000000000)) else
  if v1 = v2 then (some (-2000000000)) else
  zc1 (f12_within v3 0 5 σ) fun r3 =>
  if r3 = 0 then (some (-2000000000)) else
  f12_doubles_L55 v1 v2 v3 σ (fun (a64 : Int32) (a65 : Int32) (a66 : Int32) (a67 : Int32) (a68 : Int32) =>
  zlt (fun (a69 : Int32) =>
  if v3 = 0 then (some a64) else
  if v3 = 1 then (some a65) else
  if v3 = 2 then (some a66) else
  if v3 = 3 then (some a67) else
  if v3 = 4 then (some a69) else
  some a68) fun j70 =>
  if (a65 + a67) = 0 then (j70 0) else
  znz (a65 + a67) <|
  j70 (zop_idiv (10000 * a67) (a65 + a67))) zfuel 0 0 0 0 0 0
noncomputable def f12_lots  (v1 : Int32) (σ : zSt) : Option (Int32 × zSt) :=
  zlt (pI σ 12 0 55 v1) fun s1 =>
  some (1, s1)
noncomputable def f12_isSaidBy  (v1 : Int32) (v2 : Int32) (σ : zSt) : Option Int32 :=
  zc1 (f12_stateNow v1 σ) fun r1 =>
  zlt (some 0) fun j2 =>
  if r1 = 2 then (zc1 (f12_lastCrew v1 σ) fun r4 =>
  if r4 = v2 then (some 1) else
  j2) else
  j2
noncomputable def f12_draw_L13  (h1 : Int32) (σ : zSt) (K44 : Int32 → Option (Int32 × zSt)) : Nat → Int32 → Int32 → Option (Int32 × zSt)
  | 0, _, _ => none
  | n + 1, v2, v3 =>
    if (gI σ 12 0 36) ≤ v3 then (K44 v2) else
    zc1 (f12_isSaidBy v3 h1 σ) fun r2 =>
    zlt (v2 + (if r2 = 0 then 0 else 1) : Int32) fun x7 =>
    zlt (v3 + 1 : Int32) fun x8 =>
    f12_draw_L13 h1 σ K44 n x7 x8
noncomputable def f12_draw_L80  (h1 : Int32) (σ : zSt)  : Nat → Int32 → Int32 → Option (Int32 × zSt)
  | 0, _, _ => none
  | n + 1, v3, v4 =>
    zc1 (f12_isSaidBy v4 h1 σ) fun r13 =>
    zlt (zc1 (f12_isSaidBy v4 h1 σ) fun r16 =>
    zlt (v3 - (if r16 = 0 then 0 else 1) : Int32) fun x21 =>
    zlt (v4 + 1 : Int32) fun x22 =>
    f12_draw_L80 h1 σ n x21 x22) fun j14 =>
    if r13 = 0 then (j14) else
    if v3 ≤ 0 then (some (v4, σ)) else
    j14
noncomputable def f12_draw  (v1 : Int32) (σ : zSt) : Option (Int32 × zSt) :=
  zc1 (f12_isCrew v1 σ) fun r1 =>
  if r1 = 0 then (some ((-1), σ)) else
  f12_draw_L13 v1 σ (fun (a10 : Int32) =>
  if a10 = 0 then (some ((-4), σ)) else
  zlt (pI σ 12 0 55 (((gI σ 12 0 55) * 1103515245) + 12345)) fun s11 =>
  znz a10 <|
  zlt (zop_irem (zop_iushr (gI s11 12 0 55) 8) a10 : Int32) fun x12 =>
  f12_draw_L80 v1 s11 zfuel x12 0) zfuel 0 0
noncomputable def f12_ofCrew_L62  (h1 : Int32)  : Nat → Int32 → Int32 → zSt → Option (Int32 × zSt)
  | 0, _, _, _ => none
  | n + 1, v3, v4, σ =>
    if (gI σ 12 0 36) ≤ v4 then (some (v3, σ)) else
    zc2 (f12_damageBy v4 σ) fun r3 s4 =>
    zlt (v3 + (if r3 < 0 then 0 else (if (gI s4 12 0 56) = h1 then 1 else 0)) : Int32) fun x12 =>
    zlt (v4 + 1 : Int32) fun x13 =>
    f12_ofCrew_L62 h1 n x12 x13 s4
noncomputable def f12_ofCrew  (v1 : Int32) (v2 : Int32) (σ : zSt) : Option (Int32 × zSt) :=
  zc1 (f12_isCrew v1 σ) fun r1 =>
  if r1 = 0 then (some ((-1), σ)) else
  zc1 (f12_within v2 0 3 σ) fun r2 =>
  if r2 = 0 then (some ((-1), σ)) else
  if (3 : Int32) ≤ v2 then (f12_ofCrew_L62 v1 zfuel 0 0 σ) else
  if v2 = 0 then (zix v1 10 fun m15 =>
  some (gI σ 1339 0 m15, σ)) else
  if v2 = 1 then (zix v1 10 fun m16 =>
  some (gI σ 1337 0 m16, σ)) else
  zix v1 10 fun m17 =>
  some (gI σ 1338 0 m17, σ)
noncomputable def f12_ways_L15  (h0 : Int32) (h1 : Int32) (h2 : Int32) (h3 : Int32) (h4 : Int32) (σ : zSt)  : Nat → Int64 → Int32 → Option Int64
  | 0, _, _ => none
  | n + 1, v5, v7 =>
    if (if h4 = 0 then h3 else h2) < v7 then (some v5) else
    zc1 (f12_choose h1 v7 σ) fun r10 =>
    zc1 (f12_choose (h0 - h1) (h2 - v7) σ) fun r11 =>
    zlt (v5 + (r10 * r11) : Int64) fun l12 =>
    zlt (v7 + 1 : Int32) fun x13 =>
    f12_ways_L15 h0 h1 h2 h3 h4 σ n l12 x13
noncomputable def f12_ways  (v0 : Int32) (v1 : Int32) (v2 : Int32) (v3 : Int32) (v4 : Int32) (σ : zSt) : Option Int64 :=
  zlt (if v4 = 0 then 0 else v3 : Int32) fun x5 =>
  f12_ways_L15 v0 v1 v2 v3 v4 σ zfuel 0 x5
noncomputable def f12_bounds_L106  (h2 : Int32) (h3 : Int32) (h4 : Int32) (h5 : Int32) (h6 : Int32) (h7 : Int64) (σ : zSt)  : Nat → Int32 → Option Int32
  | 0, _ => none
  | n + 1, v9 =>
    zc1 (f12_ways h4 v9 h5 h6 (if h3 = 0 then 1 else 0) σ) fun r20 =>
    if 0 ≤ (lg_cmp (r20 * 100) ((Int32.toInt64 h2) * h7)) then (some v9) else
    zlt (v9 + (if h3 = 0 then 1 else (-1)) : Int32) fun x25 =>
    f12_bounds_L106 h2 h3 h4 h5 h6 h7 σ n x25
noncomputable def f12_bounds  (v1 : Int32) (v2 : Int32) (v3 : Int32) (σ : zSt) : Option Int32 :=
  zc1 (f12_isCrew v1 σ) fun r1 =>
  if r1 = 0 then (some (-1)) else
  zc1 (f12_within v2 1 49 σ) fun r2 =>
  if r2 = 0 then (some (-1)) else
  zc1 (f12_within v3 0 1 σ) fun r3 =>
  if r3 = 0 then (some (-1)) else
  zix v1 10 fun m4 =>
  zlt (gI σ 1339 0 m4 : Int32) fun x5 =>
  zix v1 10 fun m6 =>
  zlt (gI σ 1337 0 m6 : Int32) fun x7 =>
  zix v1 10 fun m8 =>
  zlt (gI σ 1338 0 m8 : Int32) fun x9 =>
  if x5 ≤ 40 then (if x7 = 0 then (if v3 = 0 then (some 0) else
  some x5) else
  zc1 (f12_choose x5 x7 σ) fun r10 =>
  zlt (if v3 = 0 then x9 else ((x5 - x7) + x9) : Int32) fun x15 =>
  f12_bounds_L106 v2 v3 x5 x7 x9 r10 σ zfuel x15) else
  some (-5)
noncomputable def f12_weightOf_L5  (h1 : Int32) (h2 : Int32) (σ : zSt)  : Nat → Int32 → Int32 → Option Int32
  | 0, _, _ => none
  | n + 1, v3, v4 =>
    if (gI σ 12 0 36) ≤ v4 then (some v3) else
    zix v4 200 fun m1 =>
    zix (gI σ 1318 0 m1) 40 fun m2 =>
    zlt (fun (a3 : Int32) =>
    zlt (v3 + a3 : Int32) fun x6 =>
    zlt (v4 + 1 : Int32) fun x7 =>
    f12_weightOf_L5 h1 h2 σ n x6 x7) fun j4 =>
    zlt (j4 0) fun j9 =>
    if (gI σ 1301 0 m2) = h1 then (zc1 (f12_isLeft v4 h2 σ) fun r11 =>
    if r11 = 0 then (j9) else
    zix v4 200 fun m12 =>
    j4 (gI σ 1321 0 m12)) else
    j9
noncomputable def f12_weightOf  (v1 : Int32) (v2 : Int32) (σ : zSt) : Option Int32 :=
  f12_weightOf_L5 v1 v2 σ zfuel 0 0
noncomputable def f12_weight  (v1 : Int32) (v2 : Int32) (σ : zSt) : Option Int32 :=
  zc1 (f12_within v1 0 7 σ) fun r1 =>
  zlt (some (-1)) fun j2 =>
  if r1 = 0 then (j2) else
  zc1 (f12_isDay v2 σ) fun r4 =>
  if r4 = 0 then (j2) else
  zc1 (f12_weightOf v1 v2 σ) fun r5 =>
  some r5
noncomputable def f12_worst_L33  (h1 : Int32) (h2 : Int32) (h3 : Int32) (σ : zSt) (K88 : Int32 → Option Int32) : Nat → Int32 → Int32 → Option Int32
  | 0, _, _ => none
  | n + 1, v4, v5 =>
    if (8 : Int32) ≤ v5 then (K88 v4) else
    zc1 (f12_weightOf v5 h2 σ) fun r3 =>
    zc1 (f12_weightOf h3 h2 σ) fun r4 =>
    zlt (r3 - r4 : Int32) fun x5 =>
    zlt (v4 + (if 0 < x5 then 1 else (if x5 = 0 then (if h3 ≤ v5 then 0 else 1) else 0)) : Int32) fun x16 =>
    zlt (v5 + 1 : Int32) fun x17 =>
    f12_worst_L33 h1 h2 h3 σ K88 n x16 x17
noncomputable def f12_worst_L21  (h1 : Int32) (h2 : Int32) (σ : zSt)  : Nat → Int32 → Option Int32
  | 0, _ => none
  | n + 1, v3 =>
    if (8 : Int32) ≤ v3 then (some (-1)) else
    f12_worst_L33 h1 h2 v3 σ (fun (a19 : Int32) =>
    if a19 = h1 then (some v3) else
    zlt (v3 + 1 : Int32) fun x20 =>
    f12_worst_L21 h1 h2 σ n x20) zfuel 0 0
noncomputable def f12_worst  (v1 : Int32) (v2 : Int32) (σ : zSt) : Option Int32 :=
  zc1 (f12_within v1 0 7 σ) fun r1 =>
  if r1 = 0 then (some (-1)) else
  zc1 (f12_isDay v2 σ) fun r2 =>
  if r2 = 0 then (some (-1)) else
  f12_worst_L21 v1 v2 σ zfuel 0
noncomputable def f12_count_L13  (h1 : Int32) (σ : zSt) (K80 : Int32 → Int32 → Int32 → Int32 → Option Int32) : Nat → Int32 → Int32 → Int32 → Int32 → Int32 → Option Int32
  | 0, _, _, _, _, _ => none
  | n + 1, v2, v3, v4, v5, v6 =>
    if (gI σ 12 0 13) ≤ v6 then (K80 v2 v3 v4 v5) else
    zix v6 40 fun m1 =>
    zlt (v2 + (gI σ 1310 0 m1) : Int32) fun x2 =>
    zix v6 40 fun m3 =>
    zlt (v3 + (gI σ 1311 0 m3) : Int32) fun x4 =>
    zix v6 40 fun m5 =>
    zlt (v4 + (gI σ 1312 0 m5) : Int32) fun x6 =>
    zix v6 40 fun m7 =>
    zlt (v5 + (if (gI σ 1305 0 m7) < 0 then 0 else 1) : Int32) fun x12 =>
    zlt (v6 + 1 : Int32) fun x13 =>
    f12_count_L13 h1 σ K80 n x2 x4 x6 x12 x13
noncomputable def f12_count  (v1 : Int32) (σ : zSt) : Option Int32 :=
  f12_count_L13 v1 σ (fun (a15 : Int32) (a16 : Int32) (a17 : Int32) (a18 : Int32) =>
  if v1 = 0 then (some (gI σ 12 0 13)) else
  if v1 = 1 then (some (gI σ 12 0 17)) else
  if v1 = 2 then (some (gI σ 12 0 36)) else
  if v1 = 3 then (some (gI σ 12 0 0)) else
  if v1 = 4 then (zix 0 2 fun m26 =>
  some (gI σ 1354 0 m26)) else
  if v1 = 5 then (zix 1 2 fun m28 =>
  some (gI σ 1354 0 m28)) else
  if v1 = 6 then (some (gI σ 12 0 49)) else
  if v1 = 7 then (some (gI σ 12 0 47)) else
  if v1 = 8 then (some a15) else
  if v1 = 9 then (some a16) else
  if v1 = 10 then (some a17) else
  if v1 = 11 then (some a18) else
  some (-1)) zfuel 0 0 0 0 0
