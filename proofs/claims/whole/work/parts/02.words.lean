/-- the words that hold at every later state -/
def tblG : List Cond := lw_tbl.filter goodWord
theorem tM_1 {w : Cond} (h : w ∈ tables_1_1) : w ∈ tables_1 := List.mem_append_left _ h
theorem tG_1 {w : Cond} {i : Nat} (h : tables_1_1[i]? = some w) (g : goodWord w = true) : w ∈ tblG := List.mem_filter.mpr ⟨List.mem_append_right _ (tM_1 (List.mem_of_getElem? h)), g⟩
theorem tT_1 {w : Cond} {i : Nat} (h : tables_1_1[i]? = some w) : w ∈ lw_tbl := List.mem_append_right _ (tM_1 (List.mem_of_getElem? h))
theorem tM_2 {w : Cond} (h : w ∈ tables_1_2) : w ∈ tables_1 := List.mem_append_right _ (List.mem_append_left _ h)
theorem tG_2 {w : Cond} {i : Nat} (h : tables_1_2[i]? = some w) (g : goodWord w = true) : w ∈ tblG := List.mem_filter.mpr ⟨List.mem_append_right _ (tM_2 (List.mem_of_getElem? h)), g⟩
theorem tT_2 {w : Cond} {i : Nat} (h : tables_1_2[i]? = some w) : w ∈ lw_tbl := List.mem_append_right _ (tM_2 (List.mem_of_getElem? h))
theorem tM_3 {w : Cond} (h : w ∈ tables_1_3) : w ∈ tables_1 := List.mem_append_right _ (List.mem_append_right _ (List.mem_append_left _ h))
theorem tG_3 {w : Cond} {i : Nat} (h : tables_1_3[i]? = some w) (g : goodWord w = true) : w ∈ tblG := List.mem_filter.mpr ⟨List.mem_append_right _ (tM_3 (List.mem_of_getElem? h)), g⟩
theorem tT_3 {w : Cond} {i : Nat} (h : tables_1_3[i]? = some w) : w ∈ lw_tbl := List.mem_append_right _ (tM_3 (List.mem_of_getElem? h))
theorem tM_4 {w : Cond} (h : w ∈ tables_1_4) : w ∈ tables_1 := List.mem_append_right _ (List.mem_append_right _ (List.mem_append_right _ (List.mem_append_left _ h)))
theorem tG_4 {w : Cond} {i : Nat} (h : tables_1_4[i]? = some w) (g : goodWord w = true) : w ∈ tblG := List.mem_filter.mpr ⟨List.mem_append_right _ (tM_4 (List.mem_of_getElem? h)), g⟩
theorem tT_4 {w : Cond} {i : Nat} (h : tables_1_4[i]? = some w) : w ∈ lw_tbl := List.mem_append_right _ (tM_4 (List.mem_of_getElem? h))
theorem tM_5 {w : Cond} (h : w ∈ tables_1_5) : w ∈ tables_1 := List.mem_append_right _ (List.mem_append_right _ (List.mem_append_right _ (List.mem_append_right _ (List.mem_append_left _ h))))
theorem tG_5 {w : Cond} {i : Nat} (h : tables_1_5[i]? = some w) (g : goodWord w = true) : w ∈ tblG := List.mem_filter.mpr ⟨List.mem_append_right _ (tM_5 (List.mem_of_getElem? h)), g⟩
theorem tT_5 {w : Cond} {i : Nat} (h : tables_1_5[i]? = some w) : w ∈ lw_tbl := List.mem_append_right _ (tM_5 (List.mem_of_getElem? h))
theorem tM_6 {w : Cond} (h : w ∈ tables_1_6) : w ∈ tables_1 := List.mem_append_right _ (List.mem_append_right _ (List.mem_append_right _ (List.mem_append_right _ (List.mem_append_right _ (List.mem_append_left _ h)))))
theorem tG_6 {w : Cond} {i : Nat} (h : tables_1_6[i]? = some w) (g : goodWord w = true) : w ∈ tblG := List.mem_filter.mpr ⟨List.mem_append_right _ (tM_6 (List.mem_of_getElem? h)), g⟩
theorem tT_6 {w : Cond} {i : Nat} (h : tables_1_6[i]? = some w) : w ∈ lw_tbl := List.mem_append_right _ (tM_6 (List.mem_of_getElem? h))
theorem tM_7 {w : Cond} (h : w ∈ tables_1_7) : w ∈ tables_1 := List.mem_append_right _ (List.mem_append_right _ (List.mem_append_right _ (List.mem_append_right _ (List.mem_append_right _ (List.mem_append_right _ (List.mem_append_left _ h))))))
theorem tG_7 {w : Cond} {i : Nat} (h : tables_1_7[i]? = some w) (g : goodWord w = true) : w ∈ tblG := List.mem_filter.mpr ⟨List.mem_append_right _ (tM_7 (List.mem_of_getElem? h)), g⟩
theorem tT_7 {w : Cond} {i : Nat} (h : tables_1_7[i]? = some w) : w ∈ lw_tbl := List.mem_append_right _ (tM_7 (List.mem_of_getElem? h))
theorem tM_8 {w : Cond} (h : w ∈ tables_1_8) : w ∈ tables_1 := List.mem_append_right _ (List.mem_append_right _ (List.mem_append_right _ (List.mem_append_right _ (List.mem_append_right _ (List.mem_append_right _ (List.mem_append_right _ (h)))))))
theorem tG_8 {w : Cond} {i : Nat} (h : tables_1_8[i]? = some w) (g : goodWord w = true) : w ∈ tblG := List.mem_filter.mpr ⟨List.mem_append_right _ (tM_8 (List.mem_of_getElem? h)), g⟩
theorem tT_8 {w : Cond} {i : Nat} (h : tables_1_8[i]? = some w) : w ∈ lw_tbl := List.mem_append_right _ (tM_8 (List.mem_of_getElem? h))
theorem tS_in {w : Cond} {i : Nat} (h : (k2_sels lw_privs)[i]? = some w) (g : goodWord w = true) : w ∈ tblG := List.mem_filter.mpr ⟨List.mem_append_left _ (List.mem_of_getElem? h), g⟩
theorem tk_0 : (Jvm.Cond.initialized "SnagBookLaw") ∈ tblG := tG_1 (i := 0) rfl rfl
theorem tk_1 : (Jvm.Cond.initialized "SnagBook") ∈ tblG := tG_1 (i := 1) rfl rfl
theorem tk_2 : (Jvm.Cond.initialized "SnagBook$Shelf") ∈ tblG := tG_1 (i := 2) rfl rfl
theorem tk_3 : (Jvm.Cond.initialized "SnagBook$Judge") ∈ tblG := tG_1 (i := 3) rfl rfl
theorem tk_4 : (Jvm.Cond.initialized "SnagBook$Freeing") ∈ tblG := tG_1 (i := 4) rfl rfl
theorem tk_5 : (Jvm.Cond.initialized "SnagBook$Diary") ∈ tblG := tG_1 (i := 5) rfl rfl
theorem tk_6 : (Jvm.Cond.initialized "java/util/Arrays") ∈ tblG := tG_1 (i := 6) rfl rfl
theorem tk_7 : (Jvm.Cond.initialized "SnagBookModel") ∈ tblG := tG_1 (i := 7) rfl rfl
theorem tk_8 : (Jvm.Cond.initialized "SnagBook$Home") ∈ tblG := tG_1 (i := 8) rfl rfl
theorem tk_9 : (Jvm.Cond.initialized "SnagBook$Kind") ∈ tblG := tG_1 (i := 9) rfl rfl
theorem tk_10 : (Jvm.Cond.initialized "SnagBook$Fault") ∈ tblG := tG_1 (i := 10) rfl rfl
theorem tk_11 : (Jvm.Cond.initialized "SnagBook$History") ∈ tblG := tG_1 (i := 11) rfl rfl
theorem tk_12 : (Jvm.Cond.initialized "SnagBook$Gauge") ∈ tblG := tG_1 (i := 12) rfl rfl
theorem tk_13 : (Jvm.Cond.initialized "SnagBook$Odds") ∈ tblG := tG_1 (i := 13) rfl rfl
theorem tk_14 : (Jvm.Cond.initialized "java/lang/Math") ∈ tblG := tG_1 (i := 14) rfl rfl
theorem tk_15 : (Jvm.Cond.initialized "java/lang/String") ∈ tblG := tG_1 (i := 15) rfl rfl
theorem tk_16 : (Jvm.Cond.initialized "java/lang/StringLatin1") ∈ tblG := tG_1 (i := 16) rfl rfl
theorem tk_17 : (Jvm.Cond.initialized "java/lang/StringUTF16") ∈ tblG := tG_1 (i := 17) rfl rfl
theorem tk_18 : (Jvm.Cond.initialized "jdk/internal/util/Preconditions") ∈ tblG := tG_1 (i := 18) rfl rfl
theorem tk_19 : (Jvm.Cond.initialized "java/lang/Character") ∈ tblG := tG_1 (i := 19) rfl rfl
theorem tk_20 : (Jvm.Cond.initialized "SnagBook$Text") ∈ tblG := tG_1 (i := 20) rfl rfl
theorem tk_21 : (Jvm.Cond.initialized "java/lang/System") ∈ tblG := tG_1 (i := 21) rfl rfl
theorem tk_22 : (Jvm.Cond.classLink "SnagBookLaw" (7 : Nat) "SnagBook") ∈ tblG := tG_1 (i := 22) rfl rfl
theorem tk_23 : (Jvm.Cond.instantiable "SnagBook" (19 : Nat)) ∈ tblG := tG_1 (i := 23) rfl rfl
theorem tk_24 : (Jvm.Cond.methodLink "SnagBookLaw" (9 : Nat) ({ cls := "SnagBook", name := "<init>", desc := "()V" } : Jvm.MethodName)) ∈ tblG := tG_1 (i := 24) rfl rfl
theorem tk_25 : (Jvm.Cond.instanceMethod ({ cls := "SnagBook", name := "<init>", desc := "()V" } : Jvm.MethodName)) ∈ tblG := tG_1 (i := 25) rfl rfl
theorem tk_26 : (Jvm.Cond.code ({ cls := "SnagBook", name := "<init>", desc := "()V" } : Jvm.MethodName) prog_1_method_1_code (1 : Nat) (Option.none : Option Jvm.ClassFile.FieldType)) ∈ tblG := tG_1 (i := 26) rfl rfl
theorem tk_27 : (Jvm.Cond.methodLink "SnagBook" (1 : Nat) ({ cls := "java/lang/Object", name := "<init>", desc := "()V" } : Jvm.MethodName)) ∈ tblG := tG_1 (i := 27) rfl rfl
theorem tk_28 : (Jvm.Cond.instanceMethod ({ cls := "java/lang/Object", name := "<init>", desc := "()V" } : Jvm.MethodName)) ∈ tblG := tG_1 (i := 28) rfl rfl
theorem tk_29 : (Jvm.Cond.code ({ cls := "java/lang/Object", name := "<init>", desc := "()V" } : Jvm.MethodName) object_method_1_code (1 : Nat) (Option.none : Option Jvm.ClassFile.FieldType)) ∈ tblG := tG_1 (i := 29) rfl rfl
theorem tk_30 : (Jvm.Cond.classLink "SnagBook" (9 : Nat) "SnagBook$Home") ∈ tblG := tG_1 (i := 30) rfl rfl
theorem tk_31 : (Jvm.Cond.arrayOver (Jvm.ClassFile.FieldType.object "SnagBook$Home")) ∈ lw_tbl := tT_1 (i := 31) rfl
theorem tk_32 : (Jvm.Cond.classLink "SnagBook" (15 : Nat) "SnagBook$Kind") ∈ tblG := tG_1 (i := 32) rfl rfl
theorem tk_33 : (Jvm.Cond.arrayOver (Jvm.ClassFile.FieldType.object "SnagBook$Kind")) ∈ lw_tbl := tT_1 (i := 33) rfl
theorem tk_34 : (Jvm.Cond.classLink "SnagBook" (21 : Nat) "SnagBook$Fault") ∈ tblG := tG_1 (i := 34) rfl rfl
theorem tk_35 : (Jvm.Cond.arrayOver (Jvm.ClassFile.FieldType.object "SnagBook$Fault")) ∈ lw_tbl := tT_1 (i := 35) rfl
theorem tk_36 : (Jvm.Cond.classLink "SnagBook" (41 : Nat) "SnagBook$Shelf") ∈ tblG := tG_1 (i := 36) rfl rfl
theorem tk_37 : (Jvm.Cond.instantiable "SnagBook$Shelf" (2 : Nat)) ∈ tblG := tG_1 (i := 37) rfl rfl
theorem tk_38 : (Jvm.Cond.methodLinkNest "SnagBook" (43 : Nat) ({ cls := "SnagBook$Shelf", name := "<init>", desc := "()V" } : Jvm.MethodName) "SnagBook") ∈ lw_tbl := tT_1 (i := 38) rfl
theorem tk_39 : (Jvm.Cond.instanceMethod ({ cls := "SnagBook$Shelf", name := "<init>", desc := "()V" } : Jvm.MethodName)) ∈ tblG := tG_1 (i := 39) rfl rfl
theorem tk_40 : (Jvm.Cond.code ({ cls := "SnagBook$Shelf", name := "<init>", desc := "()V" } : Jvm.MethodName) prog_11_method_1_code (1 : Nat) (Option.none : Option Jvm.ClassFile.FieldType)) ∈ tblG := tG_1 (i := 40) rfl rfl
theorem tk_41 : (Jvm.Cond.methodLink "SnagBook$Shelf" (3 : Nat) ({ cls := "java/lang/Object", name := "<init>", desc := "()V" } : Jvm.MethodName)) ∈ tblG := tG_1 (i := 41) rfl rfl
theorem tk_42 : (Jvm.Cond.classLink "SnagBook$Shelf" (9 : Nat) "SnagBook$Text") ∈ tblG := tG_1 (i := 42) rfl rfl
theorem tk_43 : (Jvm.Cond.arrayOver (Jvm.ClassFile.FieldType.object "SnagBook$Text")) ∈ lw_tbl := tT_1 (i := 43) rfl
theorem tk_44 : (Jvm.Cond.fieldLink "SnagBook$Shelf" (11 : Nat) "SnagBook$Shelf" "texts" "[LSnagBook$Text;") ∈ tblG := tG_1 (i := 44) rfl rfl
theorem tk_45 : (Jvm.Cond.fieldLink "SnagBook$Shelf" (17 : Nat) "SnagBook$Shelf" "size" "I") ∈ tblG := tG_1 (i := 45) rfl rfl
theorem tk_46 : (Jvm.Cond.fieldLink "SnagBook" (450 : Nat) "SnagBook$Shelf" "size" "I") ∈ tblG := tG_1 (i := 46) rfl rfl
theorem tk_47 : (Jvm.Cond.laysFinal "SnagBook$Shelf" "SnagBook$Shelf" "texts" "[LSnagBook$Text;") ∈ tblG := tG_1 (i := 47) rfl rfl
theorem tk_48 : (Jvm.Cond.soleField "SnagBook$Shelf" "texts") ∈ tblG := tG_1 (i := 48) rfl rfl
theorem tk_49 : (Jvm.Cond.lays "SnagBook$Shelf" "SnagBook$Shelf" "size" "I") ∈ tblG := tG_1 (i := 49) rfl rfl
theorem tk_50 : (Jvm.Cond.soleField "SnagBook$Shelf" "size") ∈ tblG := tG_1 (i := 50) rfl rfl
theorem tk_51 : (Jvm.Cond.superclass "SnagBook$Shelf" "java/lang/Object") ∈ tblG := tG_1 (i := 51) rfl rfl
theorem tk_52 : (Jvm.Cond.arrayClass Jvm.ClassFile.FieldType.int) ∈ tblG := tG_1 (i := 52) rfl rfl
theorem tk_53 : (Jvm.Cond.classLink "SnagBook" (51 : Nat) "SnagBook$Judge") ∈ tblG := tG_1 (i := 53) rfl rfl
theorem tk_54 : (Jvm.Cond.instantiable "SnagBook$Judge" (9 : Nat)) ∈ tblG := tG_1 (i := 54) rfl rfl
theorem tk_55 : (Jvm.Cond.methodLinkNest "SnagBook" (53 : Nat) ({ cls := "SnagBook$Judge", name := "<init>", desc := "()V" } : Jvm.MethodName) "SnagBook") ∈ lw_tbl := tT_1 (i := 55) rfl
theorem tk_56 : (Jvm.Cond.instanceMethod ({ cls := "SnagBook$Judge", name := "<init>", desc := "()V" } : Jvm.MethodName)) ∈ tblG := tG_1 (i := 56) rfl rfl
theorem tk_57 : (Jvm.Cond.code ({ cls := "SnagBook$Judge", name := "<init>", desc := "()V" } : Jvm.MethodName) prog_8_method_1_code (1 : Nat) (Option.none : Option Jvm.ClassFile.FieldType)) ∈ tblG := tG_1 (i := 57) rfl rfl
theorem tk_58 : (Jvm.Cond.methodLink "SnagBook$Judge" (3 : Nat) ({ cls := "java/lang/Object", name := "<init>", desc := "()V" } : Jvm.MethodName)) ∈ tblG := tG_1 (i := 58) rfl rfl
theorem tk_59 : (Jvm.Cond.fieldLink "SnagBook$Judge" (9 : Nat) "SnagBook$Judge" "facts" "[I") ∈ tblG := tG_1 (i := 59) rfl rfl
theorem tk_60 : (Jvm.Cond.fieldLink "SnagBook" (506 : Nat) "SnagBook$Judge" "facts" "[I") ∈ tblG := tG_1 (i := 60) rfl rfl
theorem tk_61 : (Jvm.Cond.fieldLink "SnagBook$Judge" (70 : Nat) "SnagBook$Judge" "who" "I") ∈ tblG := tG_1 (i := 61) rfl rfl
theorem tk_62 : (Jvm.Cond.fieldLink "SnagBook" (387 : Nat) "SnagBook$Judge" "who" "I") ∈ tblG := tG_1 (i := 62) rfl rfl
theorem tk_63 : (Jvm.Cond.fieldLink "SnagBook$Judge" (73 : Nat) "SnagBook$Judge" "ownerPays" "I") ∈ tblG := tG_1 (i := 63) rfl rfl
theorem tk_64 : (Jvm.Cond.fieldLink "SnagBook" (390 : Nat) "SnagBook$Judge" "ownerPays" "I") ∈ tblG := tG_1 (i := 64) rfl rfl
theorem tk_65 : (Jvm.Cond.fieldLink "SnagBook$Judge" (76 : Nat) "SnagBook$Judge" "whoPays" "I") ∈ tblG := tG_1 (i := 65) rfl rfl
theorem tk_66 : (Jvm.Cond.fieldLink "SnagBook" (393 : Nat) "SnagBook$Judge" "whoPays" "I") ∈ tblG := tG_1 (i := 66) rfl rfl
theorem tk_67 : (Jvm.Cond.fieldLink "SnagBook$Judge" (67 : Nat) "SnagBook$Judge" "line" "I") ∈ tblG := tG_1 (i := 67) rfl rfl
theorem tk_68 : (Jvm.Cond.fieldLink "SnagBook" (396 : Nat) "SnagBook$Judge" "line" "I") ∈ tblG := tG_1 (i := 68) rfl rfl
theorem tk_69 : (Jvm.Cond.fieldLink "SnagBook$Judge" (43 : Nat) "SnagBook$Judge" "text" "LSnagBook$Text;") ∈ tblG := tG_1 (i := 69) rfl rfl
theorem tk_70 : (Jvm.Cond.fieldLink "SnagBook$Judge" (79 : Nat) "SnagBook$Judge" "place" "I") ∈ tblG := tG_1 (i := 70) rfl rfl
theorem tk_71 : (Jvm.Cond.fieldLink "SnagBook$Judge" (64 : Nat) "SnagBook$Judge" "payer" "I") ∈ tblG := tG_1 (i := 71) rfl rfl
theorem tk_72 : (Jvm.Cond.fieldLink "SnagBook$Judge" (55 : Nat) "SnagBook$Judge" "excess" "I") ∈ tblG := tG_1 (i := 72) rfl rfl
theorem tk_73 : (Jvm.Cond.laysFinal "SnagBook$Judge" "SnagBook$Judge" "facts" "[I") ∈ tblG := tG_1 (i := 73) rfl rfl
theorem tk_74 : (Jvm.Cond.soleField "SnagBook$Judge" "facts") ∈ tblG := tG_1 (i := 74) rfl rfl
theorem tk_75 : (Jvm.Cond.lays "SnagBook$Judge" "SnagBook$Judge" "who" "I") ∈ tblG := tG_1 (i := 75) rfl rfl
theorem tk_76 : (Jvm.Cond.soleField "SnagBook$Judge" "who") ∈ tblG := tG_1 (i := 76) rfl rfl
theorem tk_77 : (Jvm.Cond.lays "SnagBook$Judge" "SnagBook$Judge" "ownerPays" "I") ∈ tblG := tG_1 (i := 77) rfl rfl
theorem tk_78 : (Jvm.Cond.soleField "SnagBook$Judge" "ownerPays") ∈ tblG := tG_1 (i := 78) rfl rfl
theorem tk_79 : (Jvm.Cond.lays "SnagBook$Judge" "SnagBook$Judge" "whoPays" "I") ∈ tblG := tG_1 (i := 79) rfl rfl
theorem tk_80 : (Jvm.Cond.soleField "SnagBook$Judge" "whoPays") ∈ tblG := tG_1 (i := 80) rfl rfl
theorem tk_81 : (Jvm.Cond.lays "SnagBook$Judge" "SnagBook$Judge" "line" "I") ∈ tblG := tG_1 (i := 81) rfl rfl
theorem tk_82 : (Jvm.Cond.soleField "SnagBook$Judge" "line") ∈ tblG := tG_1 (i := 82) rfl rfl
theorem tk_83 : (Jvm.Cond.lays "SnagBook$Judge" "SnagBook$Judge" "text" "LSnagBook$Text;") ∈ tblG := tG_1 (i := 83) rfl rfl
theorem tk_84 : (Jvm.Cond.soleField "SnagBook$Judge" "text") ∈ tblG := tG_1 (i := 84) rfl rfl
theorem tk_85 : (Jvm.Cond.lays "SnagBook$Judge" "SnagBook$Judge" "place" "I") ∈ tblG := tG_1 (i := 85) rfl rfl
theorem tk_86 : (Jvm.Cond.soleField "SnagBook$Judge" "place") ∈ tblG := tG_1 (i := 86) rfl rfl
theorem tk_87 : (Jvm.Cond.lays "SnagBook$Judge" "SnagBook$Judge" "payer" "I") ∈ tblG := tG_1 (i := 87) rfl rfl
theorem tk_88 : (Jvm.Cond.soleField "SnagBook$Judge" "payer") ∈ tblG := tG_1 (i := 88) rfl rfl
theorem tk_89 : (Jvm.Cond.lays "SnagBook$Judge" "SnagBook$Judge" "excess" "I") ∈ tblG := tG_1 (i := 89) rfl rfl
theorem tk_90 : (Jvm.Cond.soleField "SnagBook$Judge" "excess") ∈ tblG := tG_1 (i := 90) rfl rfl
theorem tk_91 : (Jvm.Cond.superclass "SnagBook$Judge" "java/lang/Object") ∈ tblG := tG_1 (i := 91) rfl rfl
theorem tk_92 : (Jvm.Cond.classLink "SnagBook" (58 : Nat) "SnagBook$Freeing") ∈ tblG := tG_1 (i := 92) rfl rfl
theorem tk_93 : (Jvm.Cond.instantiable "SnagBook$Freeing" (4 : Nat)) ∈ tblG := tG_1 (i := 93) rfl rfl
theorem tk_94 : (Jvm.Cond.methodLinkNest "SnagBook" (60 : Nat) ({ cls := "SnagBook$Freeing", name := "<init>", desc := "()V" } : Jvm.MethodName) "SnagBook") ∈ lw_tbl := tT_1 (i := 94) rfl
theorem tk_95 : (Jvm.Cond.instanceMethod ({ cls := "SnagBook$Freeing", name := "<init>", desc := "()V" } : Jvm.MethodName)) ∈ tblG := tG_1 (i := 95) rfl rfl
theorem tk_96 : (Jvm.Cond.code ({ cls := "SnagBook$Freeing", name := "<init>", desc := "()V" } : Jvm.MethodName) prog_4_method_1_code (1 : Nat) (Option.none : Option Jvm.ClassFile.FieldType)) ∈ tblG := tG_1 (i := 96) rfl rfl
theorem tk_97 : (Jvm.Cond.methodLink "SnagBook$Freeing" (3 : Nat) ({ cls := "java/lang/Object", name := "<init>", desc := "()V" } : Jvm.MethodName)) ∈ tblG := tG_1 (i := 97) rfl rfl
theorem tk_98 : (Jvm.Cond.fieldLink "SnagBook$Freeing" (9 : Nat) "SnagBook$Freeing" "facts" "[I") ∈ tblG := tG_1 (i := 98) rfl rfl
theorem tk_99 : (Jvm.Cond.fieldLink "SnagBook$Freeing" (15 : Nat) "SnagBook$Freeing" "values" "[I") ∈ tblG := tG_1 (i := 99) rfl rfl
theorem tk_100 : (Jvm.Cond.fieldLink "SnagBook$Freeing" (18 : Nat) "SnagBook$Freeing" "signs" "[I") ∈ tblG := tG_1 (i := 100) rfl rfl
theorem tk_101 : (Jvm.Cond.fieldLink "SnagBook$Freeing" (60 : Nat) "SnagBook$Freeing" "depth" "I") ∈ tblG := tG_1 (i := 101) rfl rfl
theorem tk_102 : (Jvm.Cond.laysFinal "SnagBook$Freeing" "SnagBook$Freeing" "facts" "[I") ∈ tblG := tG_1 (i := 102) rfl rfl
theorem tk_103 : (Jvm.Cond.soleField "SnagBook$Freeing" "facts") ∈ tblG := tG_1 (i := 103) rfl rfl
theorem tk_104 : (Jvm.Cond.laysFinal "SnagBook$Freeing" "SnagBook$Freeing" "values" "[I") ∈ tblG := tG_1 (i := 104) rfl rfl
theorem tk_105 : (Jvm.Cond.soleField "SnagBook$Freeing" "values") ∈ tblG := tG_1 (i := 105) rfl rfl
theorem tk_106 : (Jvm.Cond.laysFinal "SnagBook$Freeing" "SnagBook$Freeing" "signs" "[I") ∈ tblG := tG_1 (i := 106) rfl rfl
theorem tk_107 : (Jvm.Cond.soleField "SnagBook$Freeing" "signs") ∈ tblG := tG_1 (i := 107) rfl rfl
theorem tk_108 : (Jvm.Cond.lays "SnagBook$Freeing" "SnagBook$Freeing" "depth" "I") ∈ tblG := tG_1 (i := 108) rfl rfl
theorem tk_109 : (Jvm.Cond.soleField "SnagBook$Freeing" "depth") ∈ tblG := tG_1 (i := 109) rfl rfl
theorem tk_110 : (Jvm.Cond.superclass "SnagBook$Freeing" "java/lang/Object") ∈ tblG := tG_1 (i := 110) rfl rfl
theorem tk_111 : (Jvm.Cond.classLink "SnagBook" (65 : Nat) "SnagBook$Diary") ∈ tblG := tG_1 (i := 111) rfl rfl
theorem tk_112 : (Jvm.Cond.instantiable "SnagBook$Diary" (8 : Nat)) ∈ tblG := tG_1 (i := 112) rfl rfl
theorem tk_113 : (Jvm.Cond.methodLink "SnagBook" (67 : Nat) ({ cls := "SnagBook$Diary", name := "<init>", desc := "()V" } : Jvm.MethodName)) ∈ tblG := tG_1 (i := 113) rfl rfl
theorem tk_114 : (Jvm.Cond.instanceMethod ({ cls := "SnagBook$Diary", name := "<init>", desc := "()V" } : Jvm.MethodName)) ∈ tblG := tG_1 (i := 114) rfl rfl
theorem tk_115 : (Jvm.Cond.code ({ cls := "SnagBook$Diary", name := "<init>", desc := "()V" } : Jvm.MethodName) prog_2_method_1_code (1 : Nat) (Option.none : Option Jvm.ClassFile.FieldType)) ∈ tblG := tG_1 (i := 115) rfl rfl
theorem tk_116 : (Jvm.Cond.methodLink "SnagBook$Diary" (5 : Nat) ({ cls := "java/lang/Object", name := "<init>", desc := "()V" } : Jvm.MethodName)) ∈ tblG := tG_1 (i := 116) rfl rfl
theorem tk_117 : (Jvm.Cond.classLink "SnagBook$Diary" (15 : Nat) "SnagBook$Fault") ∈ tblG := tG_1 (i := 117) rfl rfl
theorem tk_118 : (Jvm.Cond.methodLink "SnagBook$Diary" (35 : Nat) ({ cls := "java/util/Arrays", name := "fill", desc := "([II)V" } : Jvm.MethodName)) ∈ tblG := tG_1 (i := 118) rfl rfl
theorem tk_119 : (Jvm.Cond.static ({ cls := "java/util/Arrays", name := "fill", desc := "([II)V" } : Jvm.MethodName)) ∈ tblG := tG_1 (i := 119) rfl rfl
theorem tk_120 : (Jvm.Cond.code ({ cls := "java/util/Arrays", name := "fill", desc := "([II)V" } : Jvm.MethodName) prog_22_method_103_code (4 : Nat) (Option.none : Option Jvm.ClassFile.FieldType)) ∈ tblG := tG_1 (i := 120) rfl rfl
theorem tk_121 : (Jvm.Cond.fieldLink "SnagBook$Diary" (11 : Nat) "SnagBook$Diary" "men" "[I") ∈ tblG := tG_1 (i := 121) rfl rfl
theorem tk_122 : (Jvm.Cond.fieldLink "SnagBook" (339 : Nat) "SnagBook$Diary" "men" "[I") ∈ tblG := tG_1 (i := 122) rfl rfl
theorem tk_123 : (Jvm.Cond.fieldLink "SnagBook$Diary" (17 : Nat) "SnagBook$Diary" "jobs" "[LSnagBook$Fault;") ∈ tblG := tG_1 (i := 123) rfl rfl
theorem tk_124 : (Jvm.Cond.fieldLink "SnagBook$Diary" (41 : Nat) "SnagBook$Diary" "size" "I") ∈ tblG := tG_1 (i := 124) rfl rfl
theorem tk_125 : (Jvm.Cond.fieldLink "SnagBook" (346 : Nat) "SnagBook$Diary" "size" "I") ∈ tblG := tG_1 (i := 125) rfl rfl
theorem tk_126 : (Jvm.Cond.fieldLink "SnagBook$Diary" (21 : Nat) "SnagBook$Diary" "settledDays" "[I") ∈ tblG := tG_1 (i := 126) rfl rfl
theorem tk_127 : (Jvm.Cond.fieldLink "SnagBook" (353 : Nat) "SnagBook$Diary" "settledDays" "[I") ∈ tblG := tG_1 (i := 127) rfl rfl
theorem tk_128 : (Jvm.Cond.fieldLink "SnagBook$Diary" (118 : Nat) "SnagBook$Diary" "settledSize" "I") ∈ tblG := tG_1 (i := 128) rfl rfl
theorem tk_129 : (Jvm.Cond.fieldLink "SnagBook" (350 : Nat) "SnagBook$Diary" "settledSize" "I") ∈ tblG := tG_1 (i := 129) rfl rfl
theorem tk_130 : (Jvm.Cond.fieldLink "SnagBook$Diary" (24 : Nat) "SnagBook$Diary" "least" "[J") ∈ tblG := tG_1 (i := 130) rfl rfl
theorem tk_131 : (Jvm.Cond.fieldLink "SnagBook$Diary" (28 : Nat) "SnagBook$Diary" "onDay" "[J") ∈ tblG := tG_1 (i := 131) rfl rfl
theorem tk_132 : (Jvm.Cond.fieldLink "SnagBook$Diary" (31 : Nat) "SnagBook$Diary" "hasMen" "[Z") ∈ tblG := tG_1 (i := 132) rfl rfl
theorem tk_133 : (Jvm.Cond.laysFinal "SnagBook$Diary" "SnagBook$Diary" "men" "[I") ∈ tblG := tG_1 (i := 133) rfl rfl
theorem tk_134 : (Jvm.Cond.soleField "SnagBook$Diary" "men") ∈ tblG := tG_1 (i := 134) rfl rfl
theorem tk_135 : (Jvm.Cond.laysFinal "SnagBook$Diary" "SnagBook$Diary" "jobs" "[LSnagBook$Fault;") ∈ tblG := tG_1 (i := 135) rfl rfl
theorem tk_136 : (Jvm.Cond.soleField "SnagBook$Diary" "jobs") ∈ tblG := tG_1 (i := 136) rfl rfl
theorem tk_137 : (Jvm.Cond.lays "SnagBook$Diary" "SnagBook$Diary" "size" "I") ∈ tblG := tG_1 (i := 137) rfl rfl
theorem tk_138 : (Jvm.Cond.soleField "SnagBook$Diary" "size") ∈ tblG := tG_1 (i := 138) rfl rfl
theorem tk_139 : (Jvm.Cond.laysFinal "SnagBook$Diary" "SnagBook$Diary" "settledDays" "[I") ∈ tblG := tG_1 (i := 139) rfl rfl
theorem tk_140 : (Jvm.Cond.soleField "SnagBook$Diary" "settledDays") ∈ tblG := tG_1 (i := 140) rfl rfl
theorem tk_141 : (Jvm.Cond.lays "SnagBook$Diary" "SnagBook$Diary" "settledSize" "I") ∈ tblG := tG_1 (i := 141) rfl rfl
theorem tk_142 : (Jvm.Cond.soleField "SnagBook$Diary" "settledSize") ∈ tblG := tG_1 (i := 142) rfl rfl
theorem tk_143 : (Jvm.Cond.laysFinal "SnagBook$Diary" "SnagBook$Diary" "least" "[J") ∈ tblG := tG_1 (i := 143) rfl rfl
theorem tk_144 : (Jvm.Cond.soleField "SnagBook$Diary" "least") ∈ tblG := tG_1 (i := 144) rfl rfl
theorem tk_145 : (Jvm.Cond.laysFinal "SnagBook$Diary" "SnagBook$Diary" "onDay" "[J") ∈ tblG := tG_1 (i := 145) rfl rfl
theorem tk_146 : (Jvm.Cond.soleField "SnagBook$Diary" "onDay") ∈ tblG := tG_1 (i := 146) rfl rfl
theorem tk_147 : (Jvm.Cond.laysFinal "SnagBook$Diary" "SnagBook$Diary" "hasMen" "[Z") ∈ tblG := tG_1 (i := 147) rfl rfl
theorem tk_148 : (Jvm.Cond.soleField "SnagBook$Diary" "hasMen") ∈ tblG := tG_1 (i := 148) rfl rfl
theorem tk_149 : (Jvm.Cond.superclass "SnagBook$Diary" "java/lang/Object") ∈ tblG := tG_1 (i := 149) rfl rfl
theorem tk_150 : (Jvm.Cond.arrayClass Jvm.ClassFile.FieldType.long) ∈ tblG := tG_1 (i := 150) rfl rfl
theorem tk_151 : (Jvm.Cond.arrayClass Jvm.ClassFile.FieldType.boolean) ∈ tblG := tG_1 (i := 151) rfl rfl
theorem tk_152 : (Jvm.Cond.fieldLink "SnagBook" (11 : Nat) "SnagBook" "homes" "[LSnagBook$Home;") ∈ tblG := tG_1 (i := 152) rfl rfl
theorem tk_153 : (Jvm.Cond.fieldLink "SnagBook" (86 : Nat) "SnagBook" "homeCount" "I") ∈ tblG := tG_1 (i := 153) rfl rfl
theorem tk_154 : (Jvm.Cond.fieldLink "SnagBook" (17 : Nat) "SnagBook" "kinds" "[LSnagBook$Kind;") ∈ tblG := tG_1 (i := 154) rfl rfl
theorem tk_155 : (Jvm.Cond.fieldLink "SnagBook" (156 : Nat) "SnagBook" "kindCount" "I") ∈ tblG := tG_1 (i := 155) rfl rfl
theorem tk_156 : (Jvm.Cond.fieldLink "SnagBook" (23 : Nat) "SnagBook" "faults" "[LSnagBook$Fault;") ∈ tblG := tG_1 (i := 156) rfl rfl
theorem tk_157 : (Jvm.Cond.fieldLink "SnagBook" (166 : Nat) "SnagBook" "faultCount" "I") ∈ tblG := tG_1 (i := 157) rfl rfl
theorem tk_158 : (Jvm.Cond.fieldLink "SnagBook" (79 : Nat) "SnagBook" "today" "I") ∈ tblG := tG_1 (i := 158) rfl rfl
theorem tk_159 : (Jvm.Cond.fieldLink "SnagBook" (27 : Nat) "SnagBook" "span" "I") ∈ tblG := tG_1 (i := 159) rfl rfl
theorem tk_160 : (Jvm.Cond.fieldLink "SnagBook" (31 : Nat) "SnagBook" "lowMark" "I") ∈ tblG := tG_1 (i := 160) rfl rfl
theorem tk_161 : (Jvm.Cond.fieldLink "SnagBook" (34 : Nat) "SnagBook" "lot" "I") ∈ tblG := tG_1 (i := 161) rfl rfl
theorem tk_162 : (Jvm.Cond.fieldLink "SnagBook" (37 : Nat) "SnagBook" "tape" "[I") ∈ tblG := tG_1 (i := 162) rfl rfl
theorem tk_163 : (Jvm.Cond.fieldLink "SnagBook" (356 : Nat) "SnagBook" "tapeLength" "I") ∈ tblG := tG_1 (i := 163) rfl rfl
theorem tk_164 : (Jvm.Cond.fieldLink "SnagBook" (44 : Nat) "SnagBook" "warranties" "LSnagBook$Shelf;") ∈ tblG := tG_1 (i := 164) rfl rfl
theorem tk_165 : (Jvm.Cond.fieldLink "SnagBook" (48 : Nat) "SnagBook" "freeings" "LSnagBook$Shelf;") ∈ tblG := tG_1 (i := 165) rfl rfl
theorem tk_166 : (Jvm.Cond.fieldLink "SnagBook" (54 : Nat) "SnagBook" "verdict" "LSnagBook$Judge;") ∈ tblG := tG_1 (i := 166) rfl rfl
theorem tk_167 : (Jvm.Cond.fieldLink "SnagBook" (61 : Nat) "SnagBook" "freeing" "LSnagBook$Freeing;") ∈ tblG := tG_1 (i := 167) rfl rfl
theorem tk_168 : (Jvm.Cond.fieldLink "SnagBook" (68 : Nat) "SnagBook" "diary" "LSnagBook$Diary;") ∈ tblG := tG_1 (i := 168) rfl rfl
theorem tk_169 : (Jvm.Cond.fieldLink "SnagBook" (72 : Nat) "SnagBook" "lookedAt" "[I") ∈ tblG := tG_1 (i := 169) rfl rfl
theorem tk_170 : (Jvm.Cond.fieldLink "SnagBook" (75 : Nat) "SnagBook" "withKind" "[Z") ∈ tblG := tG_1 (i := 170) rfl rfl
theorem tk_171 : (Jvm.Cond.laysFinal "SnagBook" "SnagBook" "homes" "[LSnagBook$Home;") ∈ tblG := tG_1 (i := 171) rfl rfl
theorem tk_172 : (Jvm.Cond.soleField "SnagBook" "homes") ∈ tblG := tG_1 (i := 172) rfl rfl
theorem tk_173 : (Jvm.Cond.lays "SnagBook" "SnagBook" "homeCount" "I") ∈ tblG := tG_1 (i := 173) rfl rfl
theorem tk_174 : (Jvm.Cond.soleField "SnagBook" "homeCount") ∈ tblG := tG_1 (i := 174) rfl rfl
theorem tk_175 : (Jvm.Cond.laysFinal "SnagBook" "SnagBook" "kinds" "[LSnagBook$Kind;") ∈ tblG := tG_1 (i := 175) rfl rfl
theorem tk_176 : (Jvm.Cond.soleField "SnagBook" "kinds") ∈ tblG := tG_1 (i := 176) rfl rfl
theorem tk_177 : (Jvm.Cond.lays "SnagBook" "SnagBook" "kindCount" "I") ∈ tblG := tG_1 (i := 177) rfl rfl
theorem tk_178 : (Jvm.Cond.soleField "SnagBook" "kindCount") ∈ tblG := tG_1 (i := 178) rfl rfl
theorem tk_179 : (Jvm.Cond.laysFinal "SnagBook" "SnagBook" "faults" "[LSnagBook$Fault;") ∈ tblG := tG_1 (i := 179) rfl rfl
theorem tk_180 : (Jvm.Cond.soleField "SnagBook" "faults") ∈ tblG := tG_1 (i := 180) rfl rfl
theorem tk_181 : (Jvm.Cond.lays "SnagBook" "SnagBook" "faultCount" "I") ∈ tblG := tG_1 (i := 181) rfl rfl
theorem tk_182 : (Jvm.Cond.soleField "SnagBook" "faultCount") ∈ tblG := tG_1 (i := 182) rfl rfl
theorem tk_183 : (Jvm.Cond.lays "SnagBook" "SnagBook" "today" "I") ∈ tblG := tG_1 (i := 183) rfl rfl
theorem tk_184 : (Jvm.Cond.soleField "SnagBook" "today") ∈ tblG := tG_1 (i := 184) rfl rfl
theorem tk_185 : (Jvm.Cond.lays "SnagBook" "SnagBook" "span" "I") ∈ tblG := tG_1 (i := 185) rfl rfl
theorem tk_186 : (Jvm.Cond.soleField "SnagBook" "span") ∈ tblG := tG_1 (i := 186) rfl rfl
theorem tk_187 : (Jvm.Cond.lays "SnagBook" "SnagBook" "lowMark" "I") ∈ tblG := tG_1 (i := 187) rfl rfl
theorem tk_188 : (Jvm.Cond.soleField "SnagBook" "lowMark") ∈ tblG := tG_1 (i := 188) rfl rfl
theorem tk_189 : (Jvm.Cond.lays "SnagBook" "SnagBook" "lot" "I") ∈ tblG := tG_1 (i := 189) rfl rfl
theorem tk_190 : (Jvm.Cond.soleField "SnagBook" "lot") ∈ tblG := tG_1 (i := 190) rfl rfl
theorem tk_191 : (Jvm.Cond.laysFinal "SnagBook" "SnagBook" "tape" "[I") ∈ tblG := tG_1 (i := 191) rfl rfl
theorem tk_192 : (Jvm.Cond.soleField "SnagBook" "tape") ∈ tblG := tG_1 (i := 192) rfl rfl
theorem tk_193 : (Jvm.Cond.lays "SnagBook" "SnagBook" "tapeLength" "I") ∈ tblG := tG_1 (i := 193) rfl rfl
theorem tk_194 : (Jvm.Cond.soleField "SnagBook" "tapeLength") ∈ tblG := tG_1 (i := 194) rfl rfl
theorem tk_195 : (Jvm.Cond.laysFinal "SnagBook" "SnagBook" "warranties" "LSnagBook$Shelf;") ∈ tblG := tG_1 (i := 195) rfl rfl
theorem tk_196 : (Jvm.Cond.soleField "SnagBook" "warranties") ∈ tblG := tG_1 (i := 196) rfl rfl
theorem tk_197 : (Jvm.Cond.laysFinal "SnagBook" "SnagBook" "freeings" "LSnagBook$Shelf;") ∈ tblG := tG_1 (i := 197) rfl rfl
theorem tk_198 : (Jvm.Cond.soleField "SnagBook" "freeings") ∈ tblG := tG_1 (i := 198) rfl rfl
theorem tk_199 : (Jvm.Cond.laysFinal "SnagBook" "SnagBook" "verdict" "LSnagBook$Judge;") ∈ tblG := tG_1 (i := 199) rfl rfl
theorem tk_200 : (Jvm.Cond.soleField "SnagBook" "verdict") ∈ tblG := tG_1 (i := 200) rfl rfl
theorem tk_201 : (Jvm.Cond.laysFinal "SnagBook" "SnagBook" "freeing" "LSnagBook$Freeing;") ∈ tblG := tG_1 (i := 201) rfl rfl
theorem tk_202 : (Jvm.Cond.soleField "SnagBook" "freeing") ∈ tblG := tG_1 (i := 202) rfl rfl
theorem tk_203 : (Jvm.Cond.laysFinal "SnagBook" "SnagBook" "diary" "LSnagBook$Diary;") ∈ tblG := tG_1 (i := 203) rfl rfl
theorem tk_204 : (Jvm.Cond.soleField "SnagBook" "diary") ∈ tblG := tG_1 (i := 204) rfl rfl
theorem tk_205 : (Jvm.Cond.laysFinal "SnagBook" "SnagBook" "lookedAt" "[I") ∈ tblG := tG_1 (i := 205) rfl rfl
theorem tk_206 : (Jvm.Cond.soleField "SnagBook" "lookedAt") ∈ tblG := tG_1 (i := 206) rfl rfl
theorem tk_207 : (Jvm.Cond.laysFinal "SnagBook" "SnagBook" "withKind" "[Z") ∈ tblG := tG_1 (i := 207) rfl rfl
theorem tk_208 : (Jvm.Cond.soleField "SnagBook" "withKind") ∈ tblG := tG_1 (i := 208) rfl rfl
theorem tk_209 : (Jvm.Cond.superclass "SnagBook" "java/lang/Object") ∈ tblG := tG_1 (i := 209) rfl rfl
theorem tk_210 : (Jvm.Cond.methodLink "SnagBookLaw" (13 : Nat) ({ cls := "SnagBook", name := "days", desc := "(I)I" } : Jvm.MethodName)) ∈ tblG := tG_1 (i := 210) rfl rfl
theorem tk_211 : (Jvm.Cond.instanceMethod ({ cls := "SnagBook", name := "days", desc := "(I)I" } : Jvm.MethodName)) ∈ tblG := tG_1 (i := 211) rfl rfl
theorem tk_212 : (Jvm.Cond.selects "SnagBook" ({ cls := "SnagBook", name := "days", desc := "(I)I" } : Jvm.MethodName) ({ cls := "SnagBook", name := "days", desc := "(I)I" } : Jvm.MethodName)) ∈ tblG := tG_1 (i := 212) rfl rfl
theorem tk_213 : (Jvm.Cond.code ({ cls := "SnagBook", name := "days", desc := "(I)I" } : Jvm.MethodName) prog_1_method_2_code (2 : Nat) (Option.some Jvm.ClassFile.FieldType.int)) ∈ tblG := tG_1 (i := 213) rfl rfl
theorem tk_214 : (Jvm.Cond.methodLink "SnagBookLaw" (18 : Nat) ({ cls := "SnagBook", name := "home", desc := "(III)I" } : Jvm.MethodName)) ∈ tblG := tG_1 (i := 214) rfl rfl
theorem tk_215 : (Jvm.Cond.instanceMethod ({ cls := "SnagBook", name := "home", desc := "(III)I" } : Jvm.MethodName)) ∈ tblG := tG_1 (i := 215) rfl rfl
theorem tk_216 : (Jvm.Cond.selects "SnagBook" ({ cls := "SnagBook", name := "home", desc := "(III)I" } : Jvm.MethodName) ({ cls := "SnagBook", name := "home", desc := "(III)I" } : Jvm.MethodName)) ∈ tblG := tG_1 (i := 216) rfl rfl
theorem tk_217 : (Jvm.Cond.code ({ cls := "SnagBook", name := "home", desc := "(III)I" } : Jvm.MethodName) prog_1_method_3_code (5 : Nat) (Option.some Jvm.ClassFile.FieldType.int)) ∈ tblG := tG_1 (i := 217) rfl rfl
theorem tk_218 : (Jvm.Cond.methodLink "SnagBook" (82 : Nat) ({ cls := "SnagBook", name := "isIn", desc := "(II)Z" } : Jvm.MethodName)) ∈ tblG := tG_1 (i := 218) rfl rfl
theorem tk_219 : (Jvm.Cond.static ({ cls := "SnagBook", name := "isIn", desc := "(II)Z" } : Jvm.MethodName)) ∈ tblG := tG_1 (i := 219) rfl rfl
theorem tk_220 : (Jvm.Cond.code ({ cls := "SnagBook", name := "isIn", desc := "(II)Z" } : Jvm.MethodName) prog_1_method_46_code (2 : Nat) (Option.some Jvm.ClassFile.FieldType.boolean)) ∈ tblG := tG_1 (i := 220) rfl rfl
theorem tk_221 : (Jvm.Cond.instantiable "SnagBook$Home" (12 : Nat)) ∈ tblG := tG_1 (i := 221) rfl rfl
theorem tk_222 : (Jvm.Cond.methodLink "SnagBook" (89 : Nat) ({ cls := "SnagBook$Home", name := "<init>", desc := "(IIII)V" } : Jvm.MethodName)) ∈ tblG := tG_1 (i := 222) rfl rfl
theorem tk_223 : (Jvm.Cond.instanceMethod ({ cls := "SnagBook$Home", name := "<init>", desc := "(IIII)V" } : Jvm.MethodName)) ∈ tblG := tG_1 (i := 223) rfl rfl
theorem tk_224 : (Jvm.Cond.code ({ cls := "SnagBook$Home", name := "<init>", desc := "(IIII)V" } : Jvm.MethodName) prog_7_method_1_code (5 : Nat) (Option.none : Option Jvm.ClassFile.FieldType)) ∈ tblG := tG_1 (i := 224) rfl rfl
theorem tk_225 : (Jvm.Cond.methodLink "SnagBook$Home" (3 : Nat) ({ cls := "java/lang/Object", name := "<init>", desc := "()V" } : Jvm.MethodName)) ∈ tblG := tG_1 (i := 225) rfl rfl
theorem tk_226 : (Jvm.Cond.methodLink "SnagBook$Home" (37 : Nat) ({ cls := "java/util/Arrays", name := "fill", desc := "([II)V" } : Jvm.MethodName)) ∈ tblG := tG_1 (i := 226) rfl rfl
theorem tk_227 : (Jvm.Cond.fieldLink "SnagBook$Home" (25 : Nat) "SnagBook$Home" "street" "I") ∈ tblG := tG_1 (i := 227) rfl rfl
theorem tk_228 : (Jvm.Cond.fieldLink "SnagBook" (125 : Nat) "SnagBook$Home" "street" "I") ∈ tblG := tG_1 (i := 228) rfl rfl
theorem tk_229 : (Jvm.Cond.fieldLink "SnagBook$Home" (28 : Nat) "SnagBook$Home" "plot" "I") ∈ tblG := tG_1 (i := 229) rfl rfl
theorem tk_230 : (Jvm.Cond.fieldLink "SnagBook" (128 : Nat) "SnagBook$Home" "plot" "I") ∈ tblG := tG_1 (i := 230) rfl rfl
theorem tk_231 : (Jvm.Cond.fieldLink "SnagBook$Home" (31 : Nat) "SnagBook$Home" "ground" "I") ∈ tblG := tG_1 (i := 231) rfl rfl
theorem tk_232 : (Jvm.Cond.fieldLink "SnagBook" (131 : Nat) "SnagBook$Home" "ground" "I") ∈ tblG := tG_1 (i := 232) rfl rfl
theorem tk_233 : (Jvm.Cond.fieldLink "SnagBook$Home" (34 : Nat) "SnagBook$Home" "batch" "I") ∈ tblG := tG_1 (i := 233) rfl rfl
theorem tk_234 : (Jvm.Cond.fieldLink "SnagBook" (134 : Nat) "SnagBook$Home" "batch" "I") ∈ tblG := tG_1 (i := 234) rfl rfl
theorem tk_235 : (Jvm.Cond.fieldLink "SnagBook$Home" (9 : Nat) "SnagBook$Home" "keyDay" "I") ∈ tblG := tG_1 (i := 235) rfl rfl
theorem tk_236 : (Jvm.Cond.fieldLink "SnagBook$Fault" (70 : Nat) "SnagBook$Home" "keyDay" "I") ∈ tblG := tG_1 (i := 236) rfl rfl
theorem tk_237 : (Jvm.Cond.fieldLink "SnagBook" (101 : Nat) "SnagBook$Home" "keyDay" "I") ∈ tblG := tG_1 (i := 237) rfl rfl
theorem tk_238 : (Jvm.Cond.fieldLink "SnagBook$Shelf" (31 : Nat) "SnagBook$Home" "keyDay" "I") ∈ tblG := tG_1 (i := 238) rfl rfl
theorem tk_239 : (Jvm.Cond.fieldLink "SnagBook$Home" (15 : Nat) "SnagBook$Home" "inBits" "I") ∈ tblG := tG_1 (i := 239) rfl rfl
theorem tk_240 : (Jvm.Cond.fieldLink "SnagBook" (114 : Nat) "SnagBook$Home" "inBits" "I") ∈ tblG := tG_2 (i := 0) rfl rfl
theorem tk_241 : (Jvm.Cond.fieldLink "SnagBook" (104 : Nat) "SnagBook$Home" "kept" "I") ∈ tblG := tG_2 (i := 1) rfl rfl
theorem tk_242 : (Jvm.Cond.fieldLink "SnagBook" (150 : Nat) "SnagBook$Home" "freed" "I") ∈ tblG := tG_2 (i := 2) rfl rfl
theorem tk_243 : (Jvm.Cond.fieldLink "SnagBook" (153 : Nat) "SnagBook$Home" "taken" "I") ∈ tblG := tG_2 (i := 3) rfl rfl
theorem tk_244 : (Jvm.Cond.fieldLink "SnagBook$Home" (47 : Nat) "SnagBook$Home" "sales" "I") ∈ tblG := tG_2 (i := 4) rfl rfl
theorem tk_245 : (Jvm.Cond.fieldLink "SnagBook" (111 : Nat) "SnagBook$Home" "sales" "I") ∈ tblG := tG_2 (i := 5) rfl rfl
theorem tk_246 : (Jvm.Cond.fieldLink "SnagBook$Home" (18 : Nat) "SnagBook$Home" "saleDays" "[I") ∈ tblG := tG_2 (i := 6) rfl rfl
theorem tk_247 : (Jvm.Cond.fieldLink "SnagBook$Home" (22 : Nat) "SnagBook$Home" "crews" "[I") ∈ tblG := tG_2 (i := 7) rfl rfl
theorem tk_248 : (Jvm.Cond.fieldLink "SnagBook" (122 : Nat) "SnagBook$Home" "crews" "[I") ∈ tblG := tG_2 (i := 8) rfl rfl
theorem tk_249 : (Jvm.Cond.laysFinal "SnagBook$Home" "SnagBook$Home" "street" "I") ∈ tblG := tG_2 (i := 9) rfl rfl
theorem tk_250 : (Jvm.Cond.soleField "SnagBook$Home" "street") ∈ tblG := tG_2 (i := 10) rfl rfl
theorem tk_251 : (Jvm.Cond.laysFinal "SnagBook$Home" "SnagBook$Home" "plot" "I") ∈ tblG := tG_2 (i := 11) rfl rfl
theorem tk_252 : (Jvm.Cond.soleField "SnagBook$Home" "plot") ∈ tblG := tG_2 (i := 12) rfl rfl
theorem tk_253 : (Jvm.Cond.laysFinal "SnagBook$Home" "SnagBook$Home" "ground" "I") ∈ tblG := tG_2 (i := 13) rfl rfl
theorem tk_254 : (Jvm.Cond.soleField "SnagBook$Home" "ground") ∈ tblG := tG_2 (i := 14) rfl rfl
theorem tk_255 : (Jvm.Cond.laysFinal "SnagBook$Home" "SnagBook$Home" "batch" "I") ∈ tblG := tG_2 (i := 15) rfl rfl
theorem tk_256 : (Jvm.Cond.soleField "SnagBook$Home" "batch") ∈ tblG := tG_2 (i := 16) rfl rfl
theorem tk_257 : (Jvm.Cond.lays "SnagBook$Home" "SnagBook$Home" "keyDay" "I") ∈ tblG := tG_2 (i := 17) rfl rfl
theorem tk_258 : (Jvm.Cond.soleField "SnagBook$Home" "keyDay") ∈ tblG := tG_2 (i := 18) rfl rfl
theorem tk_259 : (Jvm.Cond.lays "SnagBook$Home" "SnagBook$Home" "inBits" "I") ∈ tblG := tG_2 (i := 19) rfl rfl
theorem tk_260 : (Jvm.Cond.soleField "SnagBook$Home" "inBits") ∈ tblG := tG_2 (i := 20) rfl rfl
theorem tk_261 : (Jvm.Cond.lays "SnagBook$Home" "SnagBook$Home" "kept" "I") ∈ tblG := tG_2 (i := 21) rfl rfl
theorem tk_262 : (Jvm.Cond.soleField "SnagBook$Home" "kept") ∈ tblG := tG_2 (i := 22) rfl rfl
theorem tk_263 : (Jvm.Cond.lays "SnagBook$Home" "SnagBook$Home" "freed" "I") ∈ tblG := tG_2 (i := 23) rfl rfl
theorem tk_264 : (Jvm.Cond.soleField "SnagBook$Home" "freed") ∈ tblG := tG_2 (i := 24) rfl rfl
theorem tk_265 : (Jvm.Cond.lays "SnagBook$Home" "SnagBook$Home" "taken" "I") ∈ tblG := tG_2 (i := 25) rfl rfl
theorem tk_266 : (Jvm.Cond.soleField "SnagBook$Home" "taken") ∈ tblG := tG_2 (i := 26) rfl rfl
theorem tk_267 : (Jvm.Cond.lays "SnagBook$Home" "SnagBook$Home" "sales" "I") ∈ tblG := tG_2 (i := 27) rfl rfl
theorem tk_268 : (Jvm.Cond.soleField "SnagBook$Home" "sales") ∈ tblG := tG_2 (i := 28) rfl rfl
theorem tk_269 : (Jvm.Cond.laysFinal "SnagBook$Home" "SnagBook$Home" "saleDays" "[I") ∈ tblG := tG_2 (i := 29) rfl rfl
theorem tk_270 : (Jvm.Cond.soleField "SnagBook$Home" "saleDays") ∈ tblG := tG_2 (i := 30) rfl rfl
theorem tk_271 : (Jvm.Cond.laysFinal "SnagBook$Home" "SnagBook$Home" "crews" "[I") ∈ tblG := tG_2 (i := 31) rfl rfl
theorem tk_272 : (Jvm.Cond.soleField "SnagBook$Home" "crews") ∈ tblG := tG_2 (i := 32) rfl rfl
theorem tk_273 : (Jvm.Cond.superclass "SnagBook$Home" "java/lang/Object") ∈ tblG := tG_2 (i := 33) rfl rfl
theorem tk_274 : (Jvm.Cond.methodLink "SnagBookLaw" (23 : Nat) ({ cls := "SnagBook", name := "key", desc := "(II)I" } : Jvm.MethodName)) ∈ tblG := tG_2 (i := 34) rfl rfl
theorem tk_275 : (Jvm.Cond.instanceMethod ({ cls := "SnagBook", name := "key", desc := "(II)I" } : Jvm.MethodName)) ∈ tblG := tG_2 (i := 35) rfl rfl
theorem tk_276 : (Jvm.Cond.selects "SnagBook" ({ cls := "SnagBook", name := "key", desc := "(II)I" } : Jvm.MethodName) ({ cls := "SnagBook", name := "key", desc := "(II)I" } : Jvm.MethodName)) ∈ tblG := tG_2 (i := 36) rfl rfl
theorem tk_277 : (Jvm.Cond.code ({ cls := "SnagBook", name := "key", desc := "(II)I" } : Jvm.MethodName) prog_1_method_4_code (4 : Nat) (Option.some Jvm.ClassFile.FieldType.int)) ∈ tblG := tG_2 (i := 37) rfl rfl
theorem tk_278 : (Jvm.Cond.methodLink "SnagBook" (92 : Nat) ({ cls := "SnagBook", name := "homeAt", desc := "(I)LSnagBook$Home;" } : Jvm.MethodName)) ∈ tblG := tG_2 (i := 38) rfl rfl
theorem tk_280 : (Jvm.Cond.instanceMethod ({ cls := "SnagBook", name := "homeAt", desc := "(I)LSnagBook$Home;" } : Jvm.MethodName)) ∈ tblG := tG_2 (i := 40) rfl rfl
theorem tk_281 : (Jvm.Cond.code ({ cls := "SnagBook", name := "homeAt", desc := "(I)LSnagBook$Home;" } : Jvm.MethodName) prog_1_method_49_code (2 : Nat) (Option.some (Jvm.ClassFile.FieldType.object "SnagBook$Home"))) ∈ tblG := tG_2 (i := 41) rfl rfl
theorem tk_282 : (Jvm.Cond.constant "SnagBook" (96 : Nat) (100000 : Int32)) ∈ tblG := tG_2 (i := 42) rfl rfl
theorem tk_283 : (Jvm.Cond.methodLink "SnagBook" (97 : Nat) ({ cls := "SnagBook$Home", name := "hasKey", desc := "()Z" } : Jvm.MethodName)) ∈ tblG := tG_2 (i := 43) rfl rfl
theorem tk_284 : (Jvm.Cond.instanceMethod ({ cls := "SnagBook$Home", name := "hasKey", desc := "()Z" } : Jvm.MethodName)) ∈ tblG := tG_2 (i := 44) rfl rfl
theorem tk_285 : (Jvm.Cond.selects "SnagBook$Home" ({ cls := "SnagBook$Home", name := "hasKey", desc := "()Z" } : Jvm.MethodName) ({ cls := "SnagBook$Home", name := "hasKey", desc := "()Z" } : Jvm.MethodName)) ∈ tblG := tG_2 (i := 45) rfl rfl
theorem tk_286 : (Jvm.Cond.code ({ cls := "SnagBook$Home", name := "hasKey", desc := "()Z" } : Jvm.MethodName) prog_7_method_2_code (1 : Nat) (Option.some Jvm.ClassFile.FieldType.boolean)) ∈ tblG := tG_2 (i := 46) rfl rfl
theorem tk_287 : (Jvm.Cond.methodLink "SnagBookLaw" (28 : Nat) ({ cls := "SnagBook", name := "sell", desc := "(I)I" } : Jvm.MethodName)) ∈ tblG := tG_2 (i := 47) rfl rfl
theorem tk_288 : (Jvm.Cond.instanceMethod ({ cls := "SnagBook", name := "sell", desc := "(I)I" } : Jvm.MethodName)) ∈ tblG := tG_2 (i := 48) rfl rfl
theorem tk_289 : (Jvm.Cond.selects "SnagBook" ({ cls := "SnagBook", name := "sell", desc := "(I)I" } : Jvm.MethodName) ({ cls := "SnagBook", name := "sell", desc := "(I)I" } : Jvm.MethodName)) ∈ tblG := tG_2 (i := 49) rfl rfl
theorem tk_290 : (Jvm.Cond.code ({ cls := "SnagBook", name := "sell", desc := "(I)I" } : Jvm.MethodName) prog_1_method_5_code (3 : Nat) (Option.some Jvm.ClassFile.FieldType.int)) ∈ tblG := tG_2 (i := 50) rfl rfl
theorem tk_291 : (Jvm.Cond.methodLink "SnagBook" (107 : Nat) ({ cls := "SnagBook$Home", name := "addSale", desc := "(I)Z" } : Jvm.MethodName)) ∈ tblG := tG_2 (i := 51) rfl rfl
theorem tk_292 : (Jvm.Cond.instanceMethod ({ cls := "SnagBook$Home", name := "addSale", desc := "(I)Z" } : Jvm.MethodName)) ∈ tblG := tG_2 (i := 52) rfl rfl
theorem tk_293 : (Jvm.Cond.selects "SnagBook$Home" ({ cls := "SnagBook$Home", name := "addSale", desc := "(I)Z" } : Jvm.MethodName) ({ cls := "SnagBook$Home", name := "addSale", desc := "(I)Z" } : Jvm.MethodName)) ∈ tblG := tG_2 (i := 53) rfl rfl
theorem tk_294 : (Jvm.Cond.code ({ cls := "SnagBook$Home", name := "addSale", desc := "(I)Z" } : Jvm.MethodName) prog_7_method_5_code (2 : Nat) (Option.some Jvm.ClassFile.FieldType.boolean)) ∈ tblG := tG_2 (i := 54) rfl rfl
theorem tk_295 : (Jvm.Cond.methodLink "SnagBookLaw" (32 : Nat) ({ cls := "SnagBook", name := "in", desc := "(II)I" } : Jvm.MethodName)) ∈ tblG := tG_2 (i := 55) rfl rfl
theorem tk_296 : (Jvm.Cond.instanceMethod ({ cls := "SnagBook", name := "in", desc := "(II)I" } : Jvm.MethodName)) ∈ tblG := tG_2 (i := 56) rfl rfl
theorem tk_297 : (Jvm.Cond.selects "SnagBook" ({ cls := "SnagBook", name := "in", desc := "(II)I" } : Jvm.MethodName) ({ cls := "SnagBook", name := "in", desc := "(II)I" } : Jvm.MethodName)) ∈ tblG := tG_2 (i := 57) rfl rfl
theorem tk_298 : (Jvm.Cond.code ({ cls := "SnagBook", name := "in", desc := "(II)I" } : Jvm.MethodName) prog_1_method_6_code (5 : Nat) (Option.some Jvm.ClassFile.FieldType.int)) ∈ tblG := tG_2 (i := 58) rfl rfl
theorem tk_299 : (Jvm.Cond.methodLink "SnagBookLaw" (36 : Nat) ({ cls := "SnagBook", name := "crew", desc := "(III)I" } : Jvm.MethodName)) ∈ tblG := tG_2 (i := 59) rfl rfl
theorem tk_300 : (Jvm.Cond.instanceMethod ({ cls := "SnagBook", name := "crew", desc := "(III)I" } : Jvm.MethodName)) ∈ tblG := tG_2 (i := 60) rfl rfl
theorem tk_301 : (Jvm.Cond.selects "SnagBook" ({ cls := "SnagBook", name := "crew", desc := "(III)I" } : Jvm.MethodName) ({ cls := "SnagBook", name := "crew", desc := "(III)I" } : Jvm.MethodName)) ∈ tblG := tG_2 (i := 61) rfl rfl
theorem tk_302 : (Jvm.Cond.code ({ cls := "SnagBook", name := "crew", desc := "(III)I" } : Jvm.MethodName) prog_1_method_7_code (6 : Nat) (Option.some Jvm.ClassFile.FieldType.int)) ∈ tblG := tG_2 (i := 62) rfl rfl
theorem tk_303 : (Jvm.Cond.constant "SnagBook" (117 : Nat) (-2000000000 : Int32)) ∈ tblG := tG_2 (i := 63) rfl rfl
theorem tk_304 : (Jvm.Cond.methodLink "SnagBook" (118 : Nat) ({ cls := "SnagBook$Home", name := "crewOf", desc := "(I)I" } : Jvm.MethodName)) ∈ tblG := tG_2 (i := 64) rfl rfl
theorem tk_305 : (Jvm.Cond.instanceMethod ({ cls := "SnagBook$Home", name := "crewOf", desc := "(I)I" } : Jvm.MethodName)) ∈ tblG := tG_2 (i := 65) rfl rfl
theorem tk_306 : (Jvm.Cond.selects "SnagBook$Home" ({ cls := "SnagBook$Home", name := "crewOf", desc := "(I)I" } : Jvm.MethodName) ({ cls := "SnagBook$Home", name := "crewOf", desc := "(I)I" } : Jvm.MethodName)) ∈ tblG := tG_2 (i := 66) rfl rfl
theorem tk_307 : (Jvm.Cond.code ({ cls := "SnagBook$Home", name := "crewOf", desc := "(I)I" } : Jvm.MethodName) prog_7_method_4_code (2 : Nat) (Option.some Jvm.ClassFile.FieldType.int)) ∈ tblG := tG_2 (i := 67) rfl rfl
theorem tk_308 : (Jvm.Cond.methodLinkNest "SnagBook$Home" (43 : Nat) ({ cls := "SnagBook", name := "isIn", desc := "(II)Z" } : Jvm.MethodName) "SnagBook") ∈ lw_tbl := tT_2 (i := 68) rfl
theorem tk_309 : (Jvm.Cond.methodLink "SnagBookLaw" (40 : Nat) ({ cls := "SnagBook", name := "ofHome", desc := "(II)I" } : Jvm.MethodName)) ∈ tblG := tG_2 (i := 69) rfl rfl
theorem tk_310 : (Jvm.Cond.instanceMethod ({ cls := "SnagBook", name := "ofHome", desc := "(II)I" } : Jvm.MethodName)) ∈ tblG := tG_2 (i := 70) rfl rfl
theorem tk_311 : (Jvm.Cond.selects "SnagBook" ({ cls := "SnagBook", name := "ofHome", desc := "(II)I" } : Jvm.MethodName) ({ cls := "SnagBook", name := "ofHome", desc := "(II)I" } : Jvm.MethodName)) ∈ tblG := tG_2 (i := 71) rfl rfl
theorem tk_312 : (Jvm.Cond.code ({ cls := "SnagBook", name := "ofHome", desc := "(II)I" } : Jvm.MethodName) prog_1_method_8_code (4 : Nat) (Option.some Jvm.ClassFile.FieldType.int)) ∈ tblG := tG_2 (i := 72) rfl rfl
theorem tk_313 : (Jvm.Cond.methodLink "SnagBook" (137 : Nat) ({ cls := "SnagBook", name := "toldIn", desc := "(LSnagBook$Home;)I" } : Jvm.MethodName)) ∈ tblG := tG_2 (i := 73) rfl rfl
theorem tk_315 : (Jvm.Cond.instanceMethod ({ cls := "SnagBook", name := "toldIn", desc := "(LSnagBook$Home;)I" } : Jvm.MethodName)) ∈ tblG := tG_2 (i := 75) rfl rfl
theorem tk_316 : (Jvm.Cond.code ({ cls := "SnagBook", name := "toldIn", desc := "(LSnagBook$Home;)I" } : Jvm.MethodName) prog_1_method_53_code (4 : Nat) (Option.some Jvm.ClassFile.FieldType.int)) ∈ tblG := tG_2 (i := 76) rfl rfl
theorem tk_317 : (Jvm.Cond.methodLink "SnagBook" (141 : Nat) ({ cls := "SnagBook", name := "leftIn", desc := "(LSnagBook$Home;)I" } : Jvm.MethodName)) ∈ tblG := tG_2 (i := 77) rfl rfl
theorem tk_319 : (Jvm.Cond.instanceMethod ({ cls := "SnagBook", name := "leftIn", desc := "(LSnagBook$Home;)I" } : Jvm.MethodName)) ∈ tblG := tG_2 (i := 79) rfl rfl
theorem tk_320 : (Jvm.Cond.code ({ cls := "SnagBook", name := "leftIn", desc := "(LSnagBook$Home;)I" } : Jvm.MethodName) prog_1_method_54_code (4 : Nat) (Option.some Jvm.ClassFile.FieldType.int)) ∈ tblG := tG_2 (i := 80) rfl rfl
theorem tk_321 : (Jvm.Cond.methodLink "SnagBook" (454 : Nat) ({ cls := "SnagBook$Fault", name := "isLeftOn", desc := "(I)Z" } : Jvm.MethodName)) ∈ tblG := tG_2 (i := 81) rfl rfl
theorem tk_322 : (Jvm.Cond.instanceMethod ({ cls := "SnagBook$Fault", name := "isLeftOn", desc := "(I)Z" } : Jvm.MethodName)) ∈ tblG := tG_2 (i := 82) rfl rfl
theorem tk_323 : (Jvm.Cond.selects "SnagBook$Fault" ({ cls := "SnagBook$Fault", name := "isLeftOn", desc := "(I)Z" } : Jvm.MethodName) ({ cls := "SnagBook$Fault", name := "isLeftOn", desc := "(I)Z" } : Jvm.MethodName)) ∈ tblG := tG_2 (i := 83) rfl rfl
theorem tk_324 : (Jvm.Cond.code ({ cls := "SnagBook$Fault", name := "isLeftOn", desc := "(I)Z" } : Jvm.MethodName) prog_3_method_5_code (3 : Nat) (Option.some Jvm.ClassFile.FieldType.boolean)) ∈ tblG := tG_2 (i := 84) rfl rfl
theorem tk_325 : (Jvm.Cond.methodLink "SnagBook$Fault" (88 : Nat) ({ cls := "SnagBook$History", name := "onDay", desc := "(I)I" } : Jvm.MethodName)) ∈ tblG := tG_2 (i := 85) rfl rfl
theorem tk_326 : (Jvm.Cond.instanceMethod ({ cls := "SnagBook$History", name := "onDay", desc := "(I)I" } : Jvm.MethodName)) ∈ tblG := tG_2 (i := 86) rfl rfl
theorem tk_327 : (Jvm.Cond.selects "SnagBook$History" ({ cls := "SnagBook$History", name := "onDay", desc := "(I)I" } : Jvm.MethodName) ({ cls := "SnagBook$History", name := "onDay", desc := "(I)I" } : Jvm.MethodName)) ∈ tblG := tG_2 (i := 87) rfl rfl
theorem tk_328 : (Jvm.Cond.code ({ cls := "SnagBook$History", name := "onDay", desc := "(I)I" } : Jvm.MethodName) prog_6_method_5_code (4 : Nat) (Option.some Jvm.ClassFile.FieldType.int)) ∈ tblG := tG_2 (i := 88) rfl rfl
theorem tk_329 : (Jvm.Cond.methodLink "SnagBook" (144 : Nat) ({ cls := "SnagBook", name := "falseIn", desc := "(LSnagBook$Home;)I" } : Jvm.MethodName)) ∈ tblG := tG_2 (i := 89) rfl rfl
theorem tk_331 : (Jvm.Cond.instanceMethod ({ cls := "SnagBook", name := "falseIn", desc := "(LSnagBook$Home;)I" } : Jvm.MethodName)) ∈ tblG := tG_2 (i := 91) rfl rfl
theorem tk_332 : (Jvm.Cond.code ({ cls := "SnagBook", name := "falseIn", desc := "(LSnagBook$Home;)I" } : Jvm.MethodName) prog_1_method_55_code (4 : Nat) (Option.some Jvm.ClassFile.FieldType.int)) ∈ tblG := tG_2 (i := 92) rfl rfl
theorem tk_333 : (Jvm.Cond.methodLink "SnagBook" (263 : Nat) ({ cls := "SnagBook$History", name := "timesFalse", desc := "(I)I" } : Jvm.MethodName)) ∈ tblG := tG_2 (i := 93) rfl rfl
theorem tk_334 : (Jvm.Cond.instanceMethod ({ cls := "SnagBook$History", name := "timesFalse", desc := "(I)I" } : Jvm.MethodName)) ∈ tblG := tG_2 (i := 94) rfl rfl
theorem tk_335 : (Jvm.Cond.selects "SnagBook$History" ({ cls := "SnagBook$History", name := "timesFalse", desc := "(I)I" } : Jvm.MethodName) ({ cls := "SnagBook$History", name := "timesFalse", desc := "(I)I" } : Jvm.MethodName)) ∈ tblG := tG_2 (i := 95) rfl rfl
theorem tk_336 : (Jvm.Cond.code ({ cls := "SnagBook$History", name := "timesFalse", desc := "(I)I" } : Jvm.MethodName) prog_6_method_10_code (4 : Nat) (Option.some Jvm.ClassFile.FieldType.int)) ∈ tblG := tG_2 (i := 96) rfl rfl
theorem tk_337 : (Jvm.Cond.methodLink "SnagBook$History" (29 : Nat) ({ cls := "SnagBook$History", name := "isSaidAt", desc := "(II)Z" } : Jvm.MethodName)) ∈ tblG := tG_2 (i := 97) rfl rfl
theorem tk_339 : (Jvm.Cond.instanceMethod ({ cls := "SnagBook$History", name := "isSaidAt", desc := "(II)Z" } : Jvm.MethodName)) ∈ tblG := tG_2 (i := 99) rfl rfl
theorem tk_340 : (Jvm.Cond.instantiable "SnagBook$History" (4 : Nat)) ∈ tblG := tG_2 (i := 100) rfl rfl
theorem tk_341 : (Jvm.Cond.code ({ cls := "SnagBook$History", name := "isSaidAt", desc := "(II)Z" } : Jvm.MethodName) prog_6_method_11_code (3 : Nat) (Option.some Jvm.ClassFile.FieldType.boolean)) ∈ tblG := tG_2 (i := 101) rfl rfl
theorem tk_342 : (Jvm.Cond.methodLink "SnagBook" (147 : Nat) ({ cls := "SnagBook", name := "brokenIn", desc := "(LSnagBook$Home;)I" } : Jvm.MethodName)) ∈ tblG := tG_2 (i := 102) rfl rfl
theorem tk_344 : (Jvm.Cond.instanceMethod ({ cls := "SnagBook", name := "brokenIn", desc := "(LSnagBook$Home;)I" } : Jvm.MethodName)) ∈ tblG := tG_2 (i := 104) rfl rfl
theorem tk_345 : (Jvm.Cond.code ({ cls := "SnagBook", name := "brokenIn", desc := "(LSnagBook$Home;)I" } : Jvm.MethodName) prog_1_method_56_code (4 : Nat) (Option.some Jvm.ClassFile.FieldType.int)) ∈ tblG := tG_2 (i := 105) rfl rfl
theorem tk_346 : (Jvm.Cond.methodLink "SnagBook" (457 : Nat) ({ cls := "SnagBook$Fault", name := "brokenBy", desc := "(I)I" } : Jvm.MethodName)) ∈ tblG := tG_2 (i := 106) rfl rfl
theorem tk_347 : (Jvm.Cond.instanceMethod ({ cls := "SnagBook$Fault", name := "brokenBy", desc := "(I)I" } : Jvm.MethodName)) ∈ tblG := tG_2 (i := 107) rfl rfl
theorem tk_348 : (Jvm.Cond.selects "SnagBook$Fault" ({ cls := "SnagBook$Fault", name := "brokenBy", desc := "(I)I" } : Jvm.MethodName) ({ cls := "SnagBook$Fault", name := "brokenBy", desc := "(I)I" } : Jvm.MethodName)) ∈ tblG := tG_2 (i := 108) rfl rfl
theorem tk_349 : (Jvm.Cond.code ({ cls := "SnagBook$Fault", name := "brokenBy", desc := "(I)I" } : Jvm.MethodName) prog_3_method_13_code (2 : Nat) (Option.some Jvm.ClassFile.FieldType.int)) ∈ tblG := tG_2 (i := 109) rfl rfl
theorem tk_350 : (Jvm.Cond.methodLink "SnagBook$Fault" (111 : Nat) ({ cls := "SnagBook$Fault", name := "promiseOn", desc := "(I)I" } : Jvm.MethodName)) ∈ tblG := tG_2 (i := 110) rfl rfl
theorem tk_351 : (Jvm.Cond.instanceMethod ({ cls := "SnagBook$Fault", name := "promiseOn", desc := "(I)I" } : Jvm.MethodName)) ∈ tblG := tG_2 (i := 111) rfl rfl
theorem tk_352 : (Jvm.Cond.selects "SnagBook$Fault" ({ cls := "SnagBook$Fault", name := "promiseOn", desc := "(I)I" } : Jvm.MethodName) ({ cls := "SnagBook$Fault", name := "promiseOn", desc := "(I)I" } : Jvm.MethodName)) ∈ tblG := tG_2 (i := 112) rfl rfl
theorem tk_353 : (Jvm.Cond.code ({ cls := "SnagBook$Fault", name := "promiseOn", desc := "(I)I" } : Jvm.MethodName) prog_3_method_12_code (2 : Nat) (Option.some Jvm.ClassFile.FieldType.int)) ∈ tblG := tG_2 (i := 113) rfl rfl
theorem tk_354 : (Jvm.Cond.methodLink "SnagBookLaw" (44 : Nat) ({ cls := "SnagBook", name := "kind", desc := "(III)I" } : Jvm.MethodName)) ∈ tblG := tG_2 (i := 114) rfl rfl
theorem tk_355 : (Jvm.Cond.instanceMethod ({ cls := "SnagBook", name := "kind", desc := "(III)I" } : Jvm.MethodName)) ∈ tblG := tG_2 (i := 115) rfl rfl
theorem tk_356 : (Jvm.Cond.selects "SnagBook" ({ cls := "SnagBook", name := "kind", desc := "(III)I" } : Jvm.MethodName) ({ cls := "SnagBook", name := "kind", desc := "(III)I" } : Jvm.MethodName)) ∈ tblG := tG_2 (i := 116) rfl rfl
theorem tk_357 : (Jvm.Cond.code ({ cls := "SnagBook", name := "kind", desc := "(III)I" } : Jvm.MethodName) prog_1_method_9_code (4 : Nat) (Option.some Jvm.ClassFile.FieldType.int)) ∈ tblG := tG_2 (i := 117) rfl rfl
theorem tk_358 : (Jvm.Cond.instantiable "SnagBook$Kind" (3 : Nat)) ∈ tblG := tG_2 (i := 118) rfl rfl
theorem tk_359 : (Jvm.Cond.methodLink "SnagBook" (159 : Nat) ({ cls := "SnagBook$Kind", name := "<init>", desc := "(III)V" } : Jvm.MethodName)) ∈ tblG := tG_2 (i := 119) rfl rfl
theorem tk_360 : (Jvm.Cond.instanceMethod ({ cls := "SnagBook$Kind", name := "<init>", desc := "(III)V" } : Jvm.MethodName)) ∈ tblG := tG_2 (i := 120) rfl rfl
theorem tk_361 : (Jvm.Cond.code ({ cls := "SnagBook$Kind", name := "<init>", desc := "(III)V" } : Jvm.MethodName) prog_9_method_1_code (4 : Nat) (Option.none : Option Jvm.ClassFile.FieldType)) ∈ tblG := tG_2 (i := 121) rfl rfl
theorem tk_362 : (Jvm.Cond.methodLink "SnagBook$Kind" (1 : Nat) ({ cls := "java/lang/Object", name := "<init>", desc := "()V" } : Jvm.MethodName)) ∈ tblG := tG_2 (i := 122) rfl rfl
theorem tk_363 : (Jvm.Cond.fieldLink "SnagBook$Kind" (7 : Nat) "SnagBook$Kind" "trade" "I") ∈ tblG := tG_2 (i := 123) rfl rfl
theorem tk_364 : (Jvm.Cond.fieldLink "SnagBook$Diary" (79 : Nat) "SnagBook$Kind" "trade" "I") ∈ tblG := tG_2 (i := 124) rfl rfl
theorem tk_365 : (Jvm.Cond.fieldLink "SnagBook" (484 : Nat) "SnagBook$Kind" "trade" "I") ∈ tblG := tG_2 (i := 125) rfl rfl
theorem tk_366 : (Jvm.Cond.fieldLink "SnagBook$Kind" (13 : Nat) "SnagBook$Kind" "rate" "I") ∈ tblG := tG_2 (i := 126) rfl rfl
theorem tk_367 : (Jvm.Cond.fieldLink "SnagBook$Fault" (102 : Nat) "SnagBook$Kind" "rate" "I") ∈ tblG := tG_2 (i := 127) rfl rfl
theorem tk_368 : (Jvm.Cond.fieldLink "SnagBook$Kind" (16 : Nat) "SnagBook$Kind" "flags" "I") ∈ tblG := tG_2 (i := 128) rfl rfl
theorem tk_369 : (Jvm.Cond.laysFinal "SnagBook$Kind" "SnagBook$Kind" "trade" "I") ∈ tblG := tG_2 (i := 129) rfl rfl
theorem tk_370 : (Jvm.Cond.soleField "SnagBook$Kind" "trade") ∈ tblG := tG_2 (i := 130) rfl rfl
theorem tk_371 : (Jvm.Cond.laysFinal "SnagBook$Kind" "SnagBook$Kind" "rate" "I") ∈ tblG := tG_2 (i := 131) rfl rfl
theorem tk_372 : (Jvm.Cond.soleField "SnagBook$Kind" "rate") ∈ tblG := tG_2 (i := 132) rfl rfl
theorem tk_373 : (Jvm.Cond.laysFinal "SnagBook$Kind" "SnagBook$Kind" "flags" "I") ∈ tblG := tG_2 (i := 133) rfl rfl
theorem tk_374 : (Jvm.Cond.soleField "SnagBook$Kind" "flags") ∈ tblG := tG_2 (i := 134) rfl rfl
theorem tk_375 : (Jvm.Cond.superclass "SnagBook$Kind" "java/lang/Object") ∈ tblG := tG_2 (i := 135) rfl rfl
theorem tk_376 : (Jvm.Cond.methodLink "SnagBookLaw" (48 : Nat) ({ cls := "SnagBook", name := "fault", desc := "(IIII)I" } : Jvm.MethodName)) ∈ tblG := tG_2 (i := 136) rfl rfl
theorem tk_377 : (Jvm.Cond.instanceMethod ({ cls := "SnagBook", name := "fault", desc := "(IIII)I" } : Jvm.MethodName)) ∈ tblG := tG_2 (i := 137) rfl rfl
theorem tk_378 : (Jvm.Cond.selects "SnagBook" ({ cls := "SnagBook", name := "fault", desc := "(IIII)I" } : Jvm.MethodName) ({ cls := "SnagBook", name := "fault", desc := "(IIII)I" } : Jvm.MethodName)) ∈ tblG := tG_2 (i := 138) rfl rfl
theorem tk_379 : (Jvm.Cond.code ({ cls := "SnagBook", name := "fault", desc := "(IIII)I" } : Jvm.MethodName) prog_1_method_10_code (8 : Nat) (Option.some Jvm.ClassFile.FieldType.int)) ∈ tblG := tG_2 (i := 139) rfl rfl
theorem tk_380 : (Jvm.Cond.methodLink "SnagBook" (162 : Nat) ({ cls := "SnagBook", name := "kindAt", desc := "(I)LSnagBook$Kind;" } : Jvm.MethodName)) ∈ tblG := tG_2 (i := 140) rfl rfl
theorem tk_382 : (Jvm.Cond.instanceMethod ({ cls := "SnagBook", name := "kindAt", desc := "(I)LSnagBook$Kind;" } : Jvm.MethodName)) ∈ tblG := tG_2 (i := 142) rfl rfl
theorem tk_383 : (Jvm.Cond.code ({ cls := "SnagBook", name := "kindAt", desc := "(I)LSnagBook$Kind;" } : Jvm.MethodName) prog_1_method_50_code (2 : Nat) (Option.some (Jvm.ClassFile.FieldType.object "SnagBook$Kind"))) ∈ tblG := tG_2 (i := 143) rfl rfl
theorem tk_384 : (Jvm.Cond.instantiable "SnagBook$Fault" (16 : Nat)) ∈ tblG := tG_2 (i := 144) rfl rfl
theorem tk_385 : (Jvm.Cond.methodLink "SnagBook" (169 : Nat) ({ cls := "SnagBook$Fault", name := "<init>", desc := "(ILSnagBook$Home;IILSnagBook$Kind;II)V" } : Jvm.MethodName)) ∈ tblG := tG_2 (i := 145) rfl rfl
theorem tk_386 : (Jvm.Cond.instanceMethod ({ cls := "SnagBook$Fault", name := "<init>", desc := "(ILSnagBook$Home;IILSnagBook$Kind;II)V" } : Jvm.MethodName)) ∈ tblG := tG_2 (i := 146) rfl rfl
theorem tk_387 : (Jvm.Cond.code ({ cls := "SnagBook$Fault", name := "<init>", desc := "(ILSnagBook$Home;IILSnagBook$Kind;II)V" } : Jvm.MethodName) prog_3_method_1_code (8 : Nat) (Option.none : Option Jvm.ClassFile.FieldType)) ∈ tblG := tG_2 (i := 147) rfl rfl
theorem tk_388 : (Jvm.Cond.methodLink "SnagBook$Fault" (3 : Nat) ({ cls := "java/lang/Object", name := "<init>", desc := "()V" } : Jvm.MethodName)) ∈ tblG := tG_2 (i := 148) rfl rfl
theorem tk_389 : (Jvm.Cond.classLink "SnagBook$Fault" (9 : Nat) "SnagBook$History") ∈ tblG := tG_2 (i := 149) rfl rfl
theorem tk_390 : (Jvm.Cond.methodLinkNest "SnagBook$Fault" (11 : Nat) ({ cls := "SnagBook$History", name := "<init>", desc := "()V" } : Jvm.MethodName) "SnagBook") ∈ lw_tbl := tT_2 (i := 150) rfl
theorem tk_391 : (Jvm.Cond.instanceMethod ({ cls := "SnagBook$History", name := "<init>", desc := "()V" } : Jvm.MethodName)) ∈ tblG := tG_2 (i := 151) rfl rfl
theorem tk_392 : (Jvm.Cond.code ({ cls := "SnagBook$History", name := "<init>", desc := "()V" } : Jvm.MethodName) prog_6_method_1_code (1 : Nat) (Option.none : Option Jvm.ClassFile.FieldType)) ∈ tblG := tG_2 (i := 152) rfl rfl
theorem tk_393 : (Jvm.Cond.methodLink "SnagBook$History" (3 : Nat) ({ cls := "java/lang/Object", name := "<init>", desc := "()V" } : Jvm.MethodName)) ∈ tblG := tG_2 (i := 153) rfl rfl
theorem tk_394 : (Jvm.Cond.fieldLink "SnagBook$History" (11 : Nat) "SnagBook$History" "days" "[I") ∈ tblG := tG_2 (i := 154) rfl rfl
theorem tk_395 : (Jvm.Cond.fieldLink "SnagBook$History" (15 : Nat) "SnagBook$History" "states" "[I") ∈ tblG := tG_2 (i := 155) rfl rfl
theorem tk_396 : (Jvm.Cond.fieldLink "SnagBook$History" (18 : Nat) "SnagBook$History" "crews" "[I") ∈ tblG := tG_2 (i := 156) rfl rfl
theorem tk_397 : (Jvm.Cond.fieldLink "SnagBook$History" (21 : Nat) "SnagBook$History" "size" "I") ∈ tblG := tG_2 (i := 157) rfl rfl
theorem tk_398 : (Jvm.Cond.laysFinal "SnagBook$History" "SnagBook$History" "days" "[I") ∈ tblG := tG_2 (i := 158) rfl rfl
theorem tk_399 : (Jvm.Cond.soleField "SnagBook$History" "days") ∈ tblG := tG_2 (i := 159) rfl rfl
theorem tk_400 : (Jvm.Cond.laysFinal "SnagBook$History" "SnagBook$History" "states" "[I") ∈ tblG := tG_2 (i := 160) rfl rfl
theorem tk_401 : (Jvm.Cond.soleField "SnagBook$History" "states") ∈ tblG := tG_2 (i := 161) rfl rfl
theorem tk_402 : (Jvm.Cond.laysFinal "SnagBook$History" "SnagBook$History" "crews" "[I") ∈ tblG := tG_2 (i := 162) rfl rfl
theorem tk_403 : (Jvm.Cond.soleField "SnagBook$History" "crews") ∈ tblG := tG_2 (i := 163) rfl rfl
theorem tk_404 : (Jvm.Cond.lays "SnagBook$History" "SnagBook$History" "size" "I") ∈ tblG := tG_2 (i := 164) rfl rfl
theorem tk_405 : (Jvm.Cond.soleField "SnagBook$History" "size") ∈ tblG := tG_2 (i := 165) rfl rfl
theorem tk_406 : (Jvm.Cond.superclass "SnagBook$History" "java/lang/Object") ∈ tblG := tG_2 (i := 166) rfl rfl
theorem tk_407 : (Jvm.Cond.methodLink "SnagBook$Fault" (48 : Nat) ({ cls := "SnagBook$Kind", name := "has", desc := "(I)Z" } : Jvm.MethodName)) ∈ tblG := tG_2 (i := 167) rfl rfl
theorem tk_408 : (Jvm.Cond.instanceMethod ({ cls := "SnagBook$Kind", name := "has", desc := "(I)Z" } : Jvm.MethodName)) ∈ tblG := tG_2 (i := 168) rfl rfl
theorem tk_409 : (Jvm.Cond.selects "SnagBook$Kind" ({ cls := "SnagBook$Kind", name := "has", desc := "(I)Z" } : Jvm.MethodName) ({ cls := "SnagBook$Kind", name := "has", desc := "(I)Z" } : Jvm.MethodName)) ∈ tblG := tG_2 (i := 169) rfl rfl
theorem tk_410 : (Jvm.Cond.code ({ cls := "SnagBook$Kind", name := "has", desc := "(I)Z" } : Jvm.MethodName) prog_9_method_2_code (2 : Nat) (Option.some Jvm.ClassFile.FieldType.boolean)) ∈ tblG := tG_2 (i := 170) rfl rfl
theorem tk_411 : (Jvm.Cond.classLink "SnagBook$Fault" (54 : Nat) "SnagBook$Gauge") ∈ tblG := tG_2 (i := 171) rfl rfl
theorem tk_412 : (Jvm.Cond.instantiable "SnagBook$Gauge" (3 : Nat)) ∈ tblG := tG_2 (i := 172) rfl rfl
theorem tk_413 : (Jvm.Cond.methodLinkNest "SnagBook$Fault" (56 : Nat) ({ cls := "SnagBook$Gauge", name := "<init>", desc := "()V" } : Jvm.MethodName) "SnagBook") ∈ lw_tbl := tT_2 (i := 173) rfl
theorem tk_414 : (Jvm.Cond.instanceMethod ({ cls := "SnagBook$Gauge", name := "<init>", desc := "()V" } : Jvm.MethodName)) ∈ tblG := tG_2 (i := 174) rfl rfl
theorem tk_415 : (Jvm.Cond.code ({ cls := "SnagBook$Gauge", name := "<init>", desc := "()V" } : Jvm.MethodName) prog_5_method_1_code (1 : Nat) (Option.none : Option Jvm.ClassFile.FieldType)) ∈ tblG := tG_2 (i := 175) rfl rfl
theorem tk_416 : (Jvm.Cond.methodLink "SnagBook$Gauge" (3 : Nat) ({ cls := "java/lang/Object", name := "<init>", desc := "()V" } : Jvm.MethodName)) ∈ tblG := tG_2 (i := 176) rfl rfl
theorem tk_417 : (Jvm.Cond.fieldLink "SnagBook$Gauge" (11 : Nat) "SnagBook$Gauge" "days" "[I") ∈ tblG := tG_2 (i := 177) rfl rfl
theorem tk_418 : (Jvm.Cond.fieldLink "SnagBook$Gauge" (15 : Nat) "SnagBook$Gauge" "widths" "[I") ∈ tblG := tG_2 (i := 178) rfl rfl
theorem tk_419 : (Jvm.Cond.fieldLink "SnagBook$Gauge" (18 : Nat) "SnagBook$Gauge" "size" "I") ∈ tblG := tG_2 (i := 179) rfl rfl
theorem tk_420 : (Jvm.Cond.fieldLink "SnagBook" (317 : Nat) "SnagBook$Gauge" "size" "I") ∈ tblG := tG_2 (i := 180) rfl rfl
theorem tk_421 : (Jvm.Cond.laysFinal "SnagBook$Gauge" "SnagBook$Gauge" "days" "[I") ∈ tblG := tG_2 (i := 181) rfl rfl
theorem tk_422 : (Jvm.Cond.soleField "SnagBook$Gauge" "days") ∈ tblG := tG_2 (i := 182) rfl rfl
theorem tk_423 : (Jvm.Cond.laysFinal "SnagBook$Gauge" "SnagBook$Gauge" "widths" "[I") ∈ tblG := tG_2 (i := 183) rfl rfl
theorem tk_424 : (Jvm.Cond.soleField "SnagBook$Gauge" "widths") ∈ tblG := tG_2 (i := 184) rfl rfl
theorem tk_425 : (Jvm.Cond.lays "SnagBook$Gauge" "SnagBook$Gauge" "size" "I") ∈ tblG := tG_2 (i := 185) rfl rfl
theorem tk_426 : (Jvm.Cond.soleField "SnagBook$Gauge" "size") ∈ tblG := tG_2 (i := 186) rfl rfl
theorem tk_427 : (Jvm.Cond.superclass "SnagBook$Gauge" "java/lang/Object") ∈ tblG := tG_2 (i := 187) rfl rfl
theorem tk_428 : (Jvm.Cond.fieldLink "SnagBook$Fault" (25 : Nat) "SnagBook$Fault" "number" "I") ∈ tblG := tG_2 (i := 188) rfl rfl
theorem tk_429 : (Jvm.Cond.fieldLink "SnagBook" (277 : Nat) "SnagBook$Fault" "number" "I") ∈ tblG := tG_2 (i := 189) rfl rfl
theorem tk_430 : (Jvm.Cond.fieldLink "SnagBook$Fault" (28 : Nat) "SnagBook$Fault" "home" "LSnagBook$Home;") ∈ tblG := tG_2 (i := 190) rfl rfl
theorem tk_431 : (Jvm.Cond.fieldLink "SnagBook$Diary" (103 : Nat) "SnagBook$Fault" "home" "LSnagBook$Home;") ∈ tblG := tG_2 (i := 191) rfl rfl
theorem tk_432 : (Jvm.Cond.fieldLink "SnagBook" (222 : Nat) "SnagBook$Fault" "home" "LSnagBook$Home;") ∈ tblG := tG_2 (i := 192) rfl rfl
theorem tk_433 : (Jvm.Cond.fieldLink "SnagBook$Fault" (32 : Nat) "SnagBook$Fault" "room" "I") ∈ tblG := tG_2 (i := 193) rfl rfl
theorem tk_434 : (Jvm.Cond.fieldLink "SnagBook" (229 : Nat) "SnagBook$Fault" "room" "I") ∈ tblG := tG_2 (i := 194) rfl rfl
theorem tk_435 : (Jvm.Cond.fieldLink "SnagBook$Fault" (35 : Nat) "SnagBook$Fault" "kindNumber" "I") ∈ tblG := tG_2 (i := 195) rfl rfl
theorem tk_436 : (Jvm.Cond.fieldLink "SnagBook" (232 : Nat) "SnagBook$Fault" "kindNumber" "I") ∈ tblG := tG_2 (i := 196) rfl rfl
theorem tk_437 : (Jvm.Cond.fieldLink "SnagBook$Fault" (38 : Nat) "SnagBook$Fault" "kind" "LSnagBook$Kind;") ∈ tblG := tG_2 (i := 197) rfl rfl
theorem tk_438 : (Jvm.Cond.fieldLink "SnagBook$Diary" (75 : Nat) "SnagBook$Fault" "kind" "LSnagBook$Kind;") ∈ tblG := tG_2 (i := 198) rfl rfl
theorem tk_439 : (Jvm.Cond.fieldLink "SnagBook" (266 : Nat) "SnagBook$Fault" "kind" "LSnagBook$Kind;") ∈ tblG := tG_2 (i := 199) rfl rfl
theorem tk_440 : (Jvm.Cond.fieldLink "SnagBook$Fault" (42 : Nat) "SnagBook$Fault" "severity" "I") ∈ tblG := tG_2 (i := 200) rfl rfl
theorem tk_441 : (Jvm.Cond.fieldLink "SnagBook$Diary" (95 : Nat) "SnagBook$Fault" "severity" "I") ∈ tblG := tG_2 (i := 201) rfl rfl
theorem tk_442 : (Jvm.Cond.fieldLink "SnagBook" (235 : Nat) "SnagBook$Fault" "severity" "I") ∈ tblG := tG_2 (i := 202) rfl rfl
theorem tk_443 : (Jvm.Cond.fieldLink "SnagBook$Fault" (45 : Nat) "SnagBook$Fault" "eye" "I") ∈ tblG := tG_2 (i := 203) rfl rfl
theorem tk_444 : (Jvm.Cond.fieldLink "SnagBook" (241 : Nat) "SnagBook$Fault" "eye" "I") ∈ tblG := tG_2 (i := 204) rfl rfl
theorem tk_445 : (Jvm.Cond.fieldLink "SnagBook$Fault" (12 : Nat) "SnagBook$Fault" "history" "LSnagBook$History;") ∈ tblG := tG_2 (i := 205) rfl rfl
theorem tk_446 : (Jvm.Cond.fieldLink "SnagBook" (187 : Nat) "SnagBook$Fault" "history" "LSnagBook$History;") ∈ tblG := tG_2 (i := 206) rfl rfl
theorem tk_447 : (Jvm.Cond.fieldLink "SnagBook$Fault" (57 : Nat) "SnagBook$Fault" "gauge" "LSnagBook$Gauge;") ∈ tblG := tG_2 (i := 207) rfl rfl
theorem tk_448 : (Jvm.Cond.fieldLink "SnagBook" (306 : Nat) "SnagBook$Fault" "gauge" "LSnagBook$Gauge;") ∈ tblG := tG_2 (i := 208) rfl rfl
theorem tk_449 : (Jvm.Cond.fieldLink "SnagBook$Fault" (61 : Nat) "SnagBook$Fault" "day" "I") ∈ tblG := tG_2 (i := 209) rfl rfl
theorem tk_450 : (Jvm.Cond.fieldLink "SnagBook" (238 : Nat) "SnagBook$Fault" "day" "I") ∈ tblG := tG_2 (i := 210) rfl rfl
theorem tk_451 : (Jvm.Cond.fieldLink "SnagBook$Fault" (73 : Nat) "SnagBook$Fault" "listed" "Z") ∈ tblG := tG_2 (i := 211) rfl rfl
theorem tk_452 : (Jvm.Cond.fieldLink "SnagBook" (244 : Nat) "SnagBook$Fault" "listed" "Z") ∈ tblG := tG_2 (i := 212) rfl rfl
theorem tk_453 : (Jvm.Cond.fieldLink "SnagBook$Fault" (77 : Nat) "SnagBook$Fault" "isNew" "Z") ∈ tblG := tG_2 (i := 213) rfl rfl
theorem tk_454 : (Jvm.Cond.fieldLink "SnagBook" (248 : Nat) "SnagBook$Fault" "isNew" "Z") ∈ tblG := tG_2 (i := 214) rfl rfl
theorem tk_455 : (Jvm.Cond.fieldLink "SnagBook$Fault" (18 : Nat) "SnagBook$Fault" "promiseDay" "I") ∈ tblG := tG_2 (i := 215) rfl rfl
theorem tk_456 : (Jvm.Cond.fieldLink "SnagBook$Diary" (92 : Nat) "SnagBook$Fault" "promiseDay" "I") ∈ tblG := tG_2 (i := 216) rfl rfl
theorem tk_457 : (Jvm.Cond.fieldLink "SnagBook$Fault" (22 : Nat) "SnagBook$Fault" "promiseIs" "I") ∈ tblG := tG_2 (i := 217) rfl rfl
theorem tk_458 : (Jvm.Cond.fieldLink "SnagBook$Fault" (108 : Nat) "SnagBook$Fault" "brokenBefore" "I") ∈ tblG := tG_2 (i := 218) rfl rfl
theorem tk_459 : (Jvm.Cond.fieldLink "SnagBook$Fault" (117 : Nat) "SnagBook$Fault" "moved" "I") ∈ tblG := tG_2 (i := 219) rfl rfl
theorem tk_460 : (Jvm.Cond.fieldLink "SnagBook" (257 : Nat) "SnagBook$Fault" "moved" "I") ∈ tblG := tG_2 (i := 220) rfl rfl
theorem tk_461 : (Jvm.Cond.laysFinal "SnagBook$Fault" "SnagBook$Fault" "number" "I") ∈ tblG := tG_2 (i := 221) rfl rfl
theorem tk_462 : (Jvm.Cond.soleField "SnagBook$Fault" "number") ∈ tblG := tG_2 (i := 222) rfl rfl
theorem tk_463 : (Jvm.Cond.laysFinal "SnagBook$Fault" "SnagBook$Fault" "home" "LSnagBook$Home;") ∈ tblG := tG_2 (i := 223) rfl rfl
theorem tk_464 : (Jvm.Cond.soleField "SnagBook$Fault" "home") ∈ tblG := tG_2 (i := 224) rfl rfl
theorem tk_465 : (Jvm.Cond.laysFinal "SnagBook$Fault" "SnagBook$Fault" "room" "I") ∈ tblG := tG_2 (i := 225) rfl rfl
theorem tk_466 : (Jvm.Cond.soleField "SnagBook$Fault" "room") ∈ tblG := tG_2 (i := 226) rfl rfl
theorem tk_467 : (Jvm.Cond.laysFinal "SnagBook$Fault" "SnagBook$Fault" "kindNumber" "I") ∈ tblG := tG_2 (i := 227) rfl rfl
theorem tk_468 : (Jvm.Cond.soleField "SnagBook$Fault" "kindNumber") ∈ tblG := tG_2 (i := 228) rfl rfl
theorem tk_469 : (Jvm.Cond.laysFinal "SnagBook$Fault" "SnagBook$Fault" "kind" "LSnagBook$Kind;") ∈ tblG := tG_2 (i := 229) rfl rfl
theorem tk_470 : (Jvm.Cond.soleField "SnagBook$Fault" "kind") ∈ tblG := tG_2 (i := 230) rfl rfl
theorem tk_471 : (Jvm.Cond.laysFinal "SnagBook$Fault" "SnagBook$Fault" "severity" "I") ∈ tblG := tG_2 (i := 231) rfl rfl
theorem tk_472 : (Jvm.Cond.soleField "SnagBook$Fault" "severity") ∈ tblG := tG_2 (i := 232) rfl rfl
theorem tk_473 : (Jvm.Cond.laysFinal "SnagBook$Fault" "SnagBook$Fault" "eye" "I") ∈ tblG := tG_2 (i := 233) rfl rfl
theorem tk_474 : (Jvm.Cond.soleField "SnagBook$Fault" "eye") ∈ tblG := tG_2 (i := 234) rfl rfl
theorem tk_475 : (Jvm.Cond.laysFinal "SnagBook$Fault" "SnagBook$Fault" "history" "LSnagBook$History;") ∈ tblG := tG_2 (i := 235) rfl rfl
theorem tk_476 : (Jvm.Cond.soleField "SnagBook$Fault" "history") ∈ tblG := tG_2 (i := 236) rfl rfl
theorem tk_477 : (Jvm.Cond.laysFinal "SnagBook$Fault" "SnagBook$Fault" "gauge" "LSnagBook$Gauge;") ∈ tblG := tG_2 (i := 237) rfl rfl
theorem tk_478 : (Jvm.Cond.soleField "SnagBook$Fault" "gauge") ∈ tblG := tG_2 (i := 238) rfl rfl
theorem tk_479 : (Jvm.Cond.lays "SnagBook$Fault" "SnagBook$Fault" "day" "I") ∈ tblG := tG_2 (i := 239) rfl rfl
theorem tk_480 : (Jvm.Cond.soleField "SnagBook$Fault" "day") ∈ tblG := tG_3 (i := 0) rfl rfl
theorem tk_481 : (Jvm.Cond.lays "SnagBook$Fault" "SnagBook$Fault" "listed" "Z") ∈ tblG := tG_3 (i := 1) rfl rfl
theorem tk_482 : (Jvm.Cond.soleField "SnagBook$Fault" "listed") ∈ tblG := tG_3 (i := 2) rfl rfl
theorem tk_483 : (Jvm.Cond.lays "SnagBook$Fault" "SnagBook$Fault" "isNew" "Z") ∈ tblG := tG_3 (i := 3) rfl rfl
theorem tk_484 : (Jvm.Cond.soleField "SnagBook$Fault" "isNew") ∈ tblG := tG_3 (i := 4) rfl rfl
theorem tk_485 : (Jvm.Cond.lays "SnagBook$Fault" "SnagBook$Fault" "promiseDay" "I") ∈ tblG := tG_3 (i := 5) rfl rfl
theorem tk_486 : (Jvm.Cond.soleField "SnagBook$Fault" "promiseDay") ∈ tblG := tG_3 (i := 6) rfl rfl
theorem tk_487 : (Jvm.Cond.lays "SnagBook$Fault" "SnagBook$Fault" "promiseIs" "I") ∈ tblG := tG_3 (i := 7) rfl rfl
theorem tk_488 : (Jvm.Cond.soleField "SnagBook$Fault" "promiseIs") ∈ tblG := tG_3 (i := 8) rfl rfl
theorem tk_489 : (Jvm.Cond.lays "SnagBook$Fault" "SnagBook$Fault" "brokenBefore" "I") ∈ tblG := tG_3 (i := 9) rfl rfl
theorem tk_490 : (Jvm.Cond.soleField "SnagBook$Fault" "brokenBefore") ∈ tblG := tG_3 (i := 10) rfl rfl
theorem tk_491 : (Jvm.Cond.lays "SnagBook$Fault" "SnagBook$Fault" "moved" "I") ∈ tblG := tG_3 (i := 11) rfl rfl
theorem tk_492 : (Jvm.Cond.soleField "SnagBook$Fault" "moved") ∈ tblG := tG_3 (i := 12) rfl rfl
theorem tk_493 : (Jvm.Cond.superclass "SnagBook$Fault" "java/lang/Object") ∈ tblG := tG_3 (i := 13) rfl rfl
theorem tk_494 : (Jvm.Cond.methodLink "SnagBook" (172 : Nat) ({ cls := "SnagBook", name := "isToldBefore", desc := "(LSnagBook$Fault;)Z" } : Jvm.MethodName)) ∈ tblG := tG_3 (i := 14) rfl rfl
theorem tk_496 : (Jvm.Cond.instanceMethod ({ cls := "SnagBook", name := "isToldBefore", desc := "(LSnagBook$Fault;)Z" } : Jvm.MethodName)) ∈ tblG := tG_3 (i := 16) rfl rfl
theorem tk_497 : (Jvm.Cond.code ({ cls := "SnagBook", name := "isToldBefore", desc := "(LSnagBook$Fault;)Z" } : Jvm.MethodName) prog_1_method_61_code (5 : Nat) (Option.some Jvm.ClassFile.FieldType.boolean)) ∈ tblG := tG_3 (i := 17) rfl rfl
theorem tk_498 : (Jvm.Cond.methodLink "SnagBook" (464 : Nat) ({ cls := "SnagBook$Fault", name := "isSameThing", desc := "(LSnagBook$Fault;)Z" } : Jvm.MethodName)) ∈ tblG := tG_3 (i := 18) rfl rfl
theorem tk_499 : (Jvm.Cond.instanceMethod ({ cls := "SnagBook$Fault", name := "isSameThing", desc := "(LSnagBook$Fault;)Z" } : Jvm.MethodName)) ∈ tblG := tG_3 (i := 19) rfl rfl
theorem tk_500 : (Jvm.Cond.selects "SnagBook$Fault" ({ cls := "SnagBook$Fault", name := "isSameThing", desc := "(LSnagBook$Fault;)Z" } : Jvm.MethodName) ({ cls := "SnagBook$Fault", name := "isSameThing", desc := "(LSnagBook$Fault;)Z" } : Jvm.MethodName)) ∈ tblG := tG_3 (i := 20) rfl rfl
theorem tk_501 : (Jvm.Cond.code ({ cls := "SnagBook$Fault", name := "isSameThing", desc := "(LSnagBook$Fault;)Z" } : Jvm.MethodName) prog_3_method_6_code (2 : Nat) (Option.some Jvm.ClassFile.FieldType.boolean)) ∈ tblG := tG_3 (i := 21) rfl rfl
theorem tk_502 : (Jvm.Cond.methodLink "SnagBook" (203 : Nat) ({ cls := "SnagBook$History", name := "now", desc := "()I" } : Jvm.MethodName)) ∈ tblG := tG_3 (i := 22) rfl rfl
theorem tk_503 : (Jvm.Cond.instanceMethod ({ cls := "SnagBook$History", name := "now", desc := "()I" } : Jvm.MethodName)) ∈ tblG := tG_3 (i := 23) rfl rfl
theorem tk_504 : (Jvm.Cond.selects "SnagBook$History" ({ cls := "SnagBook$History", name := "now", desc := "()I" } : Jvm.MethodName) ({ cls := "SnagBook$History", name := "now", desc := "()I" } : Jvm.MethodName)) ∈ tblG := tG_3 (i := 24) rfl rfl
theorem tk_505 : (Jvm.Cond.code ({ cls := "SnagBook$History", name := "now", desc := "()I" } : Jvm.MethodName) prog_6_method_4_code (1 : Nat) (Option.some Jvm.ClassFile.FieldType.int)) ∈ tblG := tG_3 (i := 25) rfl rfl
theorem tk_506 : (Jvm.Cond.methodLink "SnagBook" (176 : Nat) ({ cls := "SnagBook$Fault", name := "tell", desc := "(IZ)V" } : Jvm.MethodName)) ∈ tblG := tG_3 (i := 26) rfl rfl
theorem tk_507 : (Jvm.Cond.instanceMethod ({ cls := "SnagBook$Fault", name := "tell", desc := "(IZ)V" } : Jvm.MethodName)) ∈ tblG := tG_3 (i := 27) rfl rfl
theorem tk_508 : (Jvm.Cond.selects "SnagBook$Fault" ({ cls := "SnagBook$Fault", name := "tell", desc := "(IZ)V" } : Jvm.MethodName) ({ cls := "SnagBook$Fault", name := "tell", desc := "(IZ)V" } : Jvm.MethodName)) ∈ tblG := tG_3 (i := 28) rfl rfl
theorem tk_509 : (Jvm.Cond.code ({ cls := "SnagBook$Fault", name := "tell", desc := "(IZ)V" } : Jvm.MethodName) prog_3_method_2_code (3 : Nat) (Option.none : Option Jvm.ClassFile.FieldType)) ∈ tblG := tG_3 (i := 29) rfl rfl
theorem tk_510 : (Jvm.Cond.methodLink "SnagBook$Fault" (64 : Nat) ({ cls := "SnagBook$Home", name := "hasKey", desc := "()Z" } : Jvm.MethodName)) ∈ tblG := tG_3 (i := 30) rfl rfl
theorem tk_511 : (Jvm.Cond.methodLink "SnagBook$Fault" (80 : Nat) ({ cls := "SnagBook$History", name := "add", desc := "(III)V" } : Jvm.MethodName)) ∈ tblG := tG_3 (i := 31) rfl rfl
theorem tk_512 : (Jvm.Cond.instanceMethod ({ cls := "SnagBook$History", name := "add", desc := "(III)V" } : Jvm.MethodName)) ∈ tblG := tG_3 (i := 32) rfl rfl
theorem tk_513 : (Jvm.Cond.selects "SnagBook$History" ({ cls := "SnagBook$History", name := "add", desc := "(III)V" } : Jvm.MethodName) ({ cls := "SnagBook$History", name := "add", desc := "(III)V" } : Jvm.MethodName)) ∈ tblG := tG_3 (i := 33) rfl rfl
theorem tk_514 : (Jvm.Cond.code ({ cls := "SnagBook$History", name := "add", desc := "(III)V" } : Jvm.MethodName) prog_6_method_3_code (4 : Nat) (Option.none : Option Jvm.ClassFile.FieldType)) ∈ tblG := tG_3 (i := 34) rfl rfl
theorem tk_515 : (Jvm.Cond.methodLink "SnagBookLaw" (53 : Nat) ({ cls := "SnagBook", name := "promise", desc := "(II)I" } : Jvm.MethodName)) ∈ tblG := tG_3 (i := 35) rfl rfl
theorem tk_516 : (Jvm.Cond.instanceMethod ({ cls := "SnagBook", name := "promise", desc := "(II)I" } : Jvm.MethodName)) ∈ tblG := tG_3 (i := 36) rfl rfl
theorem tk_517 : (Jvm.Cond.selects "SnagBook" ({ cls := "SnagBook", name := "promise", desc := "(II)I" } : Jvm.MethodName) ({ cls := "SnagBook", name := "promise", desc := "(II)I" } : Jvm.MethodName)) ∈ tblG := tG_3 (i := 37) rfl rfl
theorem tk_518 : (Jvm.Cond.code ({ cls := "SnagBook", name := "promise", desc := "(II)I" } : Jvm.MethodName) prog_1_method_11_code (4 : Nat) (Option.some Jvm.ClassFile.FieldType.int)) ∈ tblG := tG_3 (i := 38) rfl rfl
theorem tk_519 : (Jvm.Cond.methodLink "SnagBook" (180 : Nat) ({ cls := "SnagBook", name := "faultAt", desc := "(I)LSnagBook$Fault;" } : Jvm.MethodName)) ∈ tblG := tG_3 (i := 39) rfl rfl
theorem tk_521 : (Jvm.Cond.instanceMethod ({ cls := "SnagBook", name := "faultAt", desc := "(I)LSnagBook$Fault;" } : Jvm.MethodName)) ∈ tblG := tG_3 (i := 41) rfl rfl
theorem tk_522 : (Jvm.Cond.code ({ cls := "SnagBook", name := "faultAt", desc := "(I)LSnagBook$Fault;" } : Jvm.MethodName) prog_1_method_51_code (2 : Nat) (Option.some (Jvm.ClassFile.FieldType.object "SnagBook$Fault"))) ∈ tblG := tG_3 (i := 42) rfl rfl
theorem tk_523 : (Jvm.Cond.methodLink "SnagBook" (184 : Nat) ({ cls := "SnagBook$Fault", name := "isWaiting", desc := "()Z" } : Jvm.MethodName)) ∈ tblG := tG_3 (i := 43) rfl rfl
theorem tk_524 : (Jvm.Cond.instanceMethod ({ cls := "SnagBook$Fault", name := "isWaiting", desc := "()Z" } : Jvm.MethodName)) ∈ tblG := tG_3 (i := 44) rfl rfl
theorem tk_525 : (Jvm.Cond.selects "SnagBook$Fault" ({ cls := "SnagBook$Fault", name := "isWaiting", desc := "()Z" } : Jvm.MethodName) ({ cls := "SnagBook$Fault", name := "isWaiting", desc := "()Z" } : Jvm.MethodName)) ∈ tblG := tG_3 (i := 45) rfl rfl
theorem tk_526 : (Jvm.Cond.code ({ cls := "SnagBook$Fault", name := "isWaiting", desc := "()Z" } : Jvm.MethodName) prog_3_method_4_code (1 : Nat) (Option.some Jvm.ClassFile.FieldType.boolean)) ∈ tblG := tG_3 (i := 46) rfl rfl
theorem tk_527 : (Jvm.Cond.methodLink "SnagBook$Fault" (84 : Nat) ({ cls := "SnagBook$History", name := "now", desc := "()I" } : Jvm.MethodName)) ∈ tblG := tG_3 (i := 47) rfl rfl
theorem tk_528 : (Jvm.Cond.methodLink "SnagBook" (191 : Nat) ({ cls := "SnagBook$History", name := "isFull", desc := "()Z" } : Jvm.MethodName)) ∈ tblG := tG_3 (i := 48) rfl rfl
theorem tk_529 : (Jvm.Cond.instanceMethod ({ cls := "SnagBook$History", name := "isFull", desc := "()Z" } : Jvm.MethodName)) ∈ tblG := tG_3 (i := 49) rfl rfl
theorem tk_530 : (Jvm.Cond.selects "SnagBook$History" ({ cls := "SnagBook$History", name := "isFull", desc := "()Z" } : Jvm.MethodName) ({ cls := "SnagBook$History", name := "isFull", desc := "()Z" } : Jvm.MethodName)) ∈ tblG := tG_3 (i := 50) rfl rfl
theorem tk_531 : (Jvm.Cond.code ({ cls := "SnagBook$History", name := "isFull", desc := "()Z" } : Jvm.MethodName) prog_6_method_2_code (1 : Nat) (Option.some Jvm.ClassFile.FieldType.boolean)) ∈ tblG := tG_3 (i := 51) rfl rfl
theorem tk_532 : (Jvm.Cond.methodLink "SnagBook" (196 : Nat) ({ cls := "SnagBook$Fault", name := "promiseAnew", desc := "(II)V" } : Jvm.MethodName)) ∈ tblG := tG_3 (i := 52) rfl rfl
theorem tk_533 : (Jvm.Cond.instanceMethod ({ cls := "SnagBook$Fault", name := "promiseAnew", desc := "(II)V" } : Jvm.MethodName)) ∈ tblG := tG_3 (i := 53) rfl rfl
theorem tk_534 : (Jvm.Cond.selects "SnagBook$Fault" ({ cls := "SnagBook$Fault", name := "promiseAnew", desc := "(II)V" } : Jvm.MethodName) ({ cls := "SnagBook$Fault", name := "promiseAnew", desc := "(II)V" } : Jvm.MethodName)) ∈ tblG := tG_3 (i := 54) rfl rfl
theorem tk_535 : (Jvm.Cond.code ({ cls := "SnagBook$Fault", name := "promiseAnew", desc := "(II)V" } : Jvm.MethodName) prog_3_method_14_code (3 : Nat) (Option.none : Option Jvm.ClassFile.FieldType)) ∈ tblG := tG_3 (i := 55) rfl rfl
theorem tk_536 : (Jvm.Cond.methodLink "SnagBook$Fault" (114 : Nat) ({ cls := "SnagBook$Fault", name := "brokenBy", desc := "(I)I" } : Jvm.MethodName)) ∈ tblG := tG_3 (i := 56) rfl rfl
theorem tk_537 : (Jvm.Cond.methodLink "SnagBookLaw" (57 : Nat) ({ cls := "SnagBook", name := "said", desc := "(II)I" } : Jvm.MethodName)) ∈ tblG := tG_3 (i := 57) rfl rfl
theorem tk_538 : (Jvm.Cond.instanceMethod ({ cls := "SnagBook", name := "said", desc := "(II)I" } : Jvm.MethodName)) ∈ tblG := tG_3 (i := 58) rfl rfl
theorem tk_539 : (Jvm.Cond.selects "SnagBook" ({ cls := "SnagBook", name := "said", desc := "(II)I" } : Jvm.MethodName) ({ cls := "SnagBook", name := "said", desc := "(II)I" } : Jvm.MethodName)) ∈ tblG := tG_3 (i := 59) rfl rfl
theorem tk_540 : (Jvm.Cond.code ({ cls := "SnagBook", name := "said", desc := "(II)I" } : Jvm.MethodName) prog_1_method_12_code (4 : Nat) (Option.some Jvm.ClassFile.FieldType.int)) ∈ tblG := tG_3 (i := 60) rfl rfl
theorem tk_541 : (Jvm.Cond.methodLink "SnagBook" (200 : Nat) ({ cls := "SnagBook$Fault", name := "saidBy", desc := "(II)V" } : Jvm.MethodName)) ∈ tblG := tG_3 (i := 61) rfl rfl
theorem tk_542 : (Jvm.Cond.instanceMethod ({ cls := "SnagBook$Fault", name := "saidBy", desc := "(II)V" } : Jvm.MethodName)) ∈ tblG := tG_3 (i := 62) rfl rfl
theorem tk_543 : (Jvm.Cond.selects "SnagBook$Fault" ({ cls := "SnagBook$Fault", name := "saidBy", desc := "(II)V" } : Jvm.MethodName) ({ cls := "SnagBook$Fault", name := "saidBy", desc := "(II)V" } : Jvm.MethodName)) ∈ tblG := tG_3 (i := 63) rfl rfl
theorem tk_544 : (Jvm.Cond.code ({ cls := "SnagBook$Fault", name := "saidBy", desc := "(II)V" } : Jvm.MethodName) prog_3_method_15_code (3 : Nat) (Option.none : Option Jvm.ClassFile.FieldType)) ∈ tblG := tG_3 (i := 64) rfl rfl
theorem tk_545 : (Jvm.Cond.methodLink "SnagBookLaw" (61 : Nat) ({ cls := "SnagBook", name := "look", desc := "(II)I" } : Jvm.MethodName)) ∈ tblG := tG_3 (i := 65) rfl rfl
theorem tk_546 : (Jvm.Cond.instanceMethod ({ cls := "SnagBook", name := "look", desc := "(II)I" } : Jvm.MethodName)) ∈ tblG := tG_3 (i := 66) rfl rfl
theorem tk_547 : (Jvm.Cond.selects "SnagBook" ({ cls := "SnagBook", name := "look", desc := "(II)I" } : Jvm.MethodName) ({ cls := "SnagBook", name := "look", desc := "(II)I" } : Jvm.MethodName)) ∈ tblG := tG_3 (i := 67) rfl rfl
theorem tk_548 : (Jvm.Cond.code ({ cls := "SnagBook", name := "look", desc := "(II)I" } : Jvm.MethodName) prog_1_method_13_code (4 : Nat) (Option.some Jvm.ClassFile.FieldType.int)) ∈ tblG := tG_3 (i := 68) rfl rfl
theorem tk_549 : (Jvm.Cond.methodLink "SnagBook" (207 : Nat) ({ cls := "SnagBook$Fault", name := "lastCrew", desc := "()I" } : Jvm.MethodName)) ∈ tblG := tG_3 (i := 69) rfl rfl
theorem tk_550 : (Jvm.Cond.instanceMethod ({ cls := "SnagBook$Fault", name := "lastCrew", desc := "()I" } : Jvm.MethodName)) ∈ tblG := tG_3 (i := 70) rfl rfl
theorem tk_551 : (Jvm.Cond.selects "SnagBook$Fault" ({ cls := "SnagBook$Fault", name := "lastCrew", desc := "()I" } : Jvm.MethodName) ({ cls := "SnagBook$Fault", name := "lastCrew", desc := "()I" } : Jvm.MethodName)) ∈ tblG := tG_3 (i := 71) rfl rfl
theorem tk_552 : (Jvm.Cond.code ({ cls := "SnagBook$Fault", name := "lastCrew", desc := "()I" } : Jvm.MethodName) prog_3_method_9_code (1 : Nat) (Option.some Jvm.ClassFile.FieldType.int)) ∈ tblG := tG_3 (i := 72) rfl rfl
theorem tk_553 : (Jvm.Cond.methodLink "SnagBook$Fault" (95 : Nat) ({ cls := "SnagBook$History", name := "lastSaid", desc := "(II)I" } : Jvm.MethodName)) ∈ tblG := tG_3 (i := 73) rfl rfl
theorem tk_554 : (Jvm.Cond.instanceMethod ({ cls := "SnagBook$History", name := "lastSaid", desc := "(II)I" } : Jvm.MethodName)) ∈ tblG := tG_3 (i := 74) rfl rfl
theorem tk_555 : (Jvm.Cond.selects "SnagBook$History" ({ cls := "SnagBook$History", name := "lastSaid", desc := "(II)I" } : Jvm.MethodName) ({ cls := "SnagBook$History", name := "lastSaid", desc := "(II)I" } : Jvm.MethodName)) ∈ tblG := tG_3 (i := 75) rfl rfl
theorem tk_556 : (Jvm.Cond.code ({ cls := "SnagBook$History", name := "lastSaid", desc := "(II)I" } : Jvm.MethodName) prog_6_method_6_code (4 : Nat) (Option.some Jvm.ClassFile.FieldType.int)) ∈ tblG := tG_3 (i := 76) rfl rfl
theorem tk_557 : (Jvm.Cond.methodLink "SnagBook$Fault" (99 : Nat) ({ cls := "SnagBook$History", name := "crewAt", desc := "(I)I" } : Jvm.MethodName)) ∈ tblG := tG_3 (i := 77) rfl rfl
theorem tk_558 : (Jvm.Cond.instanceMethod ({ cls := "SnagBook$History", name := "crewAt", desc := "(I)I" } : Jvm.MethodName)) ∈ tblG := tG_3 (i := 78) rfl rfl
theorem tk_559 : (Jvm.Cond.selects "SnagBook$History" ({ cls := "SnagBook$History", name := "crewAt", desc := "(I)I" } : Jvm.MethodName) ({ cls := "SnagBook$History", name := "crewAt", desc := "(I)I" } : Jvm.MethodName)) ∈ tblG := tG_3 (i := 79) rfl rfl
theorem tk_560 : (Jvm.Cond.code ({ cls := "SnagBook$History", name := "crewAt", desc := "(I)I" } : Jvm.MethodName) prog_6_method_8_code (2 : Nat) (Option.some Jvm.ClassFile.FieldType.int)) ∈ tblG := tG_3 (i := 80) rfl rfl
theorem tk_561 : (Jvm.Cond.methodLinkNest "SnagBook$History" (25 : Nat) ({ cls := "SnagBook", name := "isIn", desc := "(II)Z" } : Jvm.MethodName) "SnagBook") ∈ lw_tbl := tT_3 (i := 81) rfl
theorem tk_562 : (Jvm.Cond.methodLink "SnagBook" (210 : Nat) ({ cls := "SnagBook$History", name := "add", desc := "(III)V" } : Jvm.MethodName)) ∈ tblG := tG_3 (i := 82) rfl rfl
theorem tk_563 : (Jvm.Cond.methodLink "SnagBookLaw" (65 : Nat) ({ cls := "SnagBook", name := "voids", desc := "(I)I" } : Jvm.MethodName)) ∈ tblG := tG_3 (i := 83) rfl rfl
theorem tk_564 : (Jvm.Cond.instanceMethod ({ cls := "SnagBook", name := "voids", desc := "(I)I" } : Jvm.MethodName)) ∈ tblG := tG_3 (i := 84) rfl rfl
theorem tk_565 : (Jvm.Cond.selects "SnagBook" ({ cls := "SnagBook", name := "voids", desc := "(I)I" } : Jvm.MethodName) ({ cls := "SnagBook", name := "voids", desc := "(I)I" } : Jvm.MethodName)) ∈ tblG := tG_3 (i := 85) rfl rfl
theorem tk_566 : (Jvm.Cond.code ({ cls := "SnagBook", name := "voids", desc := "(I)I" } : Jvm.MethodName) prog_1_method_14_code (3 : Nat) (Option.some Jvm.ClassFile.FieldType.int)) ∈ tblG := tG_3 (i := 86) rfl rfl
theorem tk_567 : (Jvm.Cond.methodLink "SnagBook" (213 : Nat) ({ cls := "SnagBook$Fault", name := "endWith", desc := "(II)V" } : Jvm.MethodName)) ∈ tblG := tG_3 (i := 87) rfl rfl
theorem tk_568 : (Jvm.Cond.instanceMethod ({ cls := "SnagBook$Fault", name := "endWith", desc := "(II)V" } : Jvm.MethodName)) ∈ tblG := tG_3 (i := 88) rfl rfl
theorem tk_569 : (Jvm.Cond.selects "SnagBook$Fault" ({ cls := "SnagBook$Fault", name := "endWith", desc := "(II)V" } : Jvm.MethodName) ({ cls := "SnagBook$Fault", name := "endWith", desc := "(II)V" } : Jvm.MethodName)) ∈ tblG := tG_3 (i := 89) rfl rfl
theorem tk_570 : (Jvm.Cond.code ({ cls := "SnagBook$Fault", name := "endWith", desc := "(II)V" } : Jvm.MethodName) prog_3_method_16_code (3 : Nat) (Option.none : Option Jvm.ClassFile.FieldType)) ∈ tblG := tG_3 (i := 90) rfl rfl
theorem tk_571 : (Jvm.Cond.methodLink "SnagBookLaw" (69 : Nat) ({ cls := "SnagBook", name := "state", desc := "(II)I" } : Jvm.MethodName)) ∈ tblG := tG_3 (i := 91) rfl rfl
theorem tk_572 : (Jvm.Cond.instanceMethod ({ cls := "SnagBook", name := "state", desc := "(II)I" } : Jvm.MethodName)) ∈ tblG := tG_3 (i := 92) rfl rfl
theorem tk_573 : (Jvm.Cond.selects "SnagBook" ({ cls := "SnagBook", name := "state", desc := "(II)I" } : Jvm.MethodName) ({ cls := "SnagBook", name := "state", desc := "(II)I" } : Jvm.MethodName)) ∈ tblG := tG_3 (i := 93) rfl rfl
theorem tk_574 : (Jvm.Cond.code ({ cls := "SnagBook", name := "state", desc := "(II)I" } : Jvm.MethodName) prog_1_method_15_code (4 : Nat) (Option.some Jvm.ClassFile.FieldType.int)) ∈ tblG := tG_3 (i := 94) rfl rfl
theorem tk_575 : (Jvm.Cond.methodLink "SnagBook" (216 : Nat) ({ cls := "SnagBook", name := "isDay", desc := "(I)Z" } : Jvm.MethodName)) ∈ tblG := tG_3 (i := 95) rfl rfl
theorem tk_576 : (Jvm.Cond.static ({ cls := "SnagBook", name := "isDay", desc := "(I)Z" } : Jvm.MethodName)) ∈ tblG := tG_3 (i := 96) rfl rfl
theorem tk_577 : (Jvm.Cond.code ({ cls := "SnagBook", name := "isDay", desc := "(I)Z" } : Jvm.MethodName) prog_1_method_47_code (1 : Nat) (Option.some Jvm.ClassFile.FieldType.boolean)) ∈ tblG := tG_3 (i := 97) rfl rfl
theorem tk_578 : (Jvm.Cond.methodLink "SnagBook" (219 : Nat) ({ cls := "SnagBook$History", name := "onDay", desc := "(I)I" } : Jvm.MethodName)) ∈ tblG := tG_3 (i := 98) rfl rfl
theorem tk_579 : (Jvm.Cond.methodLink "SnagBookLaw" (73 : Nat) ({ cls := "SnagBook", name := "ofFault", desc := "(II)I" } : Jvm.MethodName)) ∈ tblG := tG_3 (i := 99) rfl rfl
theorem tk_580 : (Jvm.Cond.instanceMethod ({ cls := "SnagBook", name := "ofFault", desc := "(II)I" } : Jvm.MethodName)) ∈ tblG := tG_3 (i := 100) rfl rfl
theorem tk_581 : (Jvm.Cond.selects "SnagBook" ({ cls := "SnagBook", name := "ofFault", desc := "(II)I" } : Jvm.MethodName) ({ cls := "SnagBook", name := "ofFault", desc := "(II)I" } : Jvm.MethodName)) ∈ tblG := tG_3 (i := 101) rfl rfl
theorem tk_582 : (Jvm.Cond.code ({ cls := "SnagBook", name := "ofFault", desc := "(II)I" } : Jvm.MethodName) prog_1_method_16_code (4 : Nat) (Option.some Jvm.ClassFile.FieldType.int)) ∈ tblG := tG_3 (i := 102) rfl rfl
theorem tk_583 : (Jvm.Cond.methodLink "SnagBook" (226 : Nat) ({ cls := "SnagBook", name := "homeNumber", desc := "(LSnagBook$Home;)I" } : Jvm.MethodName)) ∈ tblG := tG_3 (i := 103) rfl rfl
theorem tk_585 : (Jvm.Cond.instanceMethod ({ cls := "SnagBook", name := "homeNumber", desc := "(LSnagBook$Home;)I" } : Jvm.MethodName)) ∈ tblG := tG_3 (i := 105) rfl rfl
theorem tk_586 : (Jvm.Cond.code ({ cls := "SnagBook", name := "homeNumber", desc := "(LSnagBook$Home;)I" } : Jvm.MethodName) prog_1_method_52_code (3 : Nat) (Option.some Jvm.ClassFile.FieldType.int)) ∈ tblG := tG_3 (i := 106) rfl rfl
theorem tk_587 : (Jvm.Cond.methodLink "SnagBook" (251 : Nat) ({ cls := "SnagBook$Fault", name := "price", desc := "()I" } : Jvm.MethodName)) ∈ tblG := tG_3 (i := 107) rfl rfl
theorem tk_588 : (Jvm.Cond.instanceMethod ({ cls := "SnagBook$Fault", name := "price", desc := "()I" } : Jvm.MethodName)) ∈ tblG := tG_3 (i := 108) rfl rfl
theorem tk_589 : (Jvm.Cond.selects "SnagBook$Fault" ({ cls := "SnagBook$Fault", name := "price", desc := "()I" } : Jvm.MethodName) ({ cls := "SnagBook$Fault", name := "price", desc := "()I" } : Jvm.MethodName)) ∈ tblG := tG_3 (i := 109) rfl rfl
theorem tk_590 : (Jvm.Cond.code ({ cls := "SnagBook$Fault", name := "price", desc := "()I" } : Jvm.MethodName) prog_3_method_10_code (2 : Nat) (Option.some Jvm.ClassFile.FieldType.int)) ∈ tblG := tG_3 (i := 110) rfl rfl
theorem tk_591 : (Jvm.Cond.methodLink "SnagBook" (254 : Nat) ({ cls := "SnagBook$Fault", name := "promiseOn", desc := "(I)I" } : Jvm.MethodName)) ∈ tblG := tG_3 (i := 111) rfl rfl
theorem tk_592 : (Jvm.Cond.methodLink "SnagBook" (260 : Nat) ({ cls := "SnagBook$History", name := "timesSaid", desc := "(I)I" } : Jvm.MethodName)) ∈ tblG := tG_3 (i := 112) rfl rfl
theorem tk_593 : (Jvm.Cond.instanceMethod ({ cls := "SnagBook$History", name := "timesSaid", desc := "(I)I" } : Jvm.MethodName)) ∈ tblG := tG_3 (i := 113) rfl rfl
theorem tk_594 : (Jvm.Cond.selects "SnagBook$History" ({ cls := "SnagBook$History", name := "timesSaid", desc := "(I)I" } : Jvm.MethodName) ({ cls := "SnagBook$History", name := "timesSaid", desc := "(I)I" } : Jvm.MethodName)) ∈ tblG := tG_3 (i := 114) rfl rfl
theorem tk_595 : (Jvm.Cond.code ({ cls := "SnagBook$History", name := "timesSaid", desc := "(I)I" } : Jvm.MethodName) prog_6_method_9_code (4 : Nat) (Option.some Jvm.ClassFile.FieldType.int)) ∈ tblG := tG_3 (i := 115) rfl rfl
theorem tk_596 : (Jvm.Cond.methodLink "SnagBookLaw" (77 : Nat) ({ cls := "SnagBook", name := "source", desc := "(II)I" } : Jvm.MethodName)) ∈ tblG := tG_3 (i := 116) rfl rfl
theorem tk_597 : (Jvm.Cond.instanceMethod ({ cls := "SnagBook", name := "source", desc := "(II)I" } : Jvm.MethodName)) ∈ tblG := tG_3 (i := 117) rfl rfl
theorem tk_598 : (Jvm.Cond.selects "SnagBook" ({ cls := "SnagBook", name := "source", desc := "(II)I" } : Jvm.MethodName) ({ cls := "SnagBook", name := "source", desc := "(II)I" } : Jvm.MethodName)) ∈ tblG := tG_3 (i := 118) rfl rfl
theorem tk_599 : (Jvm.Cond.code ({ cls := "SnagBook", name := "source", desc := "(II)I" } : Jvm.MethodName) prog_1_method_17_code (6 : Nat) (Option.some Jvm.ClassFile.FieldType.int)) ∈ tblG := tG_3 (i := 119) rfl rfl
theorem tk_600 : (Jvm.Cond.methodLink "SnagBook" (270 : Nat) ({ cls := "SnagBook$Kind", name := "has", desc := "(I)Z" } : Jvm.MethodName)) ∈ tblG := tG_3 (i := 120) rfl rfl
theorem tk_601 : (Jvm.Cond.methodLink "SnagBook" (273 : Nat) ({ cls := "SnagBook", name := "leakAbove", desc := "(LSnagBook$Fault;I)LSnagBook$Fault;" } : Jvm.MethodName)) ∈ tblG := tG_3 (i := 121) rfl rfl
theorem tk_603 : (Jvm.Cond.instanceMethod ({ cls := "SnagBook", name := "leakAbove", desc := "(LSnagBook$Fault;I)LSnagBook$Fault;" } : Jvm.MethodName)) ∈ tblG := tG_3 (i := 123) rfl rfl
theorem tk_604 : (Jvm.Cond.code ({ cls := "SnagBook", name := "leakAbove", desc := "(LSnagBook$Fault;I)LSnagBook$Fault;" } : Jvm.MethodName) prog_1_method_62_code (6 : Nat) (Option.some (Jvm.ClassFile.FieldType.object "SnagBook$Fault"))) ∈ tblG := tG_3 (i := 124) rfl rfl
theorem tk_605 : (Jvm.Cond.methodLink "SnagBookLaw" (81 : Nat) ({ cls := "SnagBook", name := "damage", desc := "(I)I" } : Jvm.MethodName)) ∈ tblG := tG_3 (i := 125) rfl rfl
theorem tk_606 : (Jvm.Cond.instanceMethod ({ cls := "SnagBook", name := "damage", desc := "(I)I" } : Jvm.MethodName)) ∈ tblG := tG_3 (i := 126) rfl rfl
theorem tk_607 : (Jvm.Cond.selects "SnagBook" ({ cls := "SnagBook", name := "damage", desc := "(I)I" } : Jvm.MethodName) ({ cls := "SnagBook", name := "damage", desc := "(I)I" } : Jvm.MethodName)) ∈ tblG := tG_3 (i := 127) rfl rfl
theorem tk_608 : (Jvm.Cond.code ({ cls := "SnagBook", name := "damage", desc := "(I)I" } : Jvm.MethodName) prog_1_method_18_code (4 : Nat) (Option.some Jvm.ClassFile.FieldType.int)) ∈ tblG := tG_3 (i := 128) rfl rfl
theorem tk_609 : (Jvm.Cond.methodLink "SnagBook" (280 : Nat) ({ cls := "SnagBook", name := "damager", desc := "(LSnagBook$Fault;)LSnagBook$Fault;" } : Jvm.MethodName)) ∈ tblG := tG_3 (i := 129) rfl rfl
theorem tk_611 : (Jvm.Cond.instanceMethod ({ cls := "SnagBook", name := "damager", desc := "(LSnagBook$Fault;)LSnagBook$Fault;" } : Jvm.MethodName)) ∈ tblG := tG_3 (i := 131) rfl rfl
theorem tk_612 : (Jvm.Cond.code ({ cls := "SnagBook", name := "damager", desc := "(LSnagBook$Fault;)LSnagBook$Fault;" } : Jvm.MethodName) prog_1_method_63_code (7 : Nat) (Option.some (Jvm.ClassFile.FieldType.object "SnagBook$Fault"))) ∈ tblG := tG_3 (i := 132) rfl rfl
theorem tk_613 : (Jvm.Cond.methodLink "SnagBook" (467 : Nat) ({ cls := "SnagBook", name := "saidAheadOf", desc := "(LSnagBook$Fault;LSnagBook$Fault;)I" } : Jvm.MethodName)) ∈ tblG := tG_3 (i := 133) rfl rfl
theorem tk_615 : (Jvm.Cond.instanceMethod ({ cls := "SnagBook", name := "saidAheadOf", desc := "(LSnagBook$Fault;LSnagBook$Fault;)I" } : Jvm.MethodName)) ∈ tblG := tG_3 (i := 135) rfl rfl
theorem tk_616 : (Jvm.Cond.code ({ cls := "SnagBook", name := "saidAheadOf", desc := "(LSnagBook$Fault;LSnagBook$Fault;)I" } : Jvm.MethodName) prog_1_method_64_code (3 : Nat) (Option.some Jvm.ClassFile.FieldType.int)) ∈ tblG := tG_3 (i := 136) rfl rfl
theorem tk_617 : (Jvm.Cond.methodLink "SnagBook" (474 : Nat) ({ cls := "SnagBook$History", name := "lastSaid", desc := "(II)I" } : Jvm.MethodName)) ∈ tblG := tG_3 (i := 137) rfl rfl
theorem tk_618 : (Jvm.Cond.methodLink "SnagBook" (471 : Nat) ({ cls := "SnagBook$History", name := "dayAt", desc := "(I)I" } : Jvm.MethodName)) ∈ tblG := tG_3 (i := 138) rfl rfl
theorem tk_619 : (Jvm.Cond.instanceMethod ({ cls := "SnagBook$History", name := "dayAt", desc := "(I)I" } : Jvm.MethodName)) ∈ tblG := tG_3 (i := 139) rfl rfl
theorem tk_620 : (Jvm.Cond.selects "SnagBook$History" ({ cls := "SnagBook$History", name := "dayAt", desc := "(I)I" } : Jvm.MethodName) ({ cls := "SnagBook$History", name := "dayAt", desc := "(I)I" } : Jvm.MethodName)) ∈ tblG := tG_3 (i := 140) rfl rfl
theorem tk_621 : (Jvm.Cond.code ({ cls := "SnagBook$History", name := "dayAt", desc := "(I)I" } : Jvm.MethodName) prog_6_method_7_code (2 : Nat) (Option.some Jvm.ClassFile.FieldType.int)) ∈ tblG := tG_3 (i := 141) rfl rfl
theorem tk_622 : (Jvm.Cond.methodLink "SnagBookLaw" (85 : Nat) ({ cls := "SnagBook", name := "rule", desc := "(II)I" } : Jvm.MethodName)) ∈ tblG := tG_3 (i := 142) rfl rfl
theorem tk_623 : (Jvm.Cond.instanceMethod ({ cls := "SnagBook", name := "rule", desc := "(II)I" } : Jvm.MethodName)) ∈ tblG := tG_3 (i := 143) rfl rfl
theorem tk_624 : (Jvm.Cond.selects "SnagBook" ({ cls := "SnagBook", name := "rule", desc := "(II)I" } : Jvm.MethodName) ({ cls := "SnagBook", name := "rule", desc := "(II)I" } : Jvm.MethodName)) ∈ tblG := tG_3 (i := 144) rfl rfl
theorem tk_625 : (Jvm.Cond.code ({ cls := "SnagBook", name := "rule", desc := "(II)I" } : Jvm.MethodName) prog_1_method_19_code (4 : Nat) (Option.some Jvm.ClassFile.FieldType.int)) ∈ tblG := tG_3 (i := 145) rfl rfl
theorem tk_626 : (Jvm.Cond.methodLink "SnagBookLaw" (89 : Nat) ({ cls := "SnagBook", name := "joined", desc := "(IIII)I" } : Jvm.MethodName)) ∈ tblG := tG_3 (i := 146) rfl rfl
theorem tk_627 : (Jvm.Cond.instanceMethod ({ cls := "SnagBook", name := "joined", desc := "(IIII)I" } : Jvm.MethodName)) ∈ tblG := tG_3 (i := 147) rfl rfl
theorem tk_628 : (Jvm.Cond.selects "SnagBook" ({ cls := "SnagBook", name := "joined", desc := "(IIII)I" } : Jvm.MethodName) ({ cls := "SnagBook", name := "joined", desc := "(IIII)I" } : Jvm.MethodName)) ∈ tblG := tG_3 (i := 148) rfl rfl
theorem tk_629 : (Jvm.Cond.code ({ cls := "SnagBook", name := "joined", desc := "(IIII)I" } : Jvm.MethodName) prog_1_method_20_code (7 : Nat) (Option.some Jvm.ClassFile.FieldType.int)) ∈ tblG := tG_3 (i := 149) rfl rfl
theorem tk_630 : (Jvm.Cond.methodLink "SnagBook" (284 : Nat) ({ cls := "SnagBook", name := "isGroup", desc := "(I)Z" } : Jvm.MethodName)) ∈ tblG := tG_3 (i := 150) rfl rfl
theorem tk_631 : (Jvm.Cond.static ({ cls := "SnagBook", name := "isGroup", desc := "(I)Z" } : Jvm.MethodName)) ∈ tblG := tG_3 (i := 151) rfl rfl
theorem tk_632 : (Jvm.Cond.code ({ cls := "SnagBook", name := "isGroup", desc := "(I)Z" } : Jvm.MethodName) prog_1_method_48_code (1 : Nat) (Option.some Jvm.ClassFile.FieldType.boolean)) ∈ tblG := tG_3 (i := 152) rfl rfl
theorem tk_633 : (Jvm.Cond.methodLink "SnagBook" (287 : Nat) ({ cls := "SnagBook", name := "markHomesWith", desc := "(LSnagBook$Kind;I)I" } : Jvm.MethodName)) ∈ tblG := tG_3 (i := 153) rfl rfl
theorem tk_635 : (Jvm.Cond.instanceMethod ({ cls := "SnagBook", name := "markHomesWith", desc := "(LSnagBook$Kind;I)I" } : Jvm.MethodName)) ∈ tblG := tG_3 (i := 155) rfl rfl
theorem tk_636 : (Jvm.Cond.code ({ cls := "SnagBook", name := "markHomesWith", desc := "(LSnagBook$Kind;I)I" } : Jvm.MethodName) prog_1_method_66_code (5 : Nat) (Option.some Jvm.ClassFile.FieldType.int)) ∈ tblG := tG_3 (i := 156) rfl rfl
theorem tk_637 : (Jvm.Cond.methodLink "SnagBook" (480 : Nat) ({ cls := "SnagBook", name := "hasKind", desc := "(LSnagBook$Home;LSnagBook$Kind;I)Z" } : Jvm.MethodName)) ∈ tblG := tG_3 (i := 157) rfl rfl
theorem tk_639 : (Jvm.Cond.instanceMethod ({ cls := "SnagBook", name := "hasKind", desc := "(LSnagBook$Home;LSnagBook$Kind;I)Z" } : Jvm.MethodName)) ∈ tblG := tG_3 (i := 159) rfl rfl
theorem tk_640 : (Jvm.Cond.code ({ cls := "SnagBook", name := "hasKind", desc := "(LSnagBook$Home;LSnagBook$Kind;I)Z" } : Jvm.MethodName) prog_1_method_67_code (7 : Nat) (Option.some Jvm.ClassFile.FieldType.boolean)) ∈ tblG := tG_3 (i := 160) rfl rfl
theorem tk_641 : (Jvm.Cond.methodLink "SnagBook" (291 : Nat) ({ cls := "SnagBook", name := "sizeOfGroup", desc := "(LSnagBook$Kind;IZ)I" } : Jvm.MethodName)) ∈ tblG := tG_3 (i := 161) rfl rfl
theorem tk_643 : (Jvm.Cond.instanceMethod ({ cls := "SnagBook", name := "sizeOfGroup", desc := "(LSnagBook$Kind;IZ)I" } : Jvm.MethodName)) ∈ tblG := tG_3 (i := 163) rfl rfl
theorem tk_644 : (Jvm.Cond.code ({ cls := "SnagBook", name := "sizeOfGroup", desc := "(LSnagBook$Kind;IZ)I" } : Jvm.MethodName) prog_1_method_69_code (6 : Nat) (Option.some Jvm.ClassFile.FieldType.int)) ∈ tblG := tG_3 (i := 164) rfl rfl
theorem tk_645 : (Jvm.Cond.methodLink "SnagBook" (487 : Nat) ({ cls := "SnagBook", name := "isOfGroup", desc := "(LSnagBook$Home;LSnagBook$Kind;I)Z" } : Jvm.MethodName)) ∈ tblG := tG_3 (i := 165) rfl rfl
theorem tk_647 : (Jvm.Cond.instanceMethod ({ cls := "SnagBook", name := "isOfGroup", desc := "(LSnagBook$Home;LSnagBook$Kind;I)Z" } : Jvm.MethodName)) ∈ tblG := tG_3 (i := 167) rfl rfl
theorem tk_648 : (Jvm.Cond.code ({ cls := "SnagBook", name := "isOfGroup", desc := "(LSnagBook$Home;LSnagBook$Kind;I)Z" } : Jvm.MethodName) prog_1_method_68_code (5 : Nat) (Option.some Jvm.ClassFile.FieldType.boolean)) ∈ tblG := tG_3 (i := 168) rfl rfl
theorem tk_649 : (Jvm.Cond.methodLink "SnagBookLaw" (93 : Nat) ({ cls := "SnagBook", name := "chance", desc := "(III)I" } : Jvm.MethodName)) ∈ tblG := tG_3 (i := 169) rfl rfl
theorem tk_650 : (Jvm.Cond.instanceMethod ({ cls := "SnagBook", name := "chance", desc := "(III)I" } : Jvm.MethodName)) ∈ tblG := tG_3 (i := 170) rfl rfl
theorem tk_651 : (Jvm.Cond.selects "SnagBook" ({ cls := "SnagBook", name := "chance", desc := "(III)I" } : Jvm.MethodName) ({ cls := "SnagBook", name := "chance", desc := "(III)I" } : Jvm.MethodName)) ∈ tblG := tG_3 (i := 171) rfl rfl
theorem tk_652 : (Jvm.Cond.code ({ cls := "SnagBook", name := "chance", desc := "(III)I" } : Jvm.MethodName) prog_1_method_21_code (6 : Nat) (Option.some Jvm.ClassFile.FieldType.int)) ∈ tblG := tG_3 (i := 172) rfl rfl
theorem tk_653 : (Jvm.Cond.methodLink "SnagBook" (295 : Nat) ({ cls := "SnagBook", name := "chanceOf", desc := "(LSnagBook$Kind;II)I" } : Jvm.MethodName)) ∈ tblG := tG_3 (i := 173) rfl rfl
theorem tk_655 : (Jvm.Cond.instanceMethod ({ cls := "SnagBook", name := "chanceOf", desc := "(LSnagBook$Kind;II)I" } : Jvm.MethodName)) ∈ tblG := tG_3 (i := 175) rfl rfl
theorem tk_656 : (Jvm.Cond.code ({ cls := "SnagBook", name := "chanceOf", desc := "(LSnagBook$Kind;II)I" } : Jvm.MethodName) prog_1_method_70_code (6 : Nat) (Option.some Jvm.ClassFile.FieldType.int)) ∈ tblG := tG_3 (i := 176) rfl rfl
theorem tk_657 : (Jvm.Cond.methodLink "SnagBook" (490 : Nat) ({ cls := "SnagBook$Odds", name := "chanceOfMany", desc := "(IIII)I" } : Jvm.MethodName)) ∈ tblG := tG_3 (i := 177) rfl rfl
theorem tk_658 : (Jvm.Cond.static ({ cls := "SnagBook$Odds", name := "chanceOfMany", desc := "(IIII)I" } : Jvm.MethodName)) ∈ tblG := tG_3 (i := 178) rfl rfl
theorem tk_659 : (Jvm.Cond.code ({ cls := "SnagBook$Odds", name := "chanceOfMany", desc := "(IIII)I" } : Jvm.MethodName) prog_10_method_4_code (8 : Nat) (Option.some Jvm.ClassFile.FieldType.int)) ∈ tblG := tG_3 (i := 179) rfl rfl
theorem tk_660 : (Jvm.Cond.methodLink "SnagBook$Odds" (7 : Nat) ({ cls := "SnagBook$Odds", name := "choose", desc := "(II)J" } : Jvm.MethodName)) ∈ tblG := tG_3 (i := 180) rfl rfl
theorem tk_661 : (Jvm.Cond.static ({ cls := "SnagBook$Odds", name := "choose", desc := "(II)J" } : Jvm.MethodName)) ∈ tblG := tG_3 (i := 181) rfl rfl
theorem tk_662 : (Jvm.Cond.code ({ cls := "SnagBook$Odds", name := "choose", desc := "(II)J" } : Jvm.MethodName) prog_10_method_2_code (5 : Nat) (Option.some Jvm.ClassFile.FieldType.long)) ∈ tblG := tG_3 (i := 182) rfl rfl
theorem tk_663 : (Jvm.Cond.methodLink "SnagBook$Odds" (13 : Nat) ({ cls := "SnagBook$Odds", name := "ways", desc := "(IIIII)J" } : Jvm.MethodName)) ∈ tblG := tG_3 (i := 183) rfl rfl
theorem tk_664 : (Jvm.Cond.static ({ cls := "SnagBook$Odds", name := "ways", desc := "(IIIII)J" } : Jvm.MethodName)) ∈ tblG := tG_3 (i := 184) rfl rfl
theorem tk_665 : (Jvm.Cond.code ({ cls := "SnagBook$Odds", name := "ways", desc := "(IIIII)J" } : Jvm.MethodName) prog_10_method_3_code (8 : Nat) (Option.some Jvm.ClassFile.FieldType.long)) ∈ tblG := tG_3 (i := 185) rfl rfl
theorem tk_666 : (Jvm.Cond.constantLong "SnagBook$Odds" (17 : Nat) (10000 : Int64)) ∈ tblG := tG_3 (i := 186) rfl rfl
theorem tk_667 : (Jvm.Cond.methodLink "SnagBookLaw" (97 : Nat) ({ cls := "SnagBook", name := "cause", desc := "(III)I" } : Jvm.MethodName)) ∈ tblG := tG_3 (i := 187) rfl rfl
theorem tk_668 : (Jvm.Cond.instanceMethod ({ cls := "SnagBook", name := "cause", desc := "(III)I" } : Jvm.MethodName)) ∈ tblG := tG_3 (i := 188) rfl rfl
theorem tk_669 : (Jvm.Cond.selects "SnagBook" ({ cls := "SnagBook", name := "cause", desc := "(III)I" } : Jvm.MethodName) ({ cls := "SnagBook", name := "cause", desc := "(III)I" } : Jvm.MethodName)) ∈ tblG := tG_3 (i := 189) rfl rfl
theorem tk_670 : (Jvm.Cond.code ({ cls := "SnagBook", name := "cause", desc := "(III)I" } : Jvm.MethodName) prog_1_method_22_code (5 : Nat) (Option.some Jvm.ClassFile.FieldType.int)) ∈ tblG := tG_3 (i := 190) rfl rfl
theorem tk_671 : (Jvm.Cond.methodLink "SnagBook" (299 : Nat) ({ cls := "SnagBook", name := "likeliestGroup", desc := "(LSnagBook$Kind;II)I" } : Jvm.MethodName)) ∈ tblG := tG_3 (i := 191) rfl rfl
theorem tk_673 : (Jvm.Cond.instanceMethod ({ cls := "SnagBook", name := "likeliestGroup", desc := "(LSnagBook$Kind;II)I" } : Jvm.MethodName)) ∈ tblG := tG_3 (i := 193) rfl rfl
theorem tk_674 : (Jvm.Cond.code ({ cls := "SnagBook", name := "likeliestGroup", desc := "(LSnagBook$Kind;II)I" } : Jvm.MethodName) prog_1_method_71_code (8 : Nat) (Option.some Jvm.ClassFile.FieldType.int)) ∈ tblG := tG_3 (i := 194) rfl rfl
theorem tk_675 : (Jvm.Cond.methodLink "SnagBookLaw" (101 : Nat) ({ cls := "SnagBook", name := "rivals", desc := "(III)I" } : Jvm.MethodName)) ∈ tblG := tG_3 (i := 195) rfl rfl
theorem tk_676 : (Jvm.Cond.instanceMethod ({ cls := "SnagBook", name := "rivals", desc := "(III)I" } : Jvm.MethodName)) ∈ tblG := tG_3 (i := 196) rfl rfl
theorem tk_677 : (Jvm.Cond.selects "SnagBook" ({ cls := "SnagBook", name := "rivals", desc := "(III)I" } : Jvm.MethodName) ({ cls := "SnagBook", name := "rivals", desc := "(III)I" } : Jvm.MethodName)) ∈ tblG := tG_3 (i := 197) rfl rfl
theorem tk_678 : (Jvm.Cond.code ({ cls := "SnagBook", name := "rivals", desc := "(III)I" } : Jvm.MethodName) prog_1_method_23_code (9 : Nat) (Option.some Jvm.ClassFile.FieldType.int)) ∈ tblG := tG_3 (i := 198) rfl rfl
theorem tk_679 : (Jvm.Cond.methodLink "SnagBook" (302 : Nat) ({ cls := "SnagBook", name := "areSameHomes", desc := "(LSnagBook$Kind;II)Z" } : Jvm.MethodName)) ∈ tblG := tG_3 (i := 199) rfl rfl
theorem tk_681 : (Jvm.Cond.instanceMethod ({ cls := "SnagBook", name := "areSameHomes", desc := "(LSnagBook$Kind;II)Z" } : Jvm.MethodName)) ∈ tblG := tG_3 (i := 201) rfl rfl
theorem tk_682 : (Jvm.Cond.code ({ cls := "SnagBook", name := "areSameHomes", desc := "(LSnagBook$Kind;II)Z" } : Jvm.MethodName) prog_1_method_72_code (5 : Nat) (Option.some Jvm.ClassFile.FieldType.boolean)) ∈ tblG := tG_3 (i := 202) rfl rfl
theorem tk_683 : (Jvm.Cond.methodLink "SnagBookLaw" (105 : Nat) ({ cls := "SnagBook", name := "read", desc := "(II)I" } : Jvm.MethodName)) ∈ tblG := tG_3 (i := 203) rfl rfl
theorem tk_684 : (Jvm.Cond.instanceMethod ({ cls := "SnagBook", name := "read", desc := "(II)I" } : Jvm.MethodName)) ∈ tblG := tG_3 (i := 204) rfl rfl
theorem tk_685 : (Jvm.Cond.selects "SnagBook" ({ cls := "SnagBook", name := "read", desc := "(II)I" } : Jvm.MethodName) ({ cls := "SnagBook", name := "read", desc := "(II)I" } : Jvm.MethodName)) ∈ tblG := tG_3 (i := 205) rfl rfl
theorem tk_686 : (Jvm.Cond.code ({ cls := "SnagBook", name := "read", desc := "(II)I" } : Jvm.MethodName) prog_1_method_24_code (4 : Nat) (Option.some Jvm.ClassFile.FieldType.int)) ∈ tblG := tG_3 (i := 206) rfl rfl
theorem tk_687 : (Jvm.Cond.methodLink "SnagBook" (310 : Nat) ({ cls := "SnagBook$Gauge", name := "lastDay", desc := "()I" } : Jvm.MethodName)) ∈ tblG := tG_3 (i := 207) rfl rfl
theorem tk_688 : (Jvm.Cond.instanceMethod ({ cls := "SnagBook$Gauge", name := "lastDay", desc := "()I" } : Jvm.MethodName)) ∈ tblG := tG_3 (i := 208) rfl rfl
theorem tk_689 : (Jvm.Cond.selects "SnagBook$Gauge" ({ cls := "SnagBook$Gauge", name := "lastDay", desc := "()I" } : Jvm.MethodName) ({ cls := "SnagBook$Gauge", name := "lastDay", desc := "()I" } : Jvm.MethodName)) ∈ tblG := tG_3 (i := 209) rfl rfl
theorem tk_690 : (Jvm.Cond.code ({ cls := "SnagBook$Gauge", name := "lastDay", desc := "()I" } : Jvm.MethodName) prog_5_method_2_code (1 : Nat) (Option.some Jvm.ClassFile.FieldType.int)) ∈ tblG := tG_3 (i := 210) rfl rfl
theorem tk_691 : (Jvm.Cond.methodLink "SnagBook" (315 : Nat) ({ cls := "SnagBook$Gauge", name := "add", desc := "(II)Z" } : Jvm.MethodName)) ∈ tblG := tG_3 (i := 211) rfl rfl
theorem tk_692 : (Jvm.Cond.instanceMethod ({ cls := "SnagBook$Gauge", name := "add", desc := "(II)Z" } : Jvm.MethodName)) ∈ tblG := tG_3 (i := 212) rfl rfl
theorem tk_693 : (Jvm.Cond.selects "SnagBook$Gauge" ({ cls := "SnagBook$Gauge", name := "add", desc := "(II)Z" } : Jvm.MethodName) ({ cls := "SnagBook$Gauge", name := "add", desc := "(II)Z" } : Jvm.MethodName)) ∈ tblG := tG_3 (i := 213) rfl rfl
theorem tk_694 : (Jvm.Cond.code ({ cls := "SnagBook$Gauge", name := "add", desc := "(II)Z" } : Jvm.MethodName) prog_5_method_3_code (3 : Nat) (Option.some Jvm.ClassFile.FieldType.boolean)) ∈ tblG := tG_3 (i := 214) rfl rfl
theorem tk_695 : (Jvm.Cond.methodLink "SnagBookLaw" (109 : Nat) ({ cls := "SnagBook", name := "gauge", desc := "(II)I" } : Jvm.MethodName)) ∈ tblG := tG_3 (i := 215) rfl rfl
theorem tk_696 : (Jvm.Cond.instanceMethod ({ cls := "SnagBook", name := "gauge", desc := "(II)I" } : Jvm.MethodName)) ∈ tblG := tG_3 (i := 216) rfl rfl
theorem tk_697 : (Jvm.Cond.selects "SnagBook" ({ cls := "SnagBook", name := "gauge", desc := "(II)I" } : Jvm.MethodName) ({ cls := "SnagBook", name := "gauge", desc := "(II)I" } : Jvm.MethodName)) ∈ tblG := tG_3 (i := 217) rfl rfl
theorem tk_698 : (Jvm.Cond.code ({ cls := "SnagBook", name := "gauge", desc := "(II)I" } : Jvm.MethodName) prog_1_method_25_code (4 : Nat) (Option.some Jvm.ClassFile.FieldType.int)) ∈ tblG := tG_3 (i := 218) rfl rfl
theorem tk_699 : (Jvm.Cond.methodLink "SnagBook" (320 : Nat) ({ cls := "SnagBook$Gauge", name := "says", desc := "(I)I" } : Jvm.MethodName)) ∈ tblG := tG_3 (i := 219) rfl rfl
theorem tk_700 : (Jvm.Cond.instanceMethod ({ cls := "SnagBook$Gauge", name := "says", desc := "(I)I" } : Jvm.MethodName)) ∈ tblG := tG_3 (i := 220) rfl rfl
theorem tk_701 : (Jvm.Cond.selects "SnagBook$Gauge" ({ cls := "SnagBook$Gauge", name := "says", desc := "(I)I" } : Jvm.MethodName) ({ cls := "SnagBook$Gauge", name := "says", desc := "(I)I" } : Jvm.MethodName)) ∈ tblG := tG_3 (i := 221) rfl rfl
theorem tk_702 : (Jvm.Cond.code ({ cls := "SnagBook$Gauge", name := "says", desc := "(I)I" } : Jvm.MethodName) prog_5_method_5_code (3 : Nat) (Option.some Jvm.ClassFile.FieldType.int)) ∈ tblG := tG_3 (i := 222) rfl rfl
theorem tk_703 : (Jvm.Cond.methodLink "SnagBook$Gauge" (27 : Nat) ({ cls := "SnagBook$Gauge", name := "isDrying", desc := "(I)Z" } : Jvm.MethodName)) ∈ tblG := tG_3 (i := 223) rfl rfl
theorem tk_705 : (Jvm.Cond.instanceMethod ({ cls := "SnagBook$Gauge", name := "isDrying", desc := "(I)Z" } : Jvm.MethodName)) ∈ tblG := tG_3 (i := 225) rfl rfl
theorem tk_706 : (Jvm.Cond.code ({ cls := "SnagBook$Gauge", name := "isDrying", desc := "(I)Z" } : Jvm.MethodName) prog_5_method_6_code (3 : Nat) (Option.some Jvm.ClassFile.FieldType.boolean)) ∈ tblG := tG_3 (i := 226) rfl rfl
theorem tk_707 : (Jvm.Cond.methodLink "SnagBook$Gauge" (37 : Nat) ({ cls := "SnagBook$Gauge", name := "paceAt", desc := "(I)I" } : Jvm.MethodName)) ∈ tblG := tG_3 (i := 227) rfl rfl
theorem tk_708 : (Jvm.Cond.instanceMethod ({ cls := "SnagBook$Gauge", name := "paceAt", desc := "(I)I" } : Jvm.MethodName)) ∈ tblG := tG_3 (i := 228) rfl rfl
theorem tk_709 : (Jvm.Cond.selects "SnagBook$Gauge" ({ cls := "SnagBook$Gauge", name := "paceAt", desc := "(I)I" } : Jvm.MethodName) ({ cls := "SnagBook$Gauge", name := "paceAt", desc := "(I)I" } : Jvm.MethodName)) ∈ tblG := tG_3 (i := 229) rfl rfl
theorem tk_710 : (Jvm.Cond.code ({ cls := "SnagBook$Gauge", name := "paceAt", desc := "(I)I" } : Jvm.MethodName) prog_5_method_4_code (3 : Nat) (Option.some Jvm.ClassFile.FieldType.int)) ∈ tblG := tG_3 (i := 230) rfl rfl
theorem tk_711 : (Jvm.Cond.methodLinkNest "SnagBook$Gauge" (22 : Nat) ({ cls := "SnagBook", name := "isIn", desc := "(II)Z" } : Jvm.MethodName) "SnagBook") ∈ lw_tbl := tT_3 (i := 231) rfl
theorem tk_712 : (Jvm.Cond.constant "SnagBook$Gauge" (26 : Nat) (-2000000000 : Int32)) ∈ tblG := tG_3 (i := 232) rfl rfl
theorem tk_713 : (Jvm.Cond.constantLong "SnagBook$Gauge" (41 : Nat) (4 : Int64)) ∈ tblG := tG_3 (i := 233) rfl rfl
theorem tk_714 : (Jvm.Cond.methodLink "SnagBook$Gauge" (31 : Nat) ({ cls := "SnagBook$Gauge", name := "swings", desc := "(I)Z" } : Jvm.MethodName)) ∈ tblG := tG_3 (i := 234) rfl rfl
theorem tk_716 : (Jvm.Cond.instanceMethod ({ cls := "SnagBook$Gauge", name := "swings", desc := "(I)Z" } : Jvm.MethodName)) ∈ tblG := tG_3 (i := 236) rfl rfl
theorem tk_717 : (Jvm.Cond.code ({ cls := "SnagBook$Gauge", name := "swings", desc := "(I)Z" } : Jvm.MethodName) prog_5_method_7_code (9 : Nat) (Option.some Jvm.ClassFile.FieldType.boolean)) ∈ tblG := tG_3 (i := 237) rfl rfl
theorem tk_718 : (Jvm.Cond.methodLink "SnagBook$Gauge" (34 : Nat) ({ cls := "SnagBook$Gauge", name := "quickens", desc := "(I)Z" } : Jvm.MethodName)) ∈ tblG := tG_3 (i := 238) rfl rfl
theorem tk_720 : (Jvm.Cond.instanceMethod ({ cls := "SnagBook$Gauge", name := "quickens", desc := "(I)Z" } : Jvm.MethodName)) ∈ tblG := tG_4 (i := 0) rfl rfl
theorem tk_721 : (Jvm.Cond.code ({ cls := "SnagBook$Gauge", name := "quickens", desc := "(I)Z" } : Jvm.MethodName) prog_5_method_8_code (3 : Nat) (Option.some Jvm.ClassFile.FieldType.boolean)) ∈ tblG := tG_4 (i := 1) rfl rfl
theorem tk_722 : (Jvm.Cond.methodLink "SnagBookLaw" (113 : Nat) ({ cls := "SnagBook", name := "pace", desc := "(II)I" } : Jvm.MethodName)) ∈ tblG := tG_4 (i := 2) rfl rfl
theorem tk_723 : (Jvm.Cond.instanceMethod ({ cls := "SnagBook", name := "pace", desc := "(II)I" } : Jvm.MethodName)) ∈ tblG := tG_4 (i := 3) rfl rfl
theorem tk_724 : (Jvm.Cond.selects "SnagBook" ({ cls := "SnagBook", name := "pace", desc := "(II)I" } : Jvm.MethodName) ({ cls := "SnagBook", name := "pace", desc := "(II)I" } : Jvm.MethodName)) ∈ tblG := tG_4 (i := 4) rfl rfl
theorem tk_725 : (Jvm.Cond.code ({ cls := "SnagBook", name := "pace", desc := "(II)I" } : Jvm.MethodName) prog_1_method_26_code (4 : Nat) (Option.some Jvm.ClassFile.FieldType.int)) ∈ tblG := tG_4 (i := 5) rfl rfl
theorem tk_726 : (Jvm.Cond.methodLink "SnagBook" (323 : Nat) ({ cls := "SnagBook$Gauge", name := "paceAt", desc := "(I)I" } : Jvm.MethodName)) ∈ tblG := tG_4 (i := 6) rfl rfl
theorem tk_727 : (Jvm.Cond.methodLink "SnagBookLaw" (117 : Nat) ({ cls := "SnagBook", name := "sinking", desc := "(II)I" } : Jvm.MethodName)) ∈ tblG := tG_4 (i := 7) rfl rfl
theorem tk_728 : (Jvm.Cond.instanceMethod ({ cls := "SnagBook", name := "sinking", desc := "(II)I" } : Jvm.MethodName)) ∈ tblG := tG_4 (i := 8) rfl rfl
theorem tk_729 : (Jvm.Cond.selects "SnagBook" ({ cls := "SnagBook", name := "sinking", desc := "(II)I" } : Jvm.MethodName) ({ cls := "SnagBook", name := "sinking", desc := "(II)I" } : Jvm.MethodName)) ∈ tblG := tG_4 (i := 9) rfl rfl
theorem tk_730 : (Jvm.Cond.code ({ cls := "SnagBook", name := "sinking", desc := "(II)I" } : Jvm.MethodName) prog_1_method_27_code (8 : Nat) (Option.some Jvm.ClassFile.FieldType.int)) ∈ tblG := tG_4 (i := 10) rfl rfl
theorem tk_731 : (Jvm.Cond.methodLink "SnagBook" (326 : Nat) ({ cls := "SnagBook", name := "isSinking", desc := "(LSnagBook$Home;)Z" } : Jvm.MethodName)) ∈ tblG := tG_4 (i := 11) rfl rfl
theorem tk_733 : (Jvm.Cond.instanceMethod ({ cls := "SnagBook", name := "isSinking", desc := "(LSnagBook$Home;)Z" } : Jvm.MethodName)) ∈ tblG := tG_4 (i := 13) rfl rfl
theorem tk_734 : (Jvm.Cond.code ({ cls := "SnagBook", name := "isSinking", desc := "(LSnagBook$Home;)Z" } : Jvm.MethodName) prog_1_method_73_code (4 : Nat) (Option.some Jvm.ClassFile.FieldType.boolean)) ∈ tblG := tG_4 (i := 14) rfl rfl
theorem tk_735 : (Jvm.Cond.methodLink "SnagBook" (493 : Nat) ({ cls := "SnagBook$Fault", name := "gaugeSays", desc := "(I)I" } : Jvm.MethodName)) ∈ tblG := tG_4 (i := 15) rfl rfl
theorem tk_736 : (Jvm.Cond.instanceMethod ({ cls := "SnagBook$Fault", name := "gaugeSays", desc := "(I)I" } : Jvm.MethodName)) ∈ tblG := tG_4 (i := 16) rfl rfl
theorem tk_737 : (Jvm.Cond.selects "SnagBook$Fault" ({ cls := "SnagBook$Fault", name := "gaugeSays", desc := "(I)I" } : Jvm.MethodName) ({ cls := "SnagBook$Fault", name := "gaugeSays", desc := "(I)I" } : Jvm.MethodName)) ∈ tblG := tG_4 (i := 17) rfl rfl
theorem tk_738 : (Jvm.Cond.code ({ cls := "SnagBook$Fault", name := "gaugeSays", desc := "(I)I" } : Jvm.MethodName) prog_3_method_11_code (2 : Nat) (Option.some Jvm.ClassFile.FieldType.int)) ∈ tblG := tG_4 (i := 18) rfl rfl
theorem tk_739 : (Jvm.Cond.methodLink "SnagBook$Fault" (105 : Nat) ({ cls := "SnagBook$Gauge", name := "says", desc := "(I)I" } : Jvm.MethodName)) ∈ tblG := tG_4 (i := 19) rfl rfl
theorem tk_740 : (Jvm.Cond.methodLink "SnagBook" (330 : Nat) ({ cls := "java/lang/Math", name := "min", desc := "(II)I" } : Jvm.MethodName)) ∈ tblG := tG_4 (i := 20) rfl rfl
theorem tk_741 : (Jvm.Cond.static ({ cls := "java/lang/Math", name := "min", desc := "(II)I" } : Jvm.MethodName)) ∈ tblG := tG_4 (i := 21) rfl rfl
theorem tk_742 : (Jvm.Cond.code ({ cls := "java/lang/Math", name := "min", desc := "(II)I" } : Jvm.MethodName) prog_17_method_69_code (2 : Nat) (Option.some Jvm.ClassFile.FieldType.int)) ∈ tblG := tG_4 (i := 22) rfl rfl
theorem tk_743 : (Jvm.Cond.methodLink "SnagBook" (336 : Nat) ({ cls := "java/lang/Math", name := "max", desc := "(II)I" } : Jvm.MethodName)) ∈ tblG := tG_4 (i := 23) rfl rfl
theorem tk_744 : (Jvm.Cond.static ({ cls := "java/lang/Math", name := "max", desc := "(II)I" } : Jvm.MethodName)) ∈ tblG := tG_4 (i := 24) rfl rfl
theorem tk_745 : (Jvm.Cond.code ({ cls := "java/lang/Math", name := "max", desc := "(II)I" } : Jvm.MethodName) prog_17_method_65_code (2 : Nat) (Option.some Jvm.ClassFile.FieldType.int)) ∈ tblG := tG_4 (i := 25) rfl rfl
theorem tk_746 : (Jvm.Cond.methodLink "SnagBookLaw" (121 : Nat) ({ cls := "SnagBook", name := "men", desc := "(II)I" } : Jvm.MethodName)) ∈ tblG := tG_4 (i := 26) rfl rfl
theorem tk_747 : (Jvm.Cond.instanceMethod ({ cls := "SnagBook", name := "men", desc := "(II)I" } : Jvm.MethodName)) ∈ tblG := tG_4 (i := 27) rfl rfl
theorem tk_748 : (Jvm.Cond.selects "SnagBook" ({ cls := "SnagBook", name := "men", desc := "(II)I" } : Jvm.MethodName) ({ cls := "SnagBook", name := "men", desc := "(II)I" } : Jvm.MethodName)) ∈ tblG := tG_4 (i := 28) rfl rfl
theorem tk_749 : (Jvm.Cond.code ({ cls := "SnagBook", name := "men", desc := "(II)I" } : Jvm.MethodName) prog_1_method_28_code (4 : Nat) (Option.some Jvm.ClassFile.FieldType.int)) ∈ tblG := tG_4 (i := 29) rfl rfl
theorem tk_750 : (Jvm.Cond.methodLink "SnagBookLaw" (125 : Nat) ({ cls := "SnagBook", name := "job", desc := "(I)I" } : Jvm.MethodName)) ∈ tblG := tG_4 (i := 30) rfl rfl
theorem tk_751 : (Jvm.Cond.instanceMethod ({ cls := "SnagBook", name := "job", desc := "(I)I" } : Jvm.MethodName)) ∈ tblG := tG_4 (i := 31) rfl rfl
theorem tk_752 : (Jvm.Cond.selects "SnagBook" ({ cls := "SnagBook", name := "job", desc := "(I)I" } : Jvm.MethodName) ({ cls := "SnagBook", name := "job", desc := "(I)I" } : Jvm.MethodName)) ∈ tblG := tG_4 (i := 32) rfl rfl
theorem tk_753 : (Jvm.Cond.code ({ cls := "SnagBook", name := "job", desc := "(I)I" } : Jvm.MethodName) prog_1_method_29_code (3 : Nat) (Option.some Jvm.ClassFile.FieldType.int)) ∈ tblG := tG_4 (i := 33) rfl rfl
theorem tk_754 : (Jvm.Cond.methodLink "SnagBook" (342 : Nat) ({ cls := "SnagBook$Diary", name := "has", desc := "(LSnagBook$Fault;)Z" } : Jvm.MethodName)) ∈ tblG := tG_4 (i := 34) rfl rfl
theorem tk_755 : (Jvm.Cond.instanceMethod ({ cls := "SnagBook$Diary", name := "has", desc := "(LSnagBook$Fault;)Z" } : Jvm.MethodName)) ∈ tblG := tG_4 (i := 35) rfl rfl
theorem tk_756 : (Jvm.Cond.selects "SnagBook$Diary" ({ cls := "SnagBook$Diary", name := "has", desc := "(LSnagBook$Fault;)Z" } : Jvm.MethodName) ({ cls := "SnagBook$Diary", name := "has", desc := "(LSnagBook$Fault;)Z" } : Jvm.MethodName)) ∈ tblG := tG_4 (i := 36) rfl rfl
theorem tk_757 : (Jvm.Cond.code ({ cls := "SnagBook$Diary", name := "has", desc := "(LSnagBook$Fault;)Z" } : Jvm.MethodName) prog_2_method_2_code (3 : Nat) (Option.some Jvm.ClassFile.FieldType.boolean)) ∈ tblG := tG_4 (i := 37) rfl rfl
theorem tk_758 : (Jvm.Cond.methodLink "SnagBook" (344 : Nat) ({ cls := "SnagBook$Diary", name := "add", desc := "(LSnagBook$Fault;)Z" } : Jvm.MethodName)) ∈ tblG := tG_4 (i := 38) rfl rfl
theorem tk_759 : (Jvm.Cond.instanceMethod ({ cls := "SnagBook$Diary", name := "add", desc := "(LSnagBook$Fault;)Z" } : Jvm.MethodName)) ∈ tblG := tG_4 (i := 39) rfl rfl
theorem tk_760 : (Jvm.Cond.selects "SnagBook$Diary" ({ cls := "SnagBook$Diary", name := "add", desc := "(LSnagBook$Fault;)Z" } : Jvm.MethodName) ({ cls := "SnagBook$Diary", name := "add", desc := "(LSnagBook$Fault;)Z" } : Jvm.MethodName)) ∈ tblG := tG_4 (i := 40) rfl rfl
theorem tk_761 : (Jvm.Cond.code ({ cls := "SnagBook$Diary", name := "add", desc := "(LSnagBook$Fault;)Z" } : Jvm.MethodName) prog_2_method_3_code (2 : Nat) (Option.some Jvm.ClassFile.FieldType.boolean)) ∈ tblG := tG_4 (i := 41) rfl rfl
theorem tk_762 : (Jvm.Cond.methodLink "SnagBookLaw" (129 : Nat) ({ cls := "SnagBook", name := "plan", desc := "(I)I" } : Jvm.MethodName)) ∈ tblG := tG_4 (i := 42) rfl rfl
theorem tk_763 : (Jvm.Cond.instanceMethod ({ cls := "SnagBook", name := "plan", desc := "(I)I" } : Jvm.MethodName)) ∈ tblG := tG_4 (i := 43) rfl rfl
theorem tk_764 : (Jvm.Cond.selects "SnagBook" ({ cls := "SnagBook", name := "plan", desc := "(I)I" } : Jvm.MethodName) ({ cls := "SnagBook", name := "plan", desc := "(I)I" } : Jvm.MethodName)) ∈ tblG := tG_4 (i := 44) rfl rfl
theorem tk_765 : (Jvm.Cond.code ({ cls := "SnagBook", name := "plan", desc := "(I)I" } : Jvm.MethodName) prog_1_method_30_code (2 : Nat) (Option.some Jvm.ClassFile.FieldType.int)) ∈ tblG := tG_4 (i := 45) rfl rfl
theorem tk_766 : (Jvm.Cond.methodLink "SnagBook" (347 : Nat) ({ cls := "SnagBook$Diary", name := "settle", desc := "(II)I" } : Jvm.MethodName)) ∈ tblG := tG_4 (i := 46) rfl rfl
theorem tk_767 : (Jvm.Cond.instanceMethod ({ cls := "SnagBook$Diary", name := "settle", desc := "(II)I" } : Jvm.MethodName)) ∈ tblG := tG_4 (i := 47) rfl rfl
theorem tk_768 : (Jvm.Cond.selects "SnagBook$Diary" ({ cls := "SnagBook$Diary", name := "settle", desc := "(II)I" } : Jvm.MethodName) ({ cls := "SnagBook$Diary", name := "settle", desc := "(II)I" } : Jvm.MethodName)) ∈ tblG := tG_4 (i := 48) rfl rfl
theorem tk_769 : (Jvm.Cond.code ({ cls := "SnagBook$Diary", name := "settle", desc := "(II)I" } : Jvm.MethodName) prog_2_method_4_code (7 : Nat) (Option.some Jvm.ClassFile.FieldType.int)) ∈ tblG := tG_4 (i := 49) rfl rfl
theorem tk_770 : (Jvm.Cond.methodLink "SnagBook$Diary" (45 : Nat) ({ cls := "SnagBook$Diary", name := "areEnough", desc := "(I)Z" } : Jvm.MethodName)) ∈ tblG := tG_4 (i := 50) rfl rfl
theorem tk_772 : (Jvm.Cond.instanceMethod ({ cls := "SnagBook$Diary", name := "areEnough", desc := "(I)Z" } : Jvm.MethodName)) ∈ tblG := tG_4 (i := 52) rfl rfl
theorem tk_773 : (Jvm.Cond.code ({ cls := "SnagBook$Diary", name := "areEnough", desc := "(I)Z" } : Jvm.MethodName) prog_2_method_5_code (6 : Nat) (Option.some Jvm.ClassFile.FieldType.boolean)) ∈ tblG := tG_4 (i := 53) rfl rfl
theorem tk_774 : (Jvm.Cond.methodLinkNest "SnagBook$Diary" (84 : Nat) ({ cls := "SnagBook", name := "isIn", desc := "(II)Z" } : Jvm.MethodName) "SnagBook") ∈ lw_tbl := tT_4 (i := 54) rfl
theorem tk_775 : (Jvm.Cond.constantLong "SnagBook$Diary" (49 : Nat) (174960000000000 : Int64)) ∈ tblG := tG_4 (i := 55) rfl rfl
theorem tk_776 : (Jvm.Cond.methodLink "SnagBook$Diary" (51 : Nat) ({ cls := "SnagBook$Diary", name := "priceDay", desc := "(III)V" } : Jvm.MethodName)) ∈ tblG := tG_4 (i := 56) rfl rfl
theorem tk_778 : (Jvm.Cond.instanceMethod ({ cls := "SnagBook$Diary", name := "priceDay", desc := "(III)V" } : Jvm.MethodName)) ∈ tblG := tG_4 (i := 58) rfl rfl
theorem tk_779 : (Jvm.Cond.code ({ cls := "SnagBook$Diary", name := "priceDay", desc := "(III)V" } : Jvm.MethodName) prog_2_method_6_code (10 : Nat) (Option.none : Option Jvm.ClassFile.FieldType)) ∈ tblG := tG_4 (i := 59) rfl rfl
theorem tk_780 : (Jvm.Cond.methodLink "SnagBook$Diary" (88 : Nat) ({ cls := "SnagBook$Diary", name := "firstOf", desc := "(I)I" } : Jvm.MethodName)) ∈ tblG := tG_4 (i := 60) rfl rfl
theorem tk_782 : (Jvm.Cond.instanceMethod ({ cls := "SnagBook$Diary", name := "firstOf", desc := "(I)I" } : Jvm.MethodName)) ∈ tblG := tG_4 (i := 62) rfl rfl
theorem tk_783 : (Jvm.Cond.code ({ cls := "SnagBook$Diary", name := "firstOf", desc := "(I)I" } : Jvm.MethodName) prog_2_method_7_code (3 : Nat) (Option.some Jvm.ClassFile.FieldType.int)) ∈ tblG := tG_4 (i := 63) rfl rfl
theorem tk_784 : (Jvm.Cond.constantLong "SnagBook$Diary" (73 : Nat) (174960000000 : Int64)) ∈ tblG := tG_4 (i := 64) rfl rfl
theorem tk_785 : (Jvm.Cond.constantLong "SnagBook$Diary" (98 : Nat) (170859375 : Int64)) ∈ tblG := tG_4 (i := 65) rfl rfl
theorem tk_786 : (Jvm.Cond.methodLink "SnagBook$Diary" (100 : Nat) ({ cls := "SnagBook$Diary", name := "digit", desc := "(I)J" } : Jvm.MethodName)) ∈ tblG := tG_4 (i := 66) rfl rfl
theorem tk_787 : (Jvm.Cond.static ({ cls := "SnagBook$Diary", name := "digit", desc := "(I)J" } : Jvm.MethodName)) ∈ tblG := tG_4 (i := 67) rfl rfl
theorem tk_788 : (Jvm.Cond.code ({ cls := "SnagBook$Diary", name := "digit", desc := "(I)J" } : Jvm.MethodName) prog_2_method_8_code (4 : Nat) (Option.some Jvm.ClassFile.FieldType.long)) ∈ tblG := tG_4 (i := 68) rfl rfl
theorem tk_789 : (Jvm.Cond.constantLong "SnagBook$Diary" (112 : Nat) (15 : Int64)) ∈ tblG := tG_4 (i := 69) rfl rfl
theorem tk_790 : (Jvm.Cond.methodLink "SnagBook$Diary" (107 : Nat) ({ cls := "SnagBook$Home", name := "isInOn", desc := "(I)Z" } : Jvm.MethodName)) ∈ tblG := tG_4 (i := 70) rfl rfl
theorem tk_791 : (Jvm.Cond.instanceMethod ({ cls := "SnagBook$Home", name := "isInOn", desc := "(I)Z" } : Jvm.MethodName)) ∈ tblG := tG_4 (i := 71) rfl rfl
theorem tk_792 : (Jvm.Cond.selects "SnagBook$Home" ({ cls := "SnagBook$Home", name := "isInOn", desc := "(I)Z" } : Jvm.MethodName) ({ cls := "SnagBook$Home", name := "isInOn", desc := "(I)Z" } : Jvm.MethodName)) ∈ tblG := tG_4 (i := 72) rfl rfl
theorem tk_793 : (Jvm.Cond.code ({ cls := "SnagBook$Home", name := "isInOn", desc := "(I)Z" } : Jvm.MethodName) prog_7_method_3_code (2 : Nat) (Option.some Jvm.ClassFile.FieldType.boolean)) ∈ tblG := tG_4 (i := 73) rfl rfl
theorem tk_794 : (Jvm.Cond.methodLink "SnagBook$Diary" (63 : Nat) ({ cls := "java/lang/Math", name := "min", desc := "(JJ)J" } : Jvm.MethodName)) ∈ tblG := tG_4 (i := 74) rfl rfl
theorem tk_795 : (Jvm.Cond.static ({ cls := "java/lang/Math", name := "min", desc := "(JJ)J" } : Jvm.MethodName)) ∈ tblG := tG_4 (i := 75) rfl rfl
theorem tk_796 : (Jvm.Cond.code ({ cls := "java/lang/Math", name := "min", desc := "(JJ)J" } : Jvm.MethodName) prog_17_method_70_code (4 : Nat) (Option.some Jvm.ClassFile.FieldType.long)) ∈ tblG := tG_4 (i := 76) rfl rfl
theorem tk_797 : (Jvm.Cond.methodLink "SnagBook$Diary" (55 : Nat) ({ cls := "SnagBook$Diary", name := "addDay", desc := "(I)V" } : Jvm.MethodName)) ∈ tblG := tG_4 (i := 77) rfl rfl
theorem tk_799 : (Jvm.Cond.instanceMethod ({ cls := "SnagBook$Diary", name := "addDay", desc := "(I)V" } : Jvm.MethodName)) ∈ tblG := tG_4 (i := 79) rfl rfl
theorem tk_800 : (Jvm.Cond.code ({ cls := "SnagBook$Diary", name := "addDay", desc := "(I)V" } : Jvm.MethodName) prog_2_method_9_code (4 : Nat) (Option.none : Option Jvm.ClassFile.FieldType)) ∈ tblG := tG_4 (i := 80) rfl rfl
theorem tk_801 : (Jvm.Cond.methodLink "SnagBook$Diary" (59 : Nat) ({ cls := "SnagBook$Diary", name := "priceWithout", desc := "(I)J" } : Jvm.MethodName)) ∈ tblG := tG_4 (i := 81) rfl rfl
theorem tk_803 : (Jvm.Cond.instanceMethod ({ cls := "SnagBook$Diary", name := "priceWithout", desc := "(I)J" } : Jvm.MethodName)) ∈ tblG := tG_4 (i := 83) rfl rfl
theorem tk_804 : (Jvm.Cond.code ({ cls := "SnagBook$Diary", name := "priceWithout", desc := "(I)J" } : Jvm.MethodName) prog_2_method_10_code (5 : Nat) (Option.some Jvm.ClassFile.FieldType.long)) ∈ tblG := tG_4 (i := 84) rfl rfl
theorem tk_805 : (Jvm.Cond.constantLong "SnagBook$Diary" (114 : Nat) (21870000000 : Int64)) ∈ tblG := tG_4 (i := 85) rfl rfl
theorem tk_806 : (Jvm.Cond.constantLong "SnagBook$Diary" (116 : Nat) (14 : Int64)) ∈ tblG := tG_4 (i := 86) rfl rfl
theorem tk_807 : (Jvm.Cond.methodLink "SnagBook$Diary" (69 : Nat) ({ cls := "SnagBook$Diary", name := "readDays", desc := "(JI)V" } : Jvm.MethodName)) ∈ tblG := tG_4 (i := 87) rfl rfl
theorem tk_809 : (Jvm.Cond.instanceMethod ({ cls := "SnagBook$Diary", name := "readDays", desc := "(JI)V" } : Jvm.MethodName)) ∈ tblG := tG_4 (i := 89) rfl rfl
theorem tk_810 : (Jvm.Cond.code ({ cls := "SnagBook$Diary", name := "readDays", desc := "(JI)V" } : Jvm.MethodName) prog_2_method_11_code (6 : Nat) (Option.none : Option Jvm.ClassFile.FieldType)) ∈ tblG := tG_4 (i := 90) rfl rfl
theorem tk_811 : (Jvm.Cond.methodLink "SnagBookLaw" (133 : Nat) ({ cls := "SnagBook", name := "planned", desc := "(I)I" } : Jvm.MethodName)) ∈ tblG := tG_4 (i := 91) rfl rfl
theorem tk_812 : (Jvm.Cond.instanceMethod ({ cls := "SnagBook", name := "planned", desc := "(I)I" } : Jvm.MethodName)) ∈ tblG := tG_4 (i := 92) rfl rfl
theorem tk_813 : (Jvm.Cond.selects "SnagBook" ({ cls := "SnagBook", name := "planned", desc := "(I)I" } : Jvm.MethodName) ({ cls := "SnagBook", name := "planned", desc := "(I)I" } : Jvm.MethodName)) ∈ tblG := tG_4 (i := 93) rfl rfl
theorem tk_814 : (Jvm.Cond.code ({ cls := "SnagBook", name := "planned", desc := "(I)I" } : Jvm.MethodName) prog_1_method_31_code (2 : Nat) (Option.some Jvm.ClassFile.FieldType.int)) ∈ tblG := tG_4 (i := 94) rfl rfl
theorem tk_815 : (Jvm.Cond.methodLink "SnagBookLaw" (137 : Nat) ({ cls := "SnagBook", name := "feed", desc := "(II)I" } : Jvm.MethodName)) ∈ tblG := tG_4 (i := 95) rfl rfl
theorem tk_816 : (Jvm.Cond.instanceMethod ({ cls := "SnagBook", name := "feed", desc := "(II)I" } : Jvm.MethodName)) ∈ tblG := tG_4 (i := 96) rfl rfl
theorem tk_817 : (Jvm.Cond.selects "SnagBook" ({ cls := "SnagBook", name := "feed", desc := "(II)I" } : Jvm.MethodName) ({ cls := "SnagBook", name := "feed", desc := "(II)I" } : Jvm.MethodName)) ∈ tblG := tG_4 (i := 97) rfl rfl
theorem tk_818 : (Jvm.Cond.code ({ cls := "SnagBook", name := "feed", desc := "(II)I" } : Jvm.MethodName) prog_1_method_32_code (4 : Nat) (Option.some Jvm.ClassFile.FieldType.int)) ∈ tblG := tG_4 (i := 98) rfl rfl
theorem tk_819 : (Jvm.Cond.methodLink "SnagBookLaw" (141 : Nat) ({ cls := "SnagBook", name := "text", desc := "(II)I" } : Jvm.MethodName)) ∈ tblG := tG_4 (i := 99) rfl rfl
theorem tk_820 : (Jvm.Cond.instanceMethod ({ cls := "SnagBook", name := "text", desc := "(II)I" } : Jvm.MethodName)) ∈ tblG := tG_4 (i := 100) rfl rfl
theorem tk_821 : (Jvm.Cond.selects "SnagBook" ({ cls := "SnagBook", name := "text", desc := "(II)I" } : Jvm.MethodName) ({ cls := "SnagBook", name := "text", desc := "(II)I" } : Jvm.MethodName)) ∈ tblG := tG_4 (i := 101) rfl rfl
theorem tk_822 : (Jvm.Cond.code ({ cls := "SnagBook", name := "text", desc := "(II)I" } : Jvm.MethodName) prog_1_method_33_code (6 : Nat) (Option.some Jvm.ClassFile.FieldType.int)) ∈ tblG := tG_4 (i := 102) rfl rfl
theorem tk_823 : (Jvm.Cond.methodLink "SnagBook" (359 : Nat) ({ cls := "SnagBook$Shelf", name := "isFull", desc := "()Z" } : Jvm.MethodName)) ∈ tblG := tG_4 (i := 103) rfl rfl
theorem tk_824 : (Jvm.Cond.instanceMethod ({ cls := "SnagBook$Shelf", name := "isFull", desc := "()Z" } : Jvm.MethodName)) ∈ tblG := tG_4 (i := 104) rfl rfl
theorem tk_825 : (Jvm.Cond.selects "SnagBook$Shelf" ({ cls := "SnagBook$Shelf", name := "isFull", desc := "()Z" } : Jvm.MethodName) ({ cls := "SnagBook$Shelf", name := "isFull", desc := "()Z" } : Jvm.MethodName)) ∈ tblG := tG_4 (i := 105) rfl rfl
theorem tk_826 : (Jvm.Cond.code ({ cls := "SnagBook$Shelf", name := "isFull", desc := "()Z" } : Jvm.MethodName) prog_11_method_2_code (1 : Nat) (Option.some Jvm.ClassFile.FieldType.boolean)) ∈ tblG := tG_4 (i := 106) rfl rfl
theorem tk_827 : (Jvm.Cond.methodLink "SnagBook" (360 : Nat) ({ cls := "SnagBook$Judge", name := "faultIn", desc := "([II)I" } : Jvm.MethodName)) ∈ tblG := tG_4 (i := 107) rfl rfl
theorem tk_828 : (Jvm.Cond.static ({ cls := "SnagBook$Judge", name := "faultIn", desc := "([II)I" } : Jvm.MethodName)) ∈ tblG := tG_4 (i := 108) rfl rfl
theorem tk_829 : (Jvm.Cond.code ({ cls := "SnagBook$Judge", name := "faultIn", desc := "([II)I" } : Jvm.MethodName) prog_8_method_2_code (6 : Nat) (Option.some Jvm.ClassFile.FieldType.int)) ∈ tblG := tG_4 (i := 109) rfl rfl
theorem tk_830 : (Jvm.Cond.methodLinkNest "SnagBook$Judge" (15 : Nat) ({ cls := "SnagBook", name := "isDigit", desc := "(I)Z" } : Jvm.MethodName) "SnagBook") ∈ lw_tbl := tT_4 (i := 110) rfl
theorem tk_831 : (Jvm.Cond.static ({ cls := "SnagBook", name := "isDigit", desc := "(I)Z" } : Jvm.MethodName)) ∈ tblG := tG_4 (i := 111) rfl rfl
theorem tk_832 : (Jvm.Cond.code ({ cls := "SnagBook", name := "isDigit", desc := "(I)Z" } : Jvm.MethodName) prog_1_method_84_code (1 : Nat) (Option.some Jvm.ClassFile.FieldType.boolean)) ∈ tblG := tG_4 (i := 112) rfl rfl
theorem tk_833 : (Jvm.Cond.methodLink "SnagBook$Judge" (19 : Nat) ({ cls := "SnagBook$Judge", name := "nextPhase", desc := "(II)I" } : Jvm.MethodName)) ∈ tblG := tG_4 (i := 113) rfl rfl
theorem tk_834 : (Jvm.Cond.static ({ cls := "SnagBook$Judge", name := "nextPhase", desc := "(II)I" } : Jvm.MethodName)) ∈ tblG := tG_4 (i := 114) rfl rfl
theorem tk_835 : (Jvm.Cond.code ({ cls := "SnagBook$Judge", name := "nextPhase", desc := "(II)I" } : Jvm.MethodName) prog_8_method_3_code (2 : Nat) (Option.some Jvm.ClassFile.FieldType.int)) ∈ tblG := tG_4 (i := 115) rfl rfl
theorem tk_836 : (Jvm.Cond.stringRef "SnagBook$Judge" (23 : Nat) "yktsnogdf") ∈ lw_tbl := tT_4 (i := 116) rfl
theorem tk_837 : (Jvm.Cond.methodLink "SnagBook$Judge" (25 : Nat) ({ cls := "SnagBook$Judge", name := "nextPhaseIf", desc := "(Ljava/lang/String;II)I" } : Jvm.MethodName)) ∈ tblG := tG_4 (i := 117) rfl rfl
theorem tk_838 : (Jvm.Cond.static ({ cls := "SnagBook$Judge", name := "nextPhaseIf", desc := "(Ljava/lang/String;II)I" } : Jvm.MethodName)) ∈ tblG := tG_4 (i := 118) rfl rfl
theorem tk_839 : (Jvm.Cond.code ({ cls := "SnagBook$Judge", name := "nextPhaseIf", desc := "(Ljava/lang/String;II)I" } : Jvm.MethodName) prog_8_method_4_code (3 : Nat) (Option.some Jvm.ClassFile.FieldType.int)) ∈ tblG := tG_4 (i := 119) rfl rfl
theorem tk_840 : (Jvm.Cond.methodLink "SnagBook$Judge" (33 : Nat) ({ cls := "java/lang/String", name := "indexOf", desc := "(I)I" } : Jvm.MethodName)) ∈ tblG := tG_4 (i := 120) rfl rfl
theorem tk_841 : (Jvm.Cond.instanceMethod ({ cls := "java/lang/String", name := "indexOf", desc := "(I)I" } : Jvm.MethodName)) ∈ tblG := tG_4 (i := 121) rfl rfl
theorem tk_842 : (Jvm.Cond.selects "java/lang/String" ({ cls := "java/lang/String", name := "indexOf", desc := "(I)I" } : Jvm.MethodName) ({ cls := "java/lang/String", name := "indexOf", desc := "(I)I" } : Jvm.MethodName)) ∈ tblG := tG_4 (i := 122) rfl rfl
theorem tk_843 : (Jvm.Cond.code ({ cls := "java/lang/String", name := "indexOf", desc := "(I)I" } : Jvm.MethodName) prog_18_method_79_code (2 : Nat) (Option.some Jvm.ClassFile.FieldType.int)) ∈ tblG := tG_4 (i := 123) rfl rfl
theorem tk_844 : (Jvm.Cond.methodLink "java/lang/String" (633 : Nat) ({ cls := "java/lang/String", name := "indexOf", desc := "(II)I" } : Jvm.MethodName)) ∈ tblG := tG_4 (i := 124) rfl rfl
theorem tk_845 : (Jvm.Cond.instanceMethod ({ cls := "java/lang/String", name := "indexOf", desc := "(II)I" } : Jvm.MethodName)) ∈ tblG := tG_4 (i := 125) rfl rfl
theorem tk_846 : (Jvm.Cond.selects "java/lang/String" ({ cls := "java/lang/String", name := "indexOf", desc := "(II)I" } : Jvm.MethodName) ({ cls := "java/lang/String", name := "indexOf", desc := "(II)I" } : Jvm.MethodName)) ∈ tblG := tG_4 (i := 126) rfl rfl
theorem tk_847 : (Jvm.Cond.code ({ cls := "java/lang/String", name := "indexOf", desc := "(II)I" } : Jvm.MethodName) prog_18_method_80_code (3 : Nat) (Option.some Jvm.ClassFile.FieldType.int)) ∈ tblG := tG_4 (i := 127) rfl rfl
theorem tk_848 : (Jvm.Cond.methodLink "java/lang/String" (492 : Nat) ({ cls := "java/lang/String", name := "isLatin1", desc := "()Z" } : Jvm.MethodName)) ∈ tblG := tG_4 (i := 128) rfl rfl
theorem tk_849 : (Jvm.Cond.instanceMethod ({ cls := "java/lang/String", name := "isLatin1", desc := "()Z" } : Jvm.MethodName)) ∈ tblG := tG_4 (i := 129) rfl rfl
theorem tk_850 : (Jvm.Cond.selects "java/lang/String" ({ cls := "java/lang/String", name := "isLatin1", desc := "()Z" } : Jvm.MethodName) ({ cls := "java/lang/String", name := "isLatin1", desc := "()Z" } : Jvm.MethodName)) ∈ tblG := tG_4 (i := 130) rfl rfl
theorem tk_851 : (Jvm.Cond.code ({ cls := "java/lang/String", name := "isLatin1", desc := "()Z" } : Jvm.MethodName) prog_18_method_154_code (1 : Nat) (Option.some Jvm.ClassFile.FieldType.boolean)) ∈ tblG := tG_4 (i := 131) rfl rfl
theorem tk_852 : (Jvm.Cond.fieldLink "java/lang/String" (38 : Nat) "java/lang/String" "COMPACT_STRINGS" "Z") ∈ tblG := tG_4 (i := 132) rfl rfl
theorem tk_853 : (Jvm.Cond.laysStatic "java/lang/String" "COMPACT_STRINGS" "Z") ∈ lw_tbl := tT_4 (i := 133) rfl
theorem tk_854 : (Jvm.Cond.methodLink "java/lang/String" (505 : Nat) ({ cls := "java/lang/String", name := "length", desc := "()I" } : Jvm.MethodName)) ∈ tblG := tG_4 (i := 134) rfl rfl
theorem tk_855 : (Jvm.Cond.instanceMethod ({ cls := "java/lang/String", name := "length", desc := "()I" } : Jvm.MethodName)) ∈ tblG := tG_4 (i := 135) rfl rfl
theorem tk_856 : (Jvm.Cond.selects "java/lang/String" ({ cls := "java/lang/String", name := "length", desc := "()I" } : Jvm.MethodName) ({ cls := "java/lang/String", name := "length", desc := "()I" } : Jvm.MethodName)) ∈ tblG := tG_4 (i := 136) rfl rfl
theorem tk_857 : (Jvm.Cond.code ({ cls := "java/lang/String", name := "length", desc := "()I" } : Jvm.MethodName) prog_18_method_54_code (1 : Nat) (Option.some Jvm.ClassFile.FieldType.int)) ∈ tblG := tG_4 (i := 137) rfl rfl
theorem tk_858 : (Jvm.Cond.methodLink "java/lang/String" (335 : Nat) ({ cls := "java/lang/String", name := "coder", desc := "()B" } : Jvm.MethodName)) ∈ tblG := tG_4 (i := 138) rfl rfl
theorem tk_859 : (Jvm.Cond.instanceMethod ({ cls := "java/lang/String", name := "coder", desc := "()B" } : Jvm.MethodName)) ∈ tblG := tG_4 (i := 139) rfl rfl
theorem tk_860 : (Jvm.Cond.selects "java/lang/String" ({ cls := "java/lang/String", name := "coder", desc := "()B" } : Jvm.MethodName) ({ cls := "java/lang/String", name := "coder", desc := "()B" } : Jvm.MethodName)) ∈ tblG := tG_4 (i := 140) rfl rfl
theorem tk_861 : (Jvm.Cond.code ({ cls := "java/lang/String", name := "coder", desc := "()B" } : Jvm.MethodName) prog_18_method_152_code (1 : Nat) (Option.some Jvm.ClassFile.FieldType.byte)) ∈ tblG := tG_4 (i := 141) rfl rfl
theorem tk_862 : (Jvm.Cond.methodLink "java/lang/String" (637 : Nat) ({ cls := "java/lang/StringLatin1", name := "indexOf", desc := "([BIII)I" } : Jvm.MethodName)) ∈ tblG := tG_4 (i := 142) rfl rfl
theorem tk_863 : (Jvm.Cond.static ({ cls := "java/lang/StringLatin1", name := "indexOf", desc := "([BIII)I" } : Jvm.MethodName)) ∈ tblG := tG_4 (i := 143) rfl rfl
theorem tk_864 : (Jvm.Cond.code ({ cls := "java/lang/StringLatin1", name := "indexOf", desc := "([BIII)I" } : Jvm.MethodName) prog_19_method_22_code (4 : Nat) (Option.some Jvm.ClassFile.FieldType.int)) ∈ tblG := tG_4 (i := 144) rfl rfl
theorem tk_865 : (Jvm.Cond.methodLink "java/lang/StringLatin1" (88 : Nat) ({ cls := "java/lang/StringLatin1", name := "canEncode", desc := "(I)Z" } : Jvm.MethodName)) ∈ tblG := tG_4 (i := 145) rfl rfl
theorem tk_866 : (Jvm.Cond.static ({ cls := "java/lang/StringLatin1", name := "canEncode", desc := "(I)Z" } : Jvm.MethodName)) ∈ tblG := tG_4 (i := 146) rfl rfl
theorem tk_867 : (Jvm.Cond.code ({ cls := "java/lang/StringLatin1", name := "canEncode", desc := "(I)Z" } : Jvm.MethodName) prog_19_method_4_code (1 : Nat) (Option.some Jvm.ClassFile.FieldType.boolean)) ∈ tblG := tG_4 (i := 147) rfl rfl
theorem tk_868 : (Jvm.Cond.methodLink "java/lang/StringLatin1" (92 : Nat) ({ cls := "java/lang/Math", name := "max", desc := "(II)I" } : Jvm.MethodName)) ∈ tblG := tG_4 (i := 148) rfl rfl
theorem tk_869 : (Jvm.Cond.methodLink "java/lang/StringLatin1" (38 : Nat) ({ cls := "java/lang/Math", name := "min", desc := "(II)I" } : Jvm.MethodName)) ∈ tblG := tG_4 (i := 149) rfl rfl
theorem tk_870 : (Jvm.Cond.methodLink "java/lang/StringLatin1" (95 : Nat) ({ cls := "java/lang/StringLatin1", name := "indexOfChar", desc := "([BIII)I" } : Jvm.MethodName)) ∈ tblG := tG_4 (i := 150) rfl rfl
theorem tk_871 : (Jvm.Cond.static ({ cls := "java/lang/StringLatin1", name := "indexOfChar", desc := "([BIII)I" } : Jvm.MethodName)) ∈ tblG := tG_4 (i := 151) rfl rfl
theorem tk_872 : (Jvm.Cond.code ({ cls := "java/lang/StringLatin1", name := "indexOfChar", desc := "([BIII)I" } : Jvm.MethodName) prog_19_method_23_code (6 : Nat) (Option.some Jvm.ClassFile.FieldType.int)) ∈ tblG := tG_4 (i := 152) rfl rfl
theorem tk_873 : (Jvm.Cond.methodLink "java/lang/String" (640 : Nat) ({ cls := "java/lang/StringUTF16", name := "indexOf", desc := "([BIII)I" } : Jvm.MethodName)) ∈ tblG := tG_4 (i := 153) rfl rfl
theorem tk_874 : (Jvm.Cond.static ({ cls := "java/lang/StringUTF16", name := "indexOf", desc := "([BIII)I" } : Jvm.MethodName)) ∈ tblG := tG_4 (i := 154) rfl rfl
theorem tk_875 : (Jvm.Cond.code ({ cls := "java/lang/StringUTF16", name := "indexOf", desc := "([BIII)I" } : Jvm.MethodName) prog_20_method_40_code (4 : Nat) (Option.some Jvm.ClassFile.FieldType.int)) ∈ tblG := tG_4 (i := 155) rfl rfl
theorem tk_876 : (Jvm.Cond.methodLink "java/lang/StringUTF16" (224 : Nat) ({ cls := "java/lang/Math", name := "max", desc := "(II)I" } : Jvm.MethodName)) ∈ tblG := tG_4 (i := 156) rfl rfl
theorem tk_877 : (Jvm.Cond.methodLink "java/lang/StringUTF16" (183 : Nat) ({ cls := "java/lang/Math", name := "min", desc := "(II)I" } : Jvm.MethodName)) ∈ tblG := tG_4 (i := 157) rfl rfl
theorem tk_878 : (Jvm.Cond.constant "java/lang/StringUTF16" (227 : Nat) (65536 : Int32)) ∈ tblG := tG_4 (i := 158) rfl rfl
theorem tk_879 : (Jvm.Cond.methodLink "java/lang/StringUTF16" (228 : Nat) ({ cls := "java/lang/StringUTF16", name := "indexOfChar", desc := "([BIII)I" } : Jvm.MethodName)) ∈ tblG := tG_4 (i := 159) rfl rfl
theorem tk_880 : (Jvm.Cond.static ({ cls := "java/lang/StringUTF16", name := "indexOfChar", desc := "([BIII)I" } : Jvm.MethodName)) ∈ tblG := tG_4 (i := 160) rfl rfl
theorem tk_881 : (Jvm.Cond.code ({ cls := "java/lang/StringUTF16", name := "indexOfChar", desc := "([BIII)I" } : Jvm.MethodName) prog_20_method_47_code (4 : Nat) (Option.some Jvm.ClassFile.FieldType.int)) ∈ tblG := tG_4 (i := 161) rfl rfl
theorem tk_882 : (Jvm.Cond.methodLink "java/lang/StringUTF16" (96 : Nat) ({ cls := "java/lang/StringUTF16", name := "checkBoundsBeginEnd", desc := "(II[B)V" } : Jvm.MethodName)) ∈ tblG := tG_4 (i := 162) rfl rfl
theorem tk_883 : (Jvm.Cond.static ({ cls := "java/lang/StringUTF16", name := "checkBoundsBeginEnd", desc := "(II[B)V" } : Jvm.MethodName)) ∈ tblG := tG_4 (i := 163) rfl rfl
theorem tk_884 : (Jvm.Cond.code ({ cls := "java/lang/StringUTF16", name := "checkBoundsBeginEnd", desc := "(II[B)V" } : Jvm.MethodName) prog_20_method_93_code (3 : Nat) (Option.none : Option Jvm.ClassFile.FieldType)) ∈ tblG := tG_4 (i := 164) rfl rfl
theorem tk_885 : (Jvm.Cond.methodLink "java/lang/StringUTF16" (48 : Nat) ({ cls := "java/lang/StringUTF16", name := "length", desc := "([B)I" } : Jvm.MethodName)) ∈ tblG := tG_4 (i := 165) rfl rfl
theorem tk_886 : (Jvm.Cond.static ({ cls := "java/lang/StringUTF16", name := "length", desc := "([B)I" } : Jvm.MethodName)) ∈ tblG := tG_4 (i := 166) rfl rfl
theorem tk_887 : (Jvm.Cond.code ({ cls := "java/lang/StringUTF16", name := "length", desc := "([B)I" } : Jvm.MethodName) prog_20_method_6_code (1 : Nat) (Option.some Jvm.ClassFile.FieldType.int)) ∈ tblG := tG_4 (i := 167) rfl rfl
theorem tk_888 : (Jvm.Cond.methodLink "java/lang/StringUTF16" (241 : Nat) ({ cls := "java/lang/String", name := "checkBoundsBeginEnd", desc := "(III)V" } : Jvm.MethodName)) ∈ tblG := tG_4 (i := 168) rfl rfl
theorem tk_889 : (Jvm.Cond.static ({ cls := "java/lang/String", name := "checkBoundsBeginEnd", desc := "(III)V" } : Jvm.MethodName)) ∈ tblG := tG_4 (i := 169) rfl rfl
theorem tk_890 : (Jvm.Cond.code ({ cls := "java/lang/String", name := "checkBoundsBeginEnd", desc := "(III)V" } : Jvm.MethodName) prog_18_method_158_code (3 : Nat) (Option.none : Option Jvm.ClassFile.FieldType)) ∈ tblG := tG_4 (i := 170) rfl rfl
theorem tk_891 : (Jvm.Cond.fieldLink "java/lang/String" (1053 : Nat) "jdk/internal/util/Preconditions" "SIOOBE_FORMATTER" "Ljava/util/function/BiFunction;") ∈ tblG := tG_4 (i := 171) rfl rfl
theorem tk_892 : (Jvm.Cond.laysStatic "jdk/internal/util/Preconditions" "SIOOBE_FORMATTER" "Ljava/util/function/BiFunction;") ∈ lw_tbl := tT_4 (i := 172) rfl
theorem tk_893 : (Jvm.Cond.methodLink "java/lang/String" (1062 : Nat) ({ cls := "jdk/internal/util/Preconditions", name := "checkFromToIndex", desc := "(IIILjava/util/function/BiFunction;)I" } : Jvm.MethodName)) ∈ tblG := tG_4 (i := 173) rfl rfl
theorem tk_894 : (Jvm.Cond.static ({ cls := "jdk/internal/util/Preconditions", name := "checkFromToIndex", desc := "(IIILjava/util/function/BiFunction;)I" } : Jvm.MethodName)) ∈ tblG := tG_4 (i := 174) rfl rfl
theorem tk_895 : (Jvm.Cond.code ({ cls := "jdk/internal/util/Preconditions", name := "checkFromToIndex", desc := "(IIILjava/util/function/BiFunction;)I" } : Jvm.MethodName) prog_23_method_12_code (4 : Nat) (Option.some Jvm.ClassFile.FieldType.int)) ∈ tblG := tG_4 (i := 175) rfl rfl
theorem tk_896 : (Jvm.Cond.methodLink "java/lang/StringUTF16" (244 : Nat) ({ cls := "java/lang/StringUTF16", name := "indexOfCharUnsafe", desc := "([BIII)I" } : Jvm.MethodName)) ∈ tblG := tG_4 (i := 176) rfl rfl
theorem tk_897 : (Jvm.Cond.static ({ cls := "java/lang/StringUTF16", name := "indexOfCharUnsafe", desc := "([BIII)I" } : Jvm.MethodName)) ∈ tblG := tG_4 (i := 177) rfl rfl
theorem tk_898 : (Jvm.Cond.code ({ cls := "java/lang/StringUTF16", name := "indexOfCharUnsafe", desc := "([BIII)I" } : Jvm.MethodName) prog_20_method_48_code (5 : Nat) (Option.some Jvm.ClassFile.FieldType.int)) ∈ tblG := tG_4 (i := 178) rfl rfl
theorem tk_899 : (Jvm.Cond.methodLink "java/lang/StringUTF16" (71 : Nat) ({ cls := "java/lang/StringUTF16", name := "getChar", desc := "([BI)C" } : Jvm.MethodName)) ∈ tblG := tG_4 (i := 179) rfl rfl
theorem tk_900 : (Jvm.Cond.static ({ cls := "java/lang/StringUTF16", name := "getChar", desc := "([BI)C" } : Jvm.MethodName)) ∈ tblG := tG_4 (i := 180) rfl rfl
theorem tk_901 : (Jvm.Cond.code ({ cls := "java/lang/StringUTF16", name := "getChar", desc := "([BI)C" } : Jvm.MethodName) prog_20_method_5_code (2 : Nat) (Option.some Jvm.ClassFile.FieldType.char)) ∈ tblG := tG_4 (i := 181) rfl rfl
theorem tk_902 : (Jvm.Cond.fieldLink "java/lang/StringUTF16" (44 : Nat) "java/lang/StringUTF16" "$assertionsDisabled" "Z") ∈ tblG := tG_4 (i := 182) rfl rfl
theorem tk_903 : (Jvm.Cond.laysStatic "java/lang/StringUTF16" "$assertionsDisabled" "Z") ∈ lw_tbl := tT_4 (i := 183) rfl
theorem tk_904 : (Jvm.Cond.fieldLink "java/lang/StringUTF16" (59 : Nat) "java/lang/StringUTF16" "HI_BYTE_SHIFT" "I") ∈ tblG := tG_4 (i := 184) rfl rfl
theorem tk_905 : (Jvm.Cond.laysStatic "java/lang/StringUTF16" "HI_BYTE_SHIFT" "I") ∈ lw_tbl := tT_4 (i := 185) rfl
theorem tk_906 : (Jvm.Cond.fieldLink "java/lang/StringUTF16" (63 : Nat) "java/lang/StringUTF16" "LO_BYTE_SHIFT" "I") ∈ tblG := tG_4 (i := 186) rfl rfl
theorem tk_907 : (Jvm.Cond.laysStatic "java/lang/StringUTF16" "LO_BYTE_SHIFT" "I") ∈ lw_tbl := tT_4 (i := 187) rfl
theorem tk_908 : (Jvm.Cond.methodLink "java/lang/StringUTF16" (232 : Nat) ({ cls := "java/lang/StringUTF16", name := "indexOfSupplementary", desc := "([BIII)I" } : Jvm.MethodName)) ∈ tblG := tG_4 (i := 188) rfl rfl
theorem tk_909 : (Jvm.Cond.static ({ cls := "java/lang/StringUTF16", name := "indexOfSupplementary", desc := "([BIII)I" } : Jvm.MethodName)) ∈ tblG := tG_4 (i := 189) rfl rfl
theorem tk_910 : (Jvm.Cond.code ({ cls := "java/lang/StringUTF16", name := "indexOfSupplementary", desc := "([BIII)I" } : Jvm.MethodName) prog_20_method_49_code (7 : Nat) (Option.some Jvm.ClassFile.FieldType.int)) ∈ tblG := tG_4 (i := 190) rfl rfl
theorem tk_911 : (Jvm.Cond.methodLink "java/lang/StringUTF16" (164 : Nat) ({ cls := "java/lang/Character", name := "isValidCodePoint", desc := "(I)Z" } : Jvm.MethodName)) ∈ tblG := tG_4 (i := 191) rfl rfl
theorem tk_912 : (Jvm.Cond.static ({ cls := "java/lang/Character", name := "isValidCodePoint", desc := "(I)Z" } : Jvm.MethodName)) ∈ tblG := tG_4 (i := 192) rfl rfl
theorem tk_913 : (Jvm.Cond.code ({ cls := "java/lang/Character", name := "isValidCodePoint", desc := "(I)Z" } : Jvm.MethodName) prog_15_method_11_code (2 : Nat) (Option.some Jvm.ClassFile.FieldType.boolean)) ∈ tblG := tG_4 (i := 193) rfl rfl
theorem tk_914 : (Jvm.Cond.methodLink "java/lang/StringUTF16" (157 : Nat) ({ cls := "java/lang/Character", name := "highSurrogate", desc := "(I)C" } : Jvm.MethodName)) ∈ tblG := tG_4 (i := 194) rfl rfl
theorem tk_915 : (Jvm.Cond.static ({ cls := "java/lang/Character", name := "highSurrogate", desc := "(I)C" } : Jvm.MethodName)) ∈ tblG := tG_4 (i := 195) rfl rfl
theorem tk_916 : (Jvm.Cond.code ({ cls := "java/lang/Character", name := "highSurrogate", desc := "(I)C" } : Jvm.MethodName) prog_15_method_28_code (1 : Nat) (Option.some Jvm.ClassFile.FieldType.char)) ∈ tblG := tG_4 (i := 196) rfl rfl
theorem tk_917 : (Jvm.Cond.constant "java/lang/Character" (110 : Nat) (55232 : Int32)) ∈ tblG := tG_4 (i := 197) rfl rfl
theorem tk_918 : (Jvm.Cond.methodLink "java/lang/StringUTF16" (161 : Nat) ({ cls := "java/lang/Character", name := "lowSurrogate", desc := "(I)C" } : Jvm.MethodName)) ∈ tblG := tG_4 (i := 198) rfl rfl
theorem tk_919 : (Jvm.Cond.static ({ cls := "java/lang/Character", name := "lowSurrogate", desc := "(I)C" } : Jvm.MethodName)) ∈ tblG := tG_4 (i := 199) rfl rfl
theorem tk_920 : (Jvm.Cond.code ({ cls := "java/lang/Character", name := "lowSurrogate", desc := "(I)C" } : Jvm.MethodName) prog_15_method_29_code (1 : Nat) (Option.some Jvm.ClassFile.FieldType.char)) ∈ tblG := tG_4 (i := 200) rfl rfl
theorem tk_921 : (Jvm.Cond.constant "java/lang/Character" (76 : Nat) (56320 : Int32)) ∈ tblG := tG_4 (i := 201) rfl rfl
theorem tk_922 : (Jvm.Cond.stringRef "SnagBook$Judge" (29 : Nat) "<=!+") ∈ lw_tbl := tT_4 (i := 202) rfl
theorem tk_923 : (Jvm.Cond.stringRef "SnagBook$Judge" (31 : Nat) "bwhcv") ∈ lw_tbl := tT_4 (i := 203) rfl
theorem tk_924 : (Jvm.Cond.methodLink "SnagBook" (364 : Nat) ({ cls := "SnagBook$Freeing", name := "faultIn", desc := "([II)I" } : Jvm.MethodName)) ∈ tblG := tG_4 (i := 204) rfl rfl
theorem tk_925 : (Jvm.Cond.static ({ cls := "SnagBook$Freeing", name := "faultIn", desc := "([II)I" } : Jvm.MethodName)) ∈ tblG := tG_4 (i := 205) rfl rfl
theorem tk_926 : (Jvm.Cond.code ({ cls := "SnagBook$Freeing", name := "faultIn", desc := "([II)I" } : Jvm.MethodName) prog_4_method_2_code (8 : Nat) (Option.some Jvm.ClassFile.FieldType.int)) ∈ tblG := tG_4 (i := 206) rfl rfl
theorem tk_927 : (Jvm.Cond.methodLinkNest "SnagBook$Freeing" (21 : Nat) ({ cls := "SnagBook", name := "isDigit", desc := "(I)Z" } : Jvm.MethodName) "SnagBook") ∈ lw_tbl := tT_4 (i := 207) rfl
theorem tk_928 : (Jvm.Cond.methodLink "SnagBook$Freeing" (25 : Nat) ({ cls := "SnagBook$Freeing", name := "isName", desc := "(I)Z" } : Jvm.MethodName)) ∈ tblG := tG_4 (i := 208) rfl rfl
theorem tk_929 : (Jvm.Cond.static ({ cls := "SnagBook$Freeing", name := "isName", desc := "(I)Z" } : Jvm.MethodName)) ∈ tblG := tG_4 (i := 209) rfl rfl
theorem tk_930 : (Jvm.Cond.code ({ cls := "SnagBook$Freeing", name := "isName", desc := "(I)Z" } : Jvm.MethodName) prog_4_method_3_code (1 : Nat) (Option.some Jvm.ClassFile.FieldType.boolean)) ∈ tblG := tG_4 (i := 210) rfl rfl
theorem tk_931 : (Jvm.Cond.stringRef "SnagBook$Freeing" (31 : Nat) "qyxbr") ∈ lw_tbl := tT_4 (i := 211) rfl
theorem tk_932 : (Jvm.Cond.methodLink "SnagBook$Freeing" (33 : Nat) ({ cls := "java/lang/String", name := "indexOf", desc := "(I)I" } : Jvm.MethodName)) ∈ tblG := tG_4 (i := 212) rfl rfl
theorem tk_933 : (Jvm.Cond.methodLink "SnagBook$Freeing" (28 : Nat) ({ cls := "SnagBook$Freeing", name := "isSign", desc := "(I)Z" } : Jvm.MethodName)) ∈ tblG := tG_4 (i := 213) rfl rfl
theorem tk_934 : (Jvm.Cond.static ({ cls := "SnagBook$Freeing", name := "isSign", desc := "(I)Z" } : Jvm.MethodName)) ∈ tblG := tG_4 (i := 214) rfl rfl
theorem tk_935 : (Jvm.Cond.code ({ cls := "SnagBook$Freeing", name := "isSign", desc := "(I)Z" } : Jvm.MethodName) prog_4_method_4_code (1 : Nat) (Option.some Jvm.ClassFile.FieldType.boolean)) ∈ tblG := tG_4 (i := 215) rfl rfl
theorem tk_936 : (Jvm.Cond.stringRef "SnagBook$Freeing" (39 : Nat) "+-*/") ∈ lw_tbl := tT_4 (i := 216) rfl
theorem tk_937 : (Jvm.Cond.classLink "SnagBook" (365 : Nat) "SnagBook$Text") ∈ tblG := tG_4 (i := 217) rfl rfl
theorem tk_938 : (Jvm.Cond.instantiable "SnagBook$Text" (3 : Nat)) ∈ tblG := tG_4 (i := 218) rfl rfl
theorem tk_939 : (Jvm.Cond.methodLink "SnagBook" (367 : Nat) ({ cls := "java/util/Arrays", name := "copyOf", desc := "([II)[I" } : Jvm.MethodName)) ∈ tblG := tG_4 (i := 219) rfl rfl
theorem tk_940 : (Jvm.Cond.static ({ cls := "java/util/Arrays", name := "copyOf", desc := "([II)[I" } : Jvm.MethodName)) ∈ tblG := tG_4 (i := 220) rfl rfl
theorem tk_941 : (Jvm.Cond.code ({ cls := "java/util/Arrays", name := "copyOf", desc := "([II)[I" } : Jvm.MethodName) prog_22_method_123_code (3 : Nat) (Option.some (Jvm.ClassFile.FieldType.array Jvm.ClassFile.FieldType.int))) ∈ tblG := tG_4 (i := 221) rfl rfl
theorem tk_942 : (Jvm.Cond.methodLink "java/util/Arrays" (316 : Nat) ({ cls := "[I", name := "clone", desc := "()Ljava/lang/Object;" } : Jvm.MethodName)) ∈ tblG := tG_4 (i := 222) rfl rfl
theorem tk_943 : (Jvm.Cond.sameMethod "[I" "java/lang/Object" "clone" "()Ljava/lang/Object;") ∈ lw_tbl := tT_4 (i := 223) rfl
theorem tk_944 : (Jvm.Cond.native ({ cls := "java/lang/Object", name := "clone", desc := "()Ljava/lang/Object;" } : Jvm.MethodName)) ∈ tblG := tG_4 (i := 224) rfl rfl
theorem tk_945 : (Jvm.Cond.instanceMethod ({ cls := "java/lang/Object", name := "clone", desc := "()Ljava/lang/Object;" } : Jvm.MethodName)) ∈ tblG := tG_4 (i := 225) rfl rfl
theorem tk_946 : (Jvm.Cond.selects "[I" ({ cls := "[I", name := "clone", desc := "()Ljava/lang/Object;" } : Jvm.MethodName) ({ cls := "java/lang/Object", name := "clone", desc := "()Ljava/lang/Object;" } : Jvm.MethodName)) ∈ tblG := tG_4 (i := 226) rfl rfl
theorem tk_947 : (Jvm.Cond.castable "[I" "java/lang/Cloneable") ∈ lw_tbl := tT_4 (i := 227) rfl
theorem tk_948 : (Jvm.Cond.classLink "java/util/Arrays" (317 : Nat) "[I") ∈ tblG := tG_4 (i := 228) rfl rfl
theorem tk_949 : (Jvm.Cond.methodLink "java/util/Arrays" (304 : Nat) ({ cls := "java/lang/Math", name := "min", desc := "(II)I" } : Jvm.MethodName)) ∈ tblG := tG_4 (i := 229) rfl rfl
theorem tk_950 : (Jvm.Cond.methodLink "java/util/Arrays" (150 : Nat) ({ cls := "java/lang/System", name := "arraycopy", desc := "(Ljava/lang/Object;ILjava/lang/Object;II)V" } : Jvm.MethodName)) ∈ tblG := tG_4 (i := 230) rfl rfl
theorem tk_951 : (Jvm.Cond.static ({ cls := "java/lang/System", name := "arraycopy", desc := "(Ljava/lang/Object;ILjava/lang/Object;II)V" } : Jvm.MethodName)) ∈ tblG := tG_4 (i := 231) rfl rfl
theorem tk_952 : (Jvm.Cond.native ({ cls := "java/lang/System", name := "arraycopy", desc := "(Ljava/lang/Object;ILjava/lang/Object;II)V" } : Jvm.MethodName)) ∈ tblG := tG_4 (i := 232) rfl rfl
theorem tk_953 : (Jvm.Cond.methodLink "SnagBook" (373 : Nat) ({ cls := "SnagBook$Text", name := "<init>", desc := "([III)V" } : Jvm.MethodName)) ∈ tblG := tG_4 (i := 233) rfl rfl
theorem tk_954 : (Jvm.Cond.instanceMethod ({ cls := "SnagBook$Text", name := "<init>", desc := "([III)V" } : Jvm.MethodName)) ∈ tblG := tG_4 (i := 234) rfl rfl
theorem tk_955 : (Jvm.Cond.code ({ cls := "SnagBook$Text", name := "<init>", desc := "([III)V" } : Jvm.MethodName) prog_12_method_1_code (4 : Nat) (Option.none : Option Jvm.ClassFile.FieldType)) ∈ tblG := tG_4 (i := 235) rfl rfl
theorem tk_956 : (Jvm.Cond.methodLink "SnagBook$Text" (3 : Nat) ({ cls := "java/lang/Object", name := "<init>", desc := "()V" } : Jvm.MethodName)) ∈ tblG := tG_4 (i := 236) rfl rfl
theorem tk_957 : (Jvm.Cond.fieldLink "SnagBook$Text" (9 : Nat) "SnagBook$Text" "bytes" "[I") ∈ tblG := tG_4 (i := 237) rfl rfl
theorem tk_958 : (Jvm.Cond.fieldLink "SnagBook$Text" (15 : Nat) "SnagBook$Text" "made" "I") ∈ tblG := tG_4 (i := 238) rfl rfl
theorem tk_959 : (Jvm.Cond.fieldLink "SnagBook$Shelf" (25 : Nat) "SnagBook$Text" "made" "I") ∈ tblG := tG_4 (i := 239) rfl rfl
theorem tk_960 : (Jvm.Cond.fieldLink "SnagBook$Text" (19 : Nat) "SnagBook$Text" "from" "I") ∈ tblG := tG_5 (i := 0) rfl rfl
theorem tk_961 : (Jvm.Cond.fieldLink "SnagBook$Shelf" (28 : Nat) "SnagBook$Text" "from" "I") ∈ tblG := tG_5 (i := 1) rfl rfl
theorem tk_962 : (Jvm.Cond.laysFinal "SnagBook$Text" "SnagBook$Text" "bytes" "[I") ∈ tblG := tG_5 (i := 2) rfl rfl
theorem tk_963 : (Jvm.Cond.soleField "SnagBook$Text" "bytes") ∈ tblG := tG_5 (i := 3) rfl rfl
theorem tk_964 : (Jvm.Cond.laysFinal "SnagBook$Text" "SnagBook$Text" "made" "I") ∈ tblG := tG_5 (i := 4) rfl rfl
theorem tk_965 : (Jvm.Cond.soleField "SnagBook$Text" "made") ∈ tblG := tG_5 (i := 5) rfl rfl
theorem tk_966 : (Jvm.Cond.laysFinal "SnagBook$Text" "SnagBook$Text" "from" "I") ∈ tblG := tG_5 (i := 6) rfl rfl
theorem tk_967 : (Jvm.Cond.soleField "SnagBook$Text" "from") ∈ tblG := tG_5 (i := 7) rfl rfl
theorem tk_968 : (Jvm.Cond.superclass "SnagBook$Text" "java/lang/Object") ∈ tblG := tG_5 (i := 8) rfl rfl
theorem tk_969 : (Jvm.Cond.arrayClass Jvm.ClassFile.FieldType.byte) ∈ tblG := tG_5 (i := 9) rfl rfl
theorem tk_970 : (Jvm.Cond.methodLink "SnagBook" (376 : Nat) ({ cls := "SnagBook$Shelf", name := "add", desc := "(LSnagBook$Text;)I" } : Jvm.MethodName)) ∈ tblG := tG_5 (i := 10) rfl rfl
theorem tk_971 : (Jvm.Cond.instanceMethod ({ cls := "SnagBook$Shelf", name := "add", desc := "(LSnagBook$Text;)I" } : Jvm.MethodName)) ∈ tblG := tG_5 (i := 11) rfl rfl
theorem tk_972 : (Jvm.Cond.selects "SnagBook$Shelf" ({ cls := "SnagBook$Shelf", name := "add", desc := "(LSnagBook$Text;)I" } : Jvm.MethodName) ({ cls := "SnagBook$Shelf", name := "add", desc := "(LSnagBook$Text;)I" } : Jvm.MethodName)) ∈ tblG := tG_5 (i := 12) rfl rfl
theorem tk_973 : (Jvm.Cond.code ({ cls := "SnagBook$Shelf", name := "add", desc := "(LSnagBook$Text;)I" } : Jvm.MethodName) prog_11_method_3_code (2 : Nat) (Option.some Jvm.ClassFile.FieldType.int)) ∈ tblG := tG_5 (i := 13) rfl rfl
theorem tk_974 : (Jvm.Cond.methodLink "SnagBookLaw" (145 : Nat) ({ cls := "SnagBook", name := "inForce", desc := "(III)I" } : Jvm.MethodName)) ∈ tblG := tG_5 (i := 14) rfl rfl
theorem tk_975 : (Jvm.Cond.instanceMethod ({ cls := "SnagBook", name := "inForce", desc := "(III)I" } : Jvm.MethodName)) ∈ tblG := tG_5 (i := 15) rfl rfl
theorem tk_976 : (Jvm.Cond.selects "SnagBook" ({ cls := "SnagBook", name := "inForce", desc := "(III)I" } : Jvm.MethodName) ({ cls := "SnagBook", name := "inForce", desc := "(III)I" } : Jvm.MethodName)) ∈ tblG := tG_5 (i := 16) rfl rfl
theorem tk_977 : (Jvm.Cond.code ({ cls := "SnagBook", name := "inForce", desc := "(III)I" } : Jvm.MethodName) prog_1_method_34_code (5 : Nat) (Option.some Jvm.ClassFile.FieldType.int)) ∈ tblG := tG_5 (i := 17) rfl rfl
theorem tk_978 : (Jvm.Cond.methodLink "SnagBook" (379 : Nat) ({ cls := "SnagBook$Shelf", name := "holding", desc := "(LSnagBook$Home;I)I" } : Jvm.MethodName)) ∈ tblG := tG_5 (i := 18) rfl rfl
theorem tk_979 : (Jvm.Cond.instanceMethod ({ cls := "SnagBook$Shelf", name := "holding", desc := "(LSnagBook$Home;I)I" } : Jvm.MethodName)) ∈ tblG := tG_5 (i := 19) rfl rfl
theorem tk_980 : (Jvm.Cond.selects "SnagBook$Shelf" ({ cls := "SnagBook$Shelf", name := "holding", desc := "(LSnagBook$Home;I)I" } : Jvm.MethodName) ({ cls := "SnagBook$Shelf", name := "holding", desc := "(LSnagBook$Home;I)I" } : Jvm.MethodName)) ∈ tblG := tG_5 (i := 20) rfl rfl
theorem tk_981 : (Jvm.Cond.code ({ cls := "SnagBook$Shelf", name := "holding", desc := "(LSnagBook$Home;I)I" } : Jvm.MethodName) prog_11_method_5_code (4 : Nat) (Option.some Jvm.ClassFile.FieldType.int)) ∈ tblG := tG_5 (i := 21) rfl rfl
theorem tk_982 : (Jvm.Cond.methodLink "SnagBookLaw" (149 : Nat) ({ cls := "SnagBook", name := "judge", desc := "(II)I" } : Jvm.MethodName)) ∈ tblG := tG_5 (i := 22) rfl rfl
theorem tk_983 : (Jvm.Cond.instanceMethod ({ cls := "SnagBook", name := "judge", desc := "(II)I" } : Jvm.MethodName)) ∈ tblG := tG_5 (i := 23) rfl rfl
theorem tk_984 : (Jvm.Cond.selects "SnagBook" ({ cls := "SnagBook", name := "judge", desc := "(II)I" } : Jvm.MethodName) ({ cls := "SnagBook", name := "judge", desc := "(II)I" } : Jvm.MethodName)) ∈ tblG := tG_5 (i := 24) rfl rfl
theorem tk_985 : (Jvm.Cond.code ({ cls := "SnagBook", name := "judge", desc := "(II)I" } : Jvm.MethodName) prog_1_method_35_code (4 : Nat) (Option.some Jvm.ClassFile.FieldType.int)) ∈ tblG := tG_5 (i := 25) rfl rfl
theorem tk_986 : (Jvm.Cond.methodLink "SnagBook" (383 : Nat) ({ cls := "SnagBook", name := "decide", desc := "(LSnagBook$Fault;)V" } : Jvm.MethodName)) ∈ tblG := tG_5 (i := 26) rfl rfl
theorem tk_988 : (Jvm.Cond.instanceMethod ({ cls := "SnagBook", name := "decide", desc := "(LSnagBook$Fault;)V" } : Jvm.MethodName)) ∈ tblG := tG_5 (i := 28) rfl rfl
theorem tk_989 : (Jvm.Cond.code ({ cls := "SnagBook", name := "decide", desc := "(LSnagBook$Fault;)V" } : Jvm.MethodName) prog_1_method_74_code (6 : Nat) (Option.none : Option Jvm.ClassFile.FieldType)) ∈ tblG := tG_5 (i := 29) rfl rfl
theorem tk_990 : (Jvm.Cond.methodLink "SnagBook" (496 : Nat) ({ cls := "SnagBook$Fault", name := "isAheadOfKey", desc := "()Z" } : Jvm.MethodName)) ∈ tblG := tG_5 (i := 30) rfl rfl
theorem tk_991 : (Jvm.Cond.instanceMethod ({ cls := "SnagBook$Fault", name := "isAheadOfKey", desc := "()Z" } : Jvm.MethodName)) ∈ tblG := tG_5 (i := 31) rfl rfl
theorem tk_992 : (Jvm.Cond.selects "SnagBook$Fault" ({ cls := "SnagBook$Fault", name := "isAheadOfKey", desc := "()Z" } : Jvm.MethodName) ({ cls := "SnagBook$Fault", name := "isAheadOfKey", desc := "()Z" } : Jvm.MethodName)) ∈ tblG := tG_5 (i := 32) rfl rfl
theorem tk_993 : (Jvm.Cond.code ({ cls := "SnagBook$Fault", name := "isAheadOfKey", desc := "()Z" } : Jvm.MethodName) prog_3_method_3_code (1 : Nat) (Option.some Jvm.ClassFile.FieldType.boolean)) ∈ tblG := tG_5 (i := 33) rfl rfl
theorem tk_994 : (Jvm.Cond.methodLink "SnagBook" (499 : Nat) ({ cls := "SnagBook$Judge", name := "builderPaysAll", desc := "(I)V" } : Jvm.MethodName)) ∈ tblG := tG_5 (i := 34) rfl rfl
theorem tk_995 : (Jvm.Cond.instanceMethod ({ cls := "SnagBook$Judge", name := "builderPaysAll", desc := "(I)V" } : Jvm.MethodName)) ∈ tblG := tG_5 (i := 35) rfl rfl
theorem tk_996 : (Jvm.Cond.selects "SnagBook$Judge" ({ cls := "SnagBook$Judge", name := "builderPaysAll", desc := "(I)V" } : Jvm.MethodName) ({ cls := "SnagBook$Judge", name := "builderPaysAll", desc := "(I)V" } : Jvm.MethodName)) ∈ tblG := tG_5 (i := 36) rfl rfl
theorem tk_997 : (Jvm.Cond.code ({ cls := "SnagBook$Judge", name := "builderPaysAll", desc := "(I)V" } : Jvm.MethodName) prog_8_method_5_code (2 : Nat) (Option.none : Option Jvm.ClassFile.FieldType)) ∈ tblG := tG_5 (i := 37) rfl rfl
theorem tk_998 : (Jvm.Cond.methodLink "SnagBook$Judge" (39 : Nat) ({ cls := "SnagBook$Judge", name := "set", desc := "(IIII)V" } : Jvm.MethodName)) ∈ tblG := tG_5 (i := 38) rfl rfl
theorem tk_1000 : (Jvm.Cond.instanceMethod ({ cls := "SnagBook$Judge", name := "set", desc := "(IIII)V" } : Jvm.MethodName)) ∈ tblG := tG_5 (i := 40) rfl rfl
theorem tk_1001 : (Jvm.Cond.code ({ cls := "SnagBook$Judge", name := "set", desc := "(IIII)V" } : Jvm.MethodName) prog_8_method_8_code (5 : Nat) (Option.none : Option Jvm.ClassFile.FieldType)) ∈ tblG := tG_5 (i := 41) rfl rfl
theorem tk_1002 : (Jvm.Cond.methodLink "SnagBook" (399 : Nat) ({ cls := "SnagBook$Shelf", name := "at", desc := "(I)LSnagBook$Text;" } : Jvm.MethodName)) ∈ tblG := tG_5 (i := 42) rfl rfl
theorem tk_1003 : (Jvm.Cond.instanceMethod ({ cls := "SnagBook$Shelf", name := "at", desc := "(I)LSnagBook$Text;" } : Jvm.MethodName)) ∈ tblG := tG_5 (i := 43) rfl rfl
theorem tk_1004 : (Jvm.Cond.selects "SnagBook$Shelf" ({ cls := "SnagBook$Shelf", name := "at", desc := "(I)LSnagBook$Text;" } : Jvm.MethodName) ({ cls := "SnagBook$Shelf", name := "at", desc := "(I)LSnagBook$Text;" } : Jvm.MethodName)) ∈ tblG := tG_5 (i := 44) rfl rfl
theorem tk_1005 : (Jvm.Cond.code ({ cls := "SnagBook$Shelf", name := "at", desc := "(I)LSnagBook$Text;" } : Jvm.MethodName) prog_11_method_4_code (2 : Nat) (Option.some (Jvm.ClassFile.FieldType.object "SnagBook$Text"))) ∈ tblG := tG_5 (i := 45) rfl rfl
theorem tk_1006 : (Jvm.Cond.methodLinkNest "SnagBook$Shelf" (21 : Nat) ({ cls := "SnagBook", name := "isIn", desc := "(II)Z" } : Jvm.MethodName) "SnagBook") ∈ lw_tbl := tT_5 (i := 46) rfl
theorem tk_1007 : (Jvm.Cond.methodLink "SnagBook" (503 : Nat) ({ cls := "SnagBook$Judge", name := "ownerPaysAll", desc := "(I)V" } : Jvm.MethodName)) ∈ tblG := tG_5 (i := 47) rfl rfl
theorem tk_1008 : (Jvm.Cond.instanceMethod ({ cls := "SnagBook$Judge", name := "ownerPaysAll", desc := "(I)V" } : Jvm.MethodName)) ∈ tblG := tG_5 (i := 48) rfl rfl
theorem tk_1009 : (Jvm.Cond.selects "SnagBook$Judge" ({ cls := "SnagBook$Judge", name := "ownerPaysAll", desc := "(I)V" } : Jvm.MethodName) ({ cls := "SnagBook$Judge", name := "ownerPaysAll", desc := "(I)V" } : Jvm.MethodName)) ∈ tblG := tG_5 (i := 49) rfl rfl
theorem tk_1010 : (Jvm.Cond.code ({ cls := "SnagBook$Judge", name := "ownerPaysAll", desc := "(I)V" } : Jvm.MethodName) prog_8_method_6_code (2 : Nat) (Option.none : Option Jvm.ClassFile.FieldType)) ∈ tblG := tG_5 (i := 50) rfl rfl
theorem tk_1011 : (Jvm.Cond.methodLink "SnagBook" (460 : Nat) ({ cls := "SnagBook", name := "chargedCrew", desc := "(LSnagBook$Fault;)I" } : Jvm.MethodName)) ∈ tblG := tG_5 (i := 51) rfl rfl
theorem tk_1013 : (Jvm.Cond.instanceMethod ({ cls := "SnagBook", name := "chargedCrew", desc := "(LSnagBook$Fault;)I" } : Jvm.MethodName)) ∈ tblG := tG_5 (i := 53) rfl rfl
theorem tk_1014 : (Jvm.Cond.code ({ cls := "SnagBook", name := "chargedCrew", desc := "(LSnagBook$Fault;)I" } : Jvm.MethodName) prog_1_method_65_code (3 : Nat) (Option.some Jvm.ClassFile.FieldType.int)) ∈ tblG := tG_5 (i := 54) rfl rfl
theorem tk_1015 : (Jvm.Cond.methodLink "SnagBook" (477 : Nat) ({ cls := "SnagBook$History", name := "crewAt", desc := "(I)I" } : Jvm.MethodName)) ∈ tblG := tG_5 (i := 55) rfl rfl
theorem tk_1016 : (Jvm.Cond.methodLink "SnagBook" (509 : Nat) ({ cls := "SnagBook$Home", name := "salesBy", desc := "(I)I" } : Jvm.MethodName)) ∈ tblG := tG_5 (i := 56) rfl rfl
theorem tk_1017 : (Jvm.Cond.instanceMethod ({ cls := "SnagBook$Home", name := "salesBy", desc := "(I)I" } : Jvm.MethodName)) ∈ tblG := tG_5 (i := 57) rfl rfl
theorem tk_1018 : (Jvm.Cond.selects "SnagBook$Home" ({ cls := "SnagBook$Home", name := "salesBy", desc := "(I)I" } : Jvm.MethodName) ({ cls := "SnagBook$Home", name := "salesBy", desc := "(I)I" } : Jvm.MethodName)) ∈ tblG := tG_5 (i := 58) rfl rfl
theorem tk_1019 : (Jvm.Cond.code ({ cls := "SnagBook$Home", name := "salesBy", desc := "(I)I" } : Jvm.MethodName) prog_7_method_6_code (4 : Nat) (Option.some Jvm.ClassFile.FieldType.int)) ∈ tblG := tG_5 (i := 59) rfl rfl
theorem tk_1020 : (Jvm.Cond.methodLink "SnagBook" (512 : Nat) ({ cls := "SnagBook$Judge", name := "decideBy", desc := "(LSnagBook$Text;II)V" } : Jvm.MethodName)) ∈ tblG := tG_5 (i := 60) rfl rfl
theorem tk_1021 : (Jvm.Cond.instanceMethod ({ cls := "SnagBook$Judge", name := "decideBy", desc := "(LSnagBook$Text;II)V" } : Jvm.MethodName)) ∈ tblG := tG_5 (i := 61) rfl rfl
theorem tk_1022 : (Jvm.Cond.selects "SnagBook$Judge" ({ cls := "SnagBook$Judge", name := "decideBy", desc := "(LSnagBook$Text;II)V" } : Jvm.MethodName) ({ cls := "SnagBook$Judge", name := "decideBy", desc := "(LSnagBook$Text;II)V" } : Jvm.MethodName)) ∈ tblG := tG_5 (i := 62) rfl rfl
theorem tk_1023 : (Jvm.Cond.code ({ cls := "SnagBook$Judge", name := "decideBy", desc := "(LSnagBook$Text;II)V" } : Jvm.MethodName) prog_8_method_7_code (5 : Nat) (Option.none : Option Jvm.ClassFile.FieldType)) ∈ tblG := tG_5 (i := 63) rfl rfl
theorem tk_1024 : (Jvm.Cond.methodLink "SnagBook$Judge" (47 : Nat) ({ cls := "SnagBook$Judge", name := "findLine", desc := "()Z" } : Jvm.MethodName)) ∈ tblG := tG_5 (i := 64) rfl rfl
theorem tk_1026 : (Jvm.Cond.instanceMethod ({ cls := "SnagBook$Judge", name := "findLine", desc := "()Z" } : Jvm.MethodName)) ∈ tblG := tG_5 (i := 66) rfl rfl
theorem tk_1027 : (Jvm.Cond.code ({ cls := "SnagBook$Judge", name := "findLine", desc := "()Z" } : Jvm.MethodName) prog_8_method_9_code (2 : Nat) (Option.some Jvm.ClassFile.FieldType.boolean)) ∈ tblG := tG_5 (i := 67) rfl rfl
theorem tk_1028 : (Jvm.Cond.methodLink "SnagBook$Judge" (82 : Nat) ({ cls := "SnagBook$Text", name := "length", desc := "()I" } : Jvm.MethodName)) ∈ tblG := tG_5 (i := 68) rfl rfl
theorem tk_1029 : (Jvm.Cond.instanceMethod ({ cls := "SnagBook$Text", name := "length", desc := "()I" } : Jvm.MethodName)) ∈ tblG := tG_5 (i := 69) rfl rfl
theorem tk_1030 : (Jvm.Cond.selects "SnagBook$Text" ({ cls := "SnagBook$Text", name := "length", desc := "()I" } : Jvm.MethodName) ({ cls := "SnagBook$Text", name := "length", desc := "()I" } : Jvm.MethodName)) ∈ tblG := tG_5 (i := 70) rfl rfl
theorem tk_1031 : (Jvm.Cond.code ({ cls := "SnagBook$Text", name := "length", desc := "()I" } : Jvm.MethodName) prog_12_method_2_code (1 : Nat) (Option.some Jvm.ClassFile.FieldType.int)) ∈ tblG := tG_5 (i := 71) rfl rfl
theorem tk_1032 : (Jvm.Cond.methodLink "SnagBook$Judge" (88 : Nat) ({ cls := "SnagBook$Judge", name := "readTests", desc := "()Z" } : Jvm.MethodName)) ∈ tblG := tG_5 (i := 72) rfl rfl
theorem tk_1034 : (Jvm.Cond.instanceMethod ({ cls := "SnagBook$Judge", name := "readTests", desc := "()Z" } : Jvm.MethodName)) ∈ tblG := tG_5 (i := 74) rfl rfl
theorem tk_1035 : (Jvm.Cond.code ({ cls := "SnagBook$Judge", name := "readTests", desc := "()Z" } : Jvm.MethodName) prog_8_method_10_code (5 : Nat) (Option.some Jvm.ClassFile.FieldType.boolean)) ∈ tblG := tG_5 (i := 75) rfl rfl
theorem tk_1036 : (Jvm.Cond.methodLink "SnagBook$Judge" (91 : Nat) ({ cls := "SnagBook$Text", name := "at", desc := "(I)I" } : Jvm.MethodName)) ∈ tblG := tG_5 (i := 76) rfl rfl
theorem tk_1037 : (Jvm.Cond.instanceMethod ({ cls := "SnagBook$Text", name := "at", desc := "(I)I" } : Jvm.MethodName)) ∈ tblG := tG_5 (i := 77) rfl rfl
theorem tk_1038 : (Jvm.Cond.selects "SnagBook$Text" ({ cls := "SnagBook$Text", name := "at", desc := "(I)I" } : Jvm.MethodName) ({ cls := "SnagBook$Text", name := "at", desc := "(I)I" } : Jvm.MethodName)) ∈ tblG := tG_5 (i := 78) rfl rfl
theorem tk_1039 : (Jvm.Cond.code ({ cls := "SnagBook$Text", name := "at", desc := "(I)I" } : Jvm.MethodName) prog_12_method_3_code (2 : Nat) (Option.some Jvm.ClassFile.FieldType.int)) ∈ tblG := tG_5 (i := 79) rfl rfl
theorem tk_1040 : (Jvm.Cond.methodLink "SnagBook$Judge" (94 : Nat) ({ cls := "SnagBook$Judge", name := "readNumber", desc := "()I" } : Jvm.MethodName)) ∈ tblG := tG_5 (i := 80) rfl rfl
theorem tk_1042 : (Jvm.Cond.instanceMethod ({ cls := "SnagBook$Judge", name := "readNumber", desc := "()I" } : Jvm.MethodName)) ∈ tblG := tG_5 (i := 82) rfl rfl
theorem tk_1043 : (Jvm.Cond.code ({ cls := "SnagBook$Judge", name := "readNumber", desc := "()I" } : Jvm.MethodName) prog_8_method_12_code (2 : Nat) (Option.some Jvm.ClassFile.FieldType.int)) ∈ tblG := tG_5 (i := 83) rfl rfl
theorem tk_1044 : (Jvm.Cond.methodLinkNest "SnagBook$Judge" (97 : Nat) ({ cls := "SnagBook", name := "isIn", desc := "(II)Z" } : Jvm.MethodName) "SnagBook") ∈ lw_tbl := tT_5 (i := 84) rfl
theorem tk_1045 : (Jvm.Cond.methodLink "SnagBook$Judge" (101 : Nat) ({ cls := "SnagBook$Judge", name := "compares", desc := "(III)Z" } : Jvm.MethodName)) ∈ tblG := tG_5 (i := 85) rfl rfl
theorem tk_1046 : (Jvm.Cond.static ({ cls := "SnagBook$Judge", name := "compares", desc := "(III)Z" } : Jvm.MethodName)) ∈ tblG := tG_5 (i := 86) rfl rfl
theorem tk_1047 : (Jvm.Cond.code ({ cls := "SnagBook$Judge", name := "compares", desc := "(III)Z" } : Jvm.MethodName) prog_8_method_11_code (3 : Nat) (Option.some Jvm.ClassFile.FieldType.boolean)) ∈ tblG := tG_5 (i := 87) rfl rfl
theorem tk_1048 : (Jvm.Cond.methodLink "SnagBook$Judge" (51 : Nat) ({ cls := "SnagBook$Judge", name := "ownerPaysAll", desc := "(I)V" } : Jvm.MethodName)) ∈ tblG := tG_5 (i := 88) rfl rfl
theorem tk_1049 : (Jvm.Cond.methodLink "SnagBook$Judge" (59 : Nat) ({ cls := "java/lang/Math", name := "min", desc := "(II)I" } : Jvm.MethodName)) ∈ tblG := tG_5 (i := 89) rfl rfl
theorem tk_1050 : (Jvm.Cond.methodLink "SnagBookLaw" (153 : Nat) ({ cls := "SnagBook", name := "free", desc := "(I)I" } : Jvm.MethodName)) ∈ tblG := tG_5 (i := 90) rfl rfl
theorem tk_1051 : (Jvm.Cond.instanceMethod ({ cls := "SnagBook", name := "free", desc := "(I)I" } : Jvm.MethodName)) ∈ tblG := tG_5 (i := 91) rfl rfl
theorem tk_1052 : (Jvm.Cond.selects "SnagBook" ({ cls := "SnagBook", name := "free", desc := "(I)I" } : Jvm.MethodName) ({ cls := "SnagBook", name := "free", desc := "(I)I" } : Jvm.MethodName)) ∈ tblG := tG_5 (i := 92) rfl rfl
theorem tk_1053 : (Jvm.Cond.code ({ cls := "SnagBook", name := "free", desc := "(I)I" } : Jvm.MethodName) prog_1_method_36_code (6 : Nat) (Option.some Jvm.ClassFile.FieldType.int)) ∈ tblG := tG_5 (i := 93) rfl rfl
theorem tk_1054 : (Jvm.Cond.methodLink "SnagBook" (403 : Nat) ({ cls := "SnagBook$Freeing", name := "setFacts", desc := "(IIIII)V" } : Jvm.MethodName)) ∈ tblG := tG_5 (i := 94) rfl rfl
theorem tk_1055 : (Jvm.Cond.instanceMethod ({ cls := "SnagBook$Freeing", name := "setFacts", desc := "(IIIII)V" } : Jvm.MethodName)) ∈ tblG := tG_5 (i := 95) rfl rfl
theorem tk_1056 : (Jvm.Cond.selects "SnagBook$Freeing" ({ cls := "SnagBook$Freeing", name := "setFacts", desc := "(IIIII)V" } : Jvm.MethodName) ({ cls := "SnagBook$Freeing", name := "setFacts", desc := "(IIIII)V" } : Jvm.MethodName)) ∈ tblG := tG_5 (i := 96) rfl rfl
theorem tk_1057 : (Jvm.Cond.code ({ cls := "SnagBook$Freeing", name := "setFacts", desc := "(IIIII)V" } : Jvm.MethodName) prog_4_method_5_code (6 : Nat) (Option.none : Option Jvm.ClassFile.FieldType)) ∈ tblG := tG_5 (i := 97) rfl rfl
theorem tk_1058 : (Jvm.Cond.methodLink "SnagBook" (407 : Nat) ({ cls := "SnagBook$Freeing", name := "gives", desc := "(LSnagBook$Text;)I" } : Jvm.MethodName)) ∈ tblG := tG_5 (i := 98) rfl rfl
theorem tk_1059 : (Jvm.Cond.instanceMethod ({ cls := "SnagBook$Freeing", name := "gives", desc := "(LSnagBook$Text;)I" } : Jvm.MethodName)) ∈ tblG := tG_5 (i := 99) rfl rfl
theorem tk_1060 : (Jvm.Cond.selects "SnagBook$Freeing" ({ cls := "SnagBook$Freeing", name := "gives", desc := "(LSnagBook$Text;)I" } : Jvm.MethodName) ({ cls := "SnagBook$Freeing", name := "gives", desc := "(LSnagBook$Text;)I" } : Jvm.MethodName)) ∈ tblG := tG_5 (i := 100) rfl rfl
theorem tk_1061 : (Jvm.Cond.code ({ cls := "SnagBook$Freeing", name := "gives", desc := "(LSnagBook$Text;)I" } : Jvm.MethodName) prog_4_method_6_code (6 : Nat) (Option.some Jvm.ClassFile.FieldType.int)) ∈ tblG := tG_5 (i := 101) rfl rfl
theorem tk_1062 : (Jvm.Cond.methodLink "SnagBook$Freeing" (41 : Nat) ({ cls := "SnagBook$Freeing", name := "startPart", desc := "()V" } : Jvm.MethodName)) ∈ tblG := tG_5 (i := 102) rfl rfl
theorem tk_1064 : (Jvm.Cond.instanceMethod ({ cls := "SnagBook$Freeing", name := "startPart", desc := "()V" } : Jvm.MethodName)) ∈ tblG := tG_5 (i := 104) rfl rfl
theorem tk_1065 : (Jvm.Cond.code ({ cls := "SnagBook$Freeing", name := "startPart", desc := "()V" } : Jvm.MethodName) prog_4_method_7_code (1 : Nat) (Option.none : Option Jvm.ClassFile.FieldType)) ∈ tblG := tG_5 (i := 105) rfl rfl
theorem tk_1066 : (Jvm.Cond.methodLink "SnagBook$Freeing" (64 : Nat) ({ cls := "SnagBook$Freeing", name := "startLevel", desc := "()V" } : Jvm.MethodName)) ∈ tblG := tG_5 (i := 106) rfl rfl
theorem tk_1068 : (Jvm.Cond.instanceMethod ({ cls := "SnagBook$Freeing", name := "startLevel", desc := "()V" } : Jvm.MethodName)) ∈ tblG := tG_5 (i := 108) rfl rfl
theorem tk_1069 : (Jvm.Cond.code ({ cls := "SnagBook$Freeing", name := "startLevel", desc := "()V" } : Jvm.MethodName) prog_4_method_8_code (1 : Nat) (Option.none : Option Jvm.ClassFile.FieldType)) ∈ tblG := tG_5 (i := 109) rfl rfl
theorem tk_1070 : (Jvm.Cond.methodLinkNest "SnagBook$Freeing" (67 : Nat) ({ cls := "SnagBook", name := "isIn", desc := "(II)Z" } : Jvm.MethodName) "SnagBook") ∈ lw_tbl := tT_5 (i := 110) rfl
theorem tk_1071 : (Jvm.Cond.methodLink "SnagBook$Freeing" (44 : Nat) ({ cls := "SnagBook$Text", name := "length", desc := "()I" } : Jvm.MethodName)) ∈ tblG := tG_5 (i := 111) rfl rfl
theorem tk_1072 : (Jvm.Cond.methodLink "SnagBook$Freeing" (50 : Nat) ({ cls := "SnagBook$Text", name := "at", desc := "(I)I" } : Jvm.MethodName)) ∈ tblG := tG_5 (i := 112) rfl rfl
theorem tk_1073 : (Jvm.Cond.methodLink "SnagBook$Freeing" (53 : Nat) ({ cls := "SnagBook$Freeing", name := "join", desc := "(I)V" } : Jvm.MethodName)) ∈ tblG := tG_5 (i := 113) rfl rfl
theorem tk_1075 : (Jvm.Cond.instanceMethod ({ cls := "SnagBook$Freeing", name := "join", desc := "(I)V" } : Jvm.MethodName)) ∈ tblG := tG_5 (i := 115) rfl rfl
theorem tk_1076 : (Jvm.Cond.code ({ cls := "SnagBook$Freeing", name := "join", desc := "(I)V" } : Jvm.MethodName) prog_4_method_10_code (2 : Nat) (Option.none : Option Jvm.ClassFile.FieldType)) ∈ tblG := tG_5 (i := 116) rfl rfl
theorem tk_1077 : (Jvm.Cond.methodLink "SnagBook$Freeing" (71 : Nat) ({ cls := "SnagBook$Freeing", name := "workOut", desc := "(III)I" } : Jvm.MethodName)) ∈ tblG := tG_5 (i := 117) rfl rfl
theorem tk_1078 : (Jvm.Cond.static ({ cls := "SnagBook$Freeing", name := "workOut", desc := "(III)I" } : Jvm.MethodName)) ∈ tblG := tG_5 (i := 118) rfl rfl
theorem tk_1079 : (Jvm.Cond.code ({ cls := "SnagBook$Freeing", name := "workOut", desc := "(III)I" } : Jvm.MethodName) prog_4_method_11_code (3 : Nat) (Option.some Jvm.ClassFile.FieldType.int)) ∈ tblG := tG_5 (i := 119) rfl rfl
theorem tk_1080 : (Jvm.Cond.methodLink "SnagBook$Freeing" (57 : Nat) ({ cls := "SnagBook$Freeing", name := "step", desc := "(I)V" } : Jvm.MethodName)) ∈ tblG := tG_5 (i := 120) rfl rfl
theorem tk_1082 : (Jvm.Cond.instanceMethod ({ cls := "SnagBook$Freeing", name := "step", desc := "(I)V" } : Jvm.MethodName)) ∈ tblG := tG_5 (i := 122) rfl rfl
theorem tk_1083 : (Jvm.Cond.code ({ cls := "SnagBook$Freeing", name := "step", desc := "(I)V" } : Jvm.MethodName) prog_4_method_9_code (3 : Nat) (Option.none : Option Jvm.ClassFile.FieldType)) ∈ tblG := tG_5 (i := 123) rfl rfl
theorem tk_1084 : (Jvm.Cond.methodLink "SnagBookLaw" (157 : Nat) ({ cls := "SnagBook", name := "take", desc := "(I)I" } : Jvm.MethodName)) ∈ tblG := tG_5 (i := 124) rfl rfl
theorem tk_1085 : (Jvm.Cond.instanceMethod ({ cls := "SnagBook", name := "take", desc := "(I)I" } : Jvm.MethodName)) ∈ tblG := tG_5 (i := 125) rfl rfl
theorem tk_1086 : (Jvm.Cond.selects "SnagBook" ({ cls := "SnagBook", name := "take", desc := "(I)I" } : Jvm.MethodName) ({ cls := "SnagBook", name := "take", desc := "(I)I" } : Jvm.MethodName)) ∈ tblG := tG_5 (i := 126) rfl rfl
theorem tk_1087 : (Jvm.Cond.code ({ cls := "SnagBook", name := "take", desc := "(I)I" } : Jvm.MethodName) prog_1_method_37_code (4 : Nat) (Option.some Jvm.ClassFile.FieldType.int)) ∈ tblG := tG_5 (i := 127) rfl rfl
theorem tk_1088 : (Jvm.Cond.methodLink "SnagBookLaw" (161 : Nat) ({ cls := "SnagBook", name := "doubles", desc := "(III)I" } : Jvm.MethodName)) ∈ tblG := tG_5 (i := 128) rfl rfl
theorem tk_1089 : (Jvm.Cond.instanceMethod ({ cls := "SnagBook", name := "doubles", desc := "(III)I" } : Jvm.MethodName)) ∈ tblG := tG_5 (i := 129) rfl rfl
theorem tk_1090 : (Jvm.Cond.selects "SnagBook" ({ cls := "SnagBook", name := "doubles", desc := "(III)I" } : Jvm.MethodName) ({ cls := "SnagBook", name := "doubles", desc := "(III)I" } : Jvm.MethodName)) ∈ tblG := tG_5 (i := 130) rfl rfl
theorem tk_1091 : (Jvm.Cond.code ({ cls := "SnagBook", name := "doubles", desc := "(III)I" } : Jvm.MethodName) prog_1_method_38_code (4 : Nat) (Option.some Jvm.ClassFile.FieldType.int)) ∈ tblG := tG_5 (i := 131) rfl rfl
theorem tk_1092 : (Jvm.Cond.methodLink "SnagBook" (410 : Nat) ({ cls := "SnagBook", name := "doubleHomes", desc := "(II)I" } : Jvm.MethodName)) ∈ tblG := tG_5 (i := 132) rfl rfl
theorem tk_1094 : (Jvm.Cond.instanceMethod ({ cls := "SnagBook", name := "doubleHomes", desc := "(II)I" } : Jvm.MethodName)) ∈ tblG := tG_5 (i := 134) rfl rfl
theorem tk_1095 : (Jvm.Cond.code ({ cls := "SnagBook", name := "doubleHomes", desc := "(II)I" } : Jvm.MethodName) prog_1_method_77_code (5 : Nat) (Option.some Jvm.ClassFile.FieldType.int)) ∈ tblG := tG_5 (i := 135) rfl rfl
theorem tk_1096 : (Jvm.Cond.methodLink "SnagBook" (523 : Nat) ({ cls := "SnagBook", name := "areDoubles", desc := "(LSnagBook$Home;II)Z" } : Jvm.MethodName)) ∈ tblG := tG_5 (i := 136) rfl rfl
theorem tk_1098 : (Jvm.Cond.instanceMethod ({ cls := "SnagBook", name := "areDoubles", desc := "(LSnagBook$Home;II)Z" } : Jvm.MethodName)) ∈ tblG := tG_5 (i := 138) rfl rfl
theorem tk_1099 : (Jvm.Cond.code ({ cls := "SnagBook", name := "areDoubles", desc := "(LSnagBook$Home;II)Z" } : Jvm.MethodName) prog_1_method_76_code (4 : Nat) (Option.some Jvm.ClassFile.FieldType.boolean)) ∈ tblG := tG_5 (i := 139) rfl rfl
theorem tk_1100 : (Jvm.Cond.methodLink "SnagBook" (519 : Nat) ({ cls := "SnagBook", name := "hasListed", desc := "(LSnagBook$Home;I)Z" } : Jvm.MethodName)) ∈ tblG := tG_5 (i := 140) rfl rfl
theorem tk_1102 : (Jvm.Cond.instanceMethod ({ cls := "SnagBook", name := "hasListed", desc := "(LSnagBook$Home;I)Z" } : Jvm.MethodName)) ∈ tblG := tG_5 (i := 142) rfl rfl
theorem tk_1103 : (Jvm.Cond.code ({ cls := "SnagBook", name := "hasListed", desc := "(LSnagBook$Home;I)Z" } : Jvm.MethodName) prog_1_method_75_code (4 : Nat) (Option.some Jvm.ClassFile.FieldType.boolean)) ∈ tblG := tG_5 (i := 143) rfl rfl
theorem tk_1104 : (Jvm.Cond.methodLink "SnagBook" (516 : Nat) ({ cls := "SnagBook$Fault", name := "isListedBy", desc := "(I)Z" } : Jvm.MethodName)) ∈ tblG := tG_5 (i := 144) rfl rfl
theorem tk_1105 : (Jvm.Cond.instanceMethod ({ cls := "SnagBook$Fault", name := "isListedBy", desc := "(I)Z" } : Jvm.MethodName)) ∈ tblG := tG_5 (i := 145) rfl rfl
theorem tk_1106 : (Jvm.Cond.selects "SnagBook$Fault" ({ cls := "SnagBook$Fault", name := "isListedBy", desc := "(I)Z" } : Jvm.MethodName) ({ cls := "SnagBook$Fault", name := "isListedBy", desc := "(I)Z" } : Jvm.MethodName)) ∈ tblG := tG_5 (i := 146) rfl rfl
theorem tk_1107 : (Jvm.Cond.code ({ cls := "SnagBook$Fault", name := "isListedBy", desc := "(I)Z" } : Jvm.MethodName) prog_3_method_7_code (2 : Nat) (Option.some Jvm.ClassFile.FieldType.boolean)) ∈ tblG := tG_5 (i := 147) rfl rfl
theorem tk_1108 : (Jvm.Cond.methodLink "SnagBook" (413 : Nat) ({ cls := "SnagBook", name := "toldByOne", desc := "(IIZ)I" } : Jvm.MethodName)) ∈ tblG := tG_5 (i := 148) rfl rfl
theorem tk_1110 : (Jvm.Cond.instanceMethod ({ cls := "SnagBook", name := "toldByOne", desc := "(IIZ)I" } : Jvm.MethodName)) ∈ tblG := tG_5 (i := 150) rfl rfl
theorem tk_1111 : (Jvm.Cond.code ({ cls := "SnagBook", name := "toldByOne", desc := "(IIZ)I" } : Jvm.MethodName) prog_1_method_79_code (8 : Nat) (Option.some Jvm.ClassFile.FieldType.int)) ∈ tblG := tG_5 (i := 151) rfl rfl
theorem tk_1112 : (Jvm.Cond.methodLink "SnagBook" (527 : Nat) ({ cls := "SnagBook", name := "firstListed", desc := "(LSnagBook$Fault;I)LSnagBook$Fault;" } : Jvm.MethodName)) ∈ tblG := tG_5 (i := 152) rfl rfl
theorem tk_1114 : (Jvm.Cond.instanceMethod ({ cls := "SnagBook", name := "firstListed", desc := "(LSnagBook$Fault;I)LSnagBook$Fault;" } : Jvm.MethodName)) ∈ tblG := tG_5 (i := 154) rfl rfl
theorem tk_1115 : (Jvm.Cond.code ({ cls := "SnagBook", name := "firstListed", desc := "(LSnagBook$Fault;I)LSnagBook$Fault;" } : Jvm.MethodName) prog_1_method_78_code (4 : Nat) (Option.some (Jvm.ClassFile.FieldType.object "SnagBook$Fault"))) ∈ tblG := tG_5 (i := 155) rfl rfl
theorem tk_1116 : (Jvm.Cond.methodLink "SnagBook" (417 : Nat) ({ cls := "SnagBook", name := "missed", desc := "(II)I" } : Jvm.MethodName)) ∈ tblG := tG_5 (i := 156) rfl rfl
theorem tk_1118 : (Jvm.Cond.instanceMethod ({ cls := "SnagBook", name := "missed", desc := "(II)I" } : Jvm.MethodName)) ∈ tblG := tG_5 (i := 158) rfl rfl
theorem tk_1119 : (Jvm.Cond.code ({ cls := "SnagBook", name := "missed", desc := "(II)I" } : Jvm.MethodName) prog_1_method_80_code (5 : Nat) (Option.some Jvm.ClassFile.FieldType.int)) ∈ tblG := tG_5 (i := 159) rfl rfl
theorem tk_1120 : (Jvm.Cond.methodLink "SnagBook" (420 : Nat) ({ cls := "SnagBook", name := "harsh", desc := "(II)I" } : Jvm.MethodName)) ∈ tblG := tG_5 (i := 160) rfl rfl
theorem tk_1122 : (Jvm.Cond.instanceMethod ({ cls := "SnagBook", name := "harsh", desc := "(II)I" } : Jvm.MethodName)) ∈ tblG := tG_5 (i := 162) rfl rfl
theorem tk_1123 : (Jvm.Cond.code ({ cls := "SnagBook", name := "harsh", desc := "(II)I" } : Jvm.MethodName) prog_1_method_81_code (8 : Nat) (Option.some Jvm.ClassFile.FieldType.int)) ∈ tblG := tG_5 (i := 163) rfl rfl
theorem tk_1124 : (Jvm.Cond.methodLink "SnagBookLaw" (165 : Nat) ({ cls := "SnagBook", name := "lots", desc := "(I)I" } : Jvm.MethodName)) ∈ tblG := tG_5 (i := 164) rfl rfl
theorem tk_1125 : (Jvm.Cond.instanceMethod ({ cls := "SnagBook", name := "lots", desc := "(I)I" } : Jvm.MethodName)) ∈ tblG := tG_5 (i := 165) rfl rfl
theorem tk_1126 : (Jvm.Cond.selects "SnagBook" ({ cls := "SnagBook", name := "lots", desc := "(I)I" } : Jvm.MethodName) ({ cls := "SnagBook", name := "lots", desc := "(I)I" } : Jvm.MethodName)) ∈ tblG := tG_5 (i := 166) rfl rfl
theorem tk_1127 : (Jvm.Cond.code ({ cls := "SnagBook", name := "lots", desc := "(I)I" } : Jvm.MethodName) prog_1_method_39_code (2 : Nat) (Option.some Jvm.ClassFile.FieldType.int)) ∈ tblG := tG_5 (i := 167) rfl rfl
theorem tk_1128 : (Jvm.Cond.methodLink "SnagBookLaw" (169 : Nat) ({ cls := "SnagBook", name := "draw", desc := "(I)I" } : Jvm.MethodName)) ∈ tblG := tG_5 (i := 168) rfl rfl
theorem tk_1129 : (Jvm.Cond.instanceMethod ({ cls := "SnagBook", name := "draw", desc := "(I)I" } : Jvm.MethodName)) ∈ tblG := tG_5 (i := 169) rfl rfl
theorem tk_1130 : (Jvm.Cond.selects "SnagBook" ({ cls := "SnagBook", name := "draw", desc := "(I)I" } : Jvm.MethodName) ({ cls := "SnagBook", name := "draw", desc := "(I)I" } : Jvm.MethodName)) ∈ tblG := tG_5 (i := 170) rfl rfl
theorem tk_1131 : (Jvm.Cond.code ({ cls := "SnagBook", name := "draw", desc := "(I)I" } : Jvm.MethodName) prog_1_method_40_code (5 : Nat) (Option.some Jvm.ClassFile.FieldType.int)) ∈ tblG := tG_5 (i := 171) rfl rfl
theorem tk_1132 : (Jvm.Cond.methodLink "SnagBook" (423 : Nat) ({ cls := "SnagBook$Fault", name := "isSaidNowBy", desc := "(I)Z" } : Jvm.MethodName)) ∈ tblG := tG_5 (i := 172) rfl rfl
theorem tk_1133 : (Jvm.Cond.instanceMethod ({ cls := "SnagBook$Fault", name := "isSaidNowBy", desc := "(I)Z" } : Jvm.MethodName)) ∈ tblG := tG_5 (i := 173) rfl rfl
theorem tk_1134 : (Jvm.Cond.selects "SnagBook$Fault" ({ cls := "SnagBook$Fault", name := "isSaidNowBy", desc := "(I)Z" } : Jvm.MethodName) ({ cls := "SnagBook$Fault", name := "isSaidNowBy", desc := "(I)Z" } : Jvm.MethodName)) ∈ tblG := tG_5 (i := 174) rfl rfl
theorem tk_1135 : (Jvm.Cond.code ({ cls := "SnagBook$Fault", name := "isSaidNowBy", desc := "(I)Z" } : Jvm.MethodName) prog_3_method_8_code (2 : Nat) (Option.some Jvm.ClassFile.FieldType.boolean)) ∈ tblG := tG_5 (i := 175) rfl rfl
theorem tk_1136 : (Jvm.Cond.methodLink "SnagBook$Fault" (92 : Nat) ({ cls := "SnagBook$Fault", name := "lastCrew", desc := "()I" } : Jvm.MethodName)) ∈ tblG := tG_5 (i := 176) rfl rfl
theorem tk_1137 : (Jvm.Cond.constant "SnagBook" (426 : Nat) (1103515245 : Int32)) ∈ tblG := tG_5 (i := 177) rfl rfl
theorem tk_1138 : (Jvm.Cond.methodLink "SnagBookLaw" (173 : Nat) ({ cls := "SnagBook", name := "ofCrew", desc := "(II)I" } : Jvm.MethodName)) ∈ tblG := tG_5 (i := 178) rfl rfl
theorem tk_1139 : (Jvm.Cond.instanceMethod ({ cls := "SnagBook", name := "ofCrew", desc := "(II)I" } : Jvm.MethodName)) ∈ tblG := tG_5 (i := 179) rfl rfl
theorem tk_1140 : (Jvm.Cond.selects "SnagBook" ({ cls := "SnagBook", name := "ofCrew", desc := "(II)I" } : Jvm.MethodName) ({ cls := "SnagBook", name := "ofCrew", desc := "(II)I" } : Jvm.MethodName)) ∈ tblG := tG_5 (i := 180) rfl rfl
theorem tk_1141 : (Jvm.Cond.code ({ cls := "SnagBook", name := "ofCrew", desc := "(II)I" } : Jvm.MethodName) prog_1_method_41_code (3 : Nat) (Option.some Jvm.ClassFile.FieldType.int)) ∈ tblG := tG_5 (i := 181) rfl rfl
theorem tk_1142 : (Jvm.Cond.methodLink "SnagBook" (427 : Nat) ({ cls := "SnagBook", name := "saidBy", desc := "(I)I" } : Jvm.MethodName)) ∈ tblG := tG_5 (i := 182) rfl rfl
theorem tk_1144 : (Jvm.Cond.instanceMethod ({ cls := "SnagBook", name := "saidBy", desc := "(I)I" } : Jvm.MethodName)) ∈ tblG := tG_5 (i := 184) rfl rfl
theorem tk_1145 : (Jvm.Cond.code ({ cls := "SnagBook", name := "saidBy", desc := "(I)I" } : Jvm.MethodName) prog_1_method_57_code (4 : Nat) (Option.some Jvm.ClassFile.FieldType.int)) ∈ tblG := tG_5 (i := 185) rfl rfl
theorem tk_1146 : (Jvm.Cond.methodLink "SnagBook" (429 : Nat) ({ cls := "SnagBook", name := "falseBy", desc := "(I)I" } : Jvm.MethodName)) ∈ tblG := tG_5 (i := 186) rfl rfl
theorem tk_1148 : (Jvm.Cond.instanceMethod ({ cls := "SnagBook", name := "falseBy", desc := "(I)I" } : Jvm.MethodName)) ∈ tblG := tG_5 (i := 188) rfl rfl
theorem tk_1149 : (Jvm.Cond.code ({ cls := "SnagBook", name := "falseBy", desc := "(I)I" } : Jvm.MethodName) prog_1_method_58_code (4 : Nat) (Option.some Jvm.ClassFile.FieldType.int)) ∈ tblG := tG_5 (i := 189) rfl rfl
theorem tk_1150 : (Jvm.Cond.methodLink "SnagBook" (432 : Nat) ({ cls := "SnagBook", name := "chargedTo", desc := "(I)I" } : Jvm.MethodName)) ∈ tblG := tG_5 (i := 190) rfl rfl
theorem tk_1152 : (Jvm.Cond.instanceMethod ({ cls := "SnagBook", name := "chargedTo", desc := "(I)I" } : Jvm.MethodName)) ∈ tblG := tG_5 (i := 192) rfl rfl
theorem tk_1153 : (Jvm.Cond.code ({ cls := "SnagBook", name := "chargedTo", desc := "(I)I" } : Jvm.MethodName) prog_1_method_59_code (4 : Nat) (Option.some Jvm.ClassFile.FieldType.int)) ∈ tblG := tG_5 (i := 193) rfl rfl
theorem tk_1154 : (Jvm.Cond.methodLink "SnagBookLaw" (177 : Nat) ({ cls := "SnagBook", name := "bounds", desc := "(III)I" } : Jvm.MethodName)) ∈ tblG := tG_5 (i := 194) rfl rfl
theorem tk_1155 : (Jvm.Cond.instanceMethod ({ cls := "SnagBook", name := "bounds", desc := "(III)I" } : Jvm.MethodName)) ∈ tblG := tG_5 (i := 195) rfl rfl
theorem tk_1156 : (Jvm.Cond.selects "SnagBook" ({ cls := "SnagBook", name := "bounds", desc := "(III)I" } : Jvm.MethodName) ({ cls := "SnagBook", name := "bounds", desc := "(III)I" } : Jvm.MethodName)) ∈ tblG := tG_5 (i := 196) rfl rfl
theorem tk_1157 : (Jvm.Cond.code ({ cls := "SnagBook", name := "bounds", desc := "(III)I" } : Jvm.MethodName) prog_1_method_42_code (7 : Nat) (Option.some Jvm.ClassFile.FieldType.int)) ∈ tblG := tG_5 (i := 197) rfl rfl
theorem tk_1158 : (Jvm.Cond.methodLink "SnagBook" (435 : Nat) ({ cls := "SnagBook$Odds", name := "leastFalse", desc := "(IIII)I" } : Jvm.MethodName)) ∈ tblG := tG_5 (i := 198) rfl rfl
theorem tk_1159 : (Jvm.Cond.static ({ cls := "SnagBook$Odds", name := "leastFalse", desc := "(IIII)I" } : Jvm.MethodName)) ∈ tblG := tG_5 (i := 199) rfl rfl
theorem tk_1160 : (Jvm.Cond.code ({ cls := "SnagBook$Odds", name := "leastFalse", desc := "(IIII)I" } : Jvm.MethodName) prog_10_method_5_code (7 : Nat) (Option.some Jvm.ClassFile.FieldType.int)) ∈ tblG := tG_5 (i := 200) rfl rfl
theorem tk_1161 : (Jvm.Cond.constantLong "SnagBook$Odds" (19 : Nat) (100 : Int64)) ∈ tblG := tG_5 (i := 201) rfl rfl
theorem tk_1162 : (Jvm.Cond.methodLink "SnagBook" (441 : Nat) ({ cls := "SnagBook$Odds", name := "greatestFalse", desc := "(IIII)I" } : Jvm.MethodName)) ∈ tblG := tG_5 (i := 202) rfl rfl
theorem tk_1163 : (Jvm.Cond.static ({ cls := "SnagBook$Odds", name := "greatestFalse", desc := "(IIII)I" } : Jvm.MethodName)) ∈ tblG := tG_5 (i := 203) rfl rfl
theorem tk_1164 : (Jvm.Cond.code ({ cls := "SnagBook$Odds", name := "greatestFalse", desc := "(IIII)I" } : Jvm.MethodName) prog_10_method_6_code (7 : Nat) (Option.some Jvm.ClassFile.FieldType.int)) ∈ tblG := tG_5 (i := 204) rfl rfl
theorem tk_1165 : (Jvm.Cond.methodLink "SnagBookLaw" (181 : Nat) ({ cls := "SnagBook", name := "worst", desc := "(II)I" } : Jvm.MethodName)) ∈ tblG := tG_5 (i := 205) rfl rfl
theorem tk_1166 : (Jvm.Cond.instanceMethod ({ cls := "SnagBook", name := "worst", desc := "(II)I" } : Jvm.MethodName)) ∈ tblG := tG_5 (i := 206) rfl rfl
theorem tk_1167 : (Jvm.Cond.selects "SnagBook" ({ cls := "SnagBook", name := "worst", desc := "(II)I" } : Jvm.MethodName) ({ cls := "SnagBook", name := "worst", desc := "(II)I" } : Jvm.MethodName)) ∈ tblG := tG_5 (i := 207) rfl rfl
theorem tk_1168 : (Jvm.Cond.code ({ cls := "SnagBook", name := "worst", desc := "(II)I" } : Jvm.MethodName) prog_1_method_43_code (4 : Nat) (Option.some Jvm.ClassFile.FieldType.int)) ∈ tblG := tG_5 (i := 208) rfl rfl
theorem tk_1169 : (Jvm.Cond.methodLink "SnagBook" (444 : Nat) ({ cls := "SnagBook", name := "placeOf", desc := "(II)I" } : Jvm.MethodName)) ∈ tblG := tG_5 (i := 209) rfl rfl
theorem tk_1171 : (Jvm.Cond.instanceMethod ({ cls := "SnagBook", name := "placeOf", desc := "(II)I" } : Jvm.MethodName)) ∈ tblG := tG_5 (i := 211) rfl rfl
theorem tk_1172 : (Jvm.Cond.code ({ cls := "SnagBook", name := "placeOf", desc := "(II)I" } : Jvm.MethodName) prog_1_method_83_code (7 : Nat) (Option.some Jvm.ClassFile.FieldType.int)) ∈ tblG := tG_5 (i := 212) rfl rfl
theorem tk_1173 : (Jvm.Cond.methodLink "SnagBook" (447 : Nat) ({ cls := "SnagBook", name := "weightOf", desc := "(II)I" } : Jvm.MethodName)) ∈ tblG := tG_5 (i := 213) rfl rfl
theorem tk_1175 : (Jvm.Cond.instanceMethod ({ cls := "SnagBook", name := "weightOf", desc := "(II)I" } : Jvm.MethodName)) ∈ tblG := tG_5 (i := 215) rfl rfl
theorem tk_1176 : (Jvm.Cond.code ({ cls := "SnagBook", name := "weightOf", desc := "(II)I" } : Jvm.MethodName) prog_1_method_82_code (6 : Nat) (Option.some Jvm.ClassFile.FieldType.int)) ∈ tblG := tG_5 (i := 216) rfl rfl
theorem tk_1177 : (Jvm.Cond.methodLink "SnagBookLaw" (185 : Nat) ({ cls := "SnagBook", name := "weight", desc := "(II)I" } : Jvm.MethodName)) ∈ tblG := tG_5 (i := 217) rfl rfl
theorem tk_1178 : (Jvm.Cond.instanceMethod ({ cls := "SnagBook", name := "weight", desc := "(II)I" } : Jvm.MethodName)) ∈ tblG := tG_5 (i := 218) rfl rfl
theorem tk_1179 : (Jvm.Cond.selects "SnagBook" ({ cls := "SnagBook", name := "weight", desc := "(II)I" } : Jvm.MethodName) ({ cls := "SnagBook", name := "weight", desc := "(II)I" } : Jvm.MethodName)) ∈ tblG := tG_5 (i := 219) rfl rfl
theorem tk_1180 : (Jvm.Cond.code ({ cls := "SnagBook", name := "weight", desc := "(II)I" } : Jvm.MethodName) prog_1_method_44_code (3 : Nat) (Option.some Jvm.ClassFile.FieldType.int)) ∈ tblG := tG_5 (i := 220) rfl rfl
theorem tk_1181 : (Jvm.Cond.methodLink "SnagBookLaw" (189 : Nat) ({ cls := "SnagBook", name := "count", desc := "(I)I" } : Jvm.MethodName)) ∈ tblG := tG_5 (i := 221) rfl rfl
theorem tk_1182 : (Jvm.Cond.instanceMethod ({ cls := "SnagBook", name := "count", desc := "(I)I" } : Jvm.MethodName)) ∈ tblG := tG_5 (i := 222) rfl rfl
theorem tk_1183 : (Jvm.Cond.selects "SnagBook" ({ cls := "SnagBook", name := "count", desc := "(I)I" } : Jvm.MethodName) ({ cls := "SnagBook", name := "count", desc := "(I)I" } : Jvm.MethodName)) ∈ tblG := tG_5 (i := 223) rfl rfl
theorem tk_1184 : (Jvm.Cond.code ({ cls := "SnagBook", name := "count", desc := "(I)I" } : Jvm.MethodName) prog_1_method_45_code (2 : Nat) (Option.some Jvm.ClassFile.FieldType.int)) ∈ tblG := tG_5 (i := 224) rfl rfl
theorem tk_1185 : (Jvm.Cond.methodLink "SnagBook" (451 : Nat) ({ cls := "SnagBook", name := "sumOfHomes", desc := "(I)I" } : Jvm.MethodName)) ∈ tblG := tG_5 (i := 225) rfl rfl
theorem tk_1187 : (Jvm.Cond.instanceMethod ({ cls := "SnagBook", name := "sumOfHomes", desc := "(I)I" } : Jvm.MethodName)) ∈ tblG := tG_5 (i := 227) rfl rfl
theorem tk_1188 : (Jvm.Cond.code ({ cls := "SnagBook", name := "sumOfHomes", desc := "(I)I" } : Jvm.MethodName) prog_1_method_60_code (5 : Nat) (Option.some Jvm.ClassFile.FieldType.int)) ∈ tblG := tG_5 (i := 228) rfl rfl
theorem tk_1189 : (Jvm.Cond.classLink "SnagBookLaw" (10 : Nat) "SnagBookModel") ∈ tblG := tG_5 (i := 229) rfl rfl
theorem tk_1190 : (Jvm.Cond.instantiable "SnagBookModel" (82 : Nat)) ∈ tblG := tG_5 (i := 230) rfl rfl
theorem tk_1191 : (Jvm.Cond.methodLink "SnagBookLaw" (12 : Nat) ({ cls := "SnagBookModel", name := "<init>", desc := "()V" } : Jvm.MethodName)) ∈ tblG := tG_5 (i := 231) rfl rfl
theorem tk_1192 : (Jvm.Cond.instanceMethod ({ cls := "SnagBookModel", name := "<init>", desc := "()V" } : Jvm.MethodName)) ∈ tblG := tG_5 (i := 232) rfl rfl
theorem tk_1193 : (Jvm.Cond.code ({ cls := "SnagBookModel", name := "<init>", desc := "()V" } : Jvm.MethodName) prog_14_method_1_code (2 : Nat) (Option.none : Option Jvm.ClassFile.FieldType)) ∈ tblG := tG_5 (i := 233) rfl rfl
theorem tk_1194 : (Jvm.Cond.methodLink "SnagBookModel" (1 : Nat) ({ cls := "java/lang/Object", name := "<init>", desc := "()V" } : Jvm.MethodName)) ∈ tblG := tG_5 (i := 234) rfl rfl
theorem tk_1195 : (Jvm.Cond.fieldLink "SnagBookModel" (190 : Nat) "SnagBookModel" "day" "I") ∈ tblG := tG_5 (i := 235) rfl rfl
theorem tk_1196 : (Jvm.Cond.fieldLink "SnagBookModel" (9 : Nat) "SnagBookModel" "street" "[I") ∈ tblG := tG_5 (i := 236) rfl rfl
theorem tk_1197 : (Jvm.Cond.fieldLink "SnagBookModel" (13 : Nat) "SnagBookModel" "plot" "[I") ∈ tblG := tG_5 (i := 237) rfl rfl
theorem tk_1198 : (Jvm.Cond.fieldLink "SnagBookModel" (16 : Nat) "SnagBookModel" "ground" "[I") ∈ tblG := tG_5 (i := 238) rfl rfl
theorem tk_1199 : (Jvm.Cond.fieldLink "SnagBookModel" (19 : Nat) "SnagBookModel" "batch" "[I") ∈ tblG := tG_5 (i := 239) rfl rfl
theorem tk_1200 : (Jvm.Cond.fieldLink "SnagBookModel" (22 : Nat) "SnagBookModel" "keyDay" "[I") ∈ tblG := tG_6 (i := 0) rfl rfl
theorem tk_1201 : (Jvm.Cond.fieldLink "SnagBookModel" (25 : Nat) "SnagBookModel" "soldOn" "[I") ∈ tblG := tG_6 (i := 1) rfl rfl
theorem tk_1202 : (Jvm.Cond.fieldLink "SnagBookModel" (28 : Nat) "SnagBookModel" "soldMany" "[I") ∈ tblG := tG_6 (i := 2) rfl rfl
theorem tk_1203 : (Jvm.Cond.fieldLink "SnagBookModel" (31 : Nat) "SnagBookModel" "inBits" "[I") ∈ tblG := tG_6 (i := 3) rfl rfl
theorem tk_1204 : (Jvm.Cond.fieldLink "SnagBookModel" (34 : Nat) "SnagBookModel" "crewOf" "[I") ∈ tblG := tG_6 (i := 4) rfl rfl
theorem tk_1205 : (Jvm.Cond.fieldLink "SnagBookModel" (37 : Nat) "SnagBookModel" "keptBack" "[I") ∈ tblG := tG_6 (i := 5) rfl rfl
theorem tk_1206 : (Jvm.Cond.fieldLink "SnagBookModel" (40 : Nat) "SnagBookModel" "freed" "[I") ∈ tblG := tG_6 (i := 6) rfl rfl
theorem tk_1207 : (Jvm.Cond.fieldLink "SnagBookModel" (43 : Nat) "SnagBookModel" "taken" "[I") ∈ tblG := tG_6 (i := 7) rfl rfl
theorem tk_1208 : (Jvm.Cond.fieldLink "SnagBookModel" (181 : Nat) "SnagBookModel" "homes" "I") ∈ tblG := tG_6 (i := 8) rfl rfl
theorem tk_1209 : (Jvm.Cond.fieldLink "SnagBookModel" (46 : Nat) "SnagBookModel" "trade" "[I") ∈ tblG := tG_6 (i := 9) rfl rfl
theorem tk_1210 : (Jvm.Cond.fieldLink "SnagBookModel" (49 : Nat) "SnagBookModel" "rate" "[I") ∈ tblG := tG_6 (i := 10) rfl rfl
theorem tk_1211 : (Jvm.Cond.fieldLink "SnagBookModel" (52 : Nat) "SnagBookModel" "flags" "[I") ∈ tblG := tG_6 (i := 11) rfl rfl
theorem tk_1212 : (Jvm.Cond.fieldLink "SnagBookModel" (184 : Nat) "SnagBookModel" "kinds" "I") ∈ tblG := tG_6 (i := 12) rfl rfl
theorem tk_1213 : (Jvm.Cond.fieldLink "SnagBookModel" (55 : Nat) "SnagBookModel" "home" "[I") ∈ tblG := tG_6 (i := 13) rfl rfl
theorem tk_1214 : (Jvm.Cond.fieldLink "SnagBookModel" (58 : Nat) "SnagBookModel" "room" "[I") ∈ tblG := tG_6 (i := 14) rfl rfl
theorem tk_1215 : (Jvm.Cond.fieldLink "SnagBookModel" (61 : Nat) "SnagBookModel" "kind" "[I") ∈ tblG := tG_6 (i := 15) rfl rfl
theorem tk_1216 : (Jvm.Cond.fieldLink "SnagBookModel" (64 : Nat) "SnagBookModel" "severity" "[I") ∈ tblG := tG_6 (i := 16) rfl rfl
theorem tk_1217 : (Jvm.Cond.fieldLink "SnagBookModel" (67 : Nat) "SnagBookModel" "toldOn" "[I") ∈ tblG := tG_6 (i := 17) rfl rfl
theorem tk_1218 : (Jvm.Cond.fieldLink "SnagBookModel" (70 : Nat) "SnagBookModel" "eye" "[I") ∈ tblG := tG_6 (i := 18) rfl rfl
theorem tk_1219 : (Jvm.Cond.fieldLink "SnagBookModel" (73 : Nat) "SnagBookModel" "isListed" "[Z") ∈ tblG := tG_6 (i := 19) rfl rfl
theorem tk_1220 : (Jvm.Cond.fieldLink "SnagBookModel" (77 : Nat) "SnagBookModel" "isNew" "[Z") ∈ tblG := tG_6 (i := 20) rfl rfl
theorem tk_1221 : (Jvm.Cond.fieldLink "SnagBookModel" (80 : Nat) "SnagBookModel" "stateOf" "[I") ∈ tblG := tG_6 (i := 21) rfl rfl
theorem tk_1222 : (Jvm.Cond.fieldLink "SnagBookModel" (83 : Nat) "SnagBookModel" "stateDay" "[I") ∈ tblG := tG_6 (i := 22) rfl rfl
theorem tk_1223 : (Jvm.Cond.fieldLink "SnagBookModel" (86 : Nat) "SnagBookModel" "stateCrew" "[I") ∈ tblG := tG_6 (i := 23) rfl rfl
theorem tk_1224 : (Jvm.Cond.fieldLink "SnagBookModel" (89 : Nat) "SnagBookModel" "states" "[I") ∈ tblG := tG_6 (i := 24) rfl rfl
theorem tk_1225 : (Jvm.Cond.fieldLink "SnagBookModel" (92 : Nat) "SnagBookModel" "promise" "[I") ∈ tblG := tG_6 (i := 25) rfl rfl
theorem tk_1226 : (Jvm.Cond.fieldLink "SnagBookModel" (95 : Nat) "SnagBookModel" "promiseDay" "[I") ∈ tblG := tG_6 (i := 26) rfl rfl
theorem tk_1227 : (Jvm.Cond.fieldLink "SnagBookModel" (98 : Nat) "SnagBookModel" "moved" "[I") ∈ tblG := tG_6 (i := 27) rfl rfl
theorem tk_1228 : (Jvm.Cond.fieldLink "SnagBookModel" (101 : Nat) "SnagBookModel" "broken" "[I") ∈ tblG := tG_6 (i := 28) rfl rfl
theorem tk_1229 : (Jvm.Cond.fieldLink "SnagBookModel" (104 : Nat) "SnagBookModel" "saidMany" "[I") ∈ tblG := tG_6 (i := 29) rfl rfl
theorem tk_1230 : (Jvm.Cond.fieldLink "SnagBookModel" (107 : Nat) "SnagBookModel" "falseMany" "[I") ∈ tblG := tG_6 (i := 30) rfl rfl
theorem tk_1231 : (Jvm.Cond.fieldLink "SnagBookModel" (187 : Nat) "SnagBookModel" "faults" "I") ∈ tblG := tG_6 (i := 31) rfl rfl
theorem tk_1232 : (Jvm.Cond.fieldLink "SnagBookModel" (110 : Nat) "SnagBookModel" "looked" "[I") ∈ tblG := tG_6 (i := 32) rfl rfl
theorem tk_1233 : (Jvm.Cond.fieldLink "SnagBookModel" (113 : Nat) "SnagBookModel" "foundFalse" "[I") ∈ tblG := tG_6 (i := 33) rfl rfl
theorem tk_1234 : (Jvm.Cond.fieldLink "SnagBookModel" (116 : Nat) "SnagBookModel" "saidBy" "[I") ∈ tblG := tG_6 (i := 34) rfl rfl
theorem tk_1235 : (Jvm.Cond.fieldLink "SnagBookModel" (119 : Nat) "SnagBookModel" "span" "I") ∈ tblG := tG_6 (i := 35) rfl rfl
theorem tk_1236 : (Jvm.Cond.fieldLink "SnagBookModel" (123 : Nat) "SnagBookModel" "mark" "I") ∈ tblG := tG_6 (i := 36) rfl rfl
theorem tk_1237 : (Jvm.Cond.fieldLink "SnagBookModel" (126 : Nat) "SnagBookModel" "readDay" "[I") ∈ tblG := tG_6 (i := 37) rfl rfl
theorem tk_1238 : (Jvm.Cond.fieldLink "SnagBookModel" (129 : Nat) "SnagBookModel" "readWidth" "[I") ∈ tblG := tG_6 (i := 38) rfl rfl
theorem tk_1239 : (Jvm.Cond.fieldLink "SnagBookModel" (132 : Nat) "SnagBookModel" "reads" "[I") ∈ tblG := tG_6 (i := 39) rfl rfl
theorem tk_1240 : (Jvm.Cond.fieldLink "SnagBookModel" (135 : Nat) "SnagBookModel" "men" "[I") ∈ tblG := tG_6 (i := 40) rfl rfl
theorem tk_1241 : (Jvm.Cond.fieldLink "SnagBookModel" (138 : Nat) "SnagBookModel" "job" "[I") ∈ tblG := tG_6 (i := 41) rfl rfl
theorem tk_1242 : (Jvm.Cond.fieldLink "SnagBookModel" (313 : Nat) "SnagBookModel" "jobs" "I") ∈ tblG := tG_6 (i := 42) rfl rfl
theorem tk_1243 : (Jvm.Cond.fieldLink "SnagBookModel" (141 : Nat) "SnagBookModel" "tape" "[I") ∈ tblG := tG_6 (i := 43) rfl rfl
theorem tk_1244 : (Jvm.Cond.fieldLink "SnagBookModel" (352 : Nat) "SnagBookModel" "tapeMany" "I") ∈ tblG := tG_6 (i := 44) rfl rfl
theorem tk_1245 : (Jvm.Cond.fieldLink "SnagBookModel" (144 : Nat) "SnagBookModel" "text" "[I") ∈ tblG := tG_6 (i := 45) rfl rfl
theorem tk_1246 : (Jvm.Cond.fieldLink "SnagBookModel" (147 : Nat) "SnagBookModel" "textMany" "[I") ∈ tblG := tG_6 (i := 46) rfl rfl
theorem tk_1247 : (Jvm.Cond.fieldLink "SnagBookModel" (150 : Nat) "SnagBookModel" "textFrom" "[I") ∈ tblG := tG_6 (i := 47) rfl rfl
theorem tk_1248 : (Jvm.Cond.fieldLink "SnagBookModel" (153 : Nat) "SnagBookModel" "textMade" "[I") ∈ tblG := tG_6 (i := 48) rfl rfl
theorem tk_1249 : (Jvm.Cond.fieldLink "SnagBookModel" (156 : Nat) "SnagBookModel" "texts" "[I") ∈ tblG := tG_6 (i := 49) rfl rfl
theorem tk_1250 : (Jvm.Cond.fieldLink "SnagBookModel" (159 : Nat) "SnagBookModel" "z" "I") ∈ tblG := tG_6 (i := 50) rfl rfl
theorem tk_1251 : (Jvm.Cond.fieldLink "SnagBookModel" (261 : Nat) "SnagBookModel" "damageCrew" "I") ∈ tblG := tG_6 (i := 51) rfl rfl
theorem tk_1252 : (Jvm.Cond.fieldLink "SnagBookModel" (162 : Nat) "SnagBookModel" "isWith" "[Z") ∈ tblG := tG_6 (i := 52) rfl rfl
theorem tk_1253 : (Jvm.Cond.fieldLink "SnagBookModel" (267 : Nat) "SnagBookModel" "withMany" "I") ∈ tblG := tG_6 (i := 53) rfl rfl
theorem tk_1254 : (Jvm.Cond.fieldLink "SnagBookModel" (316 : Nat) "SnagBookModel" "horizon" "I") ∈ tblG := tG_6 (i := 54) rfl rfl
theorem tk_1255 : (Jvm.Cond.fieldLink "SnagBookModel" (165 : Nat) "SnagBookModel" "trying" "[I") ∈ tblG := tG_6 (i := 55) rfl rfl
theorem tk_1256 : (Jvm.Cond.fieldLink "SnagBookModel" (168 : Nat) "SnagBookModel" "planned" "[I") ∈ tblG := tG_6 (i := 56) rfl rfl
theorem tk_1257 : (Jvm.Cond.fieldLink "SnagBookModel" (349 : Nat) "SnagBookModel" "plannedMany" "I") ∈ tblG := tG_6 (i := 57) rfl rfl
theorem tk_1258 : (Jvm.Cond.fieldLink "SnagBookModel" (326 : Nat) "SnagBookModel" "bestWeight" "I") ∈ tblG := tG_6 (i := 58) rfl rfl
theorem tk_1259 : (Jvm.Cond.fieldLink "SnagBookModel" (329 : Nat) "SnagBookModel" "bestLeft" "I") ∈ tblG := tG_6 (i := 59) rfl rfl
theorem tk_1260 : (Jvm.Cond.fieldLink "SnagBookModel" (332 : Nat) "SnagBookModel" "bestSum" "I") ∈ tblG := tG_6 (i := 60) rfl rfl
theorem tk_1261 : (Jvm.Cond.fieldLink "SnagBookModel" (355 : Nat) "SnagBookModel" "base" "I") ∈ tblG := tG_6 (i := 61) rfl rfl
theorem tk_1262 : (Jvm.Cond.fieldLink "SnagBookModel" (358 : Nat) "SnagBookModel" "at" "I") ∈ tblG := tG_6 (i := 62) rfl rfl
theorem tk_1263 : (Jvm.Cond.fieldLink "SnagBookModel" (361 : Nat) "SnagBookModel" "ends" "I") ∈ tblG := tG_6 (i := 63) rfl rfl
theorem tk_1264 : (Jvm.Cond.fieldLink "SnagBookModel" (364 : Nat) "SnagBookModel" "fault" "I") ∈ tblG := tG_6 (i := 64) rfl rfl
theorem tk_1265 : (Jvm.Cond.fieldLink "SnagBookModel" (367 : Nat) "SnagBookModel" "open" "I") ∈ tblG := tG_6 (i := 65) rfl rfl
theorem tk_1266 : (Jvm.Cond.fieldLink "SnagBookModel" (171 : Nat) "SnagBookModel" "factOf" "[I") ∈ tblG := tG_6 (i := 66) rfl rfl
theorem tk_1267 : (Jvm.Cond.fieldLink "SnagBookModel" (387 : Nat) "SnagBookModel" "lineWho" "I") ∈ tblG := tG_6 (i := 67) rfl rfl
theorem tk_1268 : (Jvm.Cond.fieldLink "SnagBookModel" (390 : Nat) "SnagBookModel" "lineExcess" "I") ∈ tblG := tG_6 (i := 68) rfl rfl
theorem tk_1269 : (Jvm.Cond.fieldLink "SnagBookModel" (396 : Nat) "SnagBookModel" "foundLine" "I") ∈ tblG := tG_6 (i := 69) rfl rfl
theorem tk_1270 : (Jvm.Cond.fieldLink "SnagBookModel" (402 : Nat) "SnagBookModel" "foundWho" "I") ∈ tblG := tG_6 (i := 70) rfl rfl
theorem tk_1271 : (Jvm.Cond.fieldLink "SnagBookModel" (405 : Nat) "SnagBookModel" "foundExcess" "I") ∈ tblG := tG_6 (i := 71) rfl rfl
theorem tk_1272 : (Jvm.Cond.fieldLink "SnagBookModel" (174 : Nat) "SnagBookModel" "homeOf" "[I") ∈ tblG := tG_6 (i := 72) rfl rfl
theorem tk_1273 : (Jvm.Cond.fieldLink "SnagBookModel" (423 : Nat) "SnagBookModel" "who" "I") ∈ tblG := tG_6 (i := 73) rfl rfl
theorem tk_1274 : (Jvm.Cond.fieldLink "SnagBookModel" (426 : Nat) "SnagBookModel" "ownerPays" "I") ∈ tblG := tG_6 (i := 74) rfl rfl
theorem tk_1275 : (Jvm.Cond.fieldLink "SnagBookModel" (429 : Nat) "SnagBookModel" "whoPays" "I") ∈ tblG := tG_6 (i := 75) rfl rfl
theorem tk_1276 : (Jvm.Cond.fieldLink "SnagBookModel" (432 : Nat) "SnagBookModel" "byLine" "I") ∈ tblG := tG_6 (i := 76) rfl rfl
theorem tk_1277 : (Jvm.Cond.lays "SnagBookModel" "SnagBookModel" "day" "I") ∈ tblG := tG_6 (i := 77) rfl rfl
theorem tk_1278 : (Jvm.Cond.soleField "SnagBookModel" "day") ∈ tblG := tG_6 (i := 78) rfl rfl
theorem tk_1279 : (Jvm.Cond.laysFinal "SnagBookModel" "SnagBookModel" "street" "[I") ∈ tblG := tG_6 (i := 79) rfl rfl
theorem tk_1280 : (Jvm.Cond.soleField "SnagBookModel" "street") ∈ tblG := tG_6 (i := 80) rfl rfl
theorem tk_1281 : (Jvm.Cond.laysFinal "SnagBookModel" "SnagBookModel" "plot" "[I") ∈ tblG := tG_6 (i := 81) rfl rfl
theorem tk_1282 : (Jvm.Cond.soleField "SnagBookModel" "plot") ∈ tblG := tG_6 (i := 82) rfl rfl
theorem tk_1283 : (Jvm.Cond.laysFinal "SnagBookModel" "SnagBookModel" "ground" "[I") ∈ tblG := tG_6 (i := 83) rfl rfl
theorem tk_1284 : (Jvm.Cond.soleField "SnagBookModel" "ground") ∈ tblG := tG_6 (i := 84) rfl rfl
theorem tk_1285 : (Jvm.Cond.laysFinal "SnagBookModel" "SnagBookModel" "batch" "[I") ∈ tblG := tG_6 (i := 85) rfl rfl
theorem tk_1286 : (Jvm.Cond.soleField "SnagBookModel" "batch") ∈ tblG := tG_6 (i := 86) rfl rfl
theorem tk_1287 : (Jvm.Cond.laysFinal "SnagBookModel" "SnagBookModel" "keyDay" "[I") ∈ tblG := tG_6 (i := 87) rfl rfl
theorem tk_1288 : (Jvm.Cond.soleField "SnagBookModel" "keyDay") ∈ tblG := tG_6 (i := 88) rfl rfl
theorem tk_1289 : (Jvm.Cond.laysFinal "SnagBookModel" "SnagBookModel" "soldOn" "[I") ∈ tblG := tG_6 (i := 89) rfl rfl
theorem tk_1290 : (Jvm.Cond.soleField "SnagBookModel" "soldOn") ∈ tblG := tG_6 (i := 90) rfl rfl
theorem tk_1291 : (Jvm.Cond.laysFinal "SnagBookModel" "SnagBookModel" "soldMany" "[I") ∈ tblG := tG_6 (i := 91) rfl rfl
theorem tk_1292 : (Jvm.Cond.soleField "SnagBookModel" "soldMany") ∈ tblG := tG_6 (i := 92) rfl rfl
theorem tk_1293 : (Jvm.Cond.laysFinal "SnagBookModel" "SnagBookModel" "inBits" "[I") ∈ tblG := tG_6 (i := 93) rfl rfl
theorem tk_1294 : (Jvm.Cond.soleField "SnagBookModel" "inBits") ∈ tblG := tG_6 (i := 94) rfl rfl
theorem tk_1295 : (Jvm.Cond.laysFinal "SnagBookModel" "SnagBookModel" "crewOf" "[I") ∈ tblG := tG_6 (i := 95) rfl rfl
theorem tk_1296 : (Jvm.Cond.soleField "SnagBookModel" "crewOf") ∈ tblG := tG_6 (i := 96) rfl rfl
theorem tk_1297 : (Jvm.Cond.laysFinal "SnagBookModel" "SnagBookModel" "keptBack" "[I") ∈ tblG := tG_6 (i := 97) rfl rfl
theorem tk_1298 : (Jvm.Cond.soleField "SnagBookModel" "keptBack") ∈ tblG := tG_6 (i := 98) rfl rfl
theorem tk_1299 : (Jvm.Cond.laysFinal "SnagBookModel" "SnagBookModel" "freed" "[I") ∈ tblG := tG_6 (i := 99) rfl rfl
theorem tk_1300 : (Jvm.Cond.soleField "SnagBookModel" "freed") ∈ tblG := tG_6 (i := 100) rfl rfl
theorem tk_1301 : (Jvm.Cond.laysFinal "SnagBookModel" "SnagBookModel" "taken" "[I") ∈ tblG := tG_6 (i := 101) rfl rfl
theorem tk_1302 : (Jvm.Cond.soleField "SnagBookModel" "taken") ∈ tblG := tG_6 (i := 102) rfl rfl
theorem tk_1303 : (Jvm.Cond.lays "SnagBookModel" "SnagBookModel" "homes" "I") ∈ tblG := tG_6 (i := 103) rfl rfl
theorem tk_1304 : (Jvm.Cond.soleField "SnagBookModel" "homes") ∈ tblG := tG_6 (i := 104) rfl rfl
theorem tk_1305 : (Jvm.Cond.laysFinal "SnagBookModel" "SnagBookModel" "trade" "[I") ∈ tblG := tG_6 (i := 105) rfl rfl
theorem tk_1306 : (Jvm.Cond.soleField "SnagBookModel" "trade") ∈ tblG := tG_6 (i := 106) rfl rfl
theorem tk_1307 : (Jvm.Cond.laysFinal "SnagBookModel" "SnagBookModel" "rate" "[I") ∈ tblG := tG_6 (i := 107) rfl rfl
theorem tk_1308 : (Jvm.Cond.soleField "SnagBookModel" "rate") ∈ tblG := tG_6 (i := 108) rfl rfl
theorem tk_1309 : (Jvm.Cond.laysFinal "SnagBookModel" "SnagBookModel" "flags" "[I") ∈ tblG := tG_6 (i := 109) rfl rfl
theorem tk_1310 : (Jvm.Cond.soleField "SnagBookModel" "flags") ∈ tblG := tG_6 (i := 110) rfl rfl
theorem tk_1311 : (Jvm.Cond.lays "SnagBookModel" "SnagBookModel" "kinds" "I") ∈ tblG := tG_6 (i := 111) rfl rfl
theorem tk_1312 : (Jvm.Cond.soleField "SnagBookModel" "kinds") ∈ tblG := tG_6 (i := 112) rfl rfl
theorem tk_1313 : (Jvm.Cond.laysFinal "SnagBookModel" "SnagBookModel" "home" "[I") ∈ tblG := tG_6 (i := 113) rfl rfl
theorem tk_1314 : (Jvm.Cond.soleField "SnagBookModel" "home") ∈ tblG := tG_6 (i := 114) rfl rfl
theorem tk_1315 : (Jvm.Cond.laysFinal "SnagBookModel" "SnagBookModel" "room" "[I") ∈ tblG := tG_6 (i := 115) rfl rfl
theorem tk_1316 : (Jvm.Cond.soleField "SnagBookModel" "room") ∈ tblG := tG_6 (i := 116) rfl rfl
theorem tk_1317 : (Jvm.Cond.laysFinal "SnagBookModel" "SnagBookModel" "kind" "[I") ∈ tblG := tG_6 (i := 117) rfl rfl
theorem tk_1318 : (Jvm.Cond.soleField "SnagBookModel" "kind") ∈ tblG := tG_6 (i := 118) rfl rfl
theorem tk_1319 : (Jvm.Cond.laysFinal "SnagBookModel" "SnagBookModel" "severity" "[I") ∈ tblG := tG_6 (i := 119) rfl rfl
theorem tk_1320 : (Jvm.Cond.soleField "SnagBookModel" "severity") ∈ tblG := tG_6 (i := 120) rfl rfl
theorem tk_1321 : (Jvm.Cond.laysFinal "SnagBookModel" "SnagBookModel" "toldOn" "[I") ∈ tblG := tG_6 (i := 121) rfl rfl
theorem tk_1322 : (Jvm.Cond.soleField "SnagBookModel" "toldOn") ∈ tblG := tG_6 (i := 122) rfl rfl
theorem tk_1323 : (Jvm.Cond.laysFinal "SnagBookModel" "SnagBookModel" "eye" "[I") ∈ tblG := tG_6 (i := 123) rfl rfl
theorem tk_1324 : (Jvm.Cond.soleField "SnagBookModel" "eye") ∈ tblG := tG_6 (i := 124) rfl rfl
theorem tk_1325 : (Jvm.Cond.laysFinal "SnagBookModel" "SnagBookModel" "isListed" "[Z") ∈ tblG := tG_6 (i := 125) rfl rfl
theorem tk_1326 : (Jvm.Cond.soleField "SnagBookModel" "isListed") ∈ tblG := tG_6 (i := 126) rfl rfl
theorem tk_1327 : (Jvm.Cond.laysFinal "SnagBookModel" "SnagBookModel" "isNew" "[Z") ∈ tblG := tG_6 (i := 127) rfl rfl
theorem tk_1328 : (Jvm.Cond.soleField "SnagBookModel" "isNew") ∈ tblG := tG_6 (i := 128) rfl rfl
theorem tk_1329 : (Jvm.Cond.laysFinal "SnagBookModel" "SnagBookModel" "stateOf" "[I") ∈ tblG := tG_6 (i := 129) rfl rfl
theorem tk_1330 : (Jvm.Cond.soleField "SnagBookModel" "stateOf") ∈ tblG := tG_6 (i := 130) rfl rfl
theorem tk_1331 : (Jvm.Cond.laysFinal "SnagBookModel" "SnagBookModel" "stateDay" "[I") ∈ tblG := tG_6 (i := 131) rfl rfl
theorem tk_1332 : (Jvm.Cond.soleField "SnagBookModel" "stateDay") ∈ tblG := tG_6 (i := 132) rfl rfl
theorem tk_1333 : (Jvm.Cond.laysFinal "SnagBookModel" "SnagBookModel" "stateCrew" "[I") ∈ tblG := tG_6 (i := 133) rfl rfl
theorem tk_1334 : (Jvm.Cond.soleField "SnagBookModel" "stateCrew") ∈ tblG := tG_6 (i := 134) rfl rfl
theorem tk_1335 : (Jvm.Cond.laysFinal "SnagBookModel" "SnagBookModel" "states" "[I") ∈ tblG := tG_6 (i := 135) rfl rfl
theorem tk_1336 : (Jvm.Cond.soleField "SnagBookModel" "states") ∈ tblG := tG_6 (i := 136) rfl rfl
theorem tk_1337 : (Jvm.Cond.laysFinal "SnagBookModel" "SnagBookModel" "promise" "[I") ∈ tblG := tG_6 (i := 137) rfl rfl
theorem tk_1338 : (Jvm.Cond.soleField "SnagBookModel" "promise") ∈ tblG := tG_6 (i := 138) rfl rfl
theorem tk_1339 : (Jvm.Cond.laysFinal "SnagBookModel" "SnagBookModel" "promiseDay" "[I") ∈ tblG := tG_6 (i := 139) rfl rfl
theorem tk_1340 : (Jvm.Cond.soleField "SnagBookModel" "promiseDay") ∈ tblG := tG_6 (i := 140) rfl rfl
theorem tk_1341 : (Jvm.Cond.laysFinal "SnagBookModel" "SnagBookModel" "moved" "[I") ∈ tblG := tG_6 (i := 141) rfl rfl
theorem tk_1342 : (Jvm.Cond.soleField "SnagBookModel" "moved") ∈ tblG := tG_6 (i := 142) rfl rfl
theorem tk_1343 : (Jvm.Cond.laysFinal "SnagBookModel" "SnagBookModel" "broken" "[I") ∈ tblG := tG_6 (i := 143) rfl rfl
theorem tk_1344 : (Jvm.Cond.soleField "SnagBookModel" "broken") ∈ tblG := tG_6 (i := 144) rfl rfl
theorem tk_1345 : (Jvm.Cond.laysFinal "SnagBookModel" "SnagBookModel" "saidMany" "[I") ∈ tblG := tG_6 (i := 145) rfl rfl
theorem tk_1346 : (Jvm.Cond.soleField "SnagBookModel" "saidMany") ∈ tblG := tG_6 (i := 146) rfl rfl
theorem tk_1347 : (Jvm.Cond.laysFinal "SnagBookModel" "SnagBookModel" "falseMany" "[I") ∈ tblG := tG_6 (i := 147) rfl rfl
theorem tk_1348 : (Jvm.Cond.soleField "SnagBookModel" "falseMany") ∈ tblG := tG_6 (i := 148) rfl rfl
theorem tk_1349 : (Jvm.Cond.lays "SnagBookModel" "SnagBookModel" "faults" "I") ∈ tblG := tG_6 (i := 149) rfl rfl
theorem tk_1350 : (Jvm.Cond.soleField "SnagBookModel" "faults") ∈ tblG := tG_6 (i := 150) rfl rfl
theorem tk_1351 : (Jvm.Cond.laysFinal "SnagBookModel" "SnagBookModel" "looked" "[I") ∈ tblG := tG_6 (i := 151) rfl rfl
theorem tk_1352 : (Jvm.Cond.soleField "SnagBookModel" "looked") ∈ tblG := tG_6 (i := 152) rfl rfl
theorem tk_1353 : (Jvm.Cond.laysFinal "SnagBookModel" "SnagBookModel" "foundFalse" "[I") ∈ tblG := tG_6 (i := 153) rfl rfl
theorem tk_1354 : (Jvm.Cond.soleField "SnagBookModel" "foundFalse") ∈ tblG := tG_6 (i := 154) rfl rfl
theorem tk_1355 : (Jvm.Cond.laysFinal "SnagBookModel" "SnagBookModel" "saidBy" "[I") ∈ tblG := tG_6 (i := 155) rfl rfl
theorem tk_1356 : (Jvm.Cond.soleField "SnagBookModel" "saidBy") ∈ tblG := tG_6 (i := 156) rfl rfl
theorem tk_1357 : (Jvm.Cond.lays "SnagBookModel" "SnagBookModel" "span" "I") ∈ tblG := tG_6 (i := 157) rfl rfl
theorem tk_1358 : (Jvm.Cond.soleField "SnagBookModel" "span") ∈ tblG := tG_6 (i := 158) rfl rfl
theorem tk_1359 : (Jvm.Cond.lays "SnagBookModel" "SnagBookModel" "mark" "I") ∈ tblG := tG_6 (i := 159) rfl rfl
theorem tk_1360 : (Jvm.Cond.soleField "SnagBookModel" "mark") ∈ tblG := tG_6 (i := 160) rfl rfl
theorem tk_1361 : (Jvm.Cond.laysFinal "SnagBookModel" "SnagBookModel" "readDay" "[I") ∈ tblG := tG_6 (i := 161) rfl rfl
theorem tk_1362 : (Jvm.Cond.soleField "SnagBookModel" "readDay") ∈ tblG := tG_6 (i := 162) rfl rfl
theorem tk_1363 : (Jvm.Cond.laysFinal "SnagBookModel" "SnagBookModel" "readWidth" "[I") ∈ tblG := tG_6 (i := 163) rfl rfl
theorem tk_1364 : (Jvm.Cond.soleField "SnagBookModel" "readWidth") ∈ tblG := tG_6 (i := 164) rfl rfl
theorem tk_1365 : (Jvm.Cond.laysFinal "SnagBookModel" "SnagBookModel" "reads" "[I") ∈ tblG := tG_6 (i := 165) rfl rfl
theorem tk_1366 : (Jvm.Cond.soleField "SnagBookModel" "reads") ∈ tblG := tG_6 (i := 166) rfl rfl
theorem tk_1367 : (Jvm.Cond.laysFinal "SnagBookModel" "SnagBookModel" "men" "[I") ∈ tblG := tG_6 (i := 167) rfl rfl
theorem tk_1368 : (Jvm.Cond.soleField "SnagBookModel" "men") ∈ tblG := tG_6 (i := 168) rfl rfl
theorem tk_1369 : (Jvm.Cond.laysFinal "SnagBookModel" "SnagBookModel" "job" "[I") ∈ tblG := tG_6 (i := 169) rfl rfl
theorem tk_1370 : (Jvm.Cond.soleField "SnagBookModel" "job") ∈ tblG := tG_6 (i := 170) rfl rfl
theorem tk_1371 : (Jvm.Cond.lays "SnagBookModel" "SnagBookModel" "jobs" "I") ∈ tblG := tG_6 (i := 171) rfl rfl
theorem tk_1372 : (Jvm.Cond.soleField "SnagBookModel" "jobs") ∈ tblG := tG_6 (i := 172) rfl rfl
theorem tk_1373 : (Jvm.Cond.laysFinal "SnagBookModel" "SnagBookModel" "tape" "[I") ∈ tblG := tG_6 (i := 173) rfl rfl
theorem tk_1374 : (Jvm.Cond.soleField "SnagBookModel" "tape") ∈ tblG := tG_6 (i := 174) rfl rfl
theorem tk_1375 : (Jvm.Cond.lays "SnagBookModel" "SnagBookModel" "tapeMany" "I") ∈ tblG := tG_6 (i := 175) rfl rfl
theorem tk_1376 : (Jvm.Cond.soleField "SnagBookModel" "tapeMany") ∈ tblG := tG_6 (i := 176) rfl rfl
theorem tk_1377 : (Jvm.Cond.laysFinal "SnagBookModel" "SnagBookModel" "text" "[I") ∈ tblG := tG_6 (i := 177) rfl rfl
theorem tk_1378 : (Jvm.Cond.soleField "SnagBookModel" "text") ∈ tblG := tG_6 (i := 178) rfl rfl
theorem tk_1379 : (Jvm.Cond.laysFinal "SnagBookModel" "SnagBookModel" "textMany" "[I") ∈ tblG := tG_6 (i := 179) rfl rfl
theorem tk_1380 : (Jvm.Cond.soleField "SnagBookModel" "textMany") ∈ tblG := tG_6 (i := 180) rfl rfl
theorem tk_1381 : (Jvm.Cond.laysFinal "SnagBookModel" "SnagBookModel" "textFrom" "[I") ∈ tblG := tG_6 (i := 181) rfl rfl
theorem tk_1382 : (Jvm.Cond.soleField "SnagBookModel" "textFrom") ∈ tblG := tG_6 (i := 182) rfl rfl
theorem tk_1383 : (Jvm.Cond.laysFinal "SnagBookModel" "SnagBookModel" "textMade" "[I") ∈ tblG := tG_6 (i := 183) rfl rfl
theorem tk_1384 : (Jvm.Cond.soleField "SnagBookModel" "textMade") ∈ tblG := tG_6 (i := 184) rfl rfl
theorem tk_1385 : (Jvm.Cond.laysFinal "SnagBookModel" "SnagBookModel" "texts" "[I") ∈ tblG := tG_6 (i := 185) rfl rfl
theorem tk_1386 : (Jvm.Cond.soleField "SnagBookModel" "texts") ∈ tblG := tG_6 (i := 186) rfl rfl
theorem tk_1387 : (Jvm.Cond.lays "SnagBookModel" "SnagBookModel" "z" "I") ∈ tblG := tG_6 (i := 187) rfl rfl
theorem tk_1388 : (Jvm.Cond.soleField "SnagBookModel" "z") ∈ tblG := tG_6 (i := 188) rfl rfl
theorem tk_1389 : (Jvm.Cond.lays "SnagBookModel" "SnagBookModel" "damageCrew" "I") ∈ tblG := tG_6 (i := 189) rfl rfl
theorem tk_1390 : (Jvm.Cond.soleField "SnagBookModel" "damageCrew") ∈ tblG := tG_6 (i := 190) rfl rfl
theorem tk_1391 : (Jvm.Cond.laysFinal "SnagBookModel" "SnagBookModel" "isWith" "[Z") ∈ tblG := tG_6 (i := 191) rfl rfl
theorem tk_1392 : (Jvm.Cond.soleField "SnagBookModel" "isWith") ∈ tblG := tG_6 (i := 192) rfl rfl
theorem tk_1393 : (Jvm.Cond.lays "SnagBookModel" "SnagBookModel" "withMany" "I") ∈ tblG := tG_6 (i := 193) rfl rfl
theorem tk_1394 : (Jvm.Cond.soleField "SnagBookModel" "withMany") ∈ tblG := tG_6 (i := 194) rfl rfl
theorem tk_1395 : (Jvm.Cond.lays "SnagBookModel" "SnagBookModel" "horizon" "I") ∈ tblG := tG_6 (i := 195) rfl rfl
theorem tk_1396 : (Jvm.Cond.soleField "SnagBookModel" "horizon") ∈ tblG := tG_6 (i := 196) rfl rfl
theorem tk_1397 : (Jvm.Cond.laysFinal "SnagBookModel" "SnagBookModel" "trying" "[I") ∈ tblG := tG_6 (i := 197) rfl rfl
theorem tk_1398 : (Jvm.Cond.soleField "SnagBookModel" "trying") ∈ tblG := tG_6 (i := 198) rfl rfl
theorem tk_1399 : (Jvm.Cond.laysFinal "SnagBookModel" "SnagBookModel" "planned" "[I") ∈ tblG := tG_6 (i := 199) rfl rfl
theorem tk_1400 : (Jvm.Cond.soleField "SnagBookModel" "planned") ∈ tblG := tG_6 (i := 200) rfl rfl
theorem tk_1401 : (Jvm.Cond.lays "SnagBookModel" "SnagBookModel" "plannedMany" "I") ∈ tblG := tG_6 (i := 201) rfl rfl
theorem tk_1402 : (Jvm.Cond.soleField "SnagBookModel" "plannedMany") ∈ tblG := tG_6 (i := 202) rfl rfl
theorem tk_1403 : (Jvm.Cond.lays "SnagBookModel" "SnagBookModel" "bestWeight" "I") ∈ tblG := tG_6 (i := 203) rfl rfl
theorem tk_1404 : (Jvm.Cond.soleField "SnagBookModel" "bestWeight") ∈ tblG := tG_6 (i := 204) rfl rfl
theorem tk_1405 : (Jvm.Cond.lays "SnagBookModel" "SnagBookModel" "bestLeft" "I") ∈ tblG := tG_6 (i := 205) rfl rfl
theorem tk_1406 : (Jvm.Cond.soleField "SnagBookModel" "bestLeft") ∈ tblG := tG_6 (i := 206) rfl rfl
theorem tk_1407 : (Jvm.Cond.lays "SnagBookModel" "SnagBookModel" "bestSum" "I") ∈ tblG := tG_6 (i := 207) rfl rfl
theorem tk_1408 : (Jvm.Cond.soleField "SnagBookModel" "bestSum") ∈ tblG := tG_6 (i := 208) rfl rfl
theorem tk_1409 : (Jvm.Cond.lays "SnagBookModel" "SnagBookModel" "base" "I") ∈ tblG := tG_6 (i := 209) rfl rfl
theorem tk_1410 : (Jvm.Cond.soleField "SnagBookModel" "base") ∈ tblG := tG_6 (i := 210) rfl rfl
theorem tk_1411 : (Jvm.Cond.lays "SnagBookModel" "SnagBookModel" "at" "I") ∈ tblG := tG_6 (i := 211) rfl rfl
theorem tk_1412 : (Jvm.Cond.soleField "SnagBookModel" "at") ∈ tblG := tG_6 (i := 212) rfl rfl
theorem tk_1413 : (Jvm.Cond.lays "SnagBookModel" "SnagBookModel" "ends" "I") ∈ tblG := tG_6 (i := 213) rfl rfl
theorem tk_1414 : (Jvm.Cond.soleField "SnagBookModel" "ends") ∈ tblG := tG_6 (i := 214) rfl rfl
theorem tk_1415 : (Jvm.Cond.lays "SnagBookModel" "SnagBookModel" "fault" "I") ∈ tblG := tG_6 (i := 215) rfl rfl
theorem tk_1416 : (Jvm.Cond.soleField "SnagBookModel" "fault") ∈ tblG := tG_6 (i := 216) rfl rfl
theorem tk_1417 : (Jvm.Cond.lays "SnagBookModel" "SnagBookModel" "open" "I") ∈ tblG := tG_6 (i := 217) rfl rfl
theorem tk_1418 : (Jvm.Cond.soleField "SnagBookModel" "open") ∈ tblG := tG_6 (i := 218) rfl rfl
theorem tk_1419 : (Jvm.Cond.laysFinal "SnagBookModel" "SnagBookModel" "factOf" "[I") ∈ tblG := tG_6 (i := 219) rfl rfl
theorem tk_1420 : (Jvm.Cond.soleField "SnagBookModel" "factOf") ∈ tblG := tG_6 (i := 220) rfl rfl
theorem tk_1421 : (Jvm.Cond.lays "SnagBookModel" "SnagBookModel" "lineWho" "I") ∈ tblG := tG_6 (i := 221) rfl rfl
theorem tk_1422 : (Jvm.Cond.soleField "SnagBookModel" "lineWho") ∈ tblG := tG_6 (i := 222) rfl rfl
theorem tk_1423 : (Jvm.Cond.lays "SnagBookModel" "SnagBookModel" "lineExcess" "I") ∈ tblG := tG_6 (i := 223) rfl rfl
theorem tk_1424 : (Jvm.Cond.soleField "SnagBookModel" "lineExcess") ∈ tblG := tG_6 (i := 224) rfl rfl
theorem tk_1425 : (Jvm.Cond.lays "SnagBookModel" "SnagBookModel" "foundLine" "I") ∈ tblG := tG_6 (i := 225) rfl rfl
theorem tk_1426 : (Jvm.Cond.soleField "SnagBookModel" "foundLine") ∈ tblG := tG_6 (i := 226) rfl rfl
theorem tk_1427 : (Jvm.Cond.lays "SnagBookModel" "SnagBookModel" "foundWho" "I") ∈ tblG := tG_6 (i := 227) rfl rfl
theorem tk_1428 : (Jvm.Cond.soleField "SnagBookModel" "foundWho") ∈ tblG := tG_6 (i := 228) rfl rfl
theorem tk_1429 : (Jvm.Cond.lays "SnagBookModel" "SnagBookModel" "foundExcess" "I") ∈ tblG := tG_6 (i := 229) rfl rfl
theorem tk_1430 : (Jvm.Cond.soleField "SnagBookModel" "foundExcess") ∈ tblG := tG_6 (i := 230) rfl rfl
theorem tk_1431 : (Jvm.Cond.laysFinal "SnagBookModel" "SnagBookModel" "homeOf" "[I") ∈ tblG := tG_6 (i := 231) rfl rfl
theorem tk_1432 : (Jvm.Cond.soleField "SnagBookModel" "homeOf") ∈ tblG := tG_6 (i := 232) rfl rfl
theorem tk_1433 : (Jvm.Cond.lays "SnagBookModel" "SnagBookModel" "who" "I") ∈ tblG := tG_6 (i := 233) rfl rfl
theorem tk_1434 : (Jvm.Cond.soleField "SnagBookModel" "who") ∈ tblG := tG_6 (i := 234) rfl rfl
theorem tk_1435 : (Jvm.Cond.lays "SnagBookModel" "SnagBookModel" "ownerPays" "I") ∈ tblG := tG_6 (i := 235) rfl rfl
theorem tk_1436 : (Jvm.Cond.soleField "SnagBookModel" "ownerPays") ∈ tblG := tG_6 (i := 236) rfl rfl
theorem tk_1437 : (Jvm.Cond.lays "SnagBookModel" "SnagBookModel" "whoPays" "I") ∈ tblG := tG_6 (i := 237) rfl rfl
theorem tk_1438 : (Jvm.Cond.soleField "SnagBookModel" "whoPays") ∈ tblG := tG_6 (i := 238) rfl rfl
theorem tk_1439 : (Jvm.Cond.lays "SnagBookModel" "SnagBookModel" "byLine" "I") ∈ tblG := tG_6 (i := 239) rfl rfl
theorem tk_1440 : (Jvm.Cond.soleField "SnagBookModel" "byLine") ∈ tblG := tG_7 (i := 0) rfl rfl
theorem tk_1441 : (Jvm.Cond.superclass "SnagBookModel" "java/lang/Object") ∈ tblG := tG_7 (i := 1) rfl rfl
theorem tk_1442 : (Jvm.Cond.methodLink "SnagBookLaw" (17 : Nat) ({ cls := "SnagBookModel", name := "days", desc := "(I)I" } : Jvm.MethodName)) ∈ tblG := tG_7 (i := 2) rfl rfl
theorem tk_1443 : (Jvm.Cond.instanceMethod ({ cls := "SnagBookModel", name := "days", desc := "(I)I" } : Jvm.MethodName)) ∈ tblG := tG_7 (i := 3) rfl rfl
theorem tk_1444 : (Jvm.Cond.selects "SnagBookModel" ({ cls := "SnagBookModel", name := "days", desc := "(I)I" } : Jvm.MethodName) ({ cls := "SnagBookModel", name := "days", desc := "(I)I" } : Jvm.MethodName)) ∈ tblG := tG_7 (i := 4) rfl rfl
theorem tk_1445 : (Jvm.Cond.code ({ cls := "SnagBookModel", name := "days", desc := "(I)I" } : Jvm.MethodName) prog_14_method_9_code (2 : Nat) (Option.some Jvm.ClassFile.FieldType.int)) ∈ tblG := tG_7 (i := 5) rfl rfl
theorem tk_1446 : (Jvm.Cond.methodLink "SnagBookModel" (177 : Nat) ({ cls := "SnagBookModel", name := "within", desc := "(III)Z" } : Jvm.MethodName)) ∈ tblG := tG_7 (i := 6) rfl rfl
theorem tk_1447 : (Jvm.Cond.static ({ cls := "SnagBookModel", name := "within", desc := "(III)Z" } : Jvm.MethodName)) ∈ tblG := tG_7 (i := 7) rfl rfl
theorem tk_1448 : (Jvm.Cond.code ({ cls := "SnagBookModel", name := "within", desc := "(III)Z" } : Jvm.MethodName) prog_14_method_2_code (3 : Nat) (Option.some Jvm.ClassFile.FieldType.boolean)) ∈ tblG := tG_7 (i := 8) rfl rfl
theorem tk_1449 : (Jvm.Cond.methodLink "SnagBookLaw" (22 : Nat) ({ cls := "SnagBookModel", name := "home", desc := "(III)I" } : Jvm.MethodName)) ∈ tblG := tG_7 (i := 9) rfl rfl
theorem tk_1450 : (Jvm.Cond.instanceMethod ({ cls := "SnagBookModel", name := "home", desc := "(III)I" } : Jvm.MethodName)) ∈ tblG := tG_7 (i := 10) rfl rfl
theorem tk_1451 : (Jvm.Cond.selects "SnagBookModel" ({ cls := "SnagBookModel", name := "home", desc := "(III)I" } : Jvm.MethodName) ({ cls := "SnagBookModel", name := "home", desc := "(III)I" } : Jvm.MethodName)) ∈ tblG := tG_7 (i := 11) rfl rfl
theorem tk_1452 : (Jvm.Cond.code ({ cls := "SnagBookModel", name := "home", desc := "(III)I" } : Jvm.MethodName) prog_14_method_10_code (5 : Nat) (Option.some Jvm.ClassFile.FieldType.int)) ∈ tblG := tG_7 (i := 12) rfl rfl
theorem tk_1453 : (Jvm.Cond.methodLink "SnagBookLaw" (27 : Nat) ({ cls := "SnagBookModel", name := "key", desc := "(II)I" } : Jvm.MethodName)) ∈ tblG := tG_7 (i := 13) rfl rfl
theorem tk_1454 : (Jvm.Cond.instanceMethod ({ cls := "SnagBookModel", name := "key", desc := "(II)I" } : Jvm.MethodName)) ∈ tblG := tG_7 (i := 14) rfl rfl
theorem tk_1455 : (Jvm.Cond.selects "SnagBookModel" ({ cls := "SnagBookModel", name := "key", desc := "(II)I" } : Jvm.MethodName) ({ cls := "SnagBookModel", name := "key", desc := "(II)I" } : Jvm.MethodName)) ∈ tblG := tG_7 (i := 15) rfl rfl
theorem tk_1456 : (Jvm.Cond.code ({ cls := "SnagBookModel", name := "key", desc := "(II)I" } : Jvm.MethodName) prog_14_method_11_code (3 : Nat) (Option.some Jvm.ClassFile.FieldType.int)) ∈ tblG := tG_7 (i := 16) rfl rfl
theorem tk_1457 : (Jvm.Cond.methodLink "SnagBookModel" (193 : Nat) ({ cls := "SnagBookModel", name := "isHome", desc := "(I)Z" } : Jvm.MethodName)) ∈ tblG := tG_7 (i := 17) rfl rfl
theorem tk_1459 : (Jvm.Cond.instanceMethod ({ cls := "SnagBookModel", name := "isHome", desc := "(I)Z" } : Jvm.MethodName)) ∈ tblG := tG_7 (i := 19) rfl rfl
theorem tk_1460 : (Jvm.Cond.code ({ cls := "SnagBookModel", name := "isHome", desc := "(I)Z" } : Jvm.MethodName) prog_14_method_4_code (2 : Nat) (Option.some Jvm.ClassFile.FieldType.boolean)) ∈ tblG := tG_7 (i := 20) rfl rfl
theorem tk_1461 : (Jvm.Cond.constant "SnagBookModel" (197 : Nat) (99999 : Int32)) ∈ tblG := tG_7 (i := 21) rfl rfl
theorem tk_1462 : (Jvm.Cond.methodLink "SnagBookLaw" (31 : Nat) ({ cls := "SnagBookModel", name := "sell", desc := "(I)I" } : Jvm.MethodName)) ∈ tblG := tG_7 (i := 22) rfl rfl
theorem tk_1463 : (Jvm.Cond.instanceMethod ({ cls := "SnagBookModel", name := "sell", desc := "(I)I" } : Jvm.MethodName)) ∈ tblG := tG_7 (i := 23) rfl rfl
theorem tk_1464 : (Jvm.Cond.selects "SnagBookModel" ({ cls := "SnagBookModel", name := "sell", desc := "(I)I" } : Jvm.MethodName) ({ cls := "SnagBookModel", name := "sell", desc := "(I)I" } : Jvm.MethodName)) ∈ tblG := tG_7 (i := 24) rfl rfl
theorem tk_1465 : (Jvm.Cond.code ({ cls := "SnagBookModel", name := "sell", desc := "(I)I" } : Jvm.MethodName) prog_14_method_12_code (2 : Nat) (Option.some Jvm.ClassFile.FieldType.int)) ∈ tblG := tG_7 (i := 25) rfl rfl
theorem tk_1466 : (Jvm.Cond.methodLink "SnagBookLaw" (35 : Nat) ({ cls := "SnagBookModel", name := "in", desc := "(II)I" } : Jvm.MethodName)) ∈ tblG := tG_7 (i := 26) rfl rfl
theorem tk_1467 : (Jvm.Cond.instanceMethod ({ cls := "SnagBookModel", name := "in", desc := "(II)I" } : Jvm.MethodName)) ∈ tblG := tG_7 (i := 27) rfl rfl
theorem tk_1468 : (Jvm.Cond.selects "SnagBookModel" ({ cls := "SnagBookModel", name := "in", desc := "(II)I" } : Jvm.MethodName) ({ cls := "SnagBookModel", name := "in", desc := "(II)I" } : Jvm.MethodName)) ∈ tblG := tG_7 (i := 28) rfl rfl
theorem tk_1469 : (Jvm.Cond.code ({ cls := "SnagBookModel", name := "in", desc := "(II)I" } : Jvm.MethodName) prog_14_method_13_code (4 : Nat) (Option.some Jvm.ClassFile.FieldType.int)) ∈ tblG := tG_7 (i := 29) rfl rfl
theorem tk_1470 : (Jvm.Cond.methodLink "SnagBookLaw" (39 : Nat) ({ cls := "SnagBookModel", name := "crew", desc := "(III)I" } : Jvm.MethodName)) ∈ tblG := tG_7 (i := 30) rfl rfl
theorem tk_1471 : (Jvm.Cond.instanceMethod ({ cls := "SnagBookModel", name := "crew", desc := "(III)I" } : Jvm.MethodName)) ∈ tblG := tG_7 (i := 31) rfl rfl
theorem tk_1472 : (Jvm.Cond.selects "SnagBookModel" ({ cls := "SnagBookModel", name := "crew", desc := "(III)I" } : Jvm.MethodName) ({ cls := "SnagBookModel", name := "crew", desc := "(III)I" } : Jvm.MethodName)) ∈ tblG := tG_7 (i := 32) rfl rfl
theorem tk_1473 : (Jvm.Cond.code ({ cls := "SnagBookModel", name := "crew", desc := "(III)I" } : Jvm.MethodName) prog_14_method_14_code (5 : Nat) (Option.some Jvm.ClassFile.FieldType.int)) ∈ tblG := tG_7 (i := 33) rfl rfl
theorem tk_1474 : (Jvm.Cond.methodLink "SnagBookModel" (198 : Nat) ({ cls := "SnagBookModel", name := "isTrade", desc := "(I)Z" } : Jvm.MethodName)) ∈ tblG := tG_7 (i := 34) rfl rfl
theorem tk_1475 : (Jvm.Cond.static ({ cls := "SnagBookModel", name := "isTrade", desc := "(I)Z" } : Jvm.MethodName)) ∈ tblG := tG_7 (i := 35) rfl rfl
theorem tk_1476 : (Jvm.Cond.code ({ cls := "SnagBookModel", name := "isTrade", desc := "(I)Z" } : Jvm.MethodName) prog_14_method_8_code (1 : Nat) (Option.some Jvm.ClassFile.FieldType.boolean)) ∈ tblG := tG_7 (i := 36) rfl rfl
theorem tk_1477 : (Jvm.Cond.constant "SnagBookModel" (201 : Nat) (-2000000000 : Int32)) ∈ tblG := tG_7 (i := 37) rfl rfl
theorem tk_1478 : (Jvm.Cond.methodLink "SnagBookLaw" (43 : Nat) ({ cls := "SnagBookModel", name := "ofHome", desc := "(II)I" } : Jvm.MethodName)) ∈ tblG := tG_7 (i := 38) rfl rfl
theorem tk_1479 : (Jvm.Cond.instanceMethod ({ cls := "SnagBookModel", name := "ofHome", desc := "(II)I" } : Jvm.MethodName)) ∈ tblG := tG_7 (i := 39) rfl rfl
theorem tk_1480 : (Jvm.Cond.selects "SnagBookModel" ({ cls := "SnagBookModel", name := "ofHome", desc := "(II)I" } : Jvm.MethodName) ({ cls := "SnagBookModel", name := "ofHome", desc := "(II)I" } : Jvm.MethodName)) ∈ tblG := tG_7 (i := 40) rfl rfl
theorem tk_1481 : (Jvm.Cond.code ({ cls := "SnagBookModel", name := "ofHome", desc := "(II)I" } : Jvm.MethodName) prog_14_method_19_code (5 : Nat) (Option.some Jvm.ClassFile.FieldType.int)) ∈ tblG := tG_7 (i := 41) rfl rfl
theorem tk_1482 : (Jvm.Cond.methodLink "SnagBookModel" (214 : Nat) ({ cls := "SnagBookModel", name := "leftOf", desc := "(I)I" } : Jvm.MethodName)) ∈ tblG := tG_7 (i := 42) rfl rfl
theorem tk_1484 : (Jvm.Cond.instanceMethod ({ cls := "SnagBookModel", name := "leftOf", desc := "(I)I" } : Jvm.MethodName)) ∈ tblG := tG_7 (i := 44) rfl rfl
theorem tk_1485 : (Jvm.Cond.code ({ cls := "SnagBookModel", name := "leftOf", desc := "(I)I" } : Jvm.MethodName) prog_14_method_16_code (4 : Nat) (Option.some Jvm.ClassFile.FieldType.int)) ∈ tblG := tG_7 (i := 45) rfl rfl
theorem tk_1486 : (Jvm.Cond.methodLink "SnagBookModel" (206 : Nat) ({ cls := "SnagBookModel", name := "isLeft", desc := "(II)Z" } : Jvm.MethodName)) ∈ tblG := tG_7 (i := 46) rfl rfl
theorem tk_1488 : (Jvm.Cond.instanceMethod ({ cls := "SnagBookModel", name := "isLeft", desc := "(II)Z" } : Jvm.MethodName)) ∈ tblG := tG_7 (i := 48) rfl rfl
theorem tk_1489 : (Jvm.Cond.code ({ cls := "SnagBookModel", name := "isLeft", desc := "(II)Z" } : Jvm.MethodName) prog_14_method_15_code (4 : Nat) (Option.some Jvm.ClassFile.FieldType.boolean)) ∈ tblG := tG_7 (i := 49) rfl rfl
theorem tk_1490 : (Jvm.Cond.methodLink "SnagBookModel" (202 : Nat) ({ cls := "SnagBookModel", name := "stateOn", desc := "(II)I" } : Jvm.MethodName)) ∈ tblG := tG_7 (i := 50) rfl rfl
theorem tk_1492 : (Jvm.Cond.instanceMethod ({ cls := "SnagBookModel", name := "stateOn", desc := "(II)I" } : Jvm.MethodName)) ∈ tblG := tG_7 (i := 52) rfl rfl
theorem tk_1493 : (Jvm.Cond.code ({ cls := "SnagBookModel", name := "stateOn", desc := "(II)I" } : Jvm.MethodName) prog_14_method_23_code (5 : Nat) (Option.some Jvm.ClassFile.FieldType.int)) ∈ tblG := tG_7 (i := 53) rfl rfl
theorem tk_1494 : (Jvm.Cond.methodLink "SnagBookModel" (217 : Nat) ({ cls := "SnagBookModel", name := "falseOf", desc := "(I)I" } : Jvm.MethodName)) ∈ tblG := tG_7 (i := 54) rfl rfl
theorem tk_1496 : (Jvm.Cond.instanceMethod ({ cls := "SnagBookModel", name := "falseOf", desc := "(I)I" } : Jvm.MethodName)) ∈ tblG := tG_7 (i := 56) rfl rfl
theorem tk_1497 : (Jvm.Cond.code ({ cls := "SnagBookModel", name := "falseOf", desc := "(I)I" } : Jvm.MethodName) prog_14_method_17_code (4 : Nat) (Option.some Jvm.ClassFile.FieldType.int)) ∈ tblG := tG_7 (i := 57) rfl rfl
theorem tk_1498 : (Jvm.Cond.methodLink "SnagBookModel" (220 : Nat) ({ cls := "SnagBookModel", name := "brokenOf", desc := "(I)I" } : Jvm.MethodName)) ∈ tblG := tG_7 (i := 58) rfl rfl
theorem tk_1500 : (Jvm.Cond.instanceMethod ({ cls := "SnagBookModel", name := "brokenOf", desc := "(I)I" } : Jvm.MethodName)) ∈ tblG := tG_7 (i := 60) rfl rfl
theorem tk_1501 : (Jvm.Cond.code ({ cls := "SnagBookModel", name := "brokenOf", desc := "(I)I" } : Jvm.MethodName) prog_14_method_18_code (4 : Nat) (Option.some Jvm.ClassFile.FieldType.int)) ∈ tblG := tG_7 (i := 61) rfl rfl
theorem tk_1502 : (Jvm.Cond.methodLink "SnagBookModel" (210 : Nat) ({ cls := "SnagBookModel", name := "promiseNow", desc := "(I)I" } : Jvm.MethodName)) ∈ tblG := tG_7 (i := 62) rfl rfl
theorem tk_1504 : (Jvm.Cond.instanceMethod ({ cls := "SnagBookModel", name := "promiseNow", desc := "(I)I" } : Jvm.MethodName)) ∈ tblG := tG_7 (i := 64) rfl rfl
theorem tk_1505 : (Jvm.Cond.code ({ cls := "SnagBookModel", name := "promiseNow", desc := "(I)I" } : Jvm.MethodName) prog_14_method_26_code (2 : Nat) (Option.some Jvm.ClassFile.FieldType.int)) ∈ tblG := tG_7 (i := 65) rfl rfl
theorem tk_1506 : (Jvm.Cond.methodLink "SnagBookLaw" (47 : Nat) ({ cls := "SnagBookModel", name := "kind", desc := "(III)I" } : Jvm.MethodName)) ∈ tblG := tG_7 (i := 66) rfl rfl
theorem tk_1507 : (Jvm.Cond.instanceMethod ({ cls := "SnagBookModel", name := "kind", desc := "(III)I" } : Jvm.MethodName)) ∈ tblG := tG_7 (i := 67) rfl rfl
theorem tk_1508 : (Jvm.Cond.selects "SnagBookModel" ({ cls := "SnagBookModel", name := "kind", desc := "(III)I" } : Jvm.MethodName) ({ cls := "SnagBookModel", name := "kind", desc := "(III)I" } : Jvm.MethodName)) ∈ tblG := tG_7 (i := 68) rfl rfl
theorem tk_1509 : (Jvm.Cond.code ({ cls := "SnagBookModel", name := "kind", desc := "(III)I" } : Jvm.MethodName) prog_14_method_20_code (4 : Nat) (Option.some Jvm.ClassFile.FieldType.int)) ∈ tblG := tG_7 (i := 69) rfl rfl
theorem tk_1510 : (Jvm.Cond.methodLink "SnagBookLaw" (52 : Nat) ({ cls := "SnagBookModel", name := "fault", desc := "(IIII)I" } : Jvm.MethodName)) ∈ tblG := tG_7 (i := 70) rfl rfl
theorem tk_1511 : (Jvm.Cond.instanceMethod ({ cls := "SnagBookModel", name := "fault", desc := "(IIII)I" } : Jvm.MethodName)) ∈ tblG := tG_7 (i := 71) rfl rfl
theorem tk_1512 : (Jvm.Cond.selects "SnagBookModel" ({ cls := "SnagBookModel", name := "fault", desc := "(IIII)I" } : Jvm.MethodName) ({ cls := "SnagBookModel", name := "fault", desc := "(IIII)I" } : Jvm.MethodName)) ∈ tblG := tG_7 (i := 72) rfl rfl
theorem tk_1513 : (Jvm.Cond.code ({ cls := "SnagBookModel", name := "fault", desc := "(IIII)I" } : Jvm.MethodName) prog_14_method_24_code (10 : Nat) (Option.some Jvm.ClassFile.FieldType.int)) ∈ tblG := tG_7 (i := 73) rfl rfl
theorem tk_1514 : (Jvm.Cond.methodLink "SnagBookModel" (223 : Nat) ({ cls := "SnagBookModel", name := "isKind", desc := "(I)Z" } : Jvm.MethodName)) ∈ tblG := tG_7 (i := 74) rfl rfl
theorem tk_1516 : (Jvm.Cond.instanceMethod ({ cls := "SnagBookModel", name := "isKind", desc := "(I)Z" } : Jvm.MethodName)) ∈ tblG := tG_7 (i := 76) rfl rfl
theorem tk_1517 : (Jvm.Cond.code ({ cls := "SnagBookModel", name := "isKind", desc := "(I)Z" } : Jvm.MethodName) prog_14_method_5_code (2 : Nat) (Option.some Jvm.ClassFile.FieldType.boolean)) ∈ tblG := tG_7 (i := 77) rfl rfl
theorem tk_1518 : (Jvm.Cond.methodLink "SnagBookModel" (226 : Nat) ({ cls := "SnagBookModel", name := "stateNow", desc := "(I)I" } : Jvm.MethodName)) ∈ tblG := tG_7 (i := 78) rfl rfl
theorem tk_1520 : (Jvm.Cond.instanceMethod ({ cls := "SnagBookModel", name := "stateNow", desc := "(I)I" } : Jvm.MethodName)) ∈ tblG := tG_7 (i := 80) rfl rfl
theorem tk_1521 : (Jvm.Cond.code ({ cls := "SnagBookModel", name := "stateNow", desc := "(I)I" } : Jvm.MethodName) prog_14_method_22_code (2 : Nat) (Option.some Jvm.ClassFile.FieldType.int)) ∈ tblG := tG_7 (i := 81) rfl rfl
theorem tk_1522 : (Jvm.Cond.methodLink "SnagBookModel" (229 : Nat) ({ cls := "SnagBookModel", name := "become", desc := "(III)V" } : Jvm.MethodName)) ∈ tblG := tG_7 (i := 82) rfl rfl
theorem tk_1524 : (Jvm.Cond.instanceMethod ({ cls := "SnagBookModel", name := "become", desc := "(III)V" } : Jvm.MethodName)) ∈ tblG := tG_7 (i := 84) rfl rfl
theorem tk_1525 : (Jvm.Cond.code ({ cls := "SnagBookModel", name := "become", desc := "(III)V" } : Jvm.MethodName) prog_14_method_21_code (5 : Nat) (Option.none : Option Jvm.ClassFile.FieldType)) ∈ tblG := tG_7 (i := 85) rfl rfl
theorem tk_1526 : (Jvm.Cond.methodLink "SnagBookLaw" (56 : Nat) ({ cls := "SnagBookModel", name := "promise", desc := "(II)I" } : Jvm.MethodName)) ∈ tblG := tG_7 (i := 86) rfl rfl
theorem tk_1527 : (Jvm.Cond.instanceMethod ({ cls := "SnagBookModel", name := "promise", desc := "(II)I" } : Jvm.MethodName)) ∈ tblG := tG_7 (i := 87) rfl rfl
theorem tk_1528 : (Jvm.Cond.selects "SnagBookModel" ({ cls := "SnagBookModel", name := "promise", desc := "(II)I" } : Jvm.MethodName) ({ cls := "SnagBookModel", name := "promise", desc := "(II)I" } : Jvm.MethodName)) ∈ tblG := tG_7 (i := 88) rfl rfl
theorem tk_1529 : (Jvm.Cond.code ({ cls := "SnagBookModel", name := "promise", desc := "(II)I" } : Jvm.MethodName) prog_14_method_27_code (3 : Nat) (Option.some Jvm.ClassFile.FieldType.int)) ∈ tblG := tG_7 (i := 89) rfl rfl
theorem tk_1530 : (Jvm.Cond.methodLink "SnagBookModel" (233 : Nat) ({ cls := "SnagBookModel", name := "isFault", desc := "(I)Z" } : Jvm.MethodName)) ∈ tblG := tG_7 (i := 90) rfl rfl
theorem tk_1532 : (Jvm.Cond.instanceMethod ({ cls := "SnagBookModel", name := "isFault", desc := "(I)Z" } : Jvm.MethodName)) ∈ tblG := tG_7 (i := 92) rfl rfl
theorem tk_1533 : (Jvm.Cond.code ({ cls := "SnagBookModel", name := "isFault", desc := "(I)Z" } : Jvm.MethodName) prog_14_method_6_code (2 : Nat) (Option.some Jvm.ClassFile.FieldType.boolean)) ∈ tblG := tG_7 (i := 93) rfl rfl
theorem tk_1534 : (Jvm.Cond.methodLink "SnagBookModel" (236 : Nat) ({ cls := "SnagBookModel", name := "isOpen", desc := "(I)Z" } : Jvm.MethodName)) ∈ tblG := tG_7 (i := 94) rfl rfl
theorem tk_1536 : (Jvm.Cond.instanceMethod ({ cls := "SnagBookModel", name := "isOpen", desc := "(I)Z" } : Jvm.MethodName)) ∈ tblG := tG_7 (i := 96) rfl rfl
theorem tk_1537 : (Jvm.Cond.code ({ cls := "SnagBookModel", name := "isOpen", desc := "(I)Z" } : Jvm.MethodName) prog_14_method_25_code (2 : Nat) (Option.some Jvm.ClassFile.FieldType.boolean)) ∈ tblG := tG_7 (i := 97) rfl rfl
theorem tk_1538 : (Jvm.Cond.methodLink "SnagBookLaw" (60 : Nat) ({ cls := "SnagBookModel", name := "said", desc := "(II)I" } : Jvm.MethodName)) ∈ tblG := tG_7 (i := 98) rfl rfl
theorem tk_1539 : (Jvm.Cond.instanceMethod ({ cls := "SnagBookModel", name := "said", desc := "(II)I" } : Jvm.MethodName)) ∈ tblG := tG_7 (i := 99) rfl rfl
theorem tk_1540 : (Jvm.Cond.selects "SnagBookModel" ({ cls := "SnagBookModel", name := "said", desc := "(II)I" } : Jvm.MethodName) ({ cls := "SnagBookModel", name := "said", desc := "(II)I" } : Jvm.MethodName)) ∈ tblG := tG_7 (i := 100) rfl rfl
theorem tk_1541 : (Jvm.Cond.code ({ cls := "SnagBookModel", name := "said", desc := "(II)I" } : Jvm.MethodName) prog_14_method_28_code (3 : Nat) (Option.some Jvm.ClassFile.FieldType.int)) ∈ tblG := tG_7 (i := 101) rfl rfl
theorem tk_1542 : (Jvm.Cond.methodLink "SnagBookModel" (239 : Nat) ({ cls := "SnagBookModel", name := "isCrew", desc := "(I)Z" } : Jvm.MethodName)) ∈ tblG := tG_7 (i := 102) rfl rfl
theorem tk_1543 : (Jvm.Cond.static ({ cls := "SnagBookModel", name := "isCrew", desc := "(I)Z" } : Jvm.MethodName)) ∈ tblG := tG_7 (i := 103) rfl rfl
theorem tk_1544 : (Jvm.Cond.code ({ cls := "SnagBookModel", name := "isCrew", desc := "(I)Z" } : Jvm.MethodName) prog_14_method_7_code (1 : Nat) (Option.some Jvm.ClassFile.FieldType.boolean)) ∈ tblG := tG_7 (i := 104) rfl rfl
theorem tk_1545 : (Jvm.Cond.methodLink "SnagBookLaw" (64 : Nat) ({ cls := "SnagBookModel", name := "look", desc := "(II)I" } : Jvm.MethodName)) ∈ tblG := tG_7 (i := 105) rfl rfl
theorem tk_1546 : (Jvm.Cond.instanceMethod ({ cls := "SnagBookModel", name := "look", desc := "(II)I" } : Jvm.MethodName)) ∈ tblG := tG_7 (i := 106) rfl rfl
theorem tk_1547 : (Jvm.Cond.selects "SnagBookModel" ({ cls := "SnagBookModel", name := "look", desc := "(II)I" } : Jvm.MethodName) ({ cls := "SnagBookModel", name := "look", desc := "(II)I" } : Jvm.MethodName)) ∈ tblG := tG_7 (i := 107) rfl rfl
theorem tk_1548 : (Jvm.Cond.code ({ cls := "SnagBookModel", name := "look", desc := "(II)I" } : Jvm.MethodName) prog_14_method_30_code (4 : Nat) (Option.some Jvm.ClassFile.FieldType.int)) ∈ tblG := tG_7 (i := 108) rfl rfl
theorem tk_1549 : (Jvm.Cond.methodLink "SnagBookModel" (242 : Nat) ({ cls := "SnagBookModel", name := "lastCrew", desc := "(I)I" } : Jvm.MethodName)) ∈ tblG := tG_7 (i := 109) rfl rfl
theorem tk_1551 : (Jvm.Cond.instanceMethod ({ cls := "SnagBookModel", name := "lastCrew", desc := "(I)I" } : Jvm.MethodName)) ∈ tblG := tG_7 (i := 111) rfl rfl
theorem tk_1552 : (Jvm.Cond.code ({ cls := "SnagBookModel", name := "lastCrew", desc := "(I)I" } : Jvm.MethodName) prog_14_method_29_code (4 : Nat) (Option.some Jvm.ClassFile.FieldType.int)) ∈ tblG := tG_7 (i := 112) rfl rfl
theorem tk_1553 : (Jvm.Cond.methodLink "SnagBookLaw" (68 : Nat) ({ cls := "SnagBookModel", name := "voids", desc := "(I)I" } : Jvm.MethodName)) ∈ tblG := tG_7 (i := 113) rfl rfl
theorem tk_1554 : (Jvm.Cond.instanceMethod ({ cls := "SnagBookModel", name := "voids", desc := "(I)I" } : Jvm.MethodName)) ∈ tblG := tG_7 (i := 114) rfl rfl
theorem tk_1555 : (Jvm.Cond.selects "SnagBookModel" ({ cls := "SnagBookModel", name := "voids", desc := "(I)I" } : Jvm.MethodName) ({ cls := "SnagBookModel", name := "voids", desc := "(I)I" } : Jvm.MethodName)) ∈ tblG := tG_7 (i := 115) rfl rfl
theorem tk_1556 : (Jvm.Cond.code ({ cls := "SnagBookModel", name := "voids", desc := "(I)I" } : Jvm.MethodName) prog_14_method_32_code (2 : Nat) (Option.some Jvm.ClassFile.FieldType.int)) ∈ tblG := tG_7 (i := 116) rfl rfl
theorem tk_1557 : (Jvm.Cond.methodLink "SnagBookModel" (245 : Nat) ({ cls := "SnagBookModel", name := "endPromise", desc := "(I)V" } : Jvm.MethodName)) ∈ tblG := tG_7 (i := 117) rfl rfl
theorem tk_1559 : (Jvm.Cond.instanceMethod ({ cls := "SnagBookModel", name := "endPromise", desc := "(I)V" } : Jvm.MethodName)) ∈ tblG := tG_7 (i := 119) rfl rfl
theorem tk_1560 : (Jvm.Cond.code ({ cls := "SnagBookModel", name := "endPromise", desc := "(I)V" } : Jvm.MethodName) prog_14_method_31_code (3 : Nat) (Option.none : Option Jvm.ClassFile.FieldType)) ∈ tblG := tG_7 (i := 120) rfl rfl
theorem tk_1561 : (Jvm.Cond.methodLink "SnagBookLaw" (72 : Nat) ({ cls := "SnagBookModel", name := "state", desc := "(II)I" } : Jvm.MethodName)) ∈ tblG := tG_7 (i := 121) rfl rfl
theorem tk_1562 : (Jvm.Cond.instanceMethod ({ cls := "SnagBookModel", name := "state", desc := "(II)I" } : Jvm.MethodName)) ∈ tblG := tG_7 (i := 122) rfl rfl
theorem tk_1563 : (Jvm.Cond.selects "SnagBookModel" ({ cls := "SnagBookModel", name := "state", desc := "(II)I" } : Jvm.MethodName) ({ cls := "SnagBookModel", name := "state", desc := "(II)I" } : Jvm.MethodName)) ∈ tblG := tG_7 (i := 123) rfl rfl
theorem tk_1564 : (Jvm.Cond.code ({ cls := "SnagBookModel", name := "state", desc := "(II)I" } : Jvm.MethodName) prog_14_method_33_code (4 : Nat) (Option.some Jvm.ClassFile.FieldType.int)) ∈ tblG := tG_7 (i := 124) rfl rfl
theorem tk_1565 : (Jvm.Cond.methodLink "SnagBookModel" (249 : Nat) ({ cls := "SnagBookModel", name := "isDay", desc := "(I)Z" } : Jvm.MethodName)) ∈ tblG := tG_7 (i := 125) rfl rfl
theorem tk_1566 : (Jvm.Cond.static ({ cls := "SnagBookModel", name := "isDay", desc := "(I)Z" } : Jvm.MethodName)) ∈ tblG := tG_7 (i := 126) rfl rfl
theorem tk_1567 : (Jvm.Cond.code ({ cls := "SnagBookModel", name := "isDay", desc := "(I)Z" } : Jvm.MethodName) prog_14_method_3_code (1 : Nat) (Option.some Jvm.ClassFile.FieldType.boolean)) ∈ tblG := tG_7 (i := 127) rfl rfl
theorem tk_1568 : (Jvm.Cond.methodLink "SnagBookLaw" (76 : Nat) ({ cls := "SnagBookModel", name := "ofFault", desc := "(II)I" } : Jvm.MethodName)) ∈ tblG := tG_7 (i := 128) rfl rfl
theorem tk_1569 : (Jvm.Cond.instanceMethod ({ cls := "SnagBookModel", name := "ofFault", desc := "(II)I" } : Jvm.MethodName)) ∈ tblG := tG_7 (i := 129) rfl rfl
theorem tk_1570 : (Jvm.Cond.selects "SnagBookModel" ({ cls := "SnagBookModel", name := "ofFault", desc := "(II)I" } : Jvm.MethodName) ({ cls := "SnagBookModel", name := "ofFault", desc := "(II)I" } : Jvm.MethodName)) ∈ tblG := tG_7 (i := 130) rfl rfl
theorem tk_1571 : (Jvm.Cond.code ({ cls := "SnagBookModel", name := "ofFault", desc := "(II)I" } : Jvm.MethodName) prog_14_method_35_code (3 : Nat) (Option.some Jvm.ClassFile.FieldType.int)) ∈ tblG := tG_7 (i := 131) rfl rfl
theorem tk_1572 : (Jvm.Cond.methodLink "SnagBookModel" (252 : Nat) ({ cls := "SnagBookModel", name := "priceOf", desc := "(I)I" } : Jvm.MethodName)) ∈ tblG := tG_7 (i := 132) rfl rfl
theorem tk_1574 : (Jvm.Cond.instanceMethod ({ cls := "SnagBookModel", name := "priceOf", desc := "(I)I" } : Jvm.MethodName)) ∈ tblG := tG_7 (i := 134) rfl rfl
theorem tk_1575 : (Jvm.Cond.code ({ cls := "SnagBookModel", name := "priceOf", desc := "(I)I" } : Jvm.MethodName) prog_14_method_34_code (3 : Nat) (Option.some Jvm.ClassFile.FieldType.int)) ∈ tblG := tG_7 (i := 135) rfl rfl
theorem tk_1576 : (Jvm.Cond.methodLink "SnagBookLaw" (80 : Nat) ({ cls := "SnagBookModel", name := "source", desc := "(II)I" } : Jvm.MethodName)) ∈ tblG := tG_7 (i := 136) rfl rfl
theorem tk_1577 : (Jvm.Cond.instanceMethod ({ cls := "SnagBookModel", name := "source", desc := "(II)I" } : Jvm.MethodName)) ∈ tblG := tG_7 (i := 137) rfl rfl
theorem tk_1578 : (Jvm.Cond.selects "SnagBookModel" ({ cls := "SnagBookModel", name := "source", desc := "(II)I" } : Jvm.MethodName) ({ cls := "SnagBookModel", name := "source", desc := "(II)I" } : Jvm.MethodName)) ∈ tblG := tG_7 (i := 138) rfl rfl
theorem tk_1579 : (Jvm.Cond.code ({ cls := "SnagBookModel", name := "source", desc := "(II)I" } : Jvm.MethodName) prog_14_method_38_code (5 : Nat) (Option.some Jvm.ClassFile.FieldType.int)) ∈ tblG := tG_7 (i := 139) rfl rfl
theorem tk_1580 : (Jvm.Cond.methodLink "SnagBookModel" (255 : Nat) ({ cls := "SnagBookModel", name := "hasFlag", desc := "(II)Z" } : Jvm.MethodName)) ∈ tblG := tG_7 (i := 140) rfl rfl
theorem tk_1582 : (Jvm.Cond.instanceMethod ({ cls := "SnagBookModel", name := "hasFlag", desc := "(II)Z" } : Jvm.MethodName)) ∈ tblG := tG_7 (i := 142) rfl rfl
theorem tk_1583 : (Jvm.Cond.code ({ cls := "SnagBookModel", name := "hasFlag", desc := "(II)Z" } : Jvm.MethodName) prog_14_method_36_code (3 : Nat) (Option.some Jvm.ClassFile.FieldType.boolean)) ∈ tblG := tG_7 (i := 143) rfl rfl
theorem tk_1584 : (Jvm.Cond.methodLink "SnagBookModel" (258 : Nat) ({ cls := "SnagBookModel", name := "leakAbove", desc := "(II)I" } : Jvm.MethodName)) ∈ tblG := tG_7 (i := 144) rfl rfl
theorem tk_1586 : (Jvm.Cond.instanceMethod ({ cls := "SnagBookModel", name := "leakAbove", desc := "(II)I" } : Jvm.MethodName)) ∈ tblG := tG_7 (i := 146) rfl rfl
theorem tk_1587 : (Jvm.Cond.code ({ cls := "SnagBookModel", name := "leakAbove", desc := "(II)I" } : Jvm.MethodName) prog_14_method_37_code (4 : Nat) (Option.some Jvm.ClassFile.FieldType.int)) ∈ tblG := tG_7 (i := 147) rfl rfl
theorem tk_1588 : (Jvm.Cond.methodLink "SnagBookLaw" (84 : Nat) ({ cls := "SnagBookModel", name := "damage", desc := "(I)I" } : Jvm.MethodName)) ∈ tblG := tG_7 (i := 148) rfl rfl
theorem tk_1589 : (Jvm.Cond.instanceMethod ({ cls := "SnagBookModel", name := "damage", desc := "(I)I" } : Jvm.MethodName)) ∈ tblG := tG_7 (i := 149) rfl rfl
theorem tk_1590 : (Jvm.Cond.selects "SnagBookModel" ({ cls := "SnagBookModel", name := "damage", desc := "(I)I" } : Jvm.MethodName) ({ cls := "SnagBookModel", name := "damage", desc := "(I)I" } : Jvm.MethodName)) ∈ tblG := tG_7 (i := 150) rfl rfl
theorem tk_1591 : (Jvm.Cond.code ({ cls := "SnagBookModel", name := "damage", desc := "(I)I" } : Jvm.MethodName) prog_14_method_40_code (3 : Nat) (Option.some Jvm.ClassFile.FieldType.int)) ∈ tblG := tG_7 (i := 151) rfl rfl
theorem tk_1592 : (Jvm.Cond.methodLink "SnagBookModel" (264 : Nat) ({ cls := "SnagBookModel", name := "damageBy", desc := "(I)I" } : Jvm.MethodName)) ∈ tblG := tG_7 (i := 152) rfl rfl
theorem tk_1594 : (Jvm.Cond.instanceMethod ({ cls := "SnagBookModel", name := "damageBy", desc := "(I)I" } : Jvm.MethodName)) ∈ tblG := tG_7 (i := 154) rfl rfl
theorem tk_1595 : (Jvm.Cond.code ({ cls := "SnagBookModel", name := "damageBy", desc := "(I)I" } : Jvm.MethodName) prog_14_method_39_code (8 : Nat) (Option.some Jvm.ClassFile.FieldType.int)) ∈ tblG := tG_7 (i := 155) rfl rfl
theorem tk_1596 : (Jvm.Cond.methodLink "SnagBookLaw" (88 : Nat) ({ cls := "SnagBookModel", name := "rule", desc := "(II)I" } : Jvm.MethodName)) ∈ tblG := tG_7 (i := 156) rfl rfl
theorem tk_1597 : (Jvm.Cond.instanceMethod ({ cls := "SnagBookModel", name := "rule", desc := "(II)I" } : Jvm.MethodName)) ∈ tblG := tG_7 (i := 157) rfl rfl
theorem tk_1598 : (Jvm.Cond.selects "SnagBookModel" ({ cls := "SnagBookModel", name := "rule", desc := "(II)I" } : Jvm.MethodName) ({ cls := "SnagBookModel", name := "rule", desc := "(II)I" } : Jvm.MethodName)) ∈ tblG := tG_7 (i := 158) rfl rfl
theorem tk_1599 : (Jvm.Cond.code ({ cls := "SnagBookModel", name := "rule", desc := "(II)I" } : Jvm.MethodName) prog_14_method_41_code (4 : Nat) (Option.some Jvm.ClassFile.FieldType.int)) ∈ tblG := tG_7 (i := 159) rfl rfl
theorem tk_1600 : (Jvm.Cond.methodLink "SnagBookLaw" (92 : Nat) ({ cls := "SnagBookModel", name := "joined", desc := "(IIII)I" } : Jvm.MethodName)) ∈ tblG := tG_7 (i := 160) rfl rfl
theorem tk_1601 : (Jvm.Cond.instanceMethod ({ cls := "SnagBookModel", name := "joined", desc := "(IIII)I" } : Jvm.MethodName)) ∈ tblG := tG_7 (i := 161) rfl rfl
theorem tk_1602 : (Jvm.Cond.selects "SnagBookModel" ({ cls := "SnagBookModel", name := "joined", desc := "(IIII)I" } : Jvm.MethodName) ({ cls := "SnagBookModel", name := "joined", desc := "(IIII)I" } : Jvm.MethodName)) ∈ tblG := tG_7 (i := 162) rfl rfl
theorem tk_1603 : (Jvm.Cond.code ({ cls := "SnagBookModel", name := "joined", desc := "(IIII)I" } : Jvm.MethodName) prog_14_method_47_code (5 : Nat) (Option.some Jvm.ClassFile.FieldType.int)) ∈ tblG := tG_7 (i := 163) rfl rfl
theorem tk_1604 : (Jvm.Cond.methodLink "SnagBookModel" (276 : Nat) ({ cls := "SnagBookModel", name := "isGroup", desc := "(I)Z" } : Jvm.MethodName)) ∈ tblG := tG_7 (i := 164) rfl rfl
theorem tk_1605 : (Jvm.Cond.static ({ cls := "SnagBookModel", name := "isGroup", desc := "(I)Z" } : Jvm.MethodName)) ∈ tblG := tG_7 (i := 165) rfl rfl
theorem tk_1606 : (Jvm.Cond.code ({ cls := "SnagBookModel", name := "isGroup", desc := "(I)Z" } : Jvm.MethodName) prog_14_method_42_code (1 : Nat) (Option.some Jvm.ClassFile.FieldType.boolean)) ∈ tblG := tG_7 (i := 166) rfl rfl
theorem tk_1607 : (Jvm.Cond.methodLink "SnagBookModel" (279 : Nat) ({ cls := "SnagBookModel", name := "findWith", desc := "(II)V" } : Jvm.MethodName)) ∈ tblG := tG_7 (i := 167) rfl rfl
theorem tk_1609 : (Jvm.Cond.instanceMethod ({ cls := "SnagBookModel", name := "findWith", desc := "(II)V" } : Jvm.MethodName)) ∈ tblG := tG_7 (i := 169) rfl rfl
theorem tk_1610 : (Jvm.Cond.code ({ cls := "SnagBookModel", name := "findWith", desc := "(II)V" } : Jvm.MethodName) prog_14_method_45_code (4 : Nat) (Option.none : Option Jvm.ClassFile.FieldType)) ∈ tblG := tG_7 (i := 170) rfl rfl
theorem tk_1611 : (Jvm.Cond.methodLink "SnagBookModel" (270 : Nat) ({ cls := "SnagBookModel", name := "hasKind", desc := "(III)Z" } : Jvm.MethodName)) ∈ tblG := tG_7 (i := 171) rfl rfl
theorem tk_1613 : (Jvm.Cond.instanceMethod ({ cls := "SnagBookModel", name := "hasKind", desc := "(III)Z" } : Jvm.MethodName)) ∈ tblG := tG_7 (i := 173) rfl rfl
theorem tk_1614 : (Jvm.Cond.code ({ cls := "SnagBookModel", name := "hasKind", desc := "(III)Z" } : Jvm.MethodName) prog_14_method_44_code (7 : Nat) (Option.some Jvm.ClassFile.FieldType.boolean)) ∈ tblG := tG_7 (i := 174) rfl rfl
theorem tk_1615 : (Jvm.Cond.methodLink "SnagBookModel" (283 : Nat) ({ cls := "SnagBookModel", name := "sizeOf", desc := "(IIZ)I" } : Jvm.MethodName)) ∈ tblG := tG_7 (i := 175) rfl rfl
theorem tk_1617 : (Jvm.Cond.instanceMethod ({ cls := "SnagBookModel", name := "sizeOf", desc := "(IIZ)I" } : Jvm.MethodName)) ∈ tblG := tG_7 (i := 177) rfl rfl
theorem tk_1618 : (Jvm.Cond.code ({ cls := "SnagBookModel", name := "sizeOf", desc := "(IIZ)I" } : Jvm.MethodName) prog_14_method_46_code (6 : Nat) (Option.some Jvm.ClassFile.FieldType.int)) ∈ tblG := tG_7 (i := 178) rfl rfl
theorem tk_1619 : (Jvm.Cond.methodLink "SnagBookModel" (273 : Nat) ({ cls := "SnagBookModel", name := "isIn", desc := "(III)Z" } : Jvm.MethodName)) ∈ tblG := tG_7 (i := 179) rfl rfl
theorem tk_1621 : (Jvm.Cond.instanceMethod ({ cls := "SnagBookModel", name := "isIn", desc := "(III)Z" } : Jvm.MethodName)) ∈ tblG := tG_7 (i := 181) rfl rfl
theorem tk_1622 : (Jvm.Cond.code ({ cls := "SnagBookModel", name := "isIn", desc := "(III)Z" } : Jvm.MethodName) prog_14_method_43_code (5 : Nat) (Option.some Jvm.ClassFile.FieldType.boolean)) ∈ tblG := tG_7 (i := 182) rfl rfl
theorem tk_1623 : (Jvm.Cond.methodLink "SnagBookLaw" (96 : Nat) ({ cls := "SnagBookModel", name := "chance", desc := "(III)I" } : Jvm.MethodName)) ∈ tblG := tG_7 (i := 183) rfl rfl
theorem tk_1624 : (Jvm.Cond.instanceMethod ({ cls := "SnagBookModel", name := "chance", desc := "(III)I" } : Jvm.MethodName)) ∈ tblG := tG_7 (i := 184) rfl rfl
theorem tk_1625 : (Jvm.Cond.selects "SnagBookModel" ({ cls := "SnagBookModel", name := "chance", desc := "(III)I" } : Jvm.MethodName) ({ cls := "SnagBookModel", name := "chance", desc := "(III)I" } : Jvm.MethodName)) ∈ tblG := tG_7 (i := 185) rfl rfl
theorem tk_1626 : (Jvm.Cond.code ({ cls := "SnagBookModel", name := "chance", desc := "(III)I" } : Jvm.MethodName) prog_14_method_50_code (4 : Nat) (Option.some Jvm.ClassFile.FieldType.int)) ∈ tblG := tG_7 (i := 186) rfl rfl
theorem tk_1627 : (Jvm.Cond.methodLink "SnagBookModel" (293 : Nat) ({ cls := "SnagBookModel", name := "chanceOf", desc := "(II)I" } : Jvm.MethodName)) ∈ tblG := tG_7 (i := 187) rfl rfl
theorem tk_1629 : (Jvm.Cond.instanceMethod ({ cls := "SnagBookModel", name := "chanceOf", desc := "(II)I" } : Jvm.MethodName)) ∈ tblG := tG_7 (i := 189) rfl rfl
theorem tk_1630 : (Jvm.Cond.code ({ cls := "SnagBookModel", name := "chanceOf", desc := "(II)I" } : Jvm.MethodName) prog_14_method_49_code (8 : Nat) (Option.some Jvm.ClassFile.FieldType.int)) ∈ tblG := tG_7 (i := 190) rfl rfl
theorem tk_1631 : (Jvm.Cond.methodLink "SnagBookModel" (287 : Nat) ({ cls := "SnagBookModel", name := "choose", desc := "(II)J" } : Jvm.MethodName)) ∈ tblG := tG_7 (i := 191) rfl rfl
theorem tk_1632 : (Jvm.Cond.static ({ cls := "SnagBookModel", name := "choose", desc := "(II)J" } : Jvm.MethodName)) ∈ tblG := tG_7 (i := 192) rfl rfl
theorem tk_1633 : (Jvm.Cond.code ({ cls := "SnagBookModel", name := "choose", desc := "(II)J" } : Jvm.MethodName) prog_14_method_48_code (5 : Nat) (Option.some Jvm.ClassFile.FieldType.long)) ∈ tblG := tG_7 (i := 193) rfl rfl
theorem tk_1634 : (Jvm.Cond.constantLong "SnagBookModel" (291 : Nat) (10000 : Int64)) ∈ tblG := tG_7 (i := 194) rfl rfl
theorem tk_1635 : (Jvm.Cond.methodLink "SnagBookLaw" (100 : Nat) ({ cls := "SnagBookModel", name := "cause", desc := "(III)I" } : Jvm.MethodName)) ∈ tblG := tG_7 (i := 195) rfl rfl
theorem tk_1636 : (Jvm.Cond.instanceMethod ({ cls := "SnagBookModel", name := "cause", desc := "(III)I" } : Jvm.MethodName)) ∈ tblG := tG_7 (i := 196) rfl rfl
theorem tk_1637 : (Jvm.Cond.selects "SnagBookModel" ({ cls := "SnagBookModel", name := "cause", desc := "(III)I" } : Jvm.MethodName) ({ cls := "SnagBookModel", name := "cause", desc := "(III)I" } : Jvm.MethodName)) ∈ tblG := tG_7 (i := 197) rfl rfl
theorem tk_1638 : (Jvm.Cond.code ({ cls := "SnagBookModel", name := "cause", desc := "(III)I" } : Jvm.MethodName) prog_14_method_52_code (5 : Nat) (Option.some Jvm.ClassFile.FieldType.int)) ∈ tblG := tG_7 (i := 198) rfl rfl
theorem tk_1639 : (Jvm.Cond.methodLink "SnagBookModel" (296 : Nat) ({ cls := "SnagBookModel", name := "causeOf", desc := "(II)I" } : Jvm.MethodName)) ∈ tblG := tG_7 (i := 199) rfl rfl
theorem tk_1641 : (Jvm.Cond.instanceMethod ({ cls := "SnagBookModel", name := "causeOf", desc := "(II)I" } : Jvm.MethodName)) ∈ tblG := tG_7 (i := 201) rfl rfl
theorem tk_1642 : (Jvm.Cond.code ({ cls := "SnagBookModel", name := "causeOf", desc := "(II)I" } : Jvm.MethodName) prog_14_method_51_code (6 : Nat) (Option.some Jvm.ClassFile.FieldType.int)) ∈ tblG := tG_7 (i := 202) rfl rfl
theorem tk_1643 : (Jvm.Cond.methodLink "SnagBookLaw" (104 : Nat) ({ cls := "SnagBookModel", name := "rivals", desc := "(III)I" } : Jvm.MethodName)) ∈ tblG := tG_7 (i := 203) rfl rfl
theorem tk_1644 : (Jvm.Cond.instanceMethod ({ cls := "SnagBookModel", name := "rivals", desc := "(III)I" } : Jvm.MethodName)) ∈ tblG := tG_7 (i := 204) rfl rfl
theorem tk_1645 : (Jvm.Cond.selects "SnagBookModel" ({ cls := "SnagBookModel", name := "rivals", desc := "(III)I" } : Jvm.MethodName) ({ cls := "SnagBookModel", name := "rivals", desc := "(III)I" } : Jvm.MethodName)) ∈ tblG := tG_7 (i := 205) rfl rfl
theorem tk_1646 : (Jvm.Cond.code ({ cls := "SnagBookModel", name := "rivals", desc := "(III)I" } : Jvm.MethodName) prog_14_method_54_code (7 : Nat) (Option.some Jvm.ClassFile.FieldType.int)) ∈ tblG := tG_7 (i := 206) rfl rfl
theorem tk_1647 : (Jvm.Cond.methodLink "SnagBookModel" (299 : Nat) ({ cls := "SnagBookModel", name := "areSame", desc := "(III)Z" } : Jvm.MethodName)) ∈ tblG := tG_7 (i := 207) rfl rfl
theorem tk_1649 : (Jvm.Cond.instanceMethod ({ cls := "SnagBookModel", name := "areSame", desc := "(III)Z" } : Jvm.MethodName)) ∈ tblG := tG_7 (i := 209) rfl rfl
theorem tk_1650 : (Jvm.Cond.code ({ cls := "SnagBookModel", name := "areSame", desc := "(III)Z" } : Jvm.MethodName) prog_14_method_53_code (6 : Nat) (Option.some Jvm.ClassFile.FieldType.boolean)) ∈ tblG := tG_7 (i := 210) rfl rfl
theorem tk_1651 : (Jvm.Cond.methodLink "SnagBookLaw" (108 : Nat) ({ cls := "SnagBookModel", name := "read", desc := "(II)I" } : Jvm.MethodName)) ∈ tblG := tG_7 (i := 211) rfl rfl
theorem tk_1652 : (Jvm.Cond.instanceMethod ({ cls := "SnagBookModel", name := "read", desc := "(II)I" } : Jvm.MethodName)) ∈ tblG := tG_7 (i := 212) rfl rfl
theorem tk_1653 : (Jvm.Cond.selects "SnagBookModel" ({ cls := "SnagBookModel", name := "read", desc := "(II)I" } : Jvm.MethodName) ({ cls := "SnagBookModel", name := "read", desc := "(II)I" } : Jvm.MethodName)) ∈ tblG := tG_7 (i := 213) rfl rfl
theorem tk_1654 : (Jvm.Cond.code ({ cls := "SnagBookModel", name := "read", desc := "(II)I" } : Jvm.MethodName) prog_14_method_55_code (3 : Nat) (Option.some Jvm.ClassFile.FieldType.int)) ∈ tblG := tG_7 (i := 214) rfl rfl
theorem tk_1655 : (Jvm.Cond.methodLink "SnagBookLaw" (112 : Nat) ({ cls := "SnagBookModel", name := "gauge", desc := "(II)I" } : Jvm.MethodName)) ∈ tblG := tG_7 (i := 215) rfl rfl
theorem tk_1656 : (Jvm.Cond.instanceMethod ({ cls := "SnagBookModel", name := "gauge", desc := "(II)I" } : Jvm.MethodName)) ∈ tblG := tG_7 (i := 216) rfl rfl
theorem tk_1657 : (Jvm.Cond.selects "SnagBookModel" ({ cls := "SnagBookModel", name := "gauge", desc := "(II)I" } : Jvm.MethodName) ({ cls := "SnagBookModel", name := "gauge", desc := "(II)I" } : Jvm.MethodName)) ∈ tblG := tG_7 (i := 217) rfl rfl
theorem tk_1658 : (Jvm.Cond.code ({ cls := "SnagBookModel", name := "gauge", desc := "(II)I" } : Jvm.MethodName) prog_14_method_58_code (3 : Nat) (Option.some Jvm.ClassFile.FieldType.int)) ∈ tblG := tG_7 (i := 218) rfl rfl
theorem tk_1659 : (Jvm.Cond.methodLink "SnagBookModel" (307 : Nat) ({ cls := "SnagBookModel", name := "gaugeOf", desc := "(II)I" } : Jvm.MethodName)) ∈ tblG := tG_7 (i := 219) rfl rfl
theorem tk_1661 : (Jvm.Cond.instanceMethod ({ cls := "SnagBookModel", name := "gaugeOf", desc := "(II)I" } : Jvm.MethodName)) ∈ tblG := tG_7 (i := 221) rfl rfl
theorem tk_1662 : (Jvm.Cond.code ({ cls := "SnagBookModel", name := "gaugeOf", desc := "(II)I" } : Jvm.MethodName) prog_14_method_57_code (14 : Nat) (Option.some Jvm.ClassFile.FieldType.int)) ∈ tblG := tG_7 (i := 222) rfl rfl
theorem tk_1663 : (Jvm.Cond.methodLink "SnagBookModel" (302 : Nat) ({ cls := "SnagBookModel", name := "paceOf", desc := "(II)I" } : Jvm.MethodName)) ∈ tblG := tG_7 (i := 223) rfl rfl
theorem tk_1665 : (Jvm.Cond.instanceMethod ({ cls := "SnagBookModel", name := "paceOf", desc := "(II)I" } : Jvm.MethodName)) ∈ tblG := tG_7 (i := 225) rfl rfl
theorem tk_1666 : (Jvm.Cond.code ({ cls := "SnagBookModel", name := "paceOf", desc := "(II)I" } : Jvm.MethodName) prog_14_method_56_code (4 : Nat) (Option.some Jvm.ClassFile.FieldType.int)) ∈ tblG := tG_7 (i := 226) rfl rfl
theorem tk_1667 : (Jvm.Cond.constantLong "SnagBookModel" (305 : Nat) (4 : Int64)) ∈ tblG := tG_7 (i := 227) rfl rfl
theorem tk_1668 : (Jvm.Cond.methodLink "SnagBookLaw" (116 : Nat) ({ cls := "SnagBookModel", name := "pace", desc := "(II)I" } : Jvm.MethodName)) ∈ tblG := tG_7 (i := 228) rfl rfl
theorem tk_1669 : (Jvm.Cond.instanceMethod ({ cls := "SnagBookModel", name := "pace", desc := "(II)I" } : Jvm.MethodName)) ∈ tblG := tG_7 (i := 229) rfl rfl
theorem tk_1670 : (Jvm.Cond.selects "SnagBookModel" ({ cls := "SnagBookModel", name := "pace", desc := "(II)I" } : Jvm.MethodName) ({ cls := "SnagBookModel", name := "pace", desc := "(II)I" } : Jvm.MethodName)) ∈ tblG := tG_7 (i := 230) rfl rfl
theorem tk_1671 : (Jvm.Cond.code ({ cls := "SnagBookModel", name := "pace", desc := "(II)I" } : Jvm.MethodName) prog_14_method_59_code (3 : Nat) (Option.some Jvm.ClassFile.FieldType.int)) ∈ tblG := tG_7 (i := 231) rfl rfl
theorem tk_1672 : (Jvm.Cond.methodLink "SnagBookLaw" (120 : Nat) ({ cls := "SnagBookModel", name := "sinking", desc := "(II)I" } : Jvm.MethodName)) ∈ tblG := tG_7 (i := 232) rfl rfl
theorem tk_1673 : (Jvm.Cond.instanceMethod ({ cls := "SnagBookModel", name := "sinking", desc := "(II)I" } : Jvm.MethodName)) ∈ tblG := tG_7 (i := 233) rfl rfl
theorem tk_1674 : (Jvm.Cond.selects "SnagBookModel" ({ cls := "SnagBookModel", name := "sinking", desc := "(II)I" } : Jvm.MethodName) ({ cls := "SnagBookModel", name := "sinking", desc := "(II)I" } : Jvm.MethodName)) ∈ tblG := tG_7 (i := 234) rfl rfl
theorem tk_1675 : (Jvm.Cond.code ({ cls := "SnagBookModel", name := "sinking", desc := "(II)I" } : Jvm.MethodName) prog_14_method_61_code (7 : Nat) (Option.some Jvm.ClassFile.FieldType.int)) ∈ tblG := tG_7 (i := 235) rfl rfl
theorem tk_1676 : (Jvm.Cond.methodLink "SnagBookModel" (310 : Nat) ({ cls := "SnagBookModel", name := "sinks", desc := "(I)Z" } : Jvm.MethodName)) ∈ tblG := tG_7 (i := 236) rfl rfl
theorem tk_1678 : (Jvm.Cond.instanceMethod ({ cls := "SnagBookModel", name := "sinks", desc := "(I)Z" } : Jvm.MethodName)) ∈ tblG := tG_7 (i := 238) rfl rfl
theorem tk_1679 : (Jvm.Cond.code ({ cls := "SnagBookModel", name := "sinks", desc := "(I)Z" } : Jvm.MethodName) prog_14_method_60_code (4 : Nat) (Option.some Jvm.ClassFile.FieldType.boolean)) ∈ tblG := tG_7 (i := 239) rfl rfl
theorem tk_1680 : (Jvm.Cond.methodLink "SnagBookLaw" (124 : Nat) ({ cls := "SnagBookModel", name := "men", desc := "(II)I" } : Jvm.MethodName)) ∈ tblG := tG_8 (i := 0) rfl rfl
theorem tk_1681 : (Jvm.Cond.instanceMethod ({ cls := "SnagBookModel", name := "men", desc := "(II)I" } : Jvm.MethodName)) ∈ tblG := tG_8 (i := 1) rfl rfl
theorem tk_1682 : (Jvm.Cond.selects "SnagBookModel" ({ cls := "SnagBookModel", name := "men", desc := "(II)I" } : Jvm.MethodName) ({ cls := "SnagBookModel", name := "men", desc := "(II)I" } : Jvm.MethodName)) ∈ tblG := tG_8 (i := 2) rfl rfl
theorem tk_1683 : (Jvm.Cond.code ({ cls := "SnagBookModel", name := "men", desc := "(II)I" } : Jvm.MethodName) prog_14_method_62_code (4 : Nat) (Option.some Jvm.ClassFile.FieldType.int)) ∈ tblG := tG_8 (i := 3) rfl rfl
theorem tk_1684 : (Jvm.Cond.methodLink "SnagBookLaw" (128 : Nat) ({ cls := "SnagBookModel", name := "job", desc := "(I)I" } : Jvm.MethodName)) ∈ tblG := tG_8 (i := 4) rfl rfl
theorem tk_1685 : (Jvm.Cond.instanceMethod ({ cls := "SnagBookModel", name := "job", desc := "(I)I" } : Jvm.MethodName)) ∈ tblG := tG_8 (i := 5) rfl rfl
theorem tk_1686 : (Jvm.Cond.selects "SnagBookModel" ({ cls := "SnagBookModel", name := "job", desc := "(I)I" } : Jvm.MethodName) ({ cls := "SnagBookModel", name := "job", desc := "(I)I" } : Jvm.MethodName)) ∈ tblG := tG_8 (i := 6) rfl rfl
theorem tk_1687 : (Jvm.Cond.code ({ cls := "SnagBookModel", name := "job", desc := "(I)I" } : Jvm.MethodName) prog_14_method_63_code (4 : Nat) (Option.some Jvm.ClassFile.FieldType.int)) ∈ tblG := tG_8 (i := 7) rfl rfl
theorem tk_1688 : (Jvm.Cond.methodLink "SnagBookLaw" (132 : Nat) ({ cls := "SnagBookModel", name := "plan", desc := "(I)I" } : Jvm.MethodName)) ∈ tblG := tG_8 (i := 8) rfl rfl
theorem tk_1689 : (Jvm.Cond.instanceMethod ({ cls := "SnagBookModel", name := "plan", desc := "(I)I" } : Jvm.MethodName)) ∈ tblG := tG_8 (i := 9) rfl rfl
theorem tk_1690 : (Jvm.Cond.selects "SnagBookModel" ({ cls := "SnagBookModel", name := "plan", desc := "(I)I" } : Jvm.MethodName) ({ cls := "SnagBookModel", name := "plan", desc := "(I)I" } : Jvm.MethodName)) ∈ tblG := tG_8 (i := 10) rfl rfl
theorem tk_1691 : (Jvm.Cond.code ({ cls := "SnagBookModel", name := "plan", desc := "(I)I" } : Jvm.MethodName) prog_14_method_70_code (2 : Nat) (Option.some Jvm.ClassFile.FieldType.int)) ∈ tblG := tG_8 (i := 11) rfl rfl
theorem tk_1692 : (Jvm.Cond.methodLink "SnagBookModel" (345 : Nat) ({ cls := "SnagBookModel", name := "go", desc := "(IIII)V" } : Jvm.MethodName)) ∈ tblG := tG_8 (i := 12) rfl rfl
theorem tk_1694 : (Jvm.Cond.instanceMethod ({ cls := "SnagBookModel", name := "go", desc := "(IIII)V" } : Jvm.MethodName)) ∈ tblG := tG_8 (i := 14) rfl rfl
theorem tk_1695 : (Jvm.Cond.code ({ cls := "SnagBookModel", name := "go", desc := "(IIII)V" } : Jvm.MethodName) prog_14_method_69_code (11 : Nat) (Option.none : Option Jvm.ClassFile.FieldType)) ∈ tblG := tG_8 (i := 15) rfl rfl
theorem tk_1696 : (Jvm.Cond.methodLink "SnagBookModel" (335 : Nat) ({ cls := "SnagBookModel", name := "firstDay", desc := "(I)I" } : Jvm.MethodName)) ∈ tblG := tG_8 (i := 16) rfl rfl
theorem tk_1698 : (Jvm.Cond.instanceMethod ({ cls := "SnagBookModel", name := "firstDay", desc := "(I)I" } : Jvm.MethodName)) ∈ tblG := tG_8 (i := 18) rfl rfl
theorem tk_1699 : (Jvm.Cond.code ({ cls := "SnagBookModel", name := "firstDay", desc := "(I)I" } : Jvm.MethodName) prog_14_method_66_code (4 : Nat) (Option.some Jvm.ClassFile.FieldType.int)) ∈ tblG := tG_8 (i := 19) rfl rfl
theorem tk_1700 : (Jvm.Cond.methodLink "SnagBookModel" (319 : Nat) ({ cls := "SnagBookModel", name := "lastDay", desc := "()I" } : Jvm.MethodName)) ∈ tblG := tG_8 (i := 20) rfl rfl
theorem tk_1702 : (Jvm.Cond.instanceMethod ({ cls := "SnagBookModel", name := "lastDay", desc := "()I" } : Jvm.MethodName)) ∈ tblG := tG_8 (i := 22) rfl rfl
theorem tk_1703 : (Jvm.Cond.code ({ cls := "SnagBookModel", name := "lastDay", desc := "()I" } : Jvm.MethodName) prog_14_method_65_code (1 : Nat) (Option.some Jvm.ClassFile.FieldType.int)) ∈ tblG := tG_8 (i := 23) rfl rfl
theorem tk_1704 : (Jvm.Cond.methodLink "SnagBookModel" (323 : Nat) ({ cls := "SnagBookModel", name := "mayBe", desc := "(II)Z" } : Jvm.MethodName)) ∈ tblG := tG_8 (i := 24) rfl rfl
theorem tk_1706 : (Jvm.Cond.instanceMethod ({ cls := "SnagBookModel", name := "mayBe", desc := "(II)Z" } : Jvm.MethodName)) ∈ tblG := tG_8 (i := 26) rfl rfl
theorem tk_1707 : (Jvm.Cond.code ({ cls := "SnagBookModel", name := "mayBe", desc := "(II)Z" } : Jvm.MethodName) prog_14_method_64_code (3 : Nat) (Option.some Jvm.ClassFile.FieldType.boolean)) ∈ tblG := tG_8 (i := 27) rfl rfl
theorem tk_1708 : (Jvm.Cond.methodLink "SnagBookModel" (338 : Nat) ({ cls := "SnagBookModel", name := "isLess", desc := "(III)Z" } : Jvm.MethodName)) ∈ tblG := tG_8 (i := 28) rfl rfl
theorem tk_1710 : (Jvm.Cond.instanceMethod ({ cls := "SnagBookModel", name := "isLess", desc := "(III)Z" } : Jvm.MethodName)) ∈ tblG := tG_8 (i := 30) rfl rfl
theorem tk_1711 : (Jvm.Cond.code ({ cls := "SnagBookModel", name := "isLess", desc := "(III)Z" } : Jvm.MethodName) prog_14_method_68_code (4 : Nat) (Option.some Jvm.ClassFile.FieldType.boolean)) ∈ tblG := tG_8 (i := 31) rfl rfl
theorem tk_1712 : (Jvm.Cond.methodLink "SnagBookModel" (341 : Nat) ({ cls := "SnagBookModel", name := "busy", desc := "(III)I" } : Jvm.MethodName)) ∈ tblG := tG_8 (i := 32) rfl rfl
theorem tk_1714 : (Jvm.Cond.instanceMethod ({ cls := "SnagBookModel", name := "busy", desc := "(III)I" } : Jvm.MethodName)) ∈ tblG := tG_8 (i := 34) rfl rfl
theorem tk_1715 : (Jvm.Cond.code ({ cls := "SnagBookModel", name := "busy", desc := "(III)I" } : Jvm.MethodName) prog_14_method_67_code (6 : Nat) (Option.some Jvm.ClassFile.FieldType.int)) ∈ tblG := tG_8 (i := 35) rfl rfl
theorem tk_1716 : (Jvm.Cond.methodLink "SnagBookLaw" (136 : Nat) ({ cls := "SnagBookModel", name := "planned", desc := "(I)I" } : Jvm.MethodName)) ∈ tblG := tG_8 (i := 36) rfl rfl
theorem tk_1717 : (Jvm.Cond.instanceMethod ({ cls := "SnagBookModel", name := "planned", desc := "(I)I" } : Jvm.MethodName)) ∈ tblG := tG_8 (i := 37) rfl rfl
theorem tk_1718 : (Jvm.Cond.selects "SnagBookModel" ({ cls := "SnagBookModel", name := "planned", desc := "(I)I" } : Jvm.MethodName) ({ cls := "SnagBookModel", name := "planned", desc := "(I)I" } : Jvm.MethodName)) ∈ tblG := tG_8 (i := 38) rfl rfl
theorem tk_1719 : (Jvm.Cond.code ({ cls := "SnagBookModel", name := "planned", desc := "(I)I" } : Jvm.MethodName) prog_14_method_71_code (2 : Nat) (Option.some Jvm.ClassFile.FieldType.int)) ∈ tblG := tG_8 (i := 39) rfl rfl
theorem tk_1720 : (Jvm.Cond.methodLink "SnagBookLaw" (140 : Nat) ({ cls := "SnagBookModel", name := "feed", desc := "(II)I" } : Jvm.MethodName)) ∈ tblG := tG_8 (i := 40) rfl rfl
theorem tk_1721 : (Jvm.Cond.instanceMethod ({ cls := "SnagBookModel", name := "feed", desc := "(II)I" } : Jvm.MethodName)) ∈ tblG := tG_8 (i := 41) rfl rfl
theorem tk_1722 : (Jvm.Cond.selects "SnagBookModel" ({ cls := "SnagBookModel", name := "feed", desc := "(II)I" } : Jvm.MethodName) ({ cls := "SnagBookModel", name := "feed", desc := "(II)I" } : Jvm.MethodName)) ∈ tblG := tG_8 (i := 42) rfl rfl
theorem tk_1723 : (Jvm.Cond.code ({ cls := "SnagBookModel", name := "feed", desc := "(II)I" } : Jvm.MethodName) prog_14_method_72_code (4 : Nat) (Option.some Jvm.ClassFile.FieldType.int)) ∈ tblG := tG_8 (i := 43) rfl rfl
theorem tk_1724 : (Jvm.Cond.methodLink "SnagBookLaw" (144 : Nat) ({ cls := "SnagBookModel", name := "text", desc := "(II)I" } : Jvm.MethodName)) ∈ tblG := tG_8 (i := 44) rfl rfl
theorem tk_1725 : (Jvm.Cond.instanceMethod ({ cls := "SnagBookModel", name := "text", desc := "(II)I" } : Jvm.MethodName)) ∈ tblG := tG_8 (i := 45) rfl rfl
theorem tk_1726 : (Jvm.Cond.selects "SnagBookModel" ({ cls := "SnagBookModel", name := "text", desc := "(II)I" } : Jvm.MethodName) ({ cls := "SnagBookModel", name := "text", desc := "(II)I" } : Jvm.MethodName)) ∈ tblG := tG_8 (i := 46) rfl rfl
theorem tk_1727 : (Jvm.Cond.code ({ cls := "SnagBookModel", name := "text", desc := "(II)I" } : Jvm.MethodName) prog_14_method_84_code (6 : Nat) (Option.some Jvm.ClassFile.FieldType.int)) ∈ tblG := tG_8 (i := 47) rfl rfl
theorem tk_1728 : (Jvm.Cond.methodLink "SnagBookModel" (414 : Nat) ({ cls := "SnagBookModel", name := "readWarranty", desc := "(II)V" } : Jvm.MethodName)) ∈ tblG := tG_8 (i := 48) rfl rfl
theorem tk_1730 : (Jvm.Cond.instanceMethod ({ cls := "SnagBookModel", name := "readWarranty", desc := "(II)V" } : Jvm.MethodName)) ∈ tblG := tG_8 (i := 50) rfl rfl
theorem tk_1731 : (Jvm.Cond.code ({ cls := "SnagBookModel", name := "readWarranty", desc := "(II)V" } : Jvm.MethodName) prog_14_method_80_code (6 : Nat) (Option.none : Option Jvm.ClassFile.FieldType)) ∈ tblG := tG_8 (i := 51) rfl rfl
theorem tk_1732 : (Jvm.Cond.methodLink "SnagBookModel" (393 : Nat) ({ cls := "SnagBookModel", name := "beginText", desc := "(II)V" } : Jvm.MethodName)) ∈ tblG := tG_8 (i := 52) rfl rfl
theorem tk_1734 : (Jvm.Cond.instanceMethod ({ cls := "SnagBookModel", name := "beginText", desc := "(II)V" } : Jvm.MethodName)) ∈ tblG := tG_8 (i := 54) rfl rfl
theorem tk_1735 : (Jvm.Cond.code ({ cls := "SnagBookModel", name := "beginText", desc := "(II)V" } : Jvm.MethodName) prog_14_method_73_code (3 : Nat) (Option.none : Option Jvm.ClassFile.FieldType)) ∈ tblG := tG_8 (i := 55) rfl rfl
theorem tk_1736 : (Jvm.Cond.methodLink "SnagBookModel" (399 : Nat) ({ cls := "SnagBookModel", name := "line", desc := "()Z" } : Jvm.MethodName)) ∈ tblG := tG_8 (i := 56) rfl rfl
theorem tk_1738 : (Jvm.Cond.instanceMethod ({ cls := "SnagBookModel", name := "line", desc := "()Z" } : Jvm.MethodName)) ∈ tblG := tG_8 (i := 58) rfl rfl
theorem tk_1739 : (Jvm.Cond.code ({ cls := "SnagBookModel", name := "line", desc := "()Z" } : Jvm.MethodName) prog_14_method_79_code (4 : Nat) (Option.some Jvm.ClassFile.FieldType.boolean)) ∈ tblG := tG_8 (i := 59) rfl rfl
theorem tk_1740 : (Jvm.Cond.methodLink "SnagBookModel" (370 : Nat) ({ cls := "SnagBookModel", name := "byteAt", desc := "()I" } : Jvm.MethodName)) ∈ tblG := tG_8 (i := 60) rfl rfl
theorem tk_1742 : (Jvm.Cond.instanceMethod ({ cls := "SnagBookModel", name := "byteAt", desc := "()I" } : Jvm.MethodName)) ∈ tblG := tG_8 (i := 62) rfl rfl
theorem tk_1743 : (Jvm.Cond.code ({ cls := "SnagBookModel", name := "byteAt", desc := "()I" } : Jvm.MethodName) prog_14_method_74_code (1 : Nat) (Option.some Jvm.ClassFile.FieldType.int)) ∈ tblG := tG_8 (i := 63) rfl rfl
theorem tk_1744 : (Jvm.Cond.methodLink "SnagBookModel" (383 : Nat) ({ cls := "SnagBookModel", name := "test", desc := "()Z" } : Jvm.MethodName)) ∈ tblG := tG_8 (i := 64) rfl rfl
theorem tk_1746 : (Jvm.Cond.instanceMethod ({ cls := "SnagBookModel", name := "test", desc := "()Z" } : Jvm.MethodName)) ∈ tblG := tG_8 (i := 66) rfl rfl
theorem tk_1747 : (Jvm.Cond.code ({ cls := "SnagBookModel", name := "test", desc := "()Z" } : Jvm.MethodName) prog_14_method_78_code (7 : Nat) (Option.some Jvm.ClassFile.FieldType.boolean)) ∈ tblG := tG_8 (i := 67) rfl rfl
theorem tk_1748 : (Jvm.Cond.methodLink "SnagBookModel" (376 : Nat) ({ cls := "SnagBookModel", name := "placeIn", desc := "(IIIIII)I" } : Jvm.MethodName)) ∈ tblG := tG_8 (i := 68) rfl rfl
theorem tk_1749 : (Jvm.Cond.static ({ cls := "SnagBookModel", name := "placeIn", desc := "(IIIIII)I" } : Jvm.MethodName)) ∈ tblG := tG_8 (i := 69) rfl rfl
theorem tk_1750 : (Jvm.Cond.code ({ cls := "SnagBookModel", name := "placeIn", desc := "(IIIIII)I" } : Jvm.MethodName) prog_14_method_77_code (6 : Nat) (Option.some Jvm.ClassFile.FieldType.int)) ∈ tblG := tG_8 (i := 70) rfl rfl
theorem tk_1751 : (Jvm.Cond.methodLink "SnagBookModel" (373 : Nat) ({ cls := "SnagBookModel", name := "wrong", desc := "()I" } : Jvm.MethodName)) ∈ tblG := tG_8 (i := 71) rfl rfl
theorem tk_1753 : (Jvm.Cond.instanceMethod ({ cls := "SnagBookModel", name := "wrong", desc := "()I" } : Jvm.MethodName)) ∈ tblG := tG_8 (i := 73) rfl rfl
theorem tk_1754 : (Jvm.Cond.code ({ cls := "SnagBookModel", name := "wrong", desc := "()I" } : Jvm.MethodName) prog_14_method_75_code (1 : Nat) (Option.some Jvm.ClassFile.FieldType.int)) ∈ tblG := tG_8 (i := 74) rfl rfl
theorem tk_1755 : (Jvm.Cond.methodLink "SnagBookModel" (380 : Nat) ({ cls := "SnagBookModel", name := "figure", desc := "(I)I" } : Jvm.MethodName)) ∈ tblG := tG_8 (i := 75) rfl rfl
theorem tk_1757 : (Jvm.Cond.instanceMethod ({ cls := "SnagBookModel", name := "figure", desc := "(I)I" } : Jvm.MethodName)) ∈ tblG := tG_8 (i := 77) rfl rfl
theorem tk_1758 : (Jvm.Cond.code ({ cls := "SnagBookModel", name := "figure", desc := "(I)I" } : Jvm.MethodName) prog_14_method_76_code (4 : Nat) (Option.some Jvm.ClassFile.FieldType.int)) ∈ tblG := tG_8 (i := 78) rfl rfl
theorem tk_1759 : (Jvm.Cond.methodLink "SnagBookModel" (417 : Nat) ({ cls := "SnagBookModel", name := "readFreeing", desc := "(II)I" } : Jvm.MethodName)) ∈ tblG := tG_8 (i := 79) rfl rfl
theorem tk_1761 : (Jvm.Cond.instanceMethod ({ cls := "SnagBookModel", name := "readFreeing", desc := "(II)I" } : Jvm.MethodName)) ∈ tblG := tG_8 (i := 81) rfl rfl
theorem tk_1762 : (Jvm.Cond.code ({ cls := "SnagBookModel", name := "readFreeing", desc := "(II)I" } : Jvm.MethodName) prog_14_method_83_code (8 : Nat) (Option.some Jvm.ClassFile.FieldType.int)) ∈ tblG := tG_8 (i := 82) rfl rfl
theorem tk_1763 : (Jvm.Cond.methodLink "SnagBookModel" (411 : Nat) ({ cls := "SnagBookModel", name := "sum", desc := "()I" } : Jvm.MethodName)) ∈ tblG := tG_8 (i := 83) rfl rfl
theorem tk_1765 : (Jvm.Cond.instanceMethod ({ cls := "SnagBookModel", name := "sum", desc := "()I" } : Jvm.MethodName)) ∈ tblG := tG_8 (i := 85) rfl rfl
theorem tk_1766 : (Jvm.Cond.code ({ cls := "SnagBookModel", name := "sum", desc := "()I" } : Jvm.MethodName) prog_14_method_81_code (4 : Nat) (Option.some Jvm.ClassFile.FieldType.int)) ∈ tblG := tG_8 (i := 86) rfl rfl
theorem tk_1767 : (Jvm.Cond.methodLink "SnagBookModel" (408 : Nat) ({ cls := "SnagBookModel", name := "one", desc := "()I" } : Jvm.MethodName)) ∈ tblG := tG_8 (i := 87) rfl rfl
theorem tk_1769 : (Jvm.Cond.instanceMethod ({ cls := "SnagBookModel", name := "one", desc := "()I" } : Jvm.MethodName)) ∈ tblG := tG_8 (i := 89) rfl rfl
theorem tk_1770 : (Jvm.Cond.code ({ cls := "SnagBookModel", name := "one", desc := "()I" } : Jvm.MethodName) prog_14_method_82_code (3 : Nat) (Option.some Jvm.ClassFile.FieldType.int)) ∈ tblG := tG_8 (i := 90) rfl rfl
theorem tk_1771 : (Jvm.Cond.methodLink "SnagBookLaw" (148 : Nat) ({ cls := "SnagBookModel", name := "inForce", desc := "(III)I" } : Jvm.MethodName)) ∈ tblG := tG_8 (i := 91) rfl rfl
theorem tk_1772 : (Jvm.Cond.instanceMethod ({ cls := "SnagBookModel", name := "inForce", desc := "(III)I" } : Jvm.MethodName)) ∈ tblG := tG_8 (i := 92) rfl rfl
theorem tk_1773 : (Jvm.Cond.selects "SnagBookModel" ({ cls := "SnagBookModel", name := "inForce", desc := "(III)I" } : Jvm.MethodName) ({ cls := "SnagBookModel", name := "inForce", desc := "(III)I" } : Jvm.MethodName)) ∈ tblG := tG_8 (i := 93) rfl rfl
theorem tk_1774 : (Jvm.Cond.code ({ cls := "SnagBookModel", name := "inForce", desc := "(III)I" } : Jvm.MethodName) prog_14_method_86_code (5 : Nat) (Option.some Jvm.ClassFile.FieldType.int)) ∈ tblG := tG_8 (i := 94) rfl rfl
theorem tk_1775 : (Jvm.Cond.methodLink "SnagBookModel" (420 : Nat) ({ cls := "SnagBookModel", name := "force", desc := "(III)I" } : Jvm.MethodName)) ∈ tblG := tG_8 (i := 95) rfl rfl
theorem tk_1777 : (Jvm.Cond.instanceMethod ({ cls := "SnagBookModel", name := "force", desc := "(III)I" } : Jvm.MethodName)) ∈ tblG := tG_8 (i := 97) rfl rfl
theorem tk_1778 : (Jvm.Cond.code ({ cls := "SnagBookModel", name := "force", desc := "(III)I" } : Jvm.MethodName) prog_14_method_85_code (7 : Nat) (Option.some Jvm.ClassFile.FieldType.int)) ∈ tblG := tG_8 (i := 98) rfl rfl
theorem tk_1779 : (Jvm.Cond.methodLink "SnagBookLaw" (152 : Nat) ({ cls := "SnagBookModel", name := "judge", desc := "(II)I" } : Jvm.MethodName)) ∈ tblG := tG_8 (i := 99) rfl rfl
theorem tk_1780 : (Jvm.Cond.instanceMethod ({ cls := "SnagBookModel", name := "judge", desc := "(II)I" } : Jvm.MethodName)) ∈ tblG := tG_8 (i := 100) rfl rfl
theorem tk_1781 : (Jvm.Cond.selects "SnagBookModel" ({ cls := "SnagBookModel", name := "judge", desc := "(II)I" } : Jvm.MethodName) ({ cls := "SnagBookModel", name := "judge", desc := "(II)I" } : Jvm.MethodName)) ∈ tblG := tG_8 (i := 101) rfl rfl
theorem tk_1782 : (Jvm.Cond.code ({ cls := "SnagBookModel", name := "judge", desc := "(II)I" } : Jvm.MethodName) prog_14_method_89_code (3 : Nat) (Option.some Jvm.ClassFile.FieldType.int)) ∈ tblG := tG_8 (i := 102) rfl rfl
theorem tk_1783 : (Jvm.Cond.methodLink "SnagBookModel" (438 : Nat) ({ cls := "SnagBookModel", name := "judged", desc := "(I)V" } : Jvm.MethodName)) ∈ tblG := tG_8 (i := 103) rfl rfl
theorem tk_1785 : (Jvm.Cond.instanceMethod ({ cls := "SnagBookModel", name := "judged", desc := "(I)V" } : Jvm.MethodName)) ∈ tblG := tG_8 (i := 105) rfl rfl
theorem tk_1786 : (Jvm.Cond.code ({ cls := "SnagBookModel", name := "judged", desc := "(I)V" } : Jvm.MethodName) prog_14_method_87_code (8 : Nat) (Option.none : Option Jvm.ClassFile.FieldType)) ∈ tblG := tG_8 (i := 106) rfl rfl
theorem tk_1787 : (Jvm.Cond.methodLink "SnagBookModel" (435 : Nat) ({ cls := "SnagBookModel", name := "nameFault", desc := "(II)V" } : Jvm.MethodName)) ∈ tblG := tG_8 (i := 107) rfl rfl
theorem tk_1789 : (Jvm.Cond.instanceMethod ({ cls := "SnagBookModel", name := "nameFault", desc := "(II)V" } : Jvm.MethodName)) ∈ tblG := tG_8 (i := 109) rfl rfl
theorem tk_1790 : (Jvm.Cond.code ({ cls := "SnagBookModel", name := "nameFault", desc := "(II)V" } : Jvm.MethodName) prog_14_method_88_code (5 : Nat) (Option.none : Option Jvm.ClassFile.FieldType)) ∈ tblG := tG_8 (i := 110) rfl rfl
theorem tk_1791 : (Jvm.Cond.methodLink "SnagBookLaw" (156 : Nat) ({ cls := "SnagBookModel", name := "free", desc := "(I)I" } : Jvm.MethodName)) ∈ tblG := tG_8 (i := 111) rfl rfl
theorem tk_1792 : (Jvm.Cond.instanceMethod ({ cls := "SnagBookModel", name := "free", desc := "(I)I" } : Jvm.MethodName)) ∈ tblG := tG_8 (i := 112) rfl rfl
theorem tk_1793 : (Jvm.Cond.selects "SnagBookModel" ({ cls := "SnagBookModel", name := "free", desc := "(I)I" } : Jvm.MethodName) ({ cls := "SnagBookModel", name := "free", desc := "(I)I" } : Jvm.MethodName)) ∈ tblG := tG_8 (i := 113) rfl rfl
theorem tk_1794 : (Jvm.Cond.code ({ cls := "SnagBookModel", name := "free", desc := "(I)I" } : Jvm.MethodName) prog_14_method_90_code (4 : Nat) (Option.some Jvm.ClassFile.FieldType.int)) ∈ tblG := tG_8 (i := 114) rfl rfl
theorem tk_1795 : (Jvm.Cond.methodLink "SnagBookLaw" (160 : Nat) ({ cls := "SnagBookModel", name := "take", desc := "(I)I" } : Jvm.MethodName)) ∈ tblG := tG_8 (i := 115) rfl rfl
theorem tk_1796 : (Jvm.Cond.instanceMethod ({ cls := "SnagBookModel", name := "take", desc := "(I)I" } : Jvm.MethodName)) ∈ tblG := tG_8 (i := 116) rfl rfl
theorem tk_1797 : (Jvm.Cond.selects "SnagBookModel" ({ cls := "SnagBookModel", name := "take", desc := "(I)I" } : Jvm.MethodName) ({ cls := "SnagBookModel", name := "take", desc := "(I)I" } : Jvm.MethodName)) ∈ tblG := tG_8 (i := 117) rfl rfl
theorem tk_1798 : (Jvm.Cond.code ({ cls := "SnagBookModel", name := "take", desc := "(I)I" } : Jvm.MethodName) prog_14_method_91_code (3 : Nat) (Option.some Jvm.ClassFile.FieldType.int)) ∈ tblG := tG_8 (i := 118) rfl rfl
theorem tk_1799 : (Jvm.Cond.methodLink "SnagBookLaw" (164 : Nat) ({ cls := "SnagBookModel", name := "doubles", desc := "(III)I" } : Jvm.MethodName)) ∈ tblG := tG_8 (i := 119) rfl rfl
theorem tk_1800 : (Jvm.Cond.instanceMethod ({ cls := "SnagBookModel", name := "doubles", desc := "(III)I" } : Jvm.MethodName)) ∈ tblG := tG_8 (i := 120) rfl rfl
theorem tk_1801 : (Jvm.Cond.selects "SnagBookModel" ({ cls := "SnagBookModel", name := "doubles", desc := "(III)I" } : Jvm.MethodName) ({ cls := "SnagBookModel", name := "doubles", desc := "(III)I" } : Jvm.MethodName)) ∈ tblG := tG_8 (i := 121) rfl rfl
theorem tk_1802 : (Jvm.Cond.code ({ cls := "SnagBookModel", name := "doubles", desc := "(III)I" } : Jvm.MethodName) prog_14_method_94_code (15 : Nat) (Option.some Jvm.ClassFile.FieldType.int)) ∈ tblG := tG_8 (i := 122) rfl rfl
theorem tk_1803 : (Jvm.Cond.methodLink "SnagBookModel" (441 : Nat) ({ cls := "SnagBookModel", name := "isEyeIn", desc := "(II)Z" } : Jvm.MethodName)) ∈ tblG := tG_8 (i := 123) rfl rfl
theorem tk_1805 : (Jvm.Cond.instanceMethod ({ cls := "SnagBookModel", name := "isEyeIn", desc := "(II)Z" } : Jvm.MethodName)) ∈ tblG := tG_8 (i := 125) rfl rfl
theorem tk_1806 : (Jvm.Cond.code ({ cls := "SnagBookModel", name := "isEyeIn", desc := "(II)Z" } : Jvm.MethodName) prog_14_method_92_code (5 : Nat) (Option.some Jvm.ClassFile.FieldType.boolean)) ∈ tblG := tG_8 (i := 126) rfl rfl
theorem tk_1807 : (Jvm.Cond.methodLink "SnagBookModel" (444 : Nat) ({ cls := "SnagBookModel", name := "firstTold", desc := "(IIII)I" } : Jvm.MethodName)) ∈ tblG := tG_8 (i := 127) rfl rfl
theorem tk_1809 : (Jvm.Cond.instanceMethod ({ cls := "SnagBookModel", name := "firstTold", desc := "(IIII)I" } : Jvm.MethodName)) ∈ tblG := tG_8 (i := 129) rfl rfl
theorem tk_1810 : (Jvm.Cond.code ({ cls := "SnagBookModel", name := "firstTold", desc := "(IIII)I" } : Jvm.MethodName) prog_14_method_93_code (6 : Nat) (Option.some Jvm.ClassFile.FieldType.int)) ∈ tblG := tG_8 (i := 130) rfl rfl
theorem tk_1811 : (Jvm.Cond.methodLink "SnagBookLaw" (168 : Nat) ({ cls := "SnagBookModel", name := "lots", desc := "(I)I" } : Jvm.MethodName)) ∈ tblG := tG_8 (i := 131) rfl rfl
theorem tk_1812 : (Jvm.Cond.instanceMethod ({ cls := "SnagBookModel", name := "lots", desc := "(I)I" } : Jvm.MethodName)) ∈ tblG := tG_8 (i := 132) rfl rfl
theorem tk_1813 : (Jvm.Cond.selects "SnagBookModel" ({ cls := "SnagBookModel", name := "lots", desc := "(I)I" } : Jvm.MethodName) ({ cls := "SnagBookModel", name := "lots", desc := "(I)I" } : Jvm.MethodName)) ∈ tblG := tG_8 (i := 133) rfl rfl
theorem tk_1814 : (Jvm.Cond.code ({ cls := "SnagBookModel", name := "lots", desc := "(I)I" } : Jvm.MethodName) prog_14_method_95_code (2 : Nat) (Option.some Jvm.ClassFile.FieldType.int)) ∈ tblG := tG_8 (i := 134) rfl rfl
theorem tk_1815 : (Jvm.Cond.methodLink "SnagBookLaw" (172 : Nat) ({ cls := "SnagBookModel", name := "draw", desc := "(I)I" } : Jvm.MethodName)) ∈ tblG := tG_8 (i := 135) rfl rfl
theorem tk_1816 : (Jvm.Cond.instanceMethod ({ cls := "SnagBookModel", name := "draw", desc := "(I)I" } : Jvm.MethodName)) ∈ tblG := tG_8 (i := 136) rfl rfl
theorem tk_1817 : (Jvm.Cond.selects "SnagBookModel" ({ cls := "SnagBookModel", name := "draw", desc := "(I)I" } : Jvm.MethodName) ({ cls := "SnagBookModel", name := "draw", desc := "(I)I" } : Jvm.MethodName)) ∈ tblG := tG_8 (i := 137) rfl rfl
theorem tk_1818 : (Jvm.Cond.code ({ cls := "SnagBookModel", name := "draw", desc := "(I)I" } : Jvm.MethodName) prog_14_method_97_code (5 : Nat) (Option.some Jvm.ClassFile.FieldType.int)) ∈ tblG := tG_8 (i := 138) rfl rfl
theorem tk_1819 : (Jvm.Cond.methodLink "SnagBookModel" (448 : Nat) ({ cls := "SnagBookModel", name := "isSaidBy", desc := "(II)Z" } : Jvm.MethodName)) ∈ tblG := tG_8 (i := 139) rfl rfl
theorem tk_1821 : (Jvm.Cond.instanceMethod ({ cls := "SnagBookModel", name := "isSaidBy", desc := "(II)Z" } : Jvm.MethodName)) ∈ tblG := tG_8 (i := 141) rfl rfl
theorem tk_1822 : (Jvm.Cond.code ({ cls := "SnagBookModel", name := "isSaidBy", desc := "(II)Z" } : Jvm.MethodName) prog_14_method_96_code (3 : Nat) (Option.some Jvm.ClassFile.FieldType.boolean)) ∈ tblG := tG_8 (i := 142) rfl rfl
theorem tk_1823 : (Jvm.Cond.constant "SnagBookModel" (451 : Nat) (1103515245 : Int32)) ∈ tblG := tG_8 (i := 143) rfl rfl
theorem tk_1824 : (Jvm.Cond.methodLink "SnagBookLaw" (176 : Nat) ({ cls := "SnagBookModel", name := "ofCrew", desc := "(II)I" } : Jvm.MethodName)) ∈ tblG := tG_8 (i := 144) rfl rfl
theorem tk_1825 : (Jvm.Cond.instanceMethod ({ cls := "SnagBookModel", name := "ofCrew", desc := "(II)I" } : Jvm.MethodName)) ∈ tblG := tG_8 (i := 145) rfl rfl
theorem tk_1826 : (Jvm.Cond.selects "SnagBookModel" ({ cls := "SnagBookModel", name := "ofCrew", desc := "(II)I" } : Jvm.MethodName) ({ cls := "SnagBookModel", name := "ofCrew", desc := "(II)I" } : Jvm.MethodName)) ∈ tblG := tG_8 (i := 146) rfl rfl
theorem tk_1827 : (Jvm.Cond.code ({ cls := "SnagBookModel", name := "ofCrew", desc := "(II)I" } : Jvm.MethodName) prog_14_method_98_code (5 : Nat) (Option.some Jvm.ClassFile.FieldType.int)) ∈ tblG := tG_8 (i := 147) rfl rfl
theorem tk_1828 : (Jvm.Cond.methodLink "SnagBookLaw" (180 : Nat) ({ cls := "SnagBookModel", name := "bounds", desc := "(III)I" } : Jvm.MethodName)) ∈ tblG := tG_8 (i := 148) rfl rfl
theorem tk_1829 : (Jvm.Cond.instanceMethod ({ cls := "SnagBookModel", name := "bounds", desc := "(III)I" } : Jvm.MethodName)) ∈ tblG := tG_8 (i := 149) rfl rfl
theorem tk_1830 : (Jvm.Cond.selects "SnagBookModel" ({ cls := "SnagBookModel", name := "bounds", desc := "(III)I" } : Jvm.MethodName) ({ cls := "SnagBookModel", name := "bounds", desc := "(III)I" } : Jvm.MethodName)) ∈ tblG := tG_8 (i := 150) rfl rfl
theorem tk_1831 : (Jvm.Cond.code ({ cls := "SnagBookModel", name := "bounds", desc := "(III)I" } : Jvm.MethodName) prog_14_method_100_code (10 : Nat) (Option.some Jvm.ClassFile.FieldType.int)) ∈ tblG := tG_8 (i := 151) rfl rfl
theorem tk_1832 : (Jvm.Cond.methodLink "SnagBookModel" (452 : Nat) ({ cls := "SnagBookModel", name := "ways", desc := "(IIIIZ)J" } : Jvm.MethodName)) ∈ tblG := tG_8 (i := 152) rfl rfl
theorem tk_1833 : (Jvm.Cond.static ({ cls := "SnagBookModel", name := "ways", desc := "(IIIIZ)J" } : Jvm.MethodName)) ∈ tblG := tG_8 (i := 153) rfl rfl
theorem tk_1834 : (Jvm.Cond.code ({ cls := "SnagBookModel", name := "ways", desc := "(IIIIZ)J" } : Jvm.MethodName) prog_14_method_99_code (8 : Nat) (Option.some Jvm.ClassFile.FieldType.long)) ∈ tblG := tG_8 (i := 154) rfl rfl
theorem tk_1835 : (Jvm.Cond.constantLong "SnagBookModel" (456 : Nat) (100 : Int64)) ∈ tblG := tG_8 (i := 155) rfl rfl
theorem tk_1836 : (Jvm.Cond.methodLink "SnagBookLaw" (188 : Nat) ({ cls := "SnagBookModel", name := "weight", desc := "(II)I" } : Jvm.MethodName)) ∈ tblG := tG_8 (i := 156) rfl rfl
theorem tk_1837 : (Jvm.Cond.instanceMethod ({ cls := "SnagBookModel", name := "weight", desc := "(II)I" } : Jvm.MethodName)) ∈ tblG := tG_8 (i := 157) rfl rfl
theorem tk_1838 : (Jvm.Cond.selects "SnagBookModel" ({ cls := "SnagBookModel", name := "weight", desc := "(II)I" } : Jvm.MethodName) ({ cls := "SnagBookModel", name := "weight", desc := "(II)I" } : Jvm.MethodName)) ∈ tblG := tG_8 (i := 158) rfl rfl
theorem tk_1839 : (Jvm.Cond.code ({ cls := "SnagBookModel", name := "weight", desc := "(II)I" } : Jvm.MethodName) prog_14_method_102_code (3 : Nat) (Option.some Jvm.ClassFile.FieldType.int)) ∈ tblG := tG_8 (i := 159) rfl rfl
theorem tk_1840 : (Jvm.Cond.methodLink "SnagBookModel" (458 : Nat) ({ cls := "SnagBookModel", name := "weightOf", desc := "(II)I" } : Jvm.MethodName)) ∈ tblG := tG_8 (i := 160) rfl rfl
theorem tk_1842 : (Jvm.Cond.instanceMethod ({ cls := "SnagBookModel", name := "weightOf", desc := "(II)I" } : Jvm.MethodName)) ∈ tblG := tG_8 (i := 162) rfl rfl
theorem tk_1843 : (Jvm.Cond.code ({ cls := "SnagBookModel", name := "weightOf", desc := "(II)I" } : Jvm.MethodName) prog_14_method_101_code (5 : Nat) (Option.some Jvm.ClassFile.FieldType.int)) ∈ tblG := tG_8 (i := 163) rfl rfl
theorem tk_1844 : (Jvm.Cond.methodLink "SnagBookLaw" (184 : Nat) ({ cls := "SnagBookModel", name := "worst", desc := "(II)I" } : Jvm.MethodName)) ∈ tblG := tG_8 (i := 164) rfl rfl
theorem tk_1845 : (Jvm.Cond.instanceMethod ({ cls := "SnagBookModel", name := "worst", desc := "(II)I" } : Jvm.MethodName)) ∈ tblG := tG_8 (i := 165) rfl rfl
theorem tk_1846 : (Jvm.Cond.selects "SnagBookModel" ({ cls := "SnagBookModel", name := "worst", desc := "(II)I" } : Jvm.MethodName) ({ cls := "SnagBookModel", name := "worst", desc := "(II)I" } : Jvm.MethodName)) ∈ tblG := tG_8 (i := 166) rfl rfl
theorem tk_1847 : (Jvm.Cond.code ({ cls := "SnagBookModel", name := "worst", desc := "(II)I" } : Jvm.MethodName) prog_14_method_103_code (7 : Nat) (Option.some Jvm.ClassFile.FieldType.int)) ∈ tblG := tG_8 (i := 167) rfl rfl
theorem tk_1848 : (Jvm.Cond.methodLink "SnagBookLaw" (192 : Nat) ({ cls := "SnagBookModel", name := "count", desc := "(I)I" } : Jvm.MethodName)) ∈ tblG := tG_8 (i := 168) rfl rfl
theorem tk_1849 : (Jvm.Cond.instanceMethod ({ cls := "SnagBookModel", name := "count", desc := "(I)I" } : Jvm.MethodName)) ∈ tblG := tG_8 (i := 169) rfl rfl
theorem tk_1850 : (Jvm.Cond.selects "SnagBookModel" ({ cls := "SnagBookModel", name := "count", desc := "(I)I" } : Jvm.MethodName) ({ cls := "SnagBookModel", name := "count", desc := "(I)I" } : Jvm.MethodName)) ∈ tblG := tG_8 (i := 170) rfl rfl
theorem tk_1851 : (Jvm.Cond.code ({ cls := "SnagBookModel", name := "count", desc := "(I)I" } : Jvm.MethodName) prog_14_method_104_code (7 : Nat) (Option.some Jvm.ClassFile.FieldType.int)) ∈ tblG := tG_8 (i := 171) rfl rfl
theorem tk_1852 : (Jvm.Cond.fieldLink "java/lang/String" (15 : Nat) "java/lang/String" "coder" "B") ∈ tblG := tG_8 (i := 172) rfl rfl
theorem tk_1853 : (Jvm.Cond.fieldLink "java/lang/String" (9 : Nat) "java/lang/String" "value" "[B") ∈ tblG := tG_8 (i := 173) rfl rfl
theorem tp_0 : Cond.selects "SnagBook" (⟨"SnagBook", "homeAt", "(I)LSnagBook$Home;"⟩ : MethodName) (⟨"SnagBook", "homeAt", "(I)LSnagBook$Home;"⟩ : MethodName) ∈ tblG := tS_in (i := 0) rfl rfl
theorem tp_1 : Cond.selects "SnagBook" (⟨"SnagBook", "toldIn", "(LSnagBook$Home;)I"⟩ : MethodName) (⟨"SnagBook", "toldIn", "(LSnagBook$Home;)I"⟩ : MethodName) ∈ tblG := tS_in (i := 1) rfl rfl
theorem tp_2 : Cond.selects "SnagBook" (⟨"SnagBook", "leftIn", "(LSnagBook$Home;)I"⟩ : MethodName) (⟨"SnagBook", "leftIn", "(LSnagBook$Home;)I"⟩ : MethodName) ∈ tblG := tS_in (i := 2) rfl rfl
theorem tp_3 : Cond.selects "SnagBook" (⟨"SnagBook", "falseIn", "(LSnagBook$Home;)I"⟩ : MethodName) (⟨"SnagBook", "falseIn", "(LSnagBook$Home;)I"⟩ : MethodName) ∈ tblG := tS_in (i := 3) rfl rfl
theorem tp_4 : Cond.selects "SnagBook$History" (⟨"SnagBook$History", "isSaidAt", "(II)Z"⟩ : MethodName) (⟨"SnagBook$History", "isSaidAt", "(II)Z"⟩ : MethodName) ∈ tblG := tS_in (i := 4) rfl rfl
theorem tp_5 : Cond.selects "SnagBook" (⟨"SnagBook", "brokenIn", "(LSnagBook$Home;)I"⟩ : MethodName) (⟨"SnagBook", "brokenIn", "(LSnagBook$Home;)I"⟩ : MethodName) ∈ tblG := tS_in (i := 5) rfl rfl
theorem tp_6 : Cond.selects "SnagBook" (⟨"SnagBook", "kindAt", "(I)LSnagBook$Kind;"⟩ : MethodName) (⟨"SnagBook", "kindAt", "(I)LSnagBook$Kind;"⟩ : MethodName) ∈ tblG := tS_in (i := 6) rfl rfl
theorem tp_7 : Cond.selects "SnagBook" (⟨"SnagBook", "isToldBefore", "(LSnagBook$Fault;)Z"⟩ : MethodName) (⟨"SnagBook", "isToldBefore", "(LSnagBook$Fault;)Z"⟩ : MethodName) ∈ tblG := tS_in (i := 7) rfl rfl
theorem tp_8 : Cond.selects "SnagBook" (⟨"SnagBook", "faultAt", "(I)LSnagBook$Fault;"⟩ : MethodName) (⟨"SnagBook", "faultAt", "(I)LSnagBook$Fault;"⟩ : MethodName) ∈ tblG := tS_in (i := 8) rfl rfl
theorem tp_9 : Cond.selects "SnagBook" (⟨"SnagBook", "homeNumber", "(LSnagBook$Home;)I"⟩ : MethodName) (⟨"SnagBook", "homeNumber", "(LSnagBook$Home;)I"⟩ : MethodName) ∈ tblG := tS_in (i := 9) rfl rfl
theorem tp_10 : Cond.selects "SnagBook" (⟨"SnagBook", "leakAbove", "(LSnagBook$Fault;I)LSnagBook$Fault;"⟩ : MethodName) (⟨"SnagBook", "leakAbove", "(LSnagBook$Fault;I)LSnagBook$Fault;"⟩ : MethodName) ∈ tblG := tS_in (i := 10) rfl rfl
theorem tp_11 : Cond.selects "SnagBook" (⟨"SnagBook", "damager", "(LSnagBook$Fault;)LSnagBook$Fault;"⟩ : MethodName) (⟨"SnagBook", "damager", "(LSnagBook$Fault;)LSnagBook$Fault;"⟩ : MethodName) ∈ tblG := tS_in (i := 11) rfl rfl
theorem tp_12 : Cond.selects "SnagBook" (⟨"SnagBook", "saidAheadOf", "(LSnagBook$Fault;LSnagBook$Fault;)I"⟩ : MethodName) (⟨"SnagBook", "saidAheadOf", "(LSnagBook$Fault;LSnagBook$Fault;)I"⟩ : MethodName) ∈ tblG := tS_in (i := 12) rfl rfl
theorem tp_13 : Cond.selects "SnagBook" (⟨"SnagBook", "markHomesWith", "(LSnagBook$Kind;I)I"⟩ : MethodName) (⟨"SnagBook", "markHomesWith", "(LSnagBook$Kind;I)I"⟩ : MethodName) ∈ tblG := tS_in (i := 13) rfl rfl
theorem tp_14 : Cond.selects "SnagBook" (⟨"SnagBook", "hasKind", "(LSnagBook$Home;LSnagBook$Kind;I)Z"⟩ : MethodName) (⟨"SnagBook", "hasKind", "(LSnagBook$Home;LSnagBook$Kind;I)Z"⟩ : MethodName) ∈ tblG := tS_in (i := 14) rfl rfl
theorem tp_15 : Cond.selects "SnagBook" (⟨"SnagBook", "sizeOfGroup", "(LSnagBook$Kind;IZ)I"⟩ : MethodName) (⟨"SnagBook", "sizeOfGroup", "(LSnagBook$Kind;IZ)I"⟩ : MethodName) ∈ tblG := tS_in (i := 15) rfl rfl
theorem tp_16 : Cond.selects "SnagBook" (⟨"SnagBook", "isOfGroup", "(LSnagBook$Home;LSnagBook$Kind;I)Z"⟩ : MethodName) (⟨"SnagBook", "isOfGroup", "(LSnagBook$Home;LSnagBook$Kind;I)Z"⟩ : MethodName) ∈ tblG := tS_in (i := 16) rfl rfl
theorem tp_17 : Cond.selects "SnagBook" (⟨"SnagBook", "chanceOf", "(LSnagBook$Kind;II)I"⟩ : MethodName) (⟨"SnagBook", "chanceOf", "(LSnagBook$Kind;II)I"⟩ : MethodName) ∈ tblG := tS_in (i := 17) rfl rfl
theorem tp_18 : Cond.selects "SnagBook" (⟨"SnagBook", "likeliestGroup", "(LSnagBook$Kind;II)I"⟩ : MethodName) (⟨"SnagBook", "likeliestGroup", "(LSnagBook$Kind;II)I"⟩ : MethodName) ∈ tblG := tS_in (i := 18) rfl rfl
theorem tp_19 : Cond.selects "SnagBook" (⟨"SnagBook", "areSameHomes", "(LSnagBook$Kind;II)Z"⟩ : MethodName) (⟨"SnagBook", "areSameHomes", "(LSnagBook$Kind;II)Z"⟩ : MethodName) ∈ tblG := tS_in (i := 19) rfl rfl
theorem tp_20 : Cond.selects "SnagBook$Gauge" (⟨"SnagBook$Gauge", "isDrying", "(I)Z"⟩ : MethodName) (⟨"SnagBook$Gauge", "isDrying", "(I)Z"⟩ : MethodName) ∈ tblG := tS_in (i := 20) rfl rfl
theorem tp_21 : Cond.selects "SnagBook$Gauge" (⟨"SnagBook$Gauge", "swings", "(I)Z"⟩ : MethodName) (⟨"SnagBook$Gauge", "swings", "(I)Z"⟩ : MethodName) ∈ tblG := tS_in (i := 21) rfl rfl
theorem tp_22 : Cond.selects "SnagBook$Gauge" (⟨"SnagBook$Gauge", "quickens", "(I)Z"⟩ : MethodName) (⟨"SnagBook$Gauge", "quickens", "(I)Z"⟩ : MethodName) ∈ tblG := tS_in (i := 22) rfl rfl
theorem tp_23 : Cond.selects "SnagBook" (⟨"SnagBook", "isSinking", "(LSnagBook$Home;)Z"⟩ : MethodName) (⟨"SnagBook", "isSinking", "(LSnagBook$Home;)Z"⟩ : MethodName) ∈ tblG := tS_in (i := 23) rfl rfl
theorem tp_24 : Cond.selects "SnagBook$Diary" (⟨"SnagBook$Diary", "areEnough", "(I)Z"⟩ : MethodName) (⟨"SnagBook$Diary", "areEnough", "(I)Z"⟩ : MethodName) ∈ tblG := tS_in (i := 24) rfl rfl
theorem tp_25 : Cond.selects "SnagBook$Diary" (⟨"SnagBook$Diary", "priceDay", "(III)V"⟩ : MethodName) (⟨"SnagBook$Diary", "priceDay", "(III)V"⟩ : MethodName) ∈ tblG := tS_in (i := 25) rfl rfl
theorem tp_26 : Cond.selects "SnagBook$Diary" (⟨"SnagBook$Diary", "firstOf", "(I)I"⟩ : MethodName) (⟨"SnagBook$Diary", "firstOf", "(I)I"⟩ : MethodName) ∈ tblG := tS_in (i := 26) rfl rfl
theorem tp_27 : Cond.selects "SnagBook$Diary" (⟨"SnagBook$Diary", "addDay", "(I)V"⟩ : MethodName) (⟨"SnagBook$Diary", "addDay", "(I)V"⟩ : MethodName) ∈ tblG := tS_in (i := 27) rfl rfl
theorem tp_28 : Cond.selects "SnagBook$Diary" (⟨"SnagBook$Diary", "priceWithout", "(I)J"⟩ : MethodName) (⟨"SnagBook$Diary", "priceWithout", "(I)J"⟩ : MethodName) ∈ tblG := tS_in (i := 28) rfl rfl
theorem tp_29 : Cond.selects "SnagBook$Diary" (⟨"SnagBook$Diary", "readDays", "(JI)V"⟩ : MethodName) (⟨"SnagBook$Diary", "readDays", "(JI)V"⟩ : MethodName) ∈ tblG := tS_in (i := 29) rfl rfl
theorem tp_30 : Cond.selects "SnagBook" (⟨"SnagBook", "decide", "(LSnagBook$Fault;)V"⟩ : MethodName) (⟨"SnagBook", "decide", "(LSnagBook$Fault;)V"⟩ : MethodName) ∈ tblG := tS_in (i := 30) rfl rfl
theorem tp_31 : Cond.selects "SnagBook$Judge" (⟨"SnagBook$Judge", "set", "(IIII)V"⟩ : MethodName) (⟨"SnagBook$Judge", "set", "(IIII)V"⟩ : MethodName) ∈ tblG := tS_in (i := 31) rfl rfl
theorem tp_32 : Cond.selects "SnagBook" (⟨"SnagBook", "chargedCrew", "(LSnagBook$Fault;)I"⟩ : MethodName) (⟨"SnagBook", "chargedCrew", "(LSnagBook$Fault;)I"⟩ : MethodName) ∈ tblG := tS_in (i := 32) rfl rfl
theorem tp_33 : Cond.selects "SnagBook$Judge" (⟨"SnagBook$Judge", "findLine", "()Z"⟩ : MethodName) (⟨"SnagBook$Judge", "findLine", "()Z"⟩ : MethodName) ∈ tblG := tS_in (i := 33) rfl rfl
theorem tp_34 : Cond.selects "SnagBook$Judge" (⟨"SnagBook$Judge", "readTests", "()Z"⟩ : MethodName) (⟨"SnagBook$Judge", "readTests", "()Z"⟩ : MethodName) ∈ tblG := tS_in (i := 34) rfl rfl
theorem tp_35 : Cond.selects "SnagBook$Judge" (⟨"SnagBook$Judge", "readNumber", "()I"⟩ : MethodName) (⟨"SnagBook$Judge", "readNumber", "()I"⟩ : MethodName) ∈ tblG := tS_in (i := 35) rfl rfl
theorem tp_36 : Cond.selects "SnagBook$Freeing" (⟨"SnagBook$Freeing", "startPart", "()V"⟩ : MethodName) (⟨"SnagBook$Freeing", "startPart", "()V"⟩ : MethodName) ∈ tblG := tS_in (i := 36) rfl rfl
theorem tp_37 : Cond.selects "SnagBook$Freeing" (⟨"SnagBook$Freeing", "startLevel", "()V"⟩ : MethodName) (⟨"SnagBook$Freeing", "startLevel", "()V"⟩ : MethodName) ∈ tblG := tS_in (i := 37) rfl rfl
theorem tp_38 : Cond.selects "SnagBook$Freeing" (⟨"SnagBook$Freeing", "join", "(I)V"⟩ : MethodName) (⟨"SnagBook$Freeing", "join", "(I)V"⟩ : MethodName) ∈ tblG := tS_in (i := 38) rfl rfl
theorem tp_39 : Cond.selects "SnagBook$Freeing" (⟨"SnagBook$Freeing", "step", "(I)V"⟩ : MethodName) (⟨"SnagBook$Freeing", "step", "(I)V"⟩ : MethodName) ∈ tblG := tS_in (i := 39) rfl rfl
theorem tp_40 : Cond.selects "SnagBook" (⟨"SnagBook", "doubleHomes", "(II)I"⟩ : MethodName) (⟨"SnagBook", "doubleHomes", "(II)I"⟩ : MethodName) ∈ tblG := tS_in (i := 40) rfl rfl
theorem tp_41 : Cond.selects "SnagBook" (⟨"SnagBook", "areDoubles", "(LSnagBook$Home;II)Z"⟩ : MethodName) (⟨"SnagBook", "areDoubles", "(LSnagBook$Home;II)Z"⟩ : MethodName) ∈ tblG := tS_in (i := 41) rfl rfl
theorem tp_42 : Cond.selects "SnagBook" (⟨"SnagBook", "hasListed", "(LSnagBook$Home;I)Z"⟩ : MethodName) (⟨"SnagBook", "hasListed", "(LSnagBook$Home;I)Z"⟩ : MethodName) ∈ tblG := tS_in (i := 42) rfl rfl
theorem tp_43 : Cond.selects "SnagBook" (⟨"SnagBook", "toldByOne", "(IIZ)I"⟩ : MethodName) (⟨"SnagBook", "toldByOne", "(IIZ)I"⟩ : MethodName) ∈ tblG := tS_in (i := 43) rfl rfl
theorem tp_44 : Cond.selects "SnagBook" (⟨"SnagBook", "firstListed", "(LSnagBook$Fault;I)LSnagBook$Fault;"⟩ : MethodName) (⟨"SnagBook", "firstListed", "(LSnagBook$Fault;I)LSnagBook$Fault;"⟩ : MethodName) ∈ tblG := tS_in (i := 44) rfl rfl
theorem tp_45 : Cond.selects "SnagBook" (⟨"SnagBook", "missed", "(II)I"⟩ : MethodName) (⟨"SnagBook", "missed", "(II)I"⟩ : MethodName) ∈ tblG := tS_in (i := 45) rfl rfl
theorem tp_46 : Cond.selects "SnagBook" (⟨"SnagBook", "harsh", "(II)I"⟩ : MethodName) (⟨"SnagBook", "harsh", "(II)I"⟩ : MethodName) ∈ tblG := tS_in (i := 46) rfl rfl
theorem tp_47 : Cond.selects "SnagBook" (⟨"SnagBook", "saidBy", "(I)I"⟩ : MethodName) (⟨"SnagBook", "saidBy", "(I)I"⟩ : MethodName) ∈ tblG := tS_in (i := 47) rfl rfl
theorem tp_48 : Cond.selects "SnagBook" (⟨"SnagBook", "falseBy", "(I)I"⟩ : MethodName) (⟨"SnagBook", "falseBy", "(I)I"⟩ : MethodName) ∈ tblG := tS_in (i := 48) rfl rfl
theorem tp_49 : Cond.selects "SnagBook" (⟨"SnagBook", "chargedTo", "(I)I"⟩ : MethodName) (⟨"SnagBook", "chargedTo", "(I)I"⟩ : MethodName) ∈ tblG := tS_in (i := 49) rfl rfl
theorem tp_50 : Cond.selects "SnagBook" (⟨"SnagBook", "placeOf", "(II)I"⟩ : MethodName) (⟨"SnagBook", "placeOf", "(II)I"⟩ : MethodName) ∈ tblG := tS_in (i := 50) rfl rfl
theorem tp_51 : Cond.selects "SnagBook" (⟨"SnagBook", "weightOf", "(II)I"⟩ : MethodName) (⟨"SnagBook", "weightOf", "(II)I"⟩ : MethodName) ∈ tblG := tS_in (i := 51) rfl rfl
theorem tp_52 : Cond.selects "SnagBook" (⟨"SnagBook", "sumOfHomes", "(I)I"⟩ : MethodName) (⟨"SnagBook", "sumOfHomes", "(I)I"⟩ : MethodName) ∈ tblG := tS_in (i := 52) rfl rfl
theorem tp_53 : Cond.selects "SnagBookModel" (⟨"SnagBookModel", "isHome", "(I)Z"⟩ : MethodName) (⟨"SnagBookModel", "isHome", "(I)Z"⟩ : MethodName) ∈ tblG := tS_in (i := 53) rfl rfl
theorem tp_54 : Cond.selects "SnagBookModel" (⟨"SnagBookModel", "leftOf", "(I)I"⟩ : MethodName) (⟨"SnagBookModel", "leftOf", "(I)I"⟩ : MethodName) ∈ tblG := tS_in (i := 54) rfl rfl
theorem tp_55 : Cond.selects "SnagBookModel" (⟨"SnagBookModel", "isLeft", "(II)Z"⟩ : MethodName) (⟨"SnagBookModel", "isLeft", "(II)Z"⟩ : MethodName) ∈ tblG := tS_in (i := 55) rfl rfl
theorem tp_56 : Cond.selects "SnagBookModel" (⟨"SnagBookModel", "stateOn", "(II)I"⟩ : MethodName) (⟨"SnagBookModel", "stateOn", "(II)I"⟩ : MethodName) ∈ tblG := tS_in (i := 56) rfl rfl
theorem tp_57 : Cond.selects "SnagBookModel" (⟨"SnagBookModel", "falseOf", "(I)I"⟩ : MethodName) (⟨"SnagBookModel", "falseOf", "(I)I"⟩ : MethodName) ∈ tblG := tS_in (i := 57) rfl rfl
theorem tp_58 : Cond.selects "SnagBookModel" (⟨"SnagBookModel", "brokenOf", "(I)I"⟩ : MethodName) (⟨"SnagBookModel", "brokenOf", "(I)I"⟩ : MethodName) ∈ tblG := tS_in (i := 58) rfl rfl
theorem tp_59 : Cond.selects "SnagBookModel" (⟨"SnagBookModel", "promiseNow", "(I)I"⟩ : MethodName) (⟨"SnagBookModel", "promiseNow", "(I)I"⟩ : MethodName) ∈ tblG := tS_in (i := 59) rfl rfl
theorem tp_60 : Cond.selects "SnagBookModel" (⟨"SnagBookModel", "isKind", "(I)Z"⟩ : MethodName) (⟨"SnagBookModel", "isKind", "(I)Z"⟩ : MethodName) ∈ tblG := tS_in (i := 60) rfl rfl
theorem tp_61 : Cond.selects "SnagBookModel" (⟨"SnagBookModel", "stateNow", "(I)I"⟩ : MethodName) (⟨"SnagBookModel", "stateNow", "(I)I"⟩ : MethodName) ∈ tblG := tS_in (i := 61) rfl rfl
theorem tp_62 : Cond.selects "SnagBookModel" (⟨"SnagBookModel", "become", "(III)V"⟩ : MethodName) (⟨"SnagBookModel", "become", "(III)V"⟩ : MethodName) ∈ tblG := tS_in (i := 62) rfl rfl
theorem tp_63 : Cond.selects "SnagBookModel" (⟨"SnagBookModel", "isFault", "(I)Z"⟩ : MethodName) (⟨"SnagBookModel", "isFault", "(I)Z"⟩ : MethodName) ∈ tblG := tS_in (i := 63) rfl rfl
theorem tp_64 : Cond.selects "SnagBookModel" (⟨"SnagBookModel", "isOpen", "(I)Z"⟩ : MethodName) (⟨"SnagBookModel", "isOpen", "(I)Z"⟩ : MethodName) ∈ tblG := tS_in (i := 64) rfl rfl
theorem tp_65 : Cond.selects "SnagBookModel" (⟨"SnagBookModel", "lastCrew", "(I)I"⟩ : MethodName) (⟨"SnagBookModel", "lastCrew", "(I)I"⟩ : MethodName) ∈ tblG := tS_in (i := 65) rfl rfl
theorem tp_66 : Cond.selects "SnagBookModel" (⟨"SnagBookModel", "endPromise", "(I)V"⟩ : MethodName) (⟨"SnagBookModel", "endPromise", "(I)V"⟩ : MethodName) ∈ tblG := tS_in (i := 66) rfl rfl
theorem tp_67 : Cond.selects "SnagBookModel" (⟨"SnagBookModel", "priceOf", "(I)I"⟩ : MethodName) (⟨"SnagBookModel", "priceOf", "(I)I"⟩ : MethodName) ∈ tblG := tS_in (i := 67) rfl rfl
theorem tp_68 : Cond.selects "SnagBookModel" (⟨"SnagBookModel", "hasFlag", "(II)Z"⟩ : MethodName) (⟨"SnagBookModel", "hasFlag", "(II)Z"⟩ : MethodName) ∈ tblG := tS_in (i := 68) rfl rfl
theorem tp_69 : Cond.selects "SnagBookModel" (⟨"SnagBookModel", "leakAbove", "(II)I"⟩ : MethodName) (⟨"SnagBookModel", "leakAbove", "(II)I"⟩ : MethodName) ∈ tblG := tS_in (i := 69) rfl rfl
theorem tp_70 : Cond.selects "SnagBookModel" (⟨"SnagBookModel", "damageBy", "(I)I"⟩ : MethodName) (⟨"SnagBookModel", "damageBy", "(I)I"⟩ : MethodName) ∈ tblG := tS_in (i := 70) rfl rfl
theorem tp_71 : Cond.selects "SnagBookModel" (⟨"SnagBookModel", "findWith", "(II)V"⟩ : MethodName) (⟨"SnagBookModel", "findWith", "(II)V"⟩ : MethodName) ∈ tblG := tS_in (i := 71) rfl rfl
theorem tp_72 : Cond.selects "SnagBookModel" (⟨"SnagBookModel", "hasKind", "(III)Z"⟩ : MethodName) (⟨"SnagBookModel", "hasKind", "(III)Z"⟩ : MethodName) ∈ tblG := tS_in (i := 72) rfl rfl
theorem tp_73 : Cond.selects "SnagBookModel" (⟨"SnagBookModel", "sizeOf", "(IIZ)I"⟩ : MethodName) (⟨"SnagBookModel", "sizeOf", "(IIZ)I"⟩ : MethodName) ∈ tblG := tS_in (i := 73) rfl rfl
theorem tp_74 : Cond.selects "SnagBookModel" (⟨"SnagBookModel", "isIn", "(III)Z"⟩ : MethodName) (⟨"SnagBookModel", "isIn", "(III)Z"⟩ : MethodName) ∈ tblG := tS_in (i := 74) rfl rfl
theorem tp_75 : Cond.selects "SnagBookModel" (⟨"SnagBookModel", "chanceOf", "(II)I"⟩ : MethodName) (⟨"SnagBookModel", "chanceOf", "(II)I"⟩ : MethodName) ∈ tblG := tS_in (i := 75) rfl rfl
theorem tp_76 : Cond.selects "SnagBookModel" (⟨"SnagBookModel", "causeOf", "(II)I"⟩ : MethodName) (⟨"SnagBookModel", "causeOf", "(II)I"⟩ : MethodName) ∈ tblG := tS_in (i := 76) rfl rfl
theorem tp_77 : Cond.selects "SnagBookModel" (⟨"SnagBookModel", "areSame", "(III)Z"⟩ : MethodName) (⟨"SnagBookModel", "areSame", "(III)Z"⟩ : MethodName) ∈ tblG := tS_in (i := 77) rfl rfl
theorem tp_78 : Cond.selects "SnagBookModel" (⟨"SnagBookModel", "gaugeOf", "(II)I"⟩ : MethodName) (⟨"SnagBookModel", "gaugeOf", "(II)I"⟩ : MethodName) ∈ tblG := tS_in (i := 78) rfl rfl
theorem tp_79 : Cond.selects "SnagBookModel" (⟨"SnagBookModel", "paceOf", "(II)I"⟩ : MethodName) (⟨"SnagBookModel", "paceOf", "(II)I"⟩ : MethodName) ∈ tblG := tS_in (i := 79) rfl rfl
theorem tp_80 : Cond.selects "SnagBookModel" (⟨"SnagBookModel", "sinks", "(I)Z"⟩ : MethodName) (⟨"SnagBookModel", "sinks", "(I)Z"⟩ : MethodName) ∈ tblG := tS_in (i := 80) rfl rfl
theorem tp_81 : Cond.selects "SnagBookModel" (⟨"SnagBookModel", "go", "(IIII)V"⟩ : MethodName) (⟨"SnagBookModel", "go", "(IIII)V"⟩ : MethodName) ∈ tblG := tS_in (i := 81) rfl rfl
theorem tp_82 : Cond.selects "SnagBookModel" (⟨"SnagBookModel", "firstDay", "(I)I"⟩ : MethodName) (⟨"SnagBookModel", "firstDay", "(I)I"⟩ : MethodName) ∈ tblG := tS_in (i := 82) rfl rfl
theorem tp_83 : Cond.selects "SnagBookModel" (⟨"SnagBookModel", "lastDay", "()I"⟩ : MethodName) (⟨"SnagBookModel", "lastDay", "()I"⟩ : MethodName) ∈ tblG := tS_in (i := 83) rfl rfl
theorem tp_84 : Cond.selects "SnagBookModel" (⟨"SnagBookModel", "mayBe", "(II)Z"⟩ : MethodName) (⟨"SnagBookModel", "mayBe", "(II)Z"⟩ : MethodName) ∈ tblG := tS_in (i := 84) rfl rfl
theorem tp_85 : Cond.selects "SnagBookModel" (⟨"SnagBookModel", "isLess", "(III)Z"⟩ : MethodName) (⟨"SnagBookModel", "isLess", "(III)Z"⟩ : MethodName) ∈ tblG := tS_in (i := 85) rfl rfl
theorem tp_86 : Cond.selects "SnagBookModel" (⟨"SnagBookModel", "busy", "(III)I"⟩ : MethodName) (⟨"SnagBookModel", "busy", "(III)I"⟩ : MethodName) ∈ tblG := tS_in (i := 86) rfl rfl
theorem tp_87 : Cond.selects "SnagBookModel" (⟨"SnagBookModel", "readWarranty", "(II)V"⟩ : MethodName) (⟨"SnagBookModel", "readWarranty", "(II)V"⟩ : MethodName) ∈ tblG := tS_in (i := 87) rfl rfl
theorem tp_88 : Cond.selects "SnagBookModel" (⟨"SnagBookModel", "beginText", "(II)V"⟩ : MethodName) (⟨"SnagBookModel", "beginText", "(II)V"⟩ : MethodName) ∈ tblG := tS_in (i := 88) rfl rfl
theorem tp_89 : Cond.selects "SnagBookModel" (⟨"SnagBookModel", "line", "()Z"⟩ : MethodName) (⟨"SnagBookModel", "line", "()Z"⟩ : MethodName) ∈ tblG := tS_in (i := 89) rfl rfl
theorem tp_90 : Cond.selects "SnagBookModel" (⟨"SnagBookModel", "byteAt", "()I"⟩ : MethodName) (⟨"SnagBookModel", "byteAt", "()I"⟩ : MethodName) ∈ tblG := tS_in (i := 90) rfl rfl
theorem tp_91 : Cond.selects "SnagBookModel" (⟨"SnagBookModel", "test", "()Z"⟩ : MethodName) (⟨"SnagBookModel", "test", "()Z"⟩ : MethodName) ∈ tblG := tS_in (i := 91) rfl rfl
theorem tp_92 : Cond.selects "SnagBookModel" (⟨"SnagBookModel", "wrong", "()I"⟩ : MethodName) (⟨"SnagBookModel", "wrong", "()I"⟩ : MethodName) ∈ tblG := tS_in (i := 92) rfl rfl
theorem tp_93 : Cond.selects "SnagBookModel" (⟨"SnagBookModel", "figure", "(I)I"⟩ : MethodName) (⟨"SnagBookModel", "figure", "(I)I"⟩ : MethodName) ∈ tblG := tS_in (i := 93) rfl rfl
theorem tp_94 : Cond.selects "SnagBookModel" (⟨"SnagBookModel", "readFreeing", "(II)I"⟩ : MethodName) (⟨"SnagBookModel", "readFreeing", "(II)I"⟩ : MethodName) ∈ tblG := tS_in (i := 94) rfl rfl
theorem tp_95 : Cond.selects "SnagBookModel" (⟨"SnagBookModel", "sum", "()I"⟩ : MethodName) (⟨"SnagBookModel", "sum", "()I"⟩ : MethodName) ∈ tblG := tS_in (i := 95) rfl rfl
theorem tp_96 : Cond.selects "SnagBookModel" (⟨"SnagBookModel", "one", "()I"⟩ : MethodName) (⟨"SnagBookModel", "one", "()I"⟩ : MethodName) ∈ tblG := tS_in (i := 96) rfl rfl
theorem tp_97 : Cond.selects "SnagBookModel" (⟨"SnagBookModel", "force", "(III)I"⟩ : MethodName) (⟨"SnagBookModel", "force", "(III)I"⟩ : MethodName) ∈ tblG := tS_in (i := 97) rfl rfl
theorem tp_98 : Cond.selects "SnagBookModel" (⟨"SnagBookModel", "judged", "(I)V"⟩ : MethodName) (⟨"SnagBookModel", "judged", "(I)V"⟩ : MethodName) ∈ tblG := tS_in (i := 98) rfl rfl
theorem tp_99 : Cond.selects "SnagBookModel" (⟨"SnagBookModel", "nameFault", "(II)V"⟩ : MethodName) (⟨"SnagBookModel", "nameFault", "(II)V"⟩ : MethodName) ∈ tblG := tS_in (i := 99) rfl rfl
theorem tp_100 : Cond.selects "SnagBookModel" (⟨"SnagBookModel", "isEyeIn", "(II)Z"⟩ : MethodName) (⟨"SnagBookModel", "isEyeIn", "(II)Z"⟩ : MethodName) ∈ tblG := tS_in (i := 100) rfl rfl
theorem tp_101 : Cond.selects "SnagBookModel" (⟨"SnagBookModel", "firstTold", "(IIII)I"⟩ : MethodName) (⟨"SnagBookModel", "firstTold", "(IIII)I"⟩ : MethodName) ∈ tblG := tS_in (i := 101) rfl rfl
theorem tp_102 : Cond.selects "SnagBookModel" (⟨"SnagBookModel", "isSaidBy", "(II)Z"⟩ : MethodName) (⟨"SnagBookModel", "isSaidBy", "(II)Z"⟩ : MethodName) ∈ tblG := tS_in (i := 102) rfl rfl
theorem tp_103 : Cond.selects "SnagBookModel" (⟨"SnagBookModel", "weightOf", "(II)I"⟩ : MethodName) (⟨"SnagBookModel", "weightOf", "(II)I"⟩ : MethodName) ∈ tblG := tS_in (i := 103) rfl rfl
