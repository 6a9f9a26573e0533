theorem wd_1_111 : (Jvm.Cond.fieldLinkNest "Retouched" (34 : Nat) "Retouched$Question" "code" "LRetouched$Code;" "Retouched") ∈ lw_tbl := mt_1 (List.mem_of_getElem? (i := 111) (by decide +kernel))
theorem wd_1_118 : (Jvm.Cond.classLink "Retouched" (32 : Nat) "Retouched$Formulas") ∈ lw_tbl := mt_1 (List.mem_of_getElem? (i := 118) (by decide +kernel))
theorem wd_1_119 : (Jvm.Cond.instantiable "Retouched$Formulas" (3 : Nat)) ∈ lw_tbl := mt_1 (List.mem_of_getElem? (i := 119) (by decide +kernel))
theorem wd_1_120 : (Jvm.Cond.methodLink "Retouched" (38 : Nat) ({ cls := "Retouched$Formulas", name := "<init>", desc := "(LRetouched$Reader;LRetouched$Code;)V" } : Jvm.MethodName)) ∈ lw_tbl := mt_1 (List.mem_of_getElem? (i := 120) (by decide +kernel))
theorem wd_1_121 : (Jvm.Cond.instanceMethod ({ cls := "Retouched$Formulas", name := "<init>", desc := "(LRetouched$Reader;LRetouched$Code;)V" } : Jvm.MethodName)) ∈ lw_tbl := mt_1 (List.mem_of_getElem? (i := 121) (by decide +kernel))
theorem wd_1_122 : (Jvm.Cond.code ({ cls := "Retouched$Formulas", name := "<init>", desc := "(LRetouched$Reader;LRetouched$Code;)V" } : Jvm.MethodName) prog_4_method_1_code (3 : Nat) (Option.none : Option Jvm.ClassFile.FieldType)) ∈ lw_tbl := mt_1 (List.mem_of_getElem? (i := 122) rfl)
theorem wd_1_123 : (Jvm.Cond.methodLink "Retouched$Formulas" (3 : Nat) ({ cls := "java/lang/Object", name := "<init>", desc := "()V" } : Jvm.MethodName)) ∈ lw_tbl := mt_1 (List.mem_of_getElem? (i := 123) (by decide +kernel))
theorem wd_1_134 : (Jvm.Cond.classLink "Retouched" (45 : Nat) "Retouched$Teller") ∈ lw_tbl := mt_1 (List.mem_of_getElem? (i := 134) (by decide +kernel))
theorem wd_1_135 : (Jvm.Cond.instantiable "Retouched$Teller" (2 : Nat)) ∈ lw_tbl := mt_1 (List.mem_of_getElem? (i := 135) (by decide +kernel))
theorem wd_1_136 : (Jvm.Cond.methodLink "Retouched" (47 : Nat) ({ cls := "Retouched$Teller", name := "<init>", desc := "(LRetouched$Reader;LRetouched$Formulas;)V" } : Jvm.MethodName)) ∈ lw_tbl := mt_1 (List.mem_of_getElem? (i := 136) (by decide +kernel))
theorem wd_1_137 : (Jvm.Cond.instanceMethod ({ cls := "Retouched$Teller", name := "<init>", desc := "(LRetouched$Reader;LRetouched$Formulas;)V" } : Jvm.MethodName)) ∈ lw_tbl := mt_1 (List.mem_of_getElem? (i := 137) (by decide +kernel))
theorem wd_1_138 : (Jvm.Cond.code ({ cls := "Retouched$Teller", name := "<init>", desc := "(LRetouched$Reader;LRetouched$Formulas;)V" } : Jvm.MethodName) prog_11_method_1_code (3 : Nat) (Option.none : Option Jvm.ClassFile.FieldType)) ∈ lw_tbl := mt_1 (List.mem_of_getElem? (i := 138) rfl)
theorem wd_1_139 : (Jvm.Cond.methodLink "Retouched$Teller" (3 : Nat) ({ cls := "java/lang/Object", name := "<init>", desc := "()V" } : Jvm.MethodName)) ∈ lw_tbl := mt_1 (List.mem_of_getElem? (i := 139) (by decide +kernel))
theorem wd_1_147 : (Jvm.Cond.classLink "Retouched" (54 : Nat) "Retouched$Scene") ∈ lw_tbl := mt_1 (List.mem_of_getElem? (i := 147) (by decide +kernel))
theorem wd_1_148 : (Jvm.Cond.instantiable "Retouched$Scene" (12 : Nat)) ∈ lw_tbl := mt_1 (List.mem_of_getElem? (i := 148) (by decide +kernel))
theorem wd_1_149 : (Jvm.Cond.methodLinkNest "Retouched" (56 : Nat) ({ cls := "Retouched$Scene", name := "<init>", desc := "()V" } : Jvm.MethodName) "Retouched") ∈ lw_tbl := mt_1 (List.mem_of_getElem? (i := 149) (by decide +kernel))
theorem wd_1_150 : (Jvm.Cond.instanceMethod ({ cls := "Retouched$Scene", name := "<init>", desc := "()V" } : Jvm.MethodName)) ∈ lw_tbl := mt_1 (List.mem_of_getElem? (i := 150) (by decide +kernel))
theorem wd_1_151 : (Jvm.Cond.code ({ cls := "Retouched$Scene", name := "<init>", desc := "()V" } : Jvm.MethodName) prog_9_method_1_code (1 : Nat) (Option.none : Option Jvm.ClassFile.FieldType)) ∈ lw_tbl := mt_1 (List.mem_of_getElem? (i := 151) rfl)
theorem wd_1_152 : (Jvm.Cond.methodLink "Retouched$Scene" (3 : Nat) ({ cls := "java/lang/Object", name := "<init>", desc := "()V" } : Jvm.MethodName)) ∈ lw_tbl := mt_1 (List.mem_of_getElem? (i := 152) (by decide +kernel))
theorem wd_1_208 : (Jvm.Cond.classLink "Retouched" (61 : Nat) "Retouched$History") ∈ lw_tbl := mt_1 (List.mem_of_getElem? (i := 208) (by decide +kernel))
theorem wd_1_209 : (Jvm.Cond.instantiable "Retouched$History" (3 : Nat)) ∈ lw_tbl := mt_1 (List.mem_of_getElem? (i := 209) (by decide +kernel))
theorem wd_1_21 : (Jvm.Cond.classLink "RetouchedLaw" (7 : Nat) "Retouched") ∈ lw_tbl := mt_1 (List.mem_of_getElem? (i := 21) (by decide +kernel))
theorem wd_1_210 : (Jvm.Cond.methodLink "Retouched" (63 : Nat) ({ cls := "Retouched$History", name := "<init>", desc := "()V" } : Jvm.MethodName)) ∈ lw_tbl := mt_1 (List.mem_of_getElem? (i := 210) (by decide +kernel))
theorem wd_1_211 : (Jvm.Cond.instanceMethod ({ cls := "Retouched$History", name := "<init>", desc := "()V" } : Jvm.MethodName)) ∈ lw_tbl := mt_1 (List.mem_of_getElem? (i := 211) (by decide +kernel))
theorem wd_1_212 : (Jvm.Cond.code ({ cls := "Retouched$History", name := "<init>", desc := "()V" } : Jvm.MethodName) prog_5_method_1_code (2 : Nat) (Option.none : Option Jvm.ClassFile.FieldType)) ∈ lw_tbl := mt_1 (List.mem_of_getElem? (i := 212) rfl)
theorem wd_1_213 : (Jvm.Cond.methodLink "Retouched$History" (3 : Nat) ({ cls := "java/lang/Object", name := "<init>", desc := "()V" } : Jvm.MethodName)) ∈ lw_tbl := mt_1 (List.mem_of_getElem? (i := 213) (by decide +kernel))
theorem wd_1_214 : (Jvm.Cond.classLink "Retouched$History" (9 : Nat) "Retouched$Scene") ∈ lw_tbl := mt_1 (List.mem_of_getElem? (i := 214) (by decide +kernel))
theorem wd_1_216 : (Jvm.Cond.methodLinkNest "Retouched$History" (24 : Nat) ({ cls := "Retouched$Scene", name := "<init>", desc := "()V" } : Jvm.MethodName) "Retouched") ∈ lw_tbl := mt_1 (List.mem_of_getElem? (i := 216) (by decide +kernel))
theorem wd_1_22 : (Jvm.Cond.instantiable "Retouched" (14 : Nat)) ∈ lw_tbl := mt_1 (List.mem_of_getElem? (i := 22) (by decide +kernel))
theorem wd_1_227 : (Jvm.Cond.classLink "Retouched" (68 : Nat) "Retouched$Ahead") ∈ lw_tbl := mt_1 (List.mem_of_getElem? (i := 227) (by decide +kernel))
theorem wd_1_228 : (Jvm.Cond.instantiable "Retouched$Ahead" (11 : Nat)) ∈ lw_tbl := mt_1 (List.mem_of_getElem? (i := 228) (by decide +kernel))
theorem wd_1_229 : (Jvm.Cond.methodLinkNest "Retouched" (70 : Nat) ({ cls := "Retouched$Ahead", name := "<init>", desc := "()V" } : Jvm.MethodName) "Retouched") ∈ lw_tbl := mt_1 (List.mem_of_getElem? (i := 229) (by decide +kernel))
theorem wd_1_23 : (Jvm.Cond.methodLink "RetouchedLaw" (9 : Nat) ({ cls := "Retouched", name := "<init>", desc := "()V" } : Jvm.MethodName)) ∈ lw_tbl := mt_1 (List.mem_of_getElem? (i := 23) (by decide +kernel))
theorem wd_1_230 : (Jvm.Cond.instanceMethod ({ cls := "Retouched$Ahead", name := "<init>", desc := "()V" } : Jvm.MethodName)) ∈ lw_tbl := mt_1 (List.mem_of_getElem? (i := 230) (by decide +kernel))
theorem wd_1_231 : (Jvm.Cond.code ({ cls := "Retouched$Ahead", name := "<init>", desc := "()V" } : Jvm.MethodName) prog_2_method_1_code (1 : Nat) (Option.none : Option Jvm.ClassFile.FieldType)) ∈ lw_tbl := mt_1 (List.mem_of_getElem? (i := 231) rfl)
theorem wd_1_232 : (Jvm.Cond.methodLink "Retouched$Ahead" (3 : Nat) ({ cls := "java/lang/Object", name := "<init>", desc := "()V" } : Jvm.MethodName)) ∈ lw_tbl := mt_1 (List.mem_of_getElem? (i := 232) (by decide +kernel))
theorem wd_1_233 : (Jvm.Cond.classLink "Retouched$Ahead" (9 : Nat) "Retouched$Scene") ∈ lw_tbl := mt_1 (List.mem_of_getElem? (i := 233) (by decide +kernel))
theorem wd_1_234 : (Jvm.Cond.methodLinkNest "Retouched$Ahead" (11 : Nat) ({ cls := "Retouched$Scene", name := "<init>", desc := "()V" } : Jvm.MethodName) "Retouched") ∈ lw_tbl := mt_1 (List.mem_of_getElem? (i := 234) (by decide +kernel))
theorem wd_1_24 : (Jvm.Cond.instanceMethod ({ cls := "Retouched", name := "<init>", desc := "()V" } : Jvm.MethodName)) ∈ lw_tbl := mt_1 (List.mem_of_getElem? (i := 24) (by decide +kernel))
theorem wd_1_25 : (Jvm.Cond.code ({ cls := "Retouched", name := "<init>", desc := "()V" } : Jvm.MethodName) prog_1_method_1_code (1 : Nat) (Option.none : Option Jvm.ClassFile.FieldType)) ∈ lw_tbl := mt_1 (List.mem_of_getElem? (i := 25) rfl)
theorem wd_1_26 : (Jvm.Cond.methodLink "Retouched" (1 : Nat) ({ cls := "java/lang/Object", name := "<init>", desc := "()V" } : Jvm.MethodName)) ∈ lw_tbl := mt_1 (List.mem_of_getElem? (i := 26) (by decide +kernel))
theorem wd_1_27 : (Jvm.Cond.instanceMethod ({ cls := "java/lang/Object", name := "<init>", desc := "()V" } : Jvm.MethodName)) ∈ lw_tbl := mt_1 (List.mem_of_getElem? (i := 27) (by decide +kernel))
theorem wd_1_28 : (Jvm.Cond.code ({ cls := "java/lang/Object", name := "<init>", desc := "()V" } : Jvm.MethodName) object_method_1_code (1 : Nat) (Option.none : Option Jvm.ClassFile.FieldType)) ∈ lw_tbl := mt_1 (List.mem_of_getElem? (i := 28) rfl)
theorem wd_1_29 : (Jvm.Cond.classLink "Retouched" (7 : Nat) "Retouched$Tape") ∈ lw_tbl := mt_1 (List.mem_of_getElem? (i := 29) (by decide +kernel))
theorem wd_1_30 : (Jvm.Cond.instantiable "Retouched$Tape" (2 : Nat)) ∈ lw_tbl := mt_1 (List.mem_of_getElem? (i := 30) (by decide +kernel))
theorem wd_1_31 : (Jvm.Cond.methodLinkNest "Retouched" (9 : Nat) ({ cls := "Retouched$Tape", name := "<init>", desc := "()V" } : Jvm.MethodName) "Retouched") ∈ lw_tbl := mt_1 (List.mem_of_getElem? (i := 31) (by decide +kernel))
theorem wd_1_32 : (Jvm.Cond.instanceMethod ({ cls := "Retouched$Tape", name := "<init>", desc := "()V" } : Jvm.MethodName)) ∈ lw_tbl := mt_1 (List.mem_of_getElem? (i := 32) (by decide +kernel))
theorem wd_1_33 : (Jvm.Cond.code ({ cls := "Retouched$Tape", name := "<init>", desc := "()V" } : Jvm.MethodName) prog_10_method_1_code (1 : Nat) (Option.none : Option Jvm.ClassFile.FieldType)) ∈ lw_tbl := mt_1 (List.mem_of_getElem? (i := 33) rfl)
theorem wd_1_34 : (Jvm.Cond.methodLink "Retouched$Tape" (3 : Nat) ({ cls := "java/lang/Object", name := "<init>", desc := "()V" } : Jvm.MethodName)) ∈ lw_tbl := mt_1 (List.mem_of_getElem? (i := 34) (by decide +kernel))
theorem wd_1_42 : (Jvm.Cond.arrayClass Jvm.ClassFile.FieldType.int) ∈ lw_tbl := mt_1 (List.mem_of_getElem? (i := 42) (by decide +kernel))
theorem wd_1_43 : (Jvm.Cond.classLink "Retouched" (16 : Nat) "Retouched$Reader") ∈ lw_tbl := mt_1 (List.mem_of_getElem? (i := 43) (by decide +kernel))
theorem wd_1_44 : (Jvm.Cond.instantiable "Retouched$Reader" (7 : Nat)) ∈ lw_tbl := mt_1 (List.mem_of_getElem? (i := 44) (by decide +kernel))
theorem wd_1_45 : (Jvm.Cond.methodLink "Retouched" (18 : Nat) ({ cls := "Retouched$Reader", name := "<init>", desc := "(LRetouched$Tape;)V" } : Jvm.MethodName)) ∈ lw_tbl := mt_1 (List.mem_of_getElem? (i := 45) (by decide +kernel))
theorem wd_1_46 : (Jvm.Cond.instanceMethod ({ cls := "Retouched$Reader", name := "<init>", desc := "(LRetouched$Tape;)V" } : Jvm.MethodName)) ∈ lw_tbl := mt_1 (List.mem_of_getElem? (i := 46) (by decide +kernel))
theorem wd_1_47 : (Jvm.Cond.code ({ cls := "Retouched$Reader", name := "<init>", desc := "(LRetouched$Tape;)V" } : Jvm.MethodName) prog_8_method_1_code (2 : Nat) (Option.none : Option Jvm.ClassFile.FieldType)) ∈ lw_tbl := mt_1 (List.mem_of_getElem? (i := 47) rfl)
theorem wd_1_48 : (Jvm.Cond.methodLink "Retouched$Reader" (3 : Nat) ({ cls := "java/lang/Object", name := "<init>", desc := "()V" } : Jvm.MethodName)) ∈ lw_tbl := mt_1 (List.mem_of_getElem? (i := 48) (by decide +kernel))
theorem wd_1_76 : (Jvm.Cond.classLink "Retouched" (25 : Nat) "Retouched$Question") ∈ lw_tbl := mt_1 (List.mem_of_getElem? (i := 76) (by decide +kernel))
theorem wd_1_77 : (Jvm.Cond.instantiable "Retouched$Question" (2 : Nat)) ∈ lw_tbl := mt_1 (List.mem_of_getElem? (i := 77) (by decide +kernel))
theorem wd_1_78 : (Jvm.Cond.methodLinkNest "Retouched" (27 : Nat) ({ cls := "Retouched$Question", name := "<init>", desc := "()V" } : Jvm.MethodName) "Retouched") ∈ lw_tbl := mt_1 (List.mem_of_getElem? (i := 78) (by decide +kernel))
theorem wd_1_79 : (Jvm.Cond.instanceMethod ({ cls := "Retouched$Question", name := "<init>", desc := "()V" } : Jvm.MethodName)) ∈ lw_tbl := mt_1 (List.mem_of_getElem? (i := 79) (by decide +kernel))
theorem wd_1_80 : (Jvm.Cond.code ({ cls := "Retouched$Question", name := "<init>", desc := "()V" } : Jvm.MethodName) prog_7_method_1_code (1 : Nat) (Option.none : Option Jvm.ClassFile.FieldType)) ∈ lw_tbl := mt_1 (List.mem_of_getElem? (i := 80) rfl)
theorem wd_1_81 : (Jvm.Cond.methodLink "Retouched$Question" (3 : Nat) ({ cls := "java/lang/Object", name := "<init>", desc := "()V" } : Jvm.MethodName)) ∈ lw_tbl := mt_1 (List.mem_of_getElem? (i := 81) (by decide +kernel))
theorem wd_1_82 : (Jvm.Cond.classLink "Retouched$Question" (9 : Nat) "Retouched$Code") ∈ lw_tbl := mt_1 (List.mem_of_getElem? (i := 82) (by decide +kernel))
theorem wd_1_83 : (Jvm.Cond.instantiable "Retouched$Code" (7 : Nat)) ∈ lw_tbl := mt_1 (List.mem_of_getElem? (i := 83) (by decide +kernel))
theorem wd_1_84 : (Jvm.Cond.methodLinkNest "Retouched$Question" (11 : Nat) ({ cls := "Retouched$Code", name := "<init>", desc := "()V" } : Jvm.MethodName) "Retouched") ∈ lw_tbl := mt_1 (List.mem_of_getElem? (i := 84) (by decide +kernel))
theorem wd_1_85 : (Jvm.Cond.instanceMethod ({ cls := "Retouched$Code", name := "<init>", desc := "()V" } : Jvm.MethodName)) ∈ lw_tbl := mt_1 (List.mem_of_getElem? (i := 85) (by decide +kernel))
theorem wd_1_86 : (Jvm.Cond.code ({ cls := "Retouched$Code", name := "<init>", desc := "()V" } : Jvm.MethodName) prog_3_method_1_code (1 : Nat) (Option.none : Option Jvm.ClassFile.FieldType)) ∈ lw_tbl := mt_1 (List.mem_of_getElem? (i := 86) rfl)
theorem wd_1_87 : (Jvm.Cond.methodLink "Retouched$Code" (3 : Nat) ({ cls := "java/lang/Object", name := "<init>", desc := "()V" } : Jvm.MethodName)) ∈ lw_tbl := mt_1 (List.mem_of_getElem? (i := 87) (by decide +kernel))
theorem wd_2_34 : (Jvm.Cond.arrayClass Jvm.ClassFile.FieldType.boolean) ∈ lw_tbl := mt_2 (List.mem_of_getElem? (i := 34) (by decide +kernel))
theorem wd_2_35 : (Jvm.Cond.classLink "Retouched" (75 : Nat) "Retouched$Picture") ∈ lw_tbl := mt_2 (List.mem_of_getElem? (i := 35) (by decide +kernel))
theorem wd_2_36 : (Jvm.Cond.instantiable "Retouched$Picture" (4 : Nat)) ∈ lw_tbl := mt_2 (List.mem_of_getElem? (i := 36) (by decide +kernel))
theorem wd_2_37 : (Jvm.Cond.methodLinkNest "Retouched" (77 : Nat) ({ cls := "Retouched$Picture", name := "<init>", desc := "()V" } : Jvm.MethodName) "Retouched") ∈ lw_tbl := mt_2 (List.mem_of_getElem? (i := 37) (by decide +kernel))
theorem wd_2_38 : (Jvm.Cond.instanceMethod ({ cls := "Retouched$Picture", name := "<init>", desc := "()V" } : Jvm.MethodName)) ∈ lw_tbl := mt_2 (List.mem_of_getElem? (i := 38) (by decide +kernel))
theorem wd_2_39 : (Jvm.Cond.code ({ cls := "Retouched$Picture", name := "<init>", desc := "()V" } : Jvm.MethodName) prog_6_method_1_code (1 : Nat) (Option.none : Option Jvm.ClassFile.FieldType)) ∈ lw_tbl := mt_2 (List.mem_of_getElem? (i := 39) rfl)
theorem wd_2_40 : (Jvm.Cond.methodLink "Retouched$Picture" (3 : Nat) ({ cls := "java/lang/Object", name := "<init>", desc := "()V" } : Jvm.MethodName)) ∈ lw_tbl := mt_2 (List.mem_of_getElem? (i := 40) (by decide +kernel))
theorem wd_2_41 : (Jvm.Cond.classLink "Retouched$Picture" (22 : Nat) "Retouched$Scene") ∈ lw_tbl := mt_2 (List.mem_of_getElem? (i := 41) (by decide +kernel))
theorem wd_2_42 : (Jvm.Cond.methodLinkNest "Retouched$Picture" (24 : Nat) ({ cls := "Retouched$Scene", name := "<init>", desc := "()V" } : Jvm.MethodName) "Retouched") ∈ lw_tbl := mt_2 (List.mem_of_getElem? (i := 42) (by decide +kernel))
theorem wd_2_56 : (Jvm.Cond.classLink "Retouched" (86 : Nat) "Retouched$Told") ∈ lw_tbl := mt_2 (List.mem_of_getElem? (i := 56) (by decide +kernel))
theorem wd_2_57 : (Jvm.Cond.instantiable "Retouched$Told" (5 : Nat)) ∈ lw_tbl := mt_2 (List.mem_of_getElem? (i := 57) (by decide +kernel))
theorem wd_2_58 : (Jvm.Cond.methodLink "Retouched" (88 : Nat) ({ cls := "Retouched$Told", name := "<init>", desc := "()V" } : Jvm.MethodName)) ∈ lw_tbl := mt_2 (List.mem_of_getElem? (i := 58) (by decide +kernel))
theorem wd_2_59 : (Jvm.Cond.instanceMethod ({ cls := "Retouched$Told", name := "<init>", desc := "()V" } : Jvm.MethodName)) ∈ lw_tbl := mt_2 (List.mem_of_getElem? (i := 59) (by decide +kernel))
theorem wd_2_60 : (Jvm.Cond.code ({ cls := "Retouched$Told", name := "<init>", desc := "()V" } : Jvm.MethodName) prog_12_method_1_code (1 : Nat) (Option.none : Option Jvm.ClassFile.FieldType)) ∈ lw_tbl := mt_2 (List.mem_of_getElem? (i := 60) rfl)
theorem wd_2_61 : (Jvm.Cond.methodLink "Retouched$Told" (3 : Nat) ({ cls := "java/lang/Object", name := "<init>", desc := "()V" } : Jvm.MethodName)) ∈ lw_tbl := mt_2 (List.mem_of_getElem? (i := 61) (by decide +kernel))
theorem wd_2_62 : (Jvm.Cond.classLink "Retouched$Told" (9 : Nat) "Retouched$Scene") ∈ lw_tbl := mt_2 (List.mem_of_getElem? (i := 62) (by decide +kernel))
theorem wd_2_63 : (Jvm.Cond.methodLinkNest "Retouched$Told" (11 : Nat) ({ cls := "Retouched$Scene", name := "<init>", desc := "()V" } : Jvm.MethodName) "Retouched") ∈ lw_tbl := mt_2 (List.mem_of_getElem? (i := 63) (by decide +kernel))
theorem wd_2_64 : (Jvm.Cond.classLink "Retouched$Told" (18 : Nat) "Retouched$Code") ∈ lw_tbl := mt_2 (List.mem_of_getElem? (i := 64) (by decide +kernel))
theorem wd_2_65 : (Jvm.Cond.methodLinkNest "Retouched$Told" (20 : Nat) ({ cls := "Retouched$Code", name := "<init>", desc := "()V" } : Jvm.MethodName) "Retouched") ∈ lw_tbl := mt_2 (List.mem_of_getElem? (i := 65) (by decide +kernel))
theorem wd_6_40 : (Jvm.Cond.classLink "RetouchedLaw" (10 : Nat) "RetouchedModel") ∈ lw_tbl := mt_6 (List.mem_of_getElem? (i := 40) (by decide +kernel))
theorem wd_6_41 : (Jvm.Cond.instantiable "RetouchedModel" (113 : Nat)) ∈ lw_tbl := mt_6 (List.mem_of_getElem? (i := 41) (by decide +kernel))
theorem wd_6_42 : (Jvm.Cond.methodLink "RetouchedLaw" (12 : Nat) ({ cls := "RetouchedModel", name := "<init>", desc := "()V" } : Jvm.MethodName)) ∈ lw_tbl := mt_6 (List.mem_of_getElem? (i := 42) (by decide +kernel))
theorem wd_6_43 : (Jvm.Cond.instanceMethod ({ cls := "RetouchedModel", name := "<init>", desc := "()V" } : Jvm.MethodName)) ∈ lw_tbl := mt_6 (List.mem_of_getElem? (i := 43) (by decide +kernel))
theorem wd_6_44 : (Jvm.Cond.code ({ cls := "RetouchedModel", name := "<init>", desc := "()V" } : Jvm.MethodName) prog_14_method_1_code (1 : Nat) (Option.none : Option Jvm.ClassFile.FieldType)) ∈ lw_tbl := mt_6 (List.mem_of_getElem? (i := 44) rfl)
theorem wd_6_45 : (Jvm.Cond.methodLink "RetouchedModel" (1 : Nat) ({ cls := "java/lang/Object", name := "<init>", desc := "()V" } : Jvm.MethodName)) ∈ lw_tbl := mt_6 (List.mem_of_getElem? (i := 45) (by decide +kernel))
theorem wd_7_146 : (Jvm.Cond.arrayClass Jvm.ClassFile.FieldType.char) ∈ lw_tbl := mt_7 (List.mem_of_getElem? (i := 146) (by decide +kernel))
theorem wd_7_147 : (Jvm.Cond.arrayClass Jvm.ClassFile.FieldType.long) ∈ lw_tbl := mt_7 (List.mem_of_getElem? (i := 147) (by decide +kernel))
def cc_IL : List (MethodName × ByteArray × Nat × Option FieldType) := [(yX0_init, cX0_init, 1, none), (yX1_init, cX1_init, 1, none), (yX2_init, cX2_init, 3, none), (yX3_init, cX3_init, 2, none), (yX4_init, cX4_init, 1, none), (yX5_init, cX5_init, 1, none), (yX6_init, cX6_init, 2, none), (yX7_init, cX7_init, 1, none), (yX8_init, cX8_init, 1, none), (yX9_init, cX9_init, 3, none), (yX10_init, cX10_init, 1, none), (yX11_init, cX11_init, 1, none), (yX12_init, cX12_init, 1, none), (yX1_clear, cX1_clear, 2, none)]
def cc_I0 : mm_I := fun y => cc_IL.getD y (yX0_countSeen, cX0_countSeen, 0, none)
def cdc_X0_init : mm_K cc_H := [(0, s_aload 0 1), (1, c_obj 4), (4, s_aload 0 5), (5, c_new 7 [.null, .null, .null, .null, .null, .null, .null, .null, .int 0, .int 0, .int 0, .int 0] 8), (8, s_dup 9), (9, c_init 7 0 8 153 12), (12, c_put 0 0 (.object "Retouched$Scene") 15), (15, s_aload 0 16), (16, s_pushI 48 18), (18, c_newa 1 20), (20, c_put 0 1 (.array .int) 23), (23, s_aload 0 24), (24, s_pushI 0 25), (25, c_put 0 2 .int 28), (28, s_aload 0 29), (29, s_pushI 2048 32), (32, c_newa 1 34), (34, c_put 0 3 (.array .int) 37), (37, s_aload 0 38), (38, s_pushI 256 41), (41, c_newa 4 43), (43, c_put 0 4 (.array .boolean) 46), (46, s_aload 0 47), (47, s_pushI 310 50), (50, c_newa 1 52), (52, c_put 0 5 (.array .int) 55), (55, s_aload 0 56), (56, s_pushI (-1) 57), (57, c_put 0 6 .int 60), (60, s_aload 0 61), (61, s_pushI (-1) 62), (62, c_put 0 7 .int 65), (65, s_aload 0 66), (66, s_pushI (-1) 67), (67, c_put 0 8 .int 70), (70, s_aload 0 71), (71, s_pushI (-1) 72), (72, c_put 0 9 .int 75), (75, s_aload 0 76), (76, s_pushI (-1) 77), (77, c_put 0 10 .int 80), (80, s_vret)]
set_option maxRecDepth 100000 in
set_option maxHeartbeats 4000000 in
theorem okc_X0_init (l : Launch) : cc_CodeOK l cc_I0 RX0 "<init>" cX0_init 1 none cdc_X0_init := by
  intro p e R s m args below meth c Q σ cA D B c0 m0 cap capS d C X
  have hx := X.1
  have hb := X.2.1
  have hown := X.2.2.2.1
  have hts := X.2.2.2.2.1
  refine mm_fc (ss_aload_n hx hb (by decide +kernel : decode cX0_init 0 = .ok (.aload_n 0, 1)) rfl) ?_
  refine mm_fc (sc_obj X wd_1_232 wd_1_27 wd_1_28 (by decide +kernel : decode cX0_init 1 = .ok (.invokespecial 3, 3))) ?_
  refine mm_fc (ss_aload_n hx hb (by decide +kernel : decode cX0_init 4 = .ok (.aload_n 0, 1)) rfl) ?_
  refine mm_fc (sc_new X rfl in_X7 tyX7_ok wd_1_233 wd_1_148 wd_1_8 (by decide +kernel) rfl rfl (by decide +kernel : decode cX0_init 5 = .ok (.new 9, 3))) ?_
  refine mm_fc (ss_dup hx hb (by decide +kernel : decode cX0_init 8 = .ok (.dup, 1))) ?_
  refine mm_fc (sc_initN X rfl wd_1_151 wd_1_8 wd_1_234 wd_1_150 rfl (by decide +kernel) (by decide +kernel) (by decide) (by decide +kernel : decode cX0_init 9 = .ok (.invokespecial 11, 3))) ?_
  refine mm_fc (sc_putF X rfl in_X0 tyX0_ok nmX0 (by decide) rfl rfl rfl rfl wd_1_235 (by decide +kernel : decode cX0_init 12 = .ok (.putfield 12, 3))) ?_
  refine mm_fc (ss_aload_n hx hb (by decide +kernel : decode cX0_init 15 = .ok (.aload_n 0, 1)) rfl) ?_
  refine mm_fc (ss_bipush hx hb (by decide +kernel : decode cX0_init 16 = .ok (.bipush 48, 2)) (by decide)) ?_
  refine mm_fc (sc_newa X (atype := .int) (t0 := 0) wd_1_42 rfl rfl rfl (by decide) (fun _ q => by cases q) (by decide +kernel : decode cX0_init 18 = .ok (.newarray .int, 2))) ?_
  refine mm_fc (sc_putF X rfl in_X0 tyX0_ok nmX0 (by decide) rfl rfl rfl rfl wd_1_236 (by decide +kernel : decode cX0_init 20 = .ok (.putfield 18, 3))) ?_
  refine mm_fc (ss_aload_n hx hb (by decide +kernel : decode cX0_init 23 = .ok (.aload_n 0, 1)) rfl) ?_
  refine mm_fc (ss_iconst hx hb (by decide +kernel : decode cX0_init 24 = .ok (.iconst 0, 1)) (by decide)) ?_
  refine mm_fc (sc_put X rfl in_X0 tyX0_ok nmX0 (by decide) rfl rfl wd_1_237 (by decide +kernel : decode cX0_init 25 = .ok (.putfield 22, 3))) ?_
  refine mm_fc (ss_aload_n hx hb (by decide +kernel : decode cX0_init 28 = .ok (.aload_n 0, 1)) rfl) ?_
  refine mm_fc (ss_sipush hx hb (by decide +kernel : decode cX0_init 29 = .ok (.sipush 2048, 3)) (by decide)) ?_
  refine mm_fc (sc_newa X (atype := .int) (t0 := 0) wd_1_42 rfl rfl rfl (by decide) (fun _ q => by cases q) (by decide +kernel : decode cX0_init 32 = .ok (.newarray .int, 2))) ?_
  refine mm_fc (sc_putF X rfl in_X0 tyX0_ok nmX0 (by decide) rfl rfl rfl rfl wd_1_238 (by decide +kernel : decode cX0_init 34 = .ok (.putfield 26, 3))) ?_
  refine mm_fc (ss_aload_n hx hb (by decide +kernel : decode cX0_init 37 = .ok (.aload_n 0, 1)) rfl) ?_
  refine mm_fc (ss_sipush hx hb (by decide +kernel : decode cX0_init 38 = .ok (.sipush 256, 3)) (by decide)) ?_
  refine mm_fc (sc_newa X (atype := .boolean) (t0 := 3) wd_2_34 rfl rfl rfl (by decide) (fun _ q => by cases q) (by decide +kernel : decode cX0_init 41 = .ok (.newarray .boolean, 2))) ?_
  refine mm_fc (sc_putF X rfl in_X0 tyX0_ok nmX0 (by decide) rfl rfl rfl rfl wd_1_239 (by decide +kernel : decode cX0_init 43 = .ok (.putfield 29, 3))) ?_
  refine mm_fc (ss_aload_n hx hb (by decide +kernel : decode cX0_init 46 = .ok (.aload_n 0, 1)) rfl) ?_
  refine mm_fc (ss_sipush hx hb (by decide +kernel : decode cX0_init 47 = .ok (.sipush 310, 3)) (by decide)) ?_
  refine mm_fc (sc_newa X (atype := .int) (t0 := 0) wd_1_42 rfl rfl rfl (by decide) (fun _ q => by cases q) (by decide +kernel : decode cX0_init 50 = .ok (.newarray .int, 2))) ?_
  refine mm_fc (sc_putF X rfl in_X0 tyX0_ok nmX0 (by decide) rfl rfl rfl rfl wd_2_0 (by decide +kernel : decode cX0_init 52 = .ok (.putfield 33, 3))) ?_
  refine mm_fc (ss_aload_n hx hb (by decide +kernel : decode cX0_init 55 = .ok (.aload_n 0, 1)) rfl) ?_
  refine mm_fc (ss_iconst hx hb (by decide +kernel : decode cX0_init 56 = .ok (.iconst (-1), 1)) (by decide)) ?_
  refine mm_fc (sc_put X rfl in_X0 tyX0_ok nmX0 (by decide) rfl rfl wd_2_1 (by decide +kernel : decode cX0_init 57 = .ok (.putfield 36, 3))) ?_
  refine mm_fc (ss_aload_n hx hb (by decide +kernel : decode cX0_init 60 = .ok (.aload_n 0, 1)) rfl) ?_
  refine mm_fc (ss_iconst hx hb (by decide +kernel : decode cX0_init 61 = .ok (.iconst (-1), 1)) (by decide)) ?_
  refine mm_fc (sc_put X rfl in_X0 tyX0_ok nmX0 (by decide) rfl rfl wd_2_3 (by decide +kernel : decode cX0_init 62 = .ok (.putfield 39, 3))) ?_
  refine mm_fc (ss_aload_n hx hb (by decide +kernel : decode cX0_init 65 = .ok (.aload_n 0, 1)) rfl) ?_
  refine mm_fc (ss_iconst hx hb (by decide +kernel : decode cX0_init 66 = .ok (.iconst (-1), 1)) (by decide)) ?_
  refine mm_fc (sc_put X rfl in_X0 tyX0_ok nmX0 (by decide) rfl rfl wd_2_5 (by decide +kernel : decode cX0_init 67 = .ok (.putfield 42, 3))) ?_
  refine mm_fc (ss_aload_n hx hb (by decide +kernel : decode cX0_init 70 = .ok (.aload_n 0, 1)) rfl) ?_
  refine mm_fc (ss_iconst hx hb (by decide +kernel : decode cX0_init 71 = .ok (.iconst (-1), 1)) (by decide)) ?_
  refine mm_fc (sc_put X rfl in_X0 tyX0_ok nmX0 (by decide) rfl rfl wd_2_7 (by decide +kernel : decode cX0_init 72 = .ok (.putfield 45, 3))) ?_
  refine mm_fc (ss_aload_n hx hb (by decide +kernel : decode cX0_init 75 = .ok (.aload_n 0, 1)) rfl) ?_
  refine mm_fc (ss_iconst hx hb (by decide +kernel : decode cX0_init 76 = .ok (.iconst (-1), 1)) (by decide)) ?_
  refine mm_fc (sc_put X rfl in_X0 tyX0_ok nmX0 (by decide) rfl rfl wd_2_9 (by decide +kernel : decode cX0_init 77 = .ok (.putfield 48, 3))) ?_
  refine mm_fc (ss_vret (by decide +kernel : decode cX0_init 80 = .ok (.return_, 1)) rfl) ?_
  exact mm_fn
def cdc_X1_init : mm_K cc_H := [(0, s_aload 0 1), (1, c_obj 4), (4, s_aload 0 5), (5, s_pushI 1620 8), (8, c_newa 1 10), (10, c_put 1 0 (.array .int) 13), (13, s_aload 0 14), (14, s_pushI 4 15), (15, c_newa 1 17), (17, c_put 1 1 (.array .int) 20), (20, s_aload 0 21), (21, s_pushI 4 22), (22, c_newa 1 24), (24, c_put 1 2 (.array .int) 27), (27, s_aload 0 28), (28, s_pushI 25 30), (30, c_newa 1 32), (32, c_put 1 3 (.array .int) 35), (35, s_aload 0 36), (36, s_pushI 64 38), (38, c_newa 1 40), (40, c_put 1 4 (.array .int) 43), (43, s_aload 0 44), (44, s_pushI 0 45), (45, c_put 1 5 .int 48), (48, s_aload 0 49), (49, s_pushI 0 50), (50, c_put 1 6 .int 53), (53, s_vret)]
set_option maxRecDepth 100000 in
set_option maxHeartbeats 4000000 in
theorem okc_X1_init (l : Launch) : cc_CodeOK l cc_I0 RX1 "<init>" cX1_init 1 none cdc_X1_init := by
  intro p e R s m args below meth c Q σ cA D B c0 m0 cap capS d C X
  have hx := X.1
  have hb := X.2.1
  have hown := X.2.2.2.1
  have hts := X.2.2.2.2.1
  refine mm_fc (ss_aload_n hx hb (by decide +kernel : decode cX1_init 0 = .ok (.aload_n 0, 1)) rfl) ?_
  refine mm_fc (sc_obj X wd_1_87 wd_1_27 wd_1_28 (by decide +kernel : decode cX1_init 1 = .ok (.invokespecial 3, 3))) ?_
  refine mm_fc (ss_aload_n hx hb (by decide +kernel : decode cX1_init 4 = .ok (.aload_n 0, 1)) rfl) ?_
  refine mm_fc (ss_sipush hx hb (by decide +kernel : decode cX1_init 5 = .ok (.sipush 1620, 3)) (by decide)) ?_
  refine mm_fc (sc_newa X (atype := .int) (t0 := 0) wd_1_42 rfl rfl rfl (by decide) (fun _ q => by cases q) (by decide +kernel : decode cX1_init 8 = .ok (.newarray .int, 2))) ?_
  refine mm_fc (sc_putF X rfl in_X1 tyX1_ok nmX1 (by decide) rfl rfl rfl rfl wd_1_88 (by decide +kernel : decode cX1_init 10 = .ok (.putfield 9, 3))) ?_
  refine mm_fc (ss_aload_n hx hb (by decide +kernel : decode cX1_init 13 = .ok (.aload_n 0, 1)) rfl) ?_
  refine mm_fc (ss_iconst hx hb (by decide +kernel : decode cX1_init 14 = .ok (.iconst 4, 1)) (by decide)) ?_
  refine mm_fc (sc_newa X (atype := .int) (t0 := 0) wd_1_42 rfl rfl rfl (by decide) (fun _ q => by cases q) (by decide +kernel : decode cX1_init 15 = .ok (.newarray .int, 2))) ?_
  refine mm_fc (sc_putF X rfl in_X1 tyX1_ok nmX1 (by decide) rfl rfl rfl rfl wd_1_89 (by decide +kernel : decode cX1_init 17 = .ok (.putfield 15, 3))) ?_
  refine mm_fc (ss_aload_n hx hb (by decide +kernel : decode cX1_init 20 = .ok (.aload_n 0, 1)) rfl) ?_
  refine mm_fc (ss_iconst hx hb (by decide +kernel : decode cX1_init 21 = .ok (.iconst 4, 1)) (by decide)) ?_
  refine mm_fc (sc_newa X (atype := .int) (t0 := 0) wd_1_42 rfl rfl rfl (by decide) (fun _ q => by cases q) (by decide +kernel : decode cX1_init 22 = .ok (.newarray .int, 2))) ?_
  refine mm_fc (sc_putF X rfl in_X1 tyX1_ok nmX1 (by decide) rfl rfl rfl rfl wd_1_90 (by decide +kernel : decode cX1_init 24 = .ok (.putfield 18, 3))) ?_
  refine mm_fc (ss_aload_n hx hb (by decide +kernel : decode cX1_init 27 = .ok (.aload_n 0, 1)) rfl) ?_
  refine mm_fc (ss_bipush hx hb (by decide +kernel : decode cX1_init 28 = .ok (.bipush 25, 2)) (by decide)) ?_
  refine mm_fc (sc_newa X (atype := .int) (t0 := 0) wd_1_42 rfl rfl rfl (by decide) (fun _ q => by cases q) (by decide +kernel : decode cX1_init 30 = .ok (.newarray .int, 2))) ?_
  refine mm_fc (sc_putF X rfl in_X1 tyX1_ok nmX1 (by decide) rfl rfl rfl rfl wd_1_91 (by decide +kernel : decode cX1_init 32 = .ok (.putfield 21, 3))) ?_
  refine mm_fc (ss_aload_n hx hb (by decide +kernel : decode cX1_init 35 = .ok (.aload_n 0, 1)) rfl) ?_
  refine mm_fc (ss_bipush hx hb (by decide +kernel : decode cX1_init 36 = .ok (.bipush 64, 2)) (by decide)) ?_
  refine mm_fc (sc_newa X (atype := .int) (t0 := 0) wd_1_42 rfl rfl rfl (by decide) (fun _ q => by cases q) (by decide +kernel : decode cX1_init 38 = .ok (.newarray .int, 2))) ?_
  refine mm_fc (sc_putF X rfl in_X1 tyX1_ok nmX1 (by decide) rfl rfl rfl rfl wd_1_92 (by decide +kernel : decode cX1_init 40 = .ok (.putfield 24, 3))) ?_
  refine mm_fc (ss_aload_n hx hb (by decide +kernel : decode cX1_init 43 = .ok (.aload_n 0, 1)) rfl) ?_
  refine mm_fc (ss_iconst hx hb (by decide +kernel : decode cX1_init 44 = .ok (.iconst 0, 1)) (by decide)) ?_
  refine mm_fc (sc_put X rfl in_X1 tyX1_ok nmX1 (by decide) rfl rfl wd_1_93 (by decide +kernel : decode cX1_init 45 = .ok (.putfield 27, 3))) ?_
  refine mm_fc (ss_aload_n hx hb (by decide +kernel : decode cX1_init 48 = .ok (.aload_n 0, 1)) rfl) ?_
  refine mm_fc (ss_iconst hx hb (by decide +kernel : decode cX1_init 49 = .ok (.iconst 0, 1)) (by decide)) ?_
  refine mm_fc (sc_put X rfl in_X1 tyX1_ok nmX1 (by decide) rfl rfl wd_1_94 (by decide +kernel : decode cX1_init 50 = .ok (.putfield 31, 3))) ?_
  refine mm_fc (ss_vret (by decide +kernel : decode cX1_init 53 = .ok (.return_, 1)) rfl) ?_
  exact mm_fn
def cdc_X2_init : mm_K cc_H := [(0, s_aload 0 1), (1, c_obj 4), (4, s_aload 0 5), (5, s_pushI 0 6), (6, c_put 2 2 .int 9), (9, s_aload 0 10), (10, s_aload 1 11), (11, c_put 2 0 (.object "Retouched$Reader") 14), (14, s_aload 0 15), (15, s_aload 2 16), (16, c_put 2 1 (.object "Retouched$Code") 19), (19, s_vret)]
set_option maxRecDepth 100000 in
set_option maxHeartbeats 4000000 in
theorem okc_X2_init (l : Launch) : cc_CodeOK l cc_I0 RX2 "<init>" cX2_init 3 none cdc_X2_init := by
  intro p e R s m args below meth c Q σ cA D B c0 m0 cap capS d C X
  have hx := X.1
  have hb := X.2.1
  have hown := X.2.2.2.1
  have hts := X.2.2.2.2.1
  refine mm_fc (ss_aload_n hx hb (by decide +kernel : decode cX2_init 0 = .ok (.aload_n 0, 1)) rfl) ?_
  refine mm_fc (sc_obj X wd_1_123 wd_1_27 wd_1_28 (by decide +kernel : decode cX2_init 1 = .ok (.invokespecial 3, 3))) ?_
  refine mm_fc (ss_aload_n hx hb (by decide +kernel : decode cX2_init 4 = .ok (.aload_n 0, 1)) rfl) ?_
  refine mm_fc (ss_iconst hx hb (by decide +kernel : decode cX2_init 5 = .ok (.iconst 0, 1)) (by decide)) ?_
  refine mm_fc (sc_put X rfl in_X2 tyX2_ok nmX2 (by decide) rfl rfl wd_1_126 (by decide +kernel : decode cX2_init 6 = .ok (.putfield 9, 3))) ?_
  refine mm_fc (ss_aload_n hx hb (by decide +kernel : decode cX2_init 9 = .ok (.aload_n 0, 1)) rfl) ?_
  refine mm_fc (ss_aload_n hx hb (by decide +kernel : decode cX2_init 10 = .ok (.aload_n 1, 1)) rfl) ?_
  refine mm_fc (sc_putF X rfl in_X2 tyX2_ok nmX2 (by decide) rfl rfl rfl rfl wd_1_124 (by decide +kernel : decode cX2_init 11 = .ok (.putfield 15, 3))) ?_
  refine mm_fc (ss_aload_n hx hb (by decide +kernel : decode cX2_init 14 = .ok (.aload_n 0, 1)) rfl) ?_
  refine mm_fc (ss_aload_n hx hb (by decide +kernel : decode cX2_init 15 = .ok (.aload_n 2, 1)) rfl) ?_
  refine mm_fc (sc_put X rfl in_X2 tyX2_ok nmX2 (by decide) rfl rfl wd_1_125 (by decide +kernel : decode cX2_init 16 = .ok (.putfield 19, 3))) ?_
  refine mm_fc (ss_vret (by decide +kernel : decode cX2_init 19 = .ok (.return_, 1)) rfl) ?_
  exact mm_fn
def cdc_X3_init : mm_K cc_H := [(0, s_aload 0 1), (1, c_obj 4), (4, s_aload 0 5), (5, s_pushI 20 7), (7, c_newq 10), (10, c_put 3 0 (.array (.object "Retouched$Scene")) 13), (13, s_aload 0 14), (14, s_pushI 0 15), (15, c_put 3 1 .int 18), (18, s_aload 0 19), (19, s_pushI 0 20), (20, c_put 3 2 .int 23), (23, s_pushI 0 24), (24, s_istore 1 25), (25, s_iload 1 26), (26, s_pushI 20 28), (28, s_icmp (fun x y => y ≤ x) 50 31), (31, s_aload 0 32), (32, c_get 3 0 35), (35, s_iload 1 36), (36, c_new 7 [.null, .null, .null, .null, .null, .null, .null, .null, .int 0, .int 0, .int 0, .int 0] 39), (39, s_dup 40), (40, c_init 7 0 8 153 43), (43, c_aast 44), (44, s_iinc 1 1 47), (47, s_goto 25), (50, s_vret)]
set_option maxRecDepth 100000 in
set_option maxHeartbeats 4000000 in
theorem okc_X3_init (l : Launch) : cc_CodeOK l cc_I0 RX3 "<init>" cX3_init 2 none cdc_X3_init := by
  intro p e R s m args below meth c Q σ cA D B c0 m0 cap capS d C X
  have hx := X.1
  have hb := X.2.1
  have hown := X.2.2.2.1
  have hts := X.2.2.2.2.1
  refine mm_fc (ss_aload_n hx hb (by decide +kernel : decode cX3_init 0 = .ok (.aload_n 0, 1)) rfl) ?_
  refine mm_fc (sc_obj X wd_1_213 wd_1_27 wd_1_28 (by decide +kernel : decode cX3_init 1 = .ok (.invokespecial 3, 3))) ?_
  refine mm_fc (ss_aload_n hx hb (by decide +kernel : decode cX3_init 4 = .ok (.aload_n 0, 1)) rfl) ?_
  refine mm_fc (ss_bipush hx hb (by decide +kernel : decode cX3_init 5 = .ok (.bipush 20, 2)) (by decide)) ?_
  refine mm_fc (sc_newq X wd_1_214 (by decide +kernel : decode cX3_init 7 = .ok (.anewarray 9, 3))) ?_
  refine mm_fc (sc_putF X rfl in_X3 tyX3_ok nmX3 (by decide) rfl rfl rfl rfl wd_1_217 (by decide +kernel : decode cX3_init 10 = .ok (.putfield 11, 3))) ?_
  refine mm_fc (ss_aload_n hx hb (by decide +kernel : decode cX3_init 13 = .ok (.aload_n 0, 1)) rfl) ?_
  refine mm_fc (ss_iconst hx hb (by decide +kernel : decode cX3_init 14 = .ok (.iconst 0, 1)) (by decide)) ?_
  refine mm_fc (sc_put X rfl in_X3 tyX3_ok nmX3 (by decide) rfl rfl wd_1_218 (by decide +kernel : decode cX3_init 15 = .ok (.putfield 17, 3))) ?_
  refine mm_fc (ss_aload_n hx hb (by decide +kernel : decode cX3_init 18 = .ok (.aload_n 0, 1)) rfl) ?_
  refine mm_fc (ss_iconst hx hb (by decide +kernel : decode cX3_init 19 = .ok (.iconst 0, 1)) (by decide)) ?_
  refine mm_fc (sc_put X rfl in_X3 tyX3_ok nmX3 (by decide) rfl rfl wd_1_219 (by decide +kernel : decode cX3_init 20 = .ok (.putfield 21, 3))) ?_
  refine mm_fc (ss_iconst hx hb (by decide +kernel : decode cX3_init 23 = .ok (.iconst 0, 1)) (by decide)) ?_
  refine mm_fc (ss_istore_n hx hb (by decide +kernel : decode cX3_init 24 = .ok (.istore_n 1, 1)) rfl (by decide)) ?_
  refine mm_fc (ss_iload_n hx hb (by decide +kernel : decode cX3_init 25 = .ok (.iload_n 1, 1)) rfl) ?_
  refine mm_fc (ss_bipush hx hb (by decide +kernel : decode cX3_init 26 = .ok (.bipush 20, 2)) (by decide)) ?_
  refine mm_fc (ss_icmpge hx hb (by decide +kernel : decode cX3_init 28 = .ok (.if_icmp .ge 22, 3)) (by decide)) ?_
  refine mm_fc (ss_aload_n hx hb (by decide +kernel : decode cX3_init 31 = .ok (.aload_n 0, 1)) rfl) ?_
  refine mm_fc (sc_get X rfl in_X3 (by decide) wd_1_217 (by decide +kernel : decode cX3_init 32 = .ok (.getfield 11, 3))) ?_
  refine mm_fc (ss_iload_n hx hb (by decide +kernel : decode cX3_init 35 = .ok (.iload_n 1, 1)) rfl) ?_
  refine mm_fc (sc_new X rfl in_X7 tyX7_ok wd_1_214 wd_1_148 wd_1_8 (by decide +kernel) rfl rfl (by decide +kernel : decode cX3_init 36 = .ok (.new 9, 3))) ?_
  refine mm_fc (ss_dup hx hb (by decide +kernel : decode cX3_init 39 = .ok (.dup, 1))) ?_
  refine mm_fc (sc_initN X rfl wd_1_151 wd_1_8 wd_1_216 wd_1_150 rfl (by decide +kernel) (by decide +kernel) (by decide) (by decide +kernel : decode cX3_init 40 = .ok (.invokespecial 24, 3))) ?_
  refine mm_fc (sc_aast X (by decide +kernel : decode cX3_init 43 = .ok (.aastore, 1))) ?_
  refine mm_fc (ss_iinc hx hb (by decide +kernel : decode cX3_init 44 = .ok (.iinc 1 1, 3)) (by decide) (by decide)) ?_
  refine mm_fc (ss_goto hx hb (by decide +kernel : decode cX3_init 47 = .ok (.goto (-22), 3)) (by decide)) ?_
  refine mm_fc (ss_vret (by decide +kernel : decode cX3_init 50 = .ok (.return_, 1)) rfl) ?_
  exact mm_fn
def cdc_X4_init : mm_K cc_H := [(0, s_aload 0 1), (1, c_obj 4), (4, s_aload 0 5), (5, s_pushI 83 7), (7, c_newa 1 9), (9, c_put 4 0 (.array .int) 12), (12, s_aload 0 13), (13, s_pushI 0 14), (14, c_put 4 1 .int 17), (17, s_aload 0 18), (18, s_pushI 149 21), (21, c_put 4 2 .int 24), (24, s_aload 0 25), (25, c_new 7 [.null, .null, .null, .null, .null, .null, .null, .null, .int 0, .int 0, .int 0, .int 0] 28), (28, s_dup 29), (29, c_init 7 0 8 153 32), (32, c_put 4 3 (.object "Retouched$Scene") 35), (35, s_vret)]
set_option maxRecDepth 100000 in
set_option maxHeartbeats 4000000 in
theorem okc_X4_init (l : Launch) : cc_CodeOK l cc_I0 RX4 "<init>" cX4_init 1 none cdc_X4_init := by
  intro p e R s m args below meth c Q σ cA D B c0 m0 cap capS d C X
  have hx := X.1
  have hb := X.2.1
  have hown := X.2.2.2.1
  have hts := X.2.2.2.2.1
  refine mm_fc (ss_aload_n hx hb (by decide +kernel : decode cX4_init 0 = .ok (.aload_n 0, 1)) rfl) ?_
  refine mm_fc (sc_obj X wd_2_40 wd_1_27 wd_1_28 (by decide +kernel : decode cX4_init 1 = .ok (.invokespecial 3, 3))) ?_
  refine mm_fc (ss_aload_n hx hb (by decide +kernel : decode cX4_init 4 = .ok (.aload_n 0, 1)) rfl) ?_
  refine mm_fc (ss_bipush hx hb (by decide +kernel : decode cX4_init 5 = .ok (.bipush 83, 2)) (by decide)) ?_
  refine mm_fc (sc_newa X (atype := .int) (t0 := 0) wd_1_42 rfl rfl rfl (by decide) (fun _ q => by cases q) (by decide +kernel : decode cX4_init 7 = .ok (.newarray .int, 2))) ?_
  refine mm_fc (sc_putF X rfl in_X4 tyX4_ok nmX4 (by decide) rfl rfl rfl rfl wd_2_43 (by decide +kernel : decode cX4_init 9 = .ok (.putfield 9, 3))) ?_
  refine mm_fc (ss_aload_n hx hb (by decide +kernel : decode cX4_init 12 = .ok (.aload_n 0, 1)) rfl) ?_
  refine mm_fc (ss_iconst hx hb (by decide +kernel : decode cX4_init 13 = .ok (.iconst 0, 1)) (by decide)) ?_
  refine mm_fc (sc_put X rfl in_X4 tyX4_ok nmX4 (by decide) rfl rfl wd_2_44 (by decide +kernel : decode cX4_init 14 = .ok (.putfield 15, 3))) ?_
  refine mm_fc (ss_aload_n hx hb (by decide +kernel : decode cX4_init 17 = .ok (.aload_n 0, 1)) rfl) ?_
  refine mm_fc (ss_sipush hx hb (by decide +kernel : decode cX4_init 18 = .ok (.sipush 149, 3)) (by decide)) ?_
  refine mm_fc (sc_put X rfl in_X4 tyX4_ok nmX4 (by decide) rfl rfl wd_2_45 (by decide +kernel : decode cX4_init 21 = .ok (.putfield 19, 3))) ?_
  refine mm_fc (ss_aload_n hx hb (by decide +kernel : decode cX4_init 24 = .ok (.aload_n 0, 1)) rfl) ?_
  refine mm_fc (sc_new X rfl in_X7 tyX7_ok wd_2_41 wd_1_148 wd_1_8 (by decide +kernel) rfl rfl (by decide +kernel : decode cX4_init 25 = .ok (.new 22, 3))) ?_
  refine mm_fc (ss_dup hx hb (by decide +kernel : decode cX4_init 28 = .ok (.dup, 1))) ?_
  refine mm_fc (sc_initN X rfl wd_1_151 wd_1_8 wd_2_42 wd_1_150 rfl (by decide +kernel) (by decide +kernel) (by decide) (by decide +kernel : decode cX4_init 29 = .ok (.invokespecial 24, 3))) ?_
  refine mm_fc (sc_putF X rfl in_X4 tyX4_ok nmX4 (by decide) rfl rfl rfl rfl wd_2_46 (by decide +kernel : decode cX4_init 32 = .ok (.putfield 25, 3))) ?_
  refine mm_fc (ss_vret (by decide +kernel : decode cX4_init 35 = .ok (.return_, 1)) rfl) ?_
  exact mm_fn
def cdc_X5_init : mm_K cc_H := [(0, s_aload 0 1), (1, c_obj 4), (4, s_aload 0 5), (5, c_new 1 [.null, .null, .null, .null, .null, .int 0, .int 0] 8), (8, s_dup 9), (9, c_init 1 0 5 1717 12), (12, c_put 5 0 (.object "Retouched$Code") 15), (15, s_aload 0 16), (16, s_pushI 25 18), (18, c_put 5 1 .int 21), (21, s_vret)]
set_option maxRecDepth 100000 in
set_option maxHeartbeats 4000000 in
theorem okc_X5_init (l : Launch) : cc_CodeOK l cc_I0 RX5 "<init>" cX5_init 1 none cdc_X5_init := by
  intro p e R s m args below meth c Q σ cA D B c0 m0 cap capS d C X
  have hx := X.1
  have hb := X.2.1
  have hown := X.2.2.2.1
  have hts := X.2.2.2.2.1
  refine mm_fc (ss_aload_n hx hb (by decide +kernel : decode cX5_init 0 = .ok (.aload_n 0, 1)) rfl) ?_
  refine mm_fc (sc_obj X wd_1_81 wd_1_27 wd_1_28 (by decide +kernel : decode cX5_init 1 = .ok (.invokespecial 3, 3))) ?_
  refine mm_fc (ss_aload_n hx hb (by decide +kernel : decode cX5_init 4 = .ok (.aload_n 0, 1)) rfl) ?_
  refine mm_fc (sc_new X rfl in_X1 tyX1_ok wd_1_82 wd_1_83 wd_1_5 (by decide +kernel) rfl rfl (by decide +kernel : decode cX5_init 5 = .ok (.new 9, 3))) ?_
  refine mm_fc (ss_dup hx hb (by decide +kernel : decode cX5_init 8 = .ok (.dup, 1))) ?_
  refine mm_fc (sc_initN X rfl wd_1_86 wd_1_5 wd_1_84 wd_1_85 rfl (by decide +kernel) (by decide +kernel) (by decide) (by decide +kernel : decode cX5_init 9 = .ok (.invokespecial 11, 3))) ?_
  refine mm_fc (sc_putF X rfl in_X5 tyX5_ok nmX5 (by decide) rfl rfl rfl rfl wd_1_110 (by decide +kernel : decode cX5_init 12 = .ok (.putfield 12, 3))) ?_
  refine mm_fc (ss_aload_n hx hb (by decide +kernel : decode cX5_init 15 = .ok (.aload_n 0, 1)) rfl) ?_
  refine mm_fc (ss_bipush hx hb (by decide +kernel : decode cX5_init 16 = .ok (.bipush 25, 2)) (by decide)) ?_
  refine mm_fc (sc_put X rfl in_X5 tyX5_ok nmX5 (by decide) rfl rfl wd_1_112 (by decide +kernel : decode cX5_init 18 = .ok (.putfield 18, 3))) ?_
  refine mm_fc (ss_vret (by decide +kernel : decode cX5_init 21 = .ok (.return_, 1)) rfl) ?_
  exact mm_fn
def cdc_X6_init : mm_K cc_H := [(0, s_aload 0 1), (1, c_obj 4), (4, s_aload 0 5), (5, s_pushI 0 6), (6, c_put 6 1 .int 9), (9, s_aload 0 10), (10, s_pushI 0 11), (11, c_put 6 2 .int 14), (14, s_aload 0 15), (15, s_pushI 0 16), (16, c_put 6 3 .int 19), (19, s_aload 0 20), (20, s_pushI 0 21), (21, c_put 6 4 .int 24), (24, s_aload 0 25), (25, s_pushI 0 26), (26, c_put 6 5 .int 29), (29, s_aload 0 30), (30, s_pushI (-1) 31), (31, c_put 6 6 .int 34), (34, s_aload 0 35), (35, s_aload 1 36), (36, c_put 6 0 (.object "Retouched$Tape") 39), (39, s_vret)]
set_option maxRecDepth 100000 in
set_option maxHeartbeats 4000000 in
theorem okc_X6_init (l : Launch) : cc_CodeOK l cc_I0 RX6 "<init>" cX6_init 2 none cdc_X6_init := by
  intro p e R s m args below meth c Q σ cA D B c0 m0 cap capS d C X
  have hx := X.1
  have hb := X.2.1
  have hown := X.2.2.2.1
  have hts := X.2.2.2.2.1
  refine mm_fc (ss_aload_n hx hb (by decide +kernel : decode cX6_init 0 = .ok (.aload_n 0, 1)) rfl) ?_
  refine mm_fc (sc_obj X wd_1_48 wd_1_27 wd_1_28 (by decide +kernel : decode cX6_init 1 = .ok (.invokespecial 3, 3))) ?_
  refine mm_fc (ss_aload_n hx hb (by decide +kernel : decode cX6_init 4 = .ok (.aload_n 0, 1)) rfl) ?_
  refine mm_fc (ss_iconst hx hb (by decide +kernel : decode cX6_init 5 = .ok (.iconst 0, 1)) (by decide)) ?_
  refine mm_fc (sc_put X rfl in_X6 tyX6_ok nmX6 (by decide) rfl rfl wd_1_50 (by decide +kernel : decode cX6_init 6 = .ok (.putfield 9, 3))) ?_
  refine mm_fc (ss_aload_n hx hb (by decide +kernel : decode cX6_init 9 = .ok (.aload_n 0, 1)) rfl) ?_
  refine mm_fc (ss_iconst hx hb (by decide +kernel : decode cX6_init 10 = .ok (.iconst 0, 1)) (by decide)) ?_
  refine mm_fc (sc_put X rfl in_X6 tyX6_ok nmX6 (by decide) rfl rfl wd_1_51 (by decide +kernel : decode cX6_init 11 = .ok (.putfield 15, 3))) ?_
  refine mm_fc (ss_aload_n hx hb (by decide +kernel : decode cX6_init 14 = .ok (.aload_n 0, 1)) rfl) ?_
  refine mm_fc (ss_iconst hx hb (by decide +kernel : decode cX6_init 15 = .ok (.iconst 0, 1)) (by decide)) ?_
  refine mm_fc (sc_put X rfl in_X6 tyX6_ok nmX6 (by decide) rfl rfl wd_1_52 (by decide +kernel : decode cX6_init 16 = .ok (.putfield 18, 3))) ?_
  refine mm_fc (ss_aload_n hx hb (by decide +kernel : decode cX6_init 19 = .ok (.aload_n 0, 1)) rfl) ?_
  refine mm_fc (ss_iconst hx hb (by decide +kernel : decode cX6_init 20 = .ok (.iconst 0, 1)) (by decide)) ?_
  refine mm_fc (sc_put X rfl in_X6 tyX6_ok nmX6 (by decide) rfl rfl wd_1_53 (by decide +kernel : decode cX6_init 21 = .ok (.putfield 21, 3))) ?_
  refine mm_fc (ss_aload_n hx hb (by decide +kernel : decode cX6_init 24 = .ok (.aload_n 0, 1)) rfl) ?_
  refine mm_fc (ss_iconst hx hb (by decide +kernel : decode cX6_init 25 = .ok (.iconst 0, 1)) (by decide)) ?_
  refine mm_fc (sc_put X rfl in_X6 tyX6_ok nmX6 (by decide) rfl rfl wd_1_57 (by decide +kernel : decode cX6_init 26 = .ok (.putfield 24, 3))) ?_
  refine mm_fc (ss_aload_n hx hb (by decide +kernel : decode cX6_init 29 = .ok (.aload_n 0, 1)) rfl) ?_
  refine mm_fc (ss_iconst hx hb (by decide +kernel : decode cX6_init 30 = .ok (.iconst (-1), 1)) (by decide)) ?_
  refine mm_fc (sc_put X rfl in_X6 tyX6_ok nmX6 (by decide) rfl rfl wd_1_59 (by decide +kernel : decode cX6_init 31 = .ok (.putfield 27, 3))) ?_
  refine mm_fc (ss_aload_n hx hb (by decide +kernel : decode cX6_init 34 = .ok (.aload_n 0, 1)) rfl) ?_
  refine mm_fc (ss_aload_n hx hb (by decide +kernel : decode cX6_init 35 = .ok (.aload_n 1, 1)) rfl) ?_
  refine mm_fc (sc_putF X rfl in_X6 tyX6_ok nmX6 (by decide) rfl rfl rfl rfl wd_1_49 (by decide +kernel : decode cX6_init 36 = .ok (.putfield 30, 3))) ?_
  refine mm_fc (ss_vret (by decide +kernel : decode cX6_init 39 = .ok (.return_, 1)) rfl) ?_
  exact mm_fn
def cdc_X7_init : mm_K cc_H := [(0, s_aload 0 1), (1, c_obj 4), (4, s_aload 0 5), (5, s_pushI 8 7), (7, c_newa 1 9), (9, c_put 7 0 (.array .int) 12), (12, s_aload 0 13), (13, s_pushI 8 15), (15, c_newa 1 17), (17, c_put 7 1 (.array .int) 20), (20, s_aload 0 21), (21, s_pushI 8 23), (23, c_newa 1 25), (25, c_put 7 2 (.array .int) 28), (28, s_aload 0 29), (29, s_pushI 8 31), (31, c_newa 1 33), (33, c_put 7 3 (.array .int) 36), (36, s_aload 0 37), (37, s_pushI 8 39), (39, c_newa 1 41), (41, c_put 7 4 (.array .int) 44), (44, s_aload 0 45), (45, s_pushI 64 47), (47, c_newa 1 49), (49, c_put 7 5 (.array .int) 52), (52, s_aload 0 53), (53, s_pushI 9 55), (55, c_newa 1 57), (57, c_put 7 6 (.array .int) 60), (60, s_aload 0 61), (61, s_pushI 40 63), (63, c_newa 1 65), (65, c_put 7 7 (.array .int) 68), (68, s_aload 0 69), (69, s_pushI 0 70), (70, c_put 7 8 .int 73), (73, s_aload 0 74), (74, s_pushI 0 75), (75, c_put 7 9 .int 78), (78, s_aload 0 79), (79, s_pushI 0 80), (80, c_put 7 10 .int 83), (83, s_aload 0 84), (84, s_pushI 0 85), (85, c_put 7 11 .int 88), (88, s_vret)]
set_option maxRecDepth 100000 in
set_option maxHeartbeats 4000000 in
theorem okc_X7_init (l : Launch) : cc_CodeOK l cc_I0 RX7 "<init>" cX7_init 1 none cdc_X7_init := by
  intro p e R s m args below meth c Q σ cA D B c0 m0 cap capS d C X
  have hx := X.1
  have hb := X.2.1
  have hown := X.2.2.2.1
  have hts := X.2.2.2.2.1
  refine mm_fc (ss_aload_n hx hb (by decide +kernel : decode cX7_init 0 = .ok (.aload_n 0, 1)) rfl) ?_
  refine mm_fc (sc_obj X wd_1_152 wd_1_27 wd_1_28 (by decide +kernel : decode cX7_init 1 = .ok (.invokespecial 3, 3))) ?_
  refine mm_fc (ss_aload_n hx hb (by decide +kernel : decode cX7_init 4 = .ok (.aload_n 0, 1)) rfl) ?_
  refine mm_fc (ss_bipush hx hb (by decide +kernel : decode cX7_init 5 = .ok (.bipush 8, 2)) (by decide)) ?_
  refine mm_fc (sc_newa X (atype := .int) (t0 := 0) wd_1_42 rfl rfl rfl (by decide) (fun _ q => by cases q) (by decide +kernel : decode cX7_init 7 = .ok (.newarray .int, 2))) ?_
  refine mm_fc (sc_putF X rfl in_X7 tyX7_ok nmX7 (by decide) rfl rfl rfl rfl wd_1_153 (by decide +kernel : decode cX7_init 9 = .ok (.putfield 9, 3))) ?_
  refine mm_fc (ss_aload_n hx hb (by decide +kernel : decode cX7_init 12 = .ok (.aload_n 0, 1)) rfl) ?_
  refine mm_fc (ss_bipush hx hb (by decide +kernel : decode cX7_init 13 = .ok (.bipush 8, 2)) (by decide)) ?_
  refine mm_fc (sc_newa X (atype := .int) (t0 := 0) wd_1_42 rfl rfl rfl (by decide) (fun _ q => by cases q) (by decide +kernel : decode cX7_init 15 = .ok (.newarray .int, 2))) ?_
  refine mm_fc (sc_putF X rfl in_X7 tyX7_ok nmX7 (by decide) rfl rfl rfl rfl wd_1_154 (by decide +kernel : decode cX7_init 17 = .ok (.putfield 15, 3))) ?_
  refine mm_fc (ss_aload_n hx hb (by decide +kernel : decode cX7_init 20 = .ok (.aload_n 0, 1)) rfl) ?_
  refine mm_fc (ss_bipush hx hb (by decide +kernel : decode cX7_init 21 = .ok (.bipush 8, 2)) (by decide)) ?_
  refine mm_fc (sc_newa X (atype := .int) (t0 := 0) wd_1_42 rfl rfl rfl (by decide) (fun _ q => by cases q) (by decide +kernel : decode cX7_init 23 = .ok (.newarray .int, 2))) ?_
  refine mm_fc (sc_putF X rfl in_X7 tyX7_ok nmX7 (by decide) rfl rfl rfl rfl wd_1_155 (by decide +kernel : decode cX7_init 25 = .ok (.putfield 18, 3))) ?_
  refine mm_fc (ss_aload_n hx hb (by decide +kernel : decode cX7_init 28 = .ok (.aload_n 0, 1)) rfl) ?_
  refine mm_fc (ss_bipush hx hb (by decide +kernel : decode cX7_init 29 = .ok (.bipush 8, 2)) (by decide)) ?_
  refine mm_fc (sc_newa X (atype := .int) (t0 := 0) wd_1_42 rfl rfl rfl (by decide) (fun _ q => by cases q) (by decide +kernel : decode cX7_init 31 = .ok (.newarray .int, 2))) ?_
  refine mm_fc (sc_putF X rfl in_X7 tyX7_ok nmX7 (by decide) rfl rfl rfl rfl wd_1_156 (by decide +kernel : decode cX7_init 33 = .ok (.putfield 21, 3))) ?_
  refine mm_fc (ss_aload_n hx hb (by decide +kernel : decode cX7_init 36 = .ok (.aload_n 0, 1)) rfl) ?_
  refine mm_fc (ss_bipush hx hb (by decide +kernel : decode cX7_init 37 = .ok (.bipush 8, 2)) (by decide)) ?_
  refine mm_fc (sc_newa X (atype := .int) (t0 := 0) wd_1_42 rfl rfl rfl (by decide) (fun _ q => by cases q) (by decide +kernel : decode cX7_init 39 = .ok (.newarray .int, 2))) ?_
  refine mm_fc (sc_putF X rfl in_X7 tyX7_ok nmX7 (by decide) rfl rfl rfl rfl wd_1_157 (by decide +kernel : decode cX7_init 41 = .ok (.putfield 24, 3))) ?_
  refine mm_fc (ss_aload_n hx hb (by decide +kernel : decode cX7_init 44 = .ok (.aload_n 0, 1)) rfl) ?_
  refine mm_fc (ss_bipush hx hb (by decide +kernel : decode cX7_init 45 = .ok (.bipush 64, 2)) (by decide)) ?_
  refine mm_fc (sc_newa X (atype := .int) (t0 := 0) wd_1_42 rfl rfl rfl (by decide) (fun _ q => by cases q) (by decide +kernel : decode cX7_init 47 = .ok (.newarray .int, 2))) ?_
  refine mm_fc (sc_putF X rfl in_X7 tyX7_ok nmX7 (by decide) rfl rfl rfl rfl wd_1_158 (by decide +kernel : decode cX7_init 49 = .ok (.putfield 27, 3))) ?_
  refine mm_fc (ss_aload_n hx hb (by decide +kernel : decode cX7_init 52 = .ok (.aload_n 0, 1)) rfl) ?_
  refine mm_fc (ss_bipush hx hb (by decide +kernel : decode cX7_init 53 = .ok (.bipush 9, 2)) (by decide)) ?_
  refine mm_fc (sc_newa X (atype := .int) (t0 := 0) wd_1_42 rfl rfl rfl (by decide) (fun _ q => by cases q) (by decide +kernel : decode cX7_init 55 = .ok (.newarray .int, 2))) ?_
  refine mm_fc (sc_putF X rfl in_X7 tyX7_ok nmX7 (by decide) rfl rfl rfl rfl wd_1_159 (by decide +kernel : decode cX7_init 57 = .ok (.putfield 30, 3))) ?_
  refine mm_fc (ss_aload_n hx hb (by decide +kernel : decode cX7_init 60 = .ok (.aload_n 0, 1)) rfl) ?_
  refine mm_fc (ss_bipush hx hb (by decide +kernel : decode cX7_init 61 = .ok (.bipush 40, 2)) (by decide)) ?_
  refine mm_fc (sc_newa X (atype := .int) (t0 := 0) wd_1_42 rfl rfl rfl (by decide) (fun _ q => by cases q) (by decide +kernel : decode cX7_init 63 = .ok (.newarray .int, 2))) ?_
  refine mm_fc (sc_putF X rfl in_X7 tyX7_ok nmX7 (by decide) rfl rfl rfl rfl wd_1_160 (by decide +kernel : decode cX7_init 65 = .ok (.putfield 33, 3))) ?_
  refine mm_fc (ss_aload_n hx hb (by decide +kernel : decode cX7_init 68 = .ok (.aload_n 0, 1)) rfl) ?_
  refine mm_fc (ss_iconst hx hb (by decide +kernel : decode cX7_init 69 = .ok (.iconst 0, 1)) (by decide)) ?_
  refine mm_fc (sc_put X rfl in_X7 tyX7_ok nmX7 (by decide) rfl rfl wd_1_161 (by decide +kernel : decode cX7_init 70 = .ok (.putfield 36, 3))) ?_
  refine mm_fc (ss_aload_n hx hb (by decide +kernel : decode cX7_init 73 = .ok (.aload_n 0, 1)) rfl) ?_
  refine mm_fc (ss_iconst hx hb (by decide +kernel : decode cX7_init 74 = .ok (.iconst 0, 1)) (by decide)) ?_
  refine mm_fc (sc_put X rfl in_X7 tyX7_ok nmX7 (by decide) rfl rfl wd_1_164 (by decide +kernel : decode cX7_init 75 = .ok (.putfield 40, 3))) ?_
  refine mm_fc (ss_aload_n hx hb (by decide +kernel : decode cX7_init 78 = .ok (.aload_n 0, 1)) rfl) ?_
  refine mm_fc (ss_iconst hx hb (by decide +kernel : decode cX7_init 79 = .ok (.iconst 0, 1)) (by decide)) ?_
  refine mm_fc (sc_put X rfl in_X7 tyX7_ok nmX7 (by decide) rfl rfl wd_1_170 (by decide +kernel : decode cX7_init 80 = .ok (.putfield 43, 3))) ?_
  refine mm_fc (ss_aload_n hx hb (by decide +kernel : decode cX7_init 83 = .ok (.aload_n 0, 1)) rfl) ?_
  refine mm_fc (ss_iconst hx hb (by decide +kernel : decode cX7_init 84 = .ok (.iconst 0, 1)) (by decide)) ?_
  refine mm_fc (sc_put X rfl in_X7 tyX7_ok nmX7 (by decide) rfl rfl wd_1_177 (by decide +kernel : decode cX7_init 85 = .ok (.putfield 46, 3))) ?_
  refine mm_fc (ss_vret (by decide +kernel : decode cX7_init 88 = .ok (.return_, 1)) rfl) ?_
  exact mm_fn
def cdc_X8_init : mm_K cc_H := [(0, s_aload 0 1), (1, c_obj 4), (4, s_aload 0 5), (5, s_pushI 1600 8), (8, c_newa 1 10), (10, c_put 8 0 (.array .int) 13), (13, s_aload 0 14), (14, s_pushI 0 15), (15, c_put 8 1 .int 18), (18, s_vret)]
set_option maxRecDepth 100000 in
set_option maxHeartbeats 4000000 in
theorem okc_X8_init (l : Launch) : cc_CodeOK l cc_I0 RX8 "<init>" cX8_init 1 none cdc_X8_init := by
  intro p e R s m args below meth c Q σ cA D B c0 m0 cap capS d C X
  have hx := X.1
  have hb := X.2.1
  have hown := X.2.2.2.1
  have hts := X.2.2.2.2.1
  refine mm_fc (ss_aload_n hx hb (by decide +kernel : decode cX8_init 0 = .ok (.aload_n 0, 1)) rfl) ?_
  refine mm_fc (sc_obj X wd_1_34 wd_1_27 wd_1_28 (by decide +kernel : decode cX8_init 1 = .ok (.invokespecial 3, 3))) ?_
  refine mm_fc (ss_aload_n hx hb (by decide +kernel : decode cX8_init 4 = .ok (.aload_n 0, 1)) rfl) ?_
  refine mm_fc (ss_sipush hx hb (by decide +kernel : decode cX8_init 5 = .ok (.sipush 1600, 3)) (by decide)) ?_
  refine mm_fc (sc_newa X (atype := .int) (t0 := 0) wd_1_42 rfl rfl rfl (by decide) (fun _ q => by cases q) (by decide +kernel : decode cX8_init 8 = .ok (.newarray .int, 2))) ?_
  refine mm_fc (sc_putF X rfl in_X8 tyX8_ok nmX8 (by decide) rfl rfl rfl rfl wd_1_35 (by decide +kernel : decode cX8_init 10 = .ok (.putfield 9, 3))) ?_
  refine mm_fc (ss_aload_n hx hb (by decide +kernel : decode cX8_init 13 = .ok (.aload_n 0, 1)) rfl) ?_
  refine mm_fc (ss_iconst hx hb (by decide +kernel : decode cX8_init 14 = .ok (.iconst 0, 1)) (by decide)) ?_
  refine mm_fc (sc_put X rfl in_X8 tyX8_ok nmX8 (by decide) rfl rfl wd_1_36 (by decide +kernel : decode cX8_init 15 = .ok (.putfield 15, 3))) ?_
  refine mm_fc (ss_vret (by decide +kernel : decode cX8_init 18 = .ok (.return_, 1)) rfl) ?_
  exact mm_fn
def cdc_X9_init : mm_K cc_H := [(0, s_aload 0 1), (1, c_obj 4), (4, s_aload 0 5), (5, s_aload 1 6), (6, c_put 9 0 (.object "Retouched$Reader") 9), (9, s_aload 0 10), (10, s_aload 2 11), (11, c_put 9 1 (.object "Retouched$Formulas") 14), (14, s_vret)]
set_option maxRecDepth 100000 in
set_option maxHeartbeats 4000000 in
theorem okc_X9_init (l : Launch) : cc_CodeOK l cc_I0 RX9 "<init>" cX9_init 3 none cdc_X9_init := by
  intro p e R s m args below meth c Q σ cA D B c0 m0 cap capS d C X
  have hx := X.1
  have hb := X.2.1
  have hown := X.2.2.2.1
  have hts := X.2.2.2.2.1
  refine mm_fc (ss_aload_n hx hb (by decide +kernel : decode cX9_init 0 = .ok (.aload_n 0, 1)) rfl) ?_
  refine mm_fc (sc_obj X wd_1_139 wd_1_27 wd_1_28 (by decide +kernel : decode cX9_init 1 = .ok (.invokespecial 3, 3))) ?_
  refine mm_fc (ss_aload_n hx hb (by decide +kernel : decode cX9_init 4 = .ok (.aload_n 0, 1)) rfl) ?_
  refine mm_fc (ss_aload_n hx hb (by decide +kernel : decode cX9_init 5 = .ok (.aload_n 1, 1)) rfl) ?_
  refine mm_fc (sc_putF X rfl in_X9 tyX9_ok nmX9 (by decide) rfl rfl rfl rfl wd_1_140 (by decide +kernel : decode cX9_init 6 = .ok (.putfield 9, 3))) ?_
  refine mm_fc (ss_aload_n hx hb (by decide +kernel : decode cX9_init 9 = .ok (.aload_n 0, 1)) rfl) ?_
  refine mm_fc (ss_aload_n hx hb (by decide +kernel : decode cX9_init 10 = .ok (.aload_n 2, 1)) rfl) ?_
  refine mm_fc (sc_putF X rfl in_X9 tyX9_ok nmX9 (by decide) rfl rfl rfl rfl wd_1_141 (by decide +kernel : decode cX9_init 11 = .ok (.putfield 15, 3))) ?_
  refine mm_fc (ss_vret (by decide +kernel : decode cX9_init 14 = .ok (.return_, 1)) rfl) ?_
  exact mm_fn
def cdc_X10_init : mm_K cc_H := [(0, s_aload 0 1), (1, c_obj 4), (4, s_aload 0 5), (5, c_new 7 [.null, .null, .null, .null, .null, .null, .null, .null, .int 0, .int 0, .int 0, .int 0] 8), (8, s_dup 9), (9, c_init 7 0 8 153 12), (12, c_put 10 0 (.object "Retouched$Scene") 15), (15, s_aload 0 16), (16, c_new 1 [.null, .null, .null, .null, .null, .int 0, .int 0] 19), (19, s_dup 20), (20, c_init 1 0 5 1717 23), (23, c_put 10 1 (.object "Retouched$Code") 26), (26, s_aload 0 27), (27, s_pushI 48 29), (29, c_newa 1 31), (31, c_put 10 2 (.array .int) 34), (34, s_aload 0 35), (35, s_pushI 0 36), (36, c_put 10 3 .int 39), (39, s_aload 0 40), (40, s_pushI 0 41), (41, c_put 10 4 .int 44), (44, s_aload 0 45), (45, c_get 10 1 48), (48, c_callV 1 13 0 0 0 51), (51, s_vret)]
set_option maxRecDepth 100000 in
set_option maxHeartbeats 4000000 in
theorem okc_X10_init (l : Launch) : cc_CodeOK l cc_I0 RX10 "<init>" cX10_init 1 none cdc_X10_init := by
  intro p e R s m args below meth c Q σ cA D B c0 m0 cap capS d C X
  have hx := X.1
  have hb := X.2.1
  have hown := X.2.2.2.1
  have hts := X.2.2.2.2.1
  refine mm_fc (ss_aload_n hx hb (by decide +kernel : decode cX10_init 0 = .ok (.aload_n 0, 1)) rfl) ?_
  refine mm_fc (sc_obj X wd_2_61 wd_1_27 wd_1_28 (by decide +kernel : decode cX10_init 1 = .ok (.invokespecial 3, 3))) ?_
  refine mm_fc (ss_aload_n hx hb (by decide +kernel : decode cX10_init 4 = .ok (.aload_n 0, 1)) rfl) ?_
  refine mm_fc (sc_new X rfl in_X7 tyX7_ok wd_2_62 wd_1_148 wd_1_8 (by decide +kernel) rfl rfl (by decide +kernel : decode cX10_init 5 = .ok (.new 9, 3))) ?_
  refine mm_fc (ss_dup hx hb (by decide +kernel : decode cX10_init 8 = .ok (.dup, 1))) ?_
  refine mm_fc (sc_initN X rfl wd_1_151 wd_1_8 wd_2_63 wd_1_150 rfl (by decide +kernel) (by decide +kernel) (by decide) (by decide +kernel : decode cX10_init 9 = .ok (.invokespecial 11, 3))) ?_
  refine mm_fc (sc_putF X rfl in_X10 tyX10_ok nmX10 (by decide) rfl rfl rfl rfl wd_2_70 (by decide +kernel : decode cX10_init 12 = .ok (.putfield 12, 3))) ?_
  refine mm_fc (ss_aload_n hx hb (by decide +kernel : decode cX10_init 15 = .ok (.aload_n 0, 1)) rfl) ?_
  refine mm_fc (sc_new X rfl in_X1 tyX1_ok wd_2_64 wd_1_83 wd_1_5 (by decide +kernel) rfl rfl (by decide +kernel : decode cX10_init 16 = .ok (.new 18, 3))) ?_
  refine mm_fc (ss_dup hx hb (by decide +kernel : decode cX10_init 19 = .ok (.dup, 1))) ?_
  refine mm_fc (sc_initN X rfl wd_1_86 wd_1_5 wd_2_65 wd_1_85 rfl (by decide +kernel) (by decide +kernel) (by decide) (by decide +kernel : decode cX10_init 20 = .ok (.invokespecial 20, 3))) ?_
  refine mm_fc (sc_putF X rfl in_X10 tyX10_ok nmX10 (by decide) rfl rfl rfl rfl wd_2_73 (by decide +kernel : decode cX10_init 23 = .ok (.putfield 21, 3))) ?_
  refine mm_fc (ss_aload_n hx hb (by decide +kernel : decode cX10_init 26 = .ok (.aload_n 0, 1)) rfl) ?_
  refine mm_fc (ss_bipush hx hb (by decide +kernel : decode cX10_init 27 = .ok (.bipush 48, 2)) (by decide)) ?_
  refine mm_fc (sc_newa X (atype := .int) (t0 := 0) wd_1_42 rfl rfl rfl (by decide) (fun _ q => by cases q) (by decide +kernel : decode cX10_init 29 = .ok (.newarray .int, 2))) ?_
  refine mm_fc (sc_putF X rfl in_X10 tyX10_ok nmX10 (by decide) rfl rfl rfl rfl wd_2_75 (by decide +kernel : decode cX10_init 31 = .ok (.putfield 25, 3))) ?_
  refine mm_fc (ss_aload_n hx hb (by decide +kernel : decode cX10_init 34 = .ok (.aload_n 0, 1)) rfl) ?_
  refine mm_fc (ss_iconst hx hb (by decide +kernel : decode cX10_init 35 = .ok (.iconst 0, 1)) (by decide)) ?_
  refine mm_fc (sc_put X rfl in_X10 tyX10_ok nmX10 (by decide) rfl rfl wd_2_76 (by decide +kernel : decode cX10_init 36 = .ok (.putfield 29, 3))) ?_
  refine mm_fc (ss_aload_n hx hb (by decide +kernel : decode cX10_init 39 = .ok (.aload_n 0, 1)) rfl) ?_
  refine mm_fc (ss_iconst hx hb (by decide +kernel : decode cX10_init 40 = .ok (.iconst 0, 1)) (by decide)) ?_
  refine mm_fc (sc_put X rfl in_X10 tyX10_ok nmX10 (by decide) rfl rfl wd_2_79 (by decide +kernel : decode cX10_init 41 = .ok (.putfield 33, 3))) ?_
  refine mm_fc (ss_aload_n hx hb (by decide +kernel : decode cX10_init 44 = .ok (.aload_n 0, 1)) rfl) ?_
  refine mm_fc (sc_get X rfl in_X10 (by decide) wd_2_73 (by decide +kernel : decode cX10_init 45 = .ok (.getfield 21, 3))) ?_
  refine mm_fc (sc_callV X rfl rfl wd_2_69 wd_1_5 wd_2_66 wd_2_67 wd_2_68 (by decide +kernel) (by decide +kernel) (by decide) (by decide +kernel : decode cX10_init 48 = .ok (.invokevirtual 36, 3))) ?_
  refine mm_fc (ss_vret (by decide +kernel : decode cX10_init 51 = .ok (.return_, 1)) rfl) ?_
  exact mm_fn
def cdc_X11_init : mm_K cc_H := [(0, s_aload 0 1), (1, c_obj 4), (4, s_aload 0 5), (5, c_new 8 [.null, .int 0] 8), (8, s_dup 9), (9, c_init 8 0 1 1600 12), (12, c_put 11 0 (.object "Retouched$Tape") 15), (15, s_aload 0 16), (16, c_new 6 [.null, .int 0, .int 0, .int 0, .int 0, .int 0, .int 0] 19), (19, s_dup 20), (20, s_aload 0 21), (21, c_get 11 0 24), (24, c_init 6 1 0 0 27), (27, c_put 11 1 (.object "Retouched$Reader") 30), (30, s_aload 0 31), (31, c_new 5 [.null, .int 0] 34), (34, s_dup 35), (35, c_init 5 0 6 1724 38), (38, c_put 11 4 (.object "Retouched$Question") 41), (41, s_aload 0 42), (42, c_new 2 [.null, .null, .int 0] 45), (45, s_dup 46), (46, s_aload 0 47), (47, c_get 11 1 50), (50, s_aload 0 51), (51, c_get 11 4 54), (54, c_get 5 0 57), (57, c_init 2 2 0 0 60), (60, c_put 11 2 (.object "Retouched$Formulas") 63), (63, s_aload 0 64), (64, c_new 9 [.null, .null] 67), (67, s_dup 68), (68, s_aload 0 69), (69, c_get 11 1 72), (72, s_aload 0 73), (73, c_get 11 2 76), (76, c_init 9 2 0 0 79), (79, c_put 11 3 (.object "Retouched$Teller") 82), (82, s_aload 0 83), (83, c_new 7 [.null, .null, .null, .null, .null, .null, .null, .null, .int 0, .int 0, .int 0, .int 0] 86), (86, s_dup 87), (87, c_init 7 0 8 153 90), (90, c_put 11 5 (.object "Retouched$Scene") 93), (93, s_aload 0 94), (94, c_new 3 [.null, .int 0, .int 0] 97), (97, s_dup 98), (98, c_init 3 0 181 3320 101), (101, c_put 11 6 (.object "Retouched$History") 104), (104, s_aload 0 105), (105, c_new 0 [.null, .null, .int 0, .null, .null, .null, .int 0, .int 0, .int 0, .int 0, .int 0] 108), (108, s_dup 109), (109, c_init 0 0 13 2827 112), (112, c_put 11 7 (.object "Retouched$Ahead") 115), (115, s_aload 0 116), (116, c_new 4 [.null, .int 0, .int 0, .null] 119), (119, s_dup 120), (120, c_init 4 0 10 248 123), (123, c_put 11 8 (.object "Retouched$Picture") 126), (126, s_aload 0 127), (127, s_pushI 6 129), (129, c_newa 1 131), (131, c_put 11 9 (.array .int) 134), (134, s_aload 0 135), (135, c_new 10 [.null, .null, .null, .int 0, .int 0] 138), (138, s_dup 139), (139, c_init 10 0 16 1937 142), (142, c_put 11 10 (.object "Retouched$Told") 145), (145, s_aload 0 146), (146, c_new 10 [.null, .null, .null, .int 0, .int 0] 149), (149, s_dup 150), (150, c_init 10 0 16 1937 153), (153, c_put 11 11 (.object "Retouched$Told") 156), (156, s_aload 0 157), (157, s_pushI 0 158), (158, c_put 11 12 .boolean 161), (161, s_aload 0 162), (162, s_pushI 1 163), (163, c_put 11 13 .int 166), (166, s_vret)]
set_option maxRecDepth 100000 in
set_option maxHeartbeats 4000000 in
theorem okc_X11_init (l : Launch) : cc_CodeOK l cc_I0 RX11 "<init>" cX11_init 1 none cdc_X11_init := by
  intro p e R s m args below meth c Q σ cA D B c0 m0 cap capS d C X
  have hx := X.1
  have hb := X.2.1
  have hown := X.2.2.2.1
  have hts := X.2.2.2.2.1
  refine mm_fc (ss_aload_n hx hb (by decide +kernel : decode cX11_init 0 = .ok (.aload_n 0, 1)) rfl) ?_
  refine mm_fc (sc_obj X wd_1_26 wd_1_27 wd_1_28 (by decide +kernel : decode cX11_init 1 = .ok (.invokespecial 1, 3))) ?_
  refine mm_fc (ss_aload_n hx hb (by decide +kernel : decode cX11_init 4 = .ok (.aload_n 0, 1)) rfl) ?_
  refine mm_fc (sc_new X rfl in_X8 tyX8_ok wd_1_29 wd_1_30 wd_1_2 (by decide +kernel) rfl rfl (by decide +kernel : decode cX11_init 5 = .ok (.new 7, 3))) ?_
  refine mm_fc (ss_dup hx hb (by decide +kernel : decode cX11_init 8 = .ok (.dup, 1))) ?_
  refine mm_fc (sc_initN X rfl wd_1_33 wd_1_2 wd_1_31 wd_1_32 rfl (by decide +kernel) (by decide +kernel) (by decide) (by decide +kernel : decode cX11_init 9 = .ok (.invokespecial 9, 3))) ?_
  refine mm_fc (sc_putF X rfl in_X11 tyX11_ok nmX11 (by decide) rfl rfl rfl rfl wd_2_93 (by decide +kernel : decode cX11_init 12 = .ok (.putfield 10, 3))) ?_
  refine mm_fc (ss_aload_n hx hb (by decide +kernel : decode cX11_init 15 = .ok (.aload_n 0, 1)) rfl) ?_
  refine mm_fc (sc_new X rfl in_X6 tyX6_ok wd_1_43 wd_1_44 wd_1_3 (by decide +kernel) rfl rfl (by decide +kernel : decode cX11_init 16 = .ok (.new 16, 3))) ?_
  refine mm_fc (ss_dup hx hb (by decide +kernel : decode cX11_init 19 = .ok (.dup, 1))) ?_
  refine mm_fc (ss_aload_n hx hb (by decide +kernel : decode cX11_init 20 = .ok (.aload_n 0, 1)) rfl) ?_
  refine mm_fc (sc_get X rfl in_X11 (by decide) wd_2_93 (by decide +kernel : decode cX11_init 21 = .ok (.getfield 10, 3))) ?_
  refine mm_fc (sc_init X rfl wd_1_47 wd_1_3 wd_1_45 wd_1_46 rfl (by decide +kernel) (by decide +kernel) (by decide) (by decide +kernel : decode cX11_init 24 = .ok (.invokespecial 18, 3))) ?_
  refine mm_fc (sc_putF X rfl in_X11 tyX11_ok nmX11 (by decide) rfl rfl rfl rfl wd_2_94 (by decide +kernel : decode cX11_init 27 = .ok (.putfield 21, 3))) ?_
  refine mm_fc (ss_aload_n hx hb (by decide +kernel : decode cX11_init 30 = .ok (.aload_n 0, 1)) rfl) ?_
  refine mm_fc (sc_new X rfl in_X5 tyX5_ok wd_1_76 wd_1_77 wd_1_4 (by decide +kernel) rfl rfl (by decide +kernel : decode cX11_init 31 = .ok (.new 25, 3))) ?_
  refine mm_fc (ss_dup hx hb (by decide +kernel : decode cX11_init 34 = .ok (.dup, 1))) ?_
  refine mm_fc (sc_initN X rfl wd_1_80 wd_1_4 wd_1_78 wd_1_79 rfl (by decide +kernel) (by decide +kernel) (by decide) (by decide +kernel : decode cX11_init 35 = .ok (.invokespecial 27, 3))) ?_
  refine mm_fc (sc_putF X rfl in_X11 tyX11_ok nmX11 (by decide) rfl rfl rfl rfl wd_2_97 (by decide +kernel : decode cX11_init 38 = .ok (.putfield 28, 3))) ?_
  refine mm_fc (ss_aload_n hx hb (by decide +kernel : decode cX11_init 41 = .ok (.aload_n 0, 1)) rfl) ?_
  refine mm_fc (sc_new X rfl in_X2 tyX2_ok wd_1_118 wd_1_119 wd_1_6 (by decide +kernel) rfl rfl (by decide +kernel : decode cX11_init 42 = .ok (.new 32, 3))) ?_
  refine mm_fc (ss_dup hx hb (by decide +kernel : decode cX11_init 45 = .ok (.dup, 1))) ?_
  refine mm_fc (ss_aload_n hx hb (by decide +kernel : decode cX11_init 46 = .ok (.aload_n 0, 1)) rfl) ?_
  refine mm_fc (sc_get X rfl in_X11 (by decide) wd_2_94 (by decide +kernel : decode cX11_init 47 = .ok (.getfield 21, 3))) ?_
  refine mm_fc (ss_aload_n hx hb (by decide +kernel : decode cX11_init 50 = .ok (.aload_n 0, 1)) rfl) ?_
  refine mm_fc (sc_get X rfl in_X11 (by decide) wd_2_97 (by decide +kernel : decode cX11_init 51 = .ok (.getfield 28, 3))) ?_
  refine mm_fc (sc_getN X rfl in_X5 (by decide) wd_1_111 (by decide +kernel : decode cX11_init 54 = .ok (.getfield 34, 3))) ?_
  refine mm_fc (sc_init X rfl wd_1_122 wd_1_6 wd_1_120 wd_1_121 rfl (by decide +kernel) (by decide +kernel) (by decide) (by decide +kernel : decode cX11_init 57 = .ok (.invokespecial 38, 3))) ?_
  refine mm_fc (sc_putF X rfl in_X11 tyX11_ok nmX11 (by decide) rfl rfl rfl rfl wd_2_95 (by decide +kernel : decode cX11_init 60 = .ok (.putfield 41, 3))) ?_
  refine mm_fc (ss_aload_n hx hb (by decide +kernel : decode cX11_init 63 = .ok (.aload_n 0, 1)) rfl) ?_
  refine mm_fc (sc_new X rfl in_X9 tyX9_ok wd_1_134 wd_1_135 wd_1_7 (by decide +kernel) rfl rfl (by decide +kernel : decode cX11_init 64 = .ok (.new 45, 3))) ?_
  refine mm_fc (ss_dup hx hb (by decide +kernel : decode cX11_init 67 = .ok (.dup, 1))) ?_
  refine mm_fc (ss_aload_n hx hb (by decide +kernel : decode cX11_init 68 = .ok (.aload_n 0, 1)) rfl) ?_
  refine mm_fc (sc_get X rfl in_X11 (by decide) wd_2_94 (by decide +kernel : decode cX11_init 69 = .ok (.getfield 21, 3))) ?_
  refine mm_fc (ss_aload_n hx hb (by decide +kernel : decode cX11_init 72 = .ok (.aload_n 0, 1)) rfl) ?_
  refine mm_fc (sc_get X rfl in_X11 (by decide) wd_2_95 (by decide +kernel : decode cX11_init 73 = .ok (.getfield 41, 3))) ?_
  refine mm_fc (sc_init X rfl wd_1_138 wd_1_7 wd_1_136 wd_1_137 rfl (by decide +kernel) (by decide +kernel) (by decide) (by decide +kernel : decode cX11_init 76 = .ok (.invokespecial 47, 3))) ?_
  refine mm_fc (sc_putF X rfl in_X11 tyX11_ok nmX11 (by decide) rfl rfl rfl rfl wd_2_96 (by decide +kernel : decode cX11_init 79 = .ok (.putfield 50, 3))) ?_
  refine mm_fc (ss_aload_n hx hb (by decide +kernel : decode cX11_init 82 = .ok (.aload_n 0, 1)) rfl) ?_
  refine mm_fc (sc_new X rfl in_X7 tyX7_ok wd_1_147 wd_1_148 wd_1_8 (by decide +kernel) rfl rfl (by decide +kernel : decode cX11_init 83 = .ok (.new 54, 3))) ?_
  refine mm_fc (ss_dup hx hb (by decide +kernel : decode cX11_init 86 = .ok (.dup, 1))) ?_
  refine mm_fc (sc_initN X rfl wd_1_151 wd_1_8 wd_1_149 wd_1_150 rfl (by decide +kernel) (by decide +kernel) (by decide) (by decide +kernel : decode cX11_init 87 = .ok (.invokespecial 56, 3))) ?_
  refine mm_fc (sc_putF X rfl in_X11 tyX11_ok nmX11 (by decide) rfl rfl rfl rfl wd_2_98 (by decide +kernel : decode cX11_init 90 = .ok (.putfield 57, 3))) ?_
  refine mm_fc (ss_aload_n hx hb (by decide +kernel : decode cX11_init 93 = .ok (.aload_n 0, 1)) rfl) ?_
  refine mm_fc (sc_new X rfl in_X3 tyX3_ok wd_1_208 wd_1_209 wd_1_9 (by decide +kernel) rfl rfl (by decide +kernel : decode cX11_init 94 = .ok (.new 61, 3))) ?_
  refine mm_fc (ss_dup hx hb (by decide +kernel : decode cX11_init 97 = .ok (.dup, 1))) ?_
  refine mm_fc (sc_init X rfl wd_1_212 wd_1_9 wd_1_210 wd_1_211 rfl (by decide +kernel) (by decide +kernel) (by decide) (by decide +kernel : decode cX11_init 98 = .ok (.invokespecial 63, 3))) ?_
  refine mm_fc (sc_putF X rfl in_X11 tyX11_ok nmX11 (by decide) rfl rfl rfl rfl wd_2_99 (by decide +kernel : decode cX11_init 101 = .ok (.putfield 64, 3))) ?_
  refine mm_fc (ss_aload_n hx hb (by decide +kernel : decode cX11_init 104 = .ok (.aload_n 0, 1)) rfl) ?_
  refine mm_fc (sc_new X rfl in_X0 tyX0_ok wd_1_227 wd_1_228 wd_1_10 (by decide +kernel) rfl rfl (by decide +kernel : decode cX11_init 105 = .ok (.new 68, 3))) ?_
  refine mm_fc (ss_dup hx hb (by decide +kernel : decode cX11_init 108 = .ok (.dup, 1))) ?_
  refine mm_fc (sc_initN X rfl wd_1_231 wd_1_10 wd_1_229 wd_1_230 rfl (by decide +kernel) (by decide +kernel) (by decide) (by decide +kernel : decode cX11_init 109 = .ok (.invokespecial 70, 3))) ?_
  refine mm_fc (sc_putF X rfl in_X11 tyX11_ok nmX11 (by decide) rfl rfl rfl rfl wd_2_100 (by decide +kernel : decode cX11_init 112 = .ok (.putfield 71, 3))) ?_
  refine mm_fc (ss_aload_n hx hb (by decide +kernel : decode cX11_init 115 = .ok (.aload_n 0, 1)) rfl) ?_
  refine mm_fc (sc_new X rfl in_X4 tyX4_ok wd_2_35 wd_2_36 wd_1_11 (by decide +kernel) rfl rfl (by decide +kernel : decode cX11_init 116 = .ok (.new 75, 3))) ?_
  refine mm_fc (ss_dup hx hb (by decide +kernel : decode cX11_init 119 = .ok (.dup, 1))) ?_
  refine mm_fc (sc_initN X rfl wd_2_39 wd_1_11 wd_2_37 wd_2_38 rfl (by decide +kernel) (by decide +kernel) (by decide) (by decide +kernel : decode cX11_init 120 = .ok (.invokespecial 77, 3))) ?_
  refine mm_fc (sc_putF X rfl in_X11 tyX11_ok nmX11 (by decide) rfl rfl rfl rfl wd_2_101 (by decide +kernel : decode cX11_init 123 = .ok (.putfield 78, 3))) ?_
  refine mm_fc (ss_aload_n hx hb (by decide +kernel : decode cX11_init 126 = .ok (.aload_n 0, 1)) rfl) ?_
  refine mm_fc (ss_bipush hx hb (by decide +kernel : decode cX11_init 127 = .ok (.bipush 6, 2)) (by decide)) ?_
  refine mm_fc (sc_newa X (atype := .int) (t0 := 0) wd_1_42 rfl rfl rfl (by decide) (fun _ q => by cases q) (by decide +kernel : decode cX11_init 129 = .ok (.newarray .int, 2))) ?_
  refine mm_fc (sc_putF X rfl in_X11 tyX11_ok nmX11 (by decide) rfl rfl rfl rfl wd_2_102 (by decide +kernel : decode cX11_init 131 = .ok (.putfield 82, 3))) ?_
  refine mm_fc (ss_aload_n hx hb (by decide +kernel : decode cX11_init 134 = .ok (.aload_n 0, 1)) rfl) ?_
  refine mm_fc (sc_new X rfl in_X10 tyX10_ok wd_2_56 wd_2_57 wd_1_12 (by decide +kernel) rfl rfl (by decide +kernel : decode cX11_init 135 = .ok (.new 86, 3))) ?_
  refine mm_fc (ss_dup hx hb (by decide +kernel : decode cX11_init 138 = .ok (.dup, 1))) ?_
  refine mm_fc (sc_init X rfl wd_2_60 wd_1_12 wd_2_58 wd_2_59 rfl (by decide +kernel) (by decide +kernel) (by decide) (by decide +kernel : decode cX11_init 139 = .ok (.invokespecial 88, 3))) ?_
  refine mm_fc (sc_put X rfl in_X11 tyX11_ok nmX11 (by decide) rfl rfl wd_2_103 (by decide +kernel : decode cX11_init 142 = .ok (.putfield 89, 3))) ?_
  refine mm_fc (ss_aload_n hx hb (by decide +kernel : decode cX11_init 145 = .ok (.aload_n 0, 1)) rfl) ?_
  refine mm_fc (sc_new X rfl in_X10 tyX10_ok wd_2_56 wd_2_57 wd_1_12 (by decide +kernel) rfl rfl (by decide +kernel : decode cX11_init 146 = .ok (.new 86, 3))) ?_
  refine mm_fc (ss_dup hx hb (by decide +kernel : decode cX11_init 149 = .ok (.dup, 1))) ?_
  refine mm_fc (sc_init X rfl wd_2_60 wd_1_12 wd_2_58 wd_2_59 rfl (by decide +kernel) (by decide +kernel) (by decide) (by decide +kernel : decode cX11_init 150 = .ok (.invokespecial 88, 3))) ?_
  refine mm_fc (sc_put X rfl in_X11 tyX11_ok nmX11 (by decide) rfl rfl wd_2_104 (by decide +kernel : decode cX11_init 153 = .ok (.putfield 93, 3))) ?_
  refine mm_fc (ss_aload_n hx hb (by decide +kernel : decode cX11_init 156 = .ok (.aload_n 0, 1)) rfl) ?_
  refine mm_fc (ss_iconst hx hb (by decide +kernel : decode cX11_init 157 = .ok (.iconst 0, 1)) (by decide)) ?_
  refine mm_fc (sc_put X rfl in_X11 tyX11_ok nmX11 (by decide) rfl rfl wd_2_105 (by decide +kernel : decode cX11_init 158 = .ok (.putfield 96, 3))) ?_
  refine mm_fc (ss_aload_n hx hb (by decide +kernel : decode cX11_init 161 = .ok (.aload_n 0, 1)) rfl) ?_
  refine mm_fc (ss_iconst hx hb (by decide +kernel : decode cX11_init 162 = .ok (.iconst 1, 1)) (by decide)) ?_
  refine mm_fc (sc_put X rfl in_X11 tyX11_ok nmX11 (by decide) rfl rfl wd_2_106 (by decide +kernel : decode cX11_init 163 = .ok (.putfield 100, 3))) ?_
  refine mm_fc (ss_vret (by decide +kernel : decode cX11_init 166 = .ok (.return_, 1)) rfl) ?_
  exact mm_fn
def cdc_X1_clear : mm_K cc_H := [(0, s_aload 0 1), (1, s_pushI 0 2), (2, c_put 1 5 .int 5), (5, s_pushI 0 6), (6, s_istore 1 7), (7, s_iload 1 8), (8, s_pushI 4 9), (9, s_icmp (fun x y => y ≤ x) 32 12), (12, s_aload 0 13), (13, c_get 1 1 16), (16, s_iload 1 17), (17, s_pushI (-1) 18), (18, c_iast 19), (19, s_aload 0 20), (20, c_get 1 2 23), (23, s_iload 1 24), (24, s_pushI (-1) 25), (25, c_iast 26), (26, s_iinc 1 1 29), (29, s_goto 7), (32, s_vret)]
set_option maxRecDepth 100000 in
set_option maxHeartbeats 4000000 in
theorem okc_X1_clear (l : Launch) : cc_CodeOK l cc_I0 RX1 "clear" cX1_clear 2 none cdc_X1_clear := by
  intro p e R s m args below meth c Q σ cA D B c0 m0 cap capS d C X
  have hx := X.1
  have hb := X.2.1
  have hown := X.2.2.2.1
  have hts := X.2.2.2.2.1
  refine mm_fc (ss_aload_n hx hb (by decide +kernel : decode cX1_clear 0 = .ok (.aload_n 0, 1)) rfl) ?_
  refine mm_fc (ss_iconst hx hb (by decide +kernel : decode cX1_clear 1 = .ok (.iconst 0, 1)) (by decide)) ?_
  refine mm_fc (sc_put X rfl in_X1 tyX1_ok nmX1 (by decide) rfl rfl wd_1_93 (by decide +kernel : decode cX1_clear 2 = .ok (.putfield 27, 3))) ?_
  refine mm_fc (ss_iconst hx hb (by decide +kernel : decode cX1_clear 5 = .ok (.iconst 0, 1)) (by decide)) ?_
  refine mm_fc (ss_istore_n hx hb (by decide +kernel : decode cX1_clear 6 = .ok (.istore_n 1, 1)) rfl (by decide)) ?_
  refine mm_fc (ss_iload_n hx hb (by decide +kernel : decode cX1_clear 7 = .ok (.iload_n 1, 1)) rfl) ?_
  refine mm_fc (ss_iconst hx hb (by decide +kernel : decode cX1_clear 8 = .ok (.iconst 4, 1)) (by decide)) ?_
  refine mm_fc (ss_icmpge hx hb (by decide +kernel : decode cX1_clear 9 = .ok (.if_icmp .ge 23, 3)) (by decide)) ?_
  refine mm_fc (ss_aload_n hx hb (by decide +kernel : decode cX1_clear 12 = .ok (.aload_n 0, 1)) rfl) ?_
  refine mm_fc (sc_get X rfl in_X1 (by decide) wd_1_89 (by decide +kernel : decode cX1_clear 13 = .ok (.getfield 15, 3))) ?_
  refine mm_fc (ss_iload_n hx hb (by decide +kernel : decode cX1_clear 16 = .ok (.iload_n 1, 1)) rfl) ?_
  refine mm_fc (ss_iconst hx hb (by decide +kernel : decode cX1_clear 17 = .ok (.iconst (-1), 1)) (by decide)) ?_
  refine mm_fc (sc_iast X (by decide +kernel : decode cX1_clear 18 = .ok (.iastore, 1))) ?_
  refine mm_fc (ss_aload_n hx hb (by decide +kernel : decode cX1_clear 19 = .ok (.aload_n 0, 1)) rfl) ?_
  refine mm_fc (sc_get X rfl in_X1 (by decide) wd_1_90 (by decide +kernel : decode cX1_clear 20 = .ok (.getfield 18, 3))) ?_
  refine mm_fc (ss_iload_n hx hb (by decide +kernel : decode cX1_clear 23 = .ok (.iload_n 1, 1)) rfl) ?_
  refine mm_fc (ss_iconst hx hb (by decide +kernel : decode cX1_clear 24 = .ok (.iconst (-1), 1)) (by decide)) ?_
  refine mm_fc (sc_iast X (by decide +kernel : decode cX1_clear 25 = .ok (.iastore, 1))) ?_
  refine mm_fc (ss_iinc hx hb (by decide +kernel : decode cX1_clear 26 = .ok (.iinc 1 1, 3)) (by decide) (by decide)) ?_
  refine mm_fc (ss_goto hx hb (by decide +kernel : decode cX1_clear 29 = .ok (.goto (-22), 3)) (by decide)) ?_
  refine mm_fc (ss_vret (by decide +kernel : decode cX1_clear 32 = .ok (.return_, 1)) rfl) ?_
  exact mm_fn
