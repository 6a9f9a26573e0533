theorem wd_2_136 : (Jvm.Cond.methodLink "RetouchedLaw" (13 : Nat) ({ cls := "Retouched", name := "feed", desc := "(IIIII)I" } : Jvm.MethodName)) ∈ lw_tbl := mt_2 (List.mem_of_getElem? (i := 136) (by decide +kernel))
theorem wd_2_137 : (Jvm.Cond.instanceMethod ({ cls := "Retouched", name := "feed", desc := "(IIIII)I" } : Jvm.MethodName)) ∈ lw_tbl := mt_2 (List.mem_of_getElem? (i := 137) (by decide +kernel))
theorem wd_2_138 : (Jvm.Cond.selects "Retouched" ({ cls := "Retouched", name := "feed", desc := "(IIIII)I" } : Jvm.MethodName) ({ cls := "Retouched", name := "feed", desc := "(IIIII)I" } : Jvm.MethodName)) ∈ lw_tbl := mt_2 (List.mem_of_getElem? (i := 138) (by decide +kernel))
theorem wd_2_139 : (Jvm.Cond.code ({ cls := "Retouched", name := "feed", desc := "(IIIII)I" } : Jvm.MethodName) prog_1_method_2_code (6 : Nat) (Option.some Jvm.ClassFile.FieldType.int)) ∈ lw_tbl := mt_2 (List.mem_of_getElem? (i := 139) (by decide +kernel))
theorem wd_2_152 : (Jvm.Cond.methodLink "RetouchedLaw" (18 : Nat) ({ cls := "Retouched", name := "end", desc := "(I)Z" } : Jvm.MethodName)) ∈ lw_tbl := mt_2 (List.mem_of_getElem? (i := 152) (by decide +kernel))
theorem wd_2_153 : (Jvm.Cond.instanceMethod ({ cls := "Retouched", name := "end", desc := "(I)Z" } : Jvm.MethodName)) ∈ lw_tbl := mt_2 (List.mem_of_getElem? (i := 153) (by decide +kernel))
theorem wd_2_154 : (Jvm.Cond.selects "Retouched" ({ cls := "Retouched", name := "end", desc := "(I)Z" } : Jvm.MethodName) ({ cls := "Retouched", name := "end", desc := "(I)Z" } : Jvm.MethodName)) ∈ lw_tbl := mt_2 (List.mem_of_getElem? (i := 154) (by decide +kernel))
theorem wd_2_155 : (Jvm.Cond.code ({ cls := "Retouched", name := "end", desc := "(I)Z" } : Jvm.MethodName) prog_1_method_3_code (2 : Nat) (Option.some Jvm.ClassFile.FieldType.boolean)) ∈ lw_tbl := mt_2 (List.mem_of_getElem? (i := 155) (by decide +kernel))
theorem wd_2_166 : (Jvm.Cond.methodLink "RetouchedLaw" (23 : Nat) ({ cls := "Retouched", name := "terrace", desc := "()I" } : Jvm.MethodName)) ∈ lw_tbl := mt_2 (List.mem_of_getElem? (i := 166) (by decide +kernel))
theorem wd_2_167 : (Jvm.Cond.instanceMethod ({ cls := "Retouched", name := "terrace", desc := "()I" } : Jvm.MethodName)) ∈ lw_tbl := mt_2 (List.mem_of_getElem? (i := 167) (by decide +kernel))
theorem wd_2_168 : (Jvm.Cond.selects "Retouched" ({ cls := "Retouched", name := "terrace", desc := "()I" } : Jvm.MethodName) ({ cls := "Retouched", name := "terrace", desc := "()I" } : Jvm.MethodName)) ∈ lw_tbl := mt_2 (List.mem_of_getElem? (i := 168) (by decide +kernel))
theorem wd_2_169 : (Jvm.Cond.code ({ cls := "Retouched", name := "terrace", desc := "()I" } : Jvm.MethodName) prog_1_method_4_code (3 : Nat) (Option.some Jvm.ClassFile.FieldType.int)) ∈ lw_tbl := mt_2 (List.mem_of_getElem? (i := 169) (by decide +kernel))
theorem wd_4_141 : (Jvm.Cond.methodLink "RetouchedLaw" (37 : Nat) ({ cls := "Retouched", name := "letter", desc := "(II)I" } : Jvm.MethodName)) ∈ lw_tbl := mt_4 (List.mem_of_getElem? (i := 141) (by decide +kernel))
theorem wd_4_142 : (Jvm.Cond.instanceMethod ({ cls := "Retouched", name := "letter", desc := "(II)I" } : Jvm.MethodName)) ∈ lw_tbl := mt_4 (List.mem_of_getElem? (i := 142) (by decide +kernel))
theorem wd_4_143 : (Jvm.Cond.selects "Retouched" ({ cls := "Retouched", name := "letter", desc := "(II)I" } : Jvm.MethodName) ({ cls := "Retouched", name := "letter", desc := "(II)I" } : Jvm.MethodName)) ∈ lw_tbl := mt_4 (List.mem_of_getElem? (i := 143) (by decide +kernel))
theorem wd_4_144 : (Jvm.Cond.code ({ cls := "Retouched", name := "letter", desc := "(II)I" } : Jvm.MethodName) prog_1_method_7_code (3 : Nat) (Option.some Jvm.ClassFile.FieldType.int)) ∈ lw_tbl := mt_4 (List.mem_of_getElem? (i := 144) (by decide +kernel))
theorem wd_4_147 : (Jvm.Cond.methodLink "RetouchedLaw" (42 : Nat) ({ cls := "Retouched", name := "house", desc := "(I)I" } : Jvm.MethodName)) ∈ lw_tbl := mt_4 (List.mem_of_getElem? (i := 147) (by decide +kernel))
theorem wd_4_148 : (Jvm.Cond.instanceMethod ({ cls := "Retouched", name := "house", desc := "(I)I" } : Jvm.MethodName)) ∈ lw_tbl := mt_4 (List.mem_of_getElem? (i := 148) (by decide +kernel))
theorem wd_4_149 : (Jvm.Cond.selects "Retouched" ({ cls := "Retouched", name := "house", desc := "(I)I" } : Jvm.MethodName) ({ cls := "Retouched", name := "house", desc := "(I)I" } : Jvm.MethodName)) ∈ lw_tbl := mt_4 (List.mem_of_getElem? (i := 149) (by decide +kernel))
theorem wd_4_150 : (Jvm.Cond.code ({ cls := "Retouched", name := "house", desc := "(I)I" } : Jvm.MethodName) prog_1_method_8_code (2 : Nat) (Option.some Jvm.ClassFile.FieldType.int)) ∈ lw_tbl := mt_4 (List.mem_of_getElem? (i := 150) (by decide +kernel))
theorem wd_4_152 : (Jvm.Cond.methodLink "RetouchedLaw" (46 : Nat) ({ cls := "Retouched", name := "person", desc := "(II)I" } : Jvm.MethodName)) ∈ lw_tbl := mt_4 (List.mem_of_getElem? (i := 152) (by decide +kernel))
theorem wd_4_153 : (Jvm.Cond.instanceMethod ({ cls := "Retouched", name := "person", desc := "(II)I" } : Jvm.MethodName)) ∈ lw_tbl := mt_4 (List.mem_of_getElem? (i := 153) (by decide +kernel))
theorem wd_4_154 : (Jvm.Cond.selects "Retouched" ({ cls := "Retouched", name := "person", desc := "(II)I" } : Jvm.MethodName) ({ cls := "Retouched", name := "person", desc := "(II)I" } : Jvm.MethodName)) ∈ lw_tbl := mt_4 (List.mem_of_getElem? (i := 154) (by decide +kernel))
theorem wd_4_155 : (Jvm.Cond.code ({ cls := "Retouched", name := "person", desc := "(II)I" } : Jvm.MethodName) prog_1_method_9_code (3 : Nat) (Option.some Jvm.ClassFile.FieldType.int)) ∈ lw_tbl := mt_4 (List.mem_of_getElem? (i := 155) (by decide +kernel))
theorem wd_4_165 : (Jvm.Cond.methodLink "RetouchedLaw" (50 : Nat) ({ cls := "Retouched", name := "thinks", desc := "(II)I" } : Jvm.MethodName)) ∈ lw_tbl := mt_4 (List.mem_of_getElem? (i := 165) (by decide +kernel))
theorem wd_4_166 : (Jvm.Cond.instanceMethod ({ cls := "Retouched", name := "thinks", desc := "(II)I" } : Jvm.MethodName)) ∈ lw_tbl := mt_4 (List.mem_of_getElem? (i := 166) (by decide +kernel))
theorem wd_4_167 : (Jvm.Cond.selects "Retouched" ({ cls := "Retouched", name := "thinks", desc := "(II)I" } : Jvm.MethodName) ({ cls := "Retouched", name := "thinks", desc := "(II)I" } : Jvm.MethodName)) ∈ lw_tbl := mt_4 (List.mem_of_getElem? (i := 167) (by decide +kernel))
theorem wd_4_168 : (Jvm.Cond.code ({ cls := "Retouched", name := "thinks", desc := "(II)I" } : Jvm.MethodName) prog_1_method_10_code (3 : Nat) (Option.some Jvm.ClassFile.FieldType.int)) ∈ lw_tbl := mt_4 (List.mem_of_getElem? (i := 168) (by decide +kernel))
theorem wd_4_171 : (Jvm.Cond.methodLink "RetouchedLaw" (54 : Nat) ({ cls := "Retouched", name := "paints", desc := "(II)I" } : Jvm.MethodName)) ∈ lw_tbl := mt_4 (List.mem_of_getElem? (i := 171) (by decide +kernel))
theorem wd_4_172 : (Jvm.Cond.instanceMethod ({ cls := "Retouched", name := "paints", desc := "(II)I" } : Jvm.MethodName)) ∈ lw_tbl := mt_4 (List.mem_of_getElem? (i := 172) (by decide +kernel))
theorem wd_4_173 : (Jvm.Cond.selects "Retouched" ({ cls := "Retouched", name := "paints", desc := "(II)I" } : Jvm.MethodName) ({ cls := "Retouched", name := "paints", desc := "(II)I" } : Jvm.MethodName)) ∈ lw_tbl := mt_4 (List.mem_of_getElem? (i := 173) (by decide +kernel))
theorem wd_4_174 : (Jvm.Cond.code ({ cls := "Retouched", name := "paints", desc := "(II)I" } : Jvm.MethodName) prog_1_method_11_code (4 : Nat) (Option.some Jvm.ClassFile.FieldType.int)) ∈ lw_tbl := mt_4 (List.mem_of_getElem? (i := 174) (by decide +kernel))
theorem wd_4_189 : (Jvm.Cond.methodLink "RetouchedLaw" (58 : Nat) ({ cls := "Retouched", name := "feud", desc := "(I)I" } : Jvm.MethodName)) ∈ lw_tbl := mt_4 (List.mem_of_getElem? (i := 189) (by decide +kernel))
theorem wd_4_190 : (Jvm.Cond.instanceMethod ({ cls := "Retouched", name := "feud", desc := "(I)I" } : Jvm.MethodName)) ∈ lw_tbl := mt_4 (List.mem_of_getElem? (i := 190) (by decide +kernel))
theorem wd_4_191 : (Jvm.Cond.selects "Retouched" ({ cls := "Retouched", name := "feud", desc := "(I)I" } : Jvm.MethodName) ({ cls := "Retouched", name := "feud", desc := "(I)I" } : Jvm.MethodName)) ∈ lw_tbl := mt_4 (List.mem_of_getElem? (i := 191) (by decide +kernel))
theorem wd_4_192 : (Jvm.Cond.code ({ cls := "Retouched", name := "feud", desc := "(I)I" } : Jvm.MethodName) prog_1_method_12_code (3 : Nat) (Option.some Jvm.ClassFile.FieldType.int)) ∈ lw_tbl := mt_4 (List.mem_of_getElem? (i := 192) (by decide +kernel))
theorem wd_4_194 : (Jvm.Cond.methodLink "RetouchedLaw" (62 : Nat) ({ cls := "Retouched", name := "kept", desc := "(II)I" } : Jvm.MethodName)) ∈ lw_tbl := mt_4 (List.mem_of_getElem? (i := 194) (by decide +kernel))
theorem wd_4_195 : (Jvm.Cond.instanceMethod ({ cls := "Retouched", name := "kept", desc := "(II)I" } : Jvm.MethodName)) ∈ lw_tbl := mt_4 (List.mem_of_getElem? (i := 195) (by decide +kernel))
theorem wd_4_196 : (Jvm.Cond.selects "Retouched" ({ cls := "Retouched", name := "kept", desc := "(II)I" } : Jvm.MethodName) ({ cls := "Retouched", name := "kept", desc := "(II)I" } : Jvm.MethodName)) ∈ lw_tbl := mt_4 (List.mem_of_getElem? (i := 196) (by decide +kernel))
theorem wd_4_197 : (Jvm.Cond.code ({ cls := "Retouched", name := "kept", desc := "(II)I" } : Jvm.MethodName) prog_1_method_13_code (3 : Nat) (Option.some Jvm.ClassFile.FieldType.int)) ∈ lw_tbl := mt_4 (List.mem_of_getElem? (i := 197) (by decide +kernel))
theorem wd_4_206 : (Jvm.Cond.methodLink "RetouchedLaw" (66 : Nat) ({ cls := "Retouched", name := "later", desc := "(II)I" } : Jvm.MethodName)) ∈ lw_tbl := mt_4 (List.mem_of_getElem? (i := 206) (by decide +kernel))
theorem wd_4_207 : (Jvm.Cond.instanceMethod ({ cls := "Retouched", name := "later", desc := "(II)I" } : Jvm.MethodName)) ∈ lw_tbl := mt_4 (List.mem_of_getElem? (i := 207) (by decide +kernel))
theorem wd_4_208 : (Jvm.Cond.selects "Retouched" ({ cls := "Retouched", name := "later", desc := "(II)I" } : Jvm.MethodName) ({ cls := "Retouched", name := "later", desc := "(II)I" } : Jvm.MethodName)) ∈ lw_tbl := mt_4 (List.mem_of_getElem? (i := 208) (by decide +kernel))
theorem wd_4_209 : (Jvm.Cond.code ({ cls := "Retouched", name := "later", desc := "(II)I" } : Jvm.MethodName) prog_1_method_14_code (3 : Nat) (Option.some Jvm.ClassFile.FieldType.int)) ∈ lw_tbl := mt_4 (List.mem_of_getElem? (i := 209) (by decide +kernel))
theorem wd_4_27 : (Jvm.Cond.methodLink "RetouchedLaw" (28 : Nat) ({ cls := "Retouched", name := "fault", desc := "(I)I" } : Jvm.MethodName)) ∈ lw_tbl := mt_4 (List.mem_of_getElem? (i := 27) (by decide +kernel))
theorem wd_4_28 : (Jvm.Cond.instanceMethod ({ cls := "Retouched", name := "fault", desc := "(I)I" } : Jvm.MethodName)) ∈ lw_tbl := mt_4 (List.mem_of_getElem? (i := 28) (by decide +kernel))
theorem wd_4_29 : (Jvm.Cond.selects "Retouched" ({ cls := "Retouched", name := "fault", desc := "(I)I" } : Jvm.MethodName) ({ cls := "Retouched", name := "fault", desc := "(I)I" } : Jvm.MethodName)) ∈ lw_tbl := mt_4 (List.mem_of_getElem? (i := 29) (by decide +kernel))
theorem wd_4_30 : (Jvm.Cond.code ({ cls := "Retouched", name := "fault", desc := "(I)I" } : Jvm.MethodName) prog_1_method_5_code (2 : Nat) (Option.some Jvm.ClassFile.FieldType.int)) ∈ lw_tbl := mt_4 (List.mem_of_getElem? (i := 30) (by decide +kernel))
theorem wd_4_31 : (Jvm.Cond.methodLink "RetouchedLaw" (33 : Nat) ({ cls := "Retouched", name := "has", desc := "(I)I" } : Jvm.MethodName)) ∈ lw_tbl := mt_4 (List.mem_of_getElem? (i := 31) (by decide +kernel))
theorem wd_4_32 : (Jvm.Cond.instanceMethod ({ cls := "Retouched", name := "has", desc := "(I)I" } : Jvm.MethodName)) ∈ lw_tbl := mt_4 (List.mem_of_getElem? (i := 32) (by decide +kernel))
theorem wd_4_33 : (Jvm.Cond.selects "Retouched" ({ cls := "Retouched", name := "has", desc := "(I)I" } : Jvm.MethodName) ({ cls := "Retouched", name := "has", desc := "(I)I" } : Jvm.MethodName)) ∈ lw_tbl := mt_4 (List.mem_of_getElem? (i := 33) (by decide +kernel))
theorem wd_4_34 : (Jvm.Cond.code ({ cls := "Retouched", name := "has", desc := "(I)I" } : Jvm.MethodName) prog_1_method_6_code (2 : Nat) (Option.some Jvm.ClassFile.FieldType.int)) ∈ lw_tbl := mt_4 (List.mem_of_getElem? (i := 34) (by decide +kernel))
theorem wd_5_1 : (Jvm.Cond.methodLink "RetouchedLaw" (70 : Nat) ({ cls := "Retouched", name := "mind", desc := "(III)I" } : Jvm.MethodName)) ∈ lw_tbl := mt_5 (List.mem_of_getElem? (i := 1) (by decide +kernel))
theorem wd_5_105 : (Jvm.Cond.methodLink "RetouchedLaw" (104 : Nat) ({ cls := "Retouched", name := "faces", desc := "(I)I" } : Jvm.MethodName)) ∈ lw_tbl := mt_5 (List.mem_of_getElem? (i := 105) (by decide +kernel))
theorem wd_5_106 : (Jvm.Cond.instanceMethod ({ cls := "Retouched", name := "faces", desc := "(I)I" } : Jvm.MethodName)) ∈ lw_tbl := mt_5 (List.mem_of_getElem? (i := 106) (by decide +kernel))
theorem wd_5_107 : (Jvm.Cond.selects "Retouched" ({ cls := "Retouched", name := "faces", desc := "(I)I" } : Jvm.MethodName) ({ cls := "Retouched", name := "faces", desc := "(I)I" } : Jvm.MethodName)) ∈ lw_tbl := mt_5 (List.mem_of_getElem? (i := 107) (by decide +kernel))
theorem wd_5_108 : (Jvm.Cond.code ({ cls := "Retouched", name := "faces", desc := "(I)I" } : Jvm.MethodName) prog_1_method_23_code (2 : Nat) (Option.some Jvm.ClassFile.FieldType.int)) ∈ lw_tbl := mt_5 (List.mem_of_getElem? (i := 108) (by decide +kernel))
theorem wd_5_117 : (Jvm.Cond.methodLink "RetouchedLaw" (108 : Nat) ({ cls := "Retouched", name := "tells", desc := "(III)I" } : Jvm.MethodName)) ∈ lw_tbl := mt_5 (List.mem_of_getElem? (i := 117) (by decide +kernel))
theorem wd_5_118 : (Jvm.Cond.instanceMethod ({ cls := "Retouched", name := "tells", desc := "(III)I" } : Jvm.MethodName)) ∈ lw_tbl := mt_5 (List.mem_of_getElem? (i := 118) (by decide +kernel))
theorem wd_5_119 : (Jvm.Cond.selects "Retouched" ({ cls := "Retouched", name := "tells", desc := "(III)I" } : Jvm.MethodName) ({ cls := "Retouched", name := "tells", desc := "(III)I" } : Jvm.MethodName)) ∈ lw_tbl := mt_5 (List.mem_of_getElem? (i := 119) (by decide +kernel))
theorem wd_5_120 : (Jvm.Cond.code ({ cls := "Retouched", name := "tells", desc := "(III)I" } : Jvm.MethodName) prog_1_method_24_code (5 : Nat) (Option.some Jvm.ClassFile.FieldType.int)) ∈ lw_tbl := mt_5 (List.mem_of_getElem? (i := 120) (by decide +kernel))
theorem wd_5_133 : (Jvm.Cond.methodLink "RetouchedLaw" (112 : Nat) ({ cls := "Retouched", name := "change", desc := "(II)Z" } : Jvm.MethodName)) ∈ lw_tbl := mt_5 (List.mem_of_getElem? (i := 133) (by decide +kernel))
theorem wd_5_134 : (Jvm.Cond.instanceMethod ({ cls := "Retouched", name := "change", desc := "(II)Z" } : Jvm.MethodName)) ∈ lw_tbl := mt_5 (List.mem_of_getElem? (i := 134) (by decide +kernel))
theorem wd_5_135 : (Jvm.Cond.selects "Retouched" ({ cls := "Retouched", name := "change", desc := "(II)Z" } : Jvm.MethodName) ({ cls := "Retouched", name := "change", desc := "(II)Z" } : Jvm.MethodName)) ∈ lw_tbl := mt_5 (List.mem_of_getElem? (i := 135) (by decide +kernel))
theorem wd_5_136 : (Jvm.Cond.code ({ cls := "Retouched", name := "change", desc := "(II)Z" } : Jvm.MethodName) prog_1_method_25_code (4 : Nat) (Option.some Jvm.ClassFile.FieldType.boolean)) ∈ lw_tbl := mt_5 (List.mem_of_getElem? (i := 136) (by decide +kernel))
theorem wd_5_146 : (Jvm.Cond.methodLink "RetouchedLaw" (117 : Nat) ({ cls := "Retouched", name := "right", desc := "(I)Z" } : Jvm.MethodName)) ∈ lw_tbl := mt_5 (List.mem_of_getElem? (i := 146) (by decide +kernel))
theorem wd_5_147 : (Jvm.Cond.instanceMethod ({ cls := "Retouched", name := "right", desc := "(I)Z" } : Jvm.MethodName)) ∈ lw_tbl := mt_5 (List.mem_of_getElem? (i := 147) (by decide +kernel))
theorem wd_5_148 : (Jvm.Cond.selects "Retouched" ({ cls := "Retouched", name := "right", desc := "(I)Z" } : Jvm.MethodName) ({ cls := "Retouched", name := "right", desc := "(I)Z" } : Jvm.MethodName)) ∈ lw_tbl := mt_5 (List.mem_of_getElem? (i := 148) (by decide +kernel))
theorem wd_5_149 : (Jvm.Cond.code ({ cls := "Retouched", name := "right", desc := "(I)Z" } : Jvm.MethodName) prog_1_method_26_code (3 : Nat) (Option.some Jvm.ClassFile.FieldType.boolean)) ∈ lw_tbl := mt_5 (List.mem_of_getElem? (i := 149) (by decide +kernel))
theorem wd_5_15 : (Jvm.Cond.methodLink "RetouchedLaw" (79 : Nat) ({ cls := "Retouched", name := "changed", desc := "(II)I" } : Jvm.MethodName)) ∈ lw_tbl := mt_5 (List.mem_of_getElem? (i := 15) (by decide +kernel))
theorem wd_5_151 : (Jvm.Cond.methodLink "RetouchedLaw" (121 : Nat) ({ cls := "Retouched", name := "spare", desc := "(II)Z" } : Jvm.MethodName)) ∈ lw_tbl := mt_5 (List.mem_of_getElem? (i := 151) (by decide +kernel))
theorem wd_5_152 : (Jvm.Cond.instanceMethod ({ cls := "Retouched", name := "spare", desc := "(II)Z" } : Jvm.MethodName)) ∈ lw_tbl := mt_5 (List.mem_of_getElem? (i := 152) (by decide +kernel))
theorem wd_5_153 : (Jvm.Cond.selects "Retouched" ({ cls := "Retouched", name := "spare", desc := "(II)Z" } : Jvm.MethodName) ({ cls := "Retouched", name := "spare", desc := "(II)Z" } : Jvm.MethodName)) ∈ lw_tbl := mt_5 (List.mem_of_getElem? (i := 153) (by decide +kernel))
theorem wd_5_154 : (Jvm.Cond.code ({ cls := "Retouched", name := "spare", desc := "(II)Z" } : Jvm.MethodName) prog_1_method_27_code (3 : Nat) (Option.some Jvm.ClassFile.FieldType.boolean)) ∈ lw_tbl := mt_5 (List.mem_of_getElem? (i := 154) (by decide +kernel))
theorem wd_5_156 : (Jvm.Cond.methodLink "RetouchedLaw" (125 : Nat) ({ cls := "Retouched", name := "years", desc := "(I)I" } : Jvm.MethodName)) ∈ lw_tbl := mt_5 (List.mem_of_getElem? (i := 156) (by decide +kernel))
theorem wd_5_157 : (Jvm.Cond.instanceMethod ({ cls := "Retouched", name := "years", desc := "(I)I" } : Jvm.MethodName)) ∈ lw_tbl := mt_5 (List.mem_of_getElem? (i := 157) (by decide +kernel))
theorem wd_5_158 : (Jvm.Cond.selects "Retouched" ({ cls := "Retouched", name := "years", desc := "(I)I" } : Jvm.MethodName) ({ cls := "Retouched", name := "years", desc := "(I)I" } : Jvm.MethodName)) ∈ lw_tbl := mt_5 (List.mem_of_getElem? (i := 158) (by decide +kernel))
theorem wd_5_159 : (Jvm.Cond.code ({ cls := "Retouched", name := "years", desc := "(I)I" } : Jvm.MethodName) prog_1_method_28_code (3 : Nat) (Option.some Jvm.ClassFile.FieldType.int)) ∈ lw_tbl := mt_5 (List.mem_of_getElem? (i := 159) (by decide +kernel))
theorem wd_5_16 : (Jvm.Cond.instanceMethod ({ cls := "Retouched", name := "changed", desc := "(II)I" } : Jvm.MethodName)) ∈ lw_tbl := mt_5 (List.mem_of_getElem? (i := 16) (by decide +kernel))
theorem wd_5_161 : (Jvm.Cond.methodLink "RetouchedLaw" (129 : Nat) ({ cls := "Retouched", name := "chance", desc := "(I)I" } : Jvm.MethodName)) ∈ lw_tbl := mt_5 (List.mem_of_getElem? (i := 161) (by decide +kernel))
theorem wd_5_162 : (Jvm.Cond.instanceMethod ({ cls := "Retouched", name := "chance", desc := "(I)I" } : Jvm.MethodName)) ∈ lw_tbl := mt_5 (List.mem_of_getElem? (i := 162) (by decide +kernel))
theorem wd_5_163 : (Jvm.Cond.selects "Retouched" ({ cls := "Retouched", name := "chance", desc := "(I)I" } : Jvm.MethodName) ({ cls := "Retouched", name := "chance", desc := "(I)I" } : Jvm.MethodName)) ∈ lw_tbl := mt_5 (List.mem_of_getElem? (i := 163) (by decide +kernel))
theorem wd_5_164 : (Jvm.Cond.code ({ cls := "Retouched", name := "chance", desc := "(I)I" } : Jvm.MethodName) prog_1_method_29_code (4 : Nat) (Option.some Jvm.ClassFile.FieldType.int)) ∈ lw_tbl := mt_5 (List.mem_of_getElem? (i := 164) (by decide +kernel))
theorem wd_5_17 : (Jvm.Cond.selects "Retouched" ({ cls := "Retouched", name := "changed", desc := "(II)I" } : Jvm.MethodName) ({ cls := "Retouched", name := "changed", desc := "(II)I" } : Jvm.MethodName)) ∈ lw_tbl := mt_5 (List.mem_of_getElem? (i := 17) (by decide +kernel))
theorem wd_5_175 : (Jvm.Cond.methodLink "RetouchedLaw" (133 : Nat) ({ cls := "Retouched", name := "undo", desc := "()Z" } : Jvm.MethodName)) ∈ lw_tbl := mt_5 (List.mem_of_getElem? (i := 175) (by decide +kernel))
theorem wd_5_176 : (Jvm.Cond.instanceMethod ({ cls := "Retouched", name := "undo", desc := "()Z" } : Jvm.MethodName)) ∈ lw_tbl := mt_5 (List.mem_of_getElem? (i := 176) (by decide +kernel))
theorem wd_5_177 : (Jvm.Cond.selects "Retouched" ({ cls := "Retouched", name := "undo", desc := "()Z" } : Jvm.MethodName) ({ cls := "Retouched", name := "undo", desc := "()Z" } : Jvm.MethodName)) ∈ lw_tbl := mt_5 (List.mem_of_getElem? (i := 177) (by decide +kernel))
theorem wd_5_178 : (Jvm.Cond.code ({ cls := "Retouched", name := "undo", desc := "()Z" } : Jvm.MethodName) prog_1_method_30_code (1 : Nat) (Option.some Jvm.ClassFile.FieldType.boolean)) ∈ lw_tbl := mt_5 (List.mem_of_getElem? (i := 178) (by decide +kernel))
theorem wd_5_18 : (Jvm.Cond.code ({ cls := "Retouched", name := "changed", desc := "(II)I" } : Jvm.MethodName) prog_1_method_17_code (3 : Nat) (Option.some Jvm.ClassFile.FieldType.int)) ∈ lw_tbl := mt_5 (List.mem_of_getElem? (i := 18) (by decide +kernel))
theorem wd_5_183 : (Jvm.Cond.methodLink "RetouchedLaw" (138 : Nat) ({ cls := "Retouched", name := "seed", desc := "(I)Z" } : Jvm.MethodName)) ∈ lw_tbl := mt_5 (List.mem_of_getElem? (i := 183) (by decide +kernel))
theorem wd_5_184 : (Jvm.Cond.instanceMethod ({ cls := "Retouched", name := "seed", desc := "(I)Z" } : Jvm.MethodName)) ∈ lw_tbl := mt_5 (List.mem_of_getElem? (i := 184) (by decide +kernel))
theorem wd_5_185 : (Jvm.Cond.selects "Retouched" ({ cls := "Retouched", name := "seed", desc := "(I)Z" } : Jvm.MethodName) ({ cls := "Retouched", name := "seed", desc := "(I)Z" } : Jvm.MethodName)) ∈ lw_tbl := mt_5 (List.mem_of_getElem? (i := 185) (by decide +kernel))
theorem wd_5_186 : (Jvm.Cond.code ({ cls := "Retouched", name := "seed", desc := "(I)Z" } : Jvm.MethodName) prog_1_method_31_code (2 : Nat) (Option.some Jvm.ClassFile.FieldType.boolean)) ∈ lw_tbl := mt_5 (List.mem_of_getElem? (i := 186) (by decide +kernel))
theorem wd_5_187 : (Jvm.Cond.methodLink "RetouchedLaw" (142 : Nat) ({ cls := "Retouched", name := "ask", desc := "()J" } : Jvm.MethodName)) ∈ lw_tbl := mt_5 (List.mem_of_getElem? (i := 187) (by decide +kernel))
theorem wd_5_188 : (Jvm.Cond.instanceMethod ({ cls := "Retouched", name := "ask", desc := "()J" } : Jvm.MethodName)) ∈ lw_tbl := mt_5 (List.mem_of_getElem? (i := 188) (by decide +kernel))
theorem wd_5_189 : (Jvm.Cond.selects "Retouched" ({ cls := "Retouched", name := "ask", desc := "()J" } : Jvm.MethodName) ({ cls := "Retouched", name := "ask", desc := "()J" } : Jvm.MethodName)) ∈ lw_tbl := mt_5 (List.mem_of_getElem? (i := 189) (by decide +kernel))
theorem wd_5_190 : (Jvm.Cond.code ({ cls := "Retouched", name := "ask", desc := "()J" } : Jvm.MethodName) prog_1_method_32_code (2 : Nat) (Option.some Jvm.ClassFile.FieldType.long)) ∈ lw_tbl := mt_5 (List.mem_of_getElem? (i := 190) (by decide +kernel))
theorem wd_5_2 : (Jvm.Cond.instanceMethod ({ cls := "Retouched", name := "mind", desc := "(III)I" } : Jvm.MethodName)) ∈ lw_tbl := mt_5 (List.mem_of_getElem? (i := 2) (by decide +kernel))
theorem wd_5_228 : (Jvm.Cond.methodLink "RetouchedLaw" (147 : Nat) ({ cls := "Retouched", name := "image", desc := "()I" } : Jvm.MethodName)) ∈ lw_tbl := mt_5 (List.mem_of_getElem? (i := 228) (by decide +kernel))
theorem wd_5_229 : (Jvm.Cond.instanceMethod ({ cls := "Retouched", name := "image", desc := "()I" } : Jvm.MethodName)) ∈ lw_tbl := mt_5 (List.mem_of_getElem? (i := 229) (by decide +kernel))
theorem wd_5_230 : (Jvm.Cond.selects "Retouched" ({ cls := "Retouched", name := "image", desc := "()I" } : Jvm.MethodName) ({ cls := "Retouched", name := "image", desc := "()I" } : Jvm.MethodName)) ∈ lw_tbl := mt_5 (List.mem_of_getElem? (i := 230) (by decide +kernel))
theorem wd_5_231 : (Jvm.Cond.code ({ cls := "Retouched", name := "image", desc := "()I" } : Jvm.MethodName) prog_1_method_33_code (1 : Nat) (Option.some Jvm.ClassFile.FieldType.int)) ∈ lw_tbl := mt_5 (List.mem_of_getElem? (i := 231) (by decide +kernel))
theorem wd_5_29 : (Jvm.Cond.methodLink "RetouchedLaw" (83 : Nat) ({ cls := "Retouched", name := "stranger", desc := "(IIII)I" } : Jvm.MethodName)) ∈ lw_tbl := mt_5 (List.mem_of_getElem? (i := 29) (by decide +kernel))
theorem wd_5_3 : (Jvm.Cond.selects "Retouched" ({ cls := "Retouched", name := "mind", desc := "(III)I" } : Jvm.MethodName) ({ cls := "Retouched", name := "mind", desc := "(III)I" } : Jvm.MethodName)) ∈ lw_tbl := mt_5 (List.mem_of_getElem? (i := 3) (by decide +kernel))
theorem wd_5_30 : (Jvm.Cond.instanceMethod ({ cls := "Retouched", name := "stranger", desc := "(IIII)I" } : Jvm.MethodName)) ∈ lw_tbl := mt_5 (List.mem_of_getElem? (i := 30) (by decide +kernel))
theorem wd_5_31 : (Jvm.Cond.selects "Retouched" ({ cls := "Retouched", name := "stranger", desc := "(IIII)I" } : Jvm.MethodName) ({ cls := "Retouched", name := "stranger", desc := "(IIII)I" } : Jvm.MethodName)) ∈ lw_tbl := mt_5 (List.mem_of_getElem? (i := 31) (by decide +kernel))
theorem wd_5_32 : (Jvm.Cond.code ({ cls := "Retouched", name := "stranger", desc := "(IIII)I" } : Jvm.MethodName) prog_1_method_18_code (5 : Nat) (Option.some Jvm.ClassFile.FieldType.int)) ∈ lw_tbl := mt_5 (List.mem_of_getElem? (i := 32) (by decide +kernel))
theorem wd_5_39 : (Jvm.Cond.methodLink "RetouchedLaw" (88 : Nat) ({ cls := "Retouched", name := "parted", desc := "()I" } : Jvm.MethodName)) ∈ lw_tbl := mt_5 (List.mem_of_getElem? (i := 39) (by decide +kernel))
theorem wd_5_4 : (Jvm.Cond.code ({ cls := "Retouched", name := "mind", desc := "(III)I" } : Jvm.MethodName) prog_1_method_15_code (4 : Nat) (Option.some Jvm.ClassFile.FieldType.int)) ∈ lw_tbl := mt_5 (List.mem_of_getElem? (i := 4) (by decide +kernel))
theorem wd_5_40 : (Jvm.Cond.instanceMethod ({ cls := "Retouched", name := "parted", desc := "()I" } : Jvm.MethodName)) ∈ lw_tbl := mt_5 (List.mem_of_getElem? (i := 40) (by decide +kernel))
theorem wd_5_41 : (Jvm.Cond.selects "Retouched" ({ cls := "Retouched", name := "parted", desc := "()I" } : Jvm.MethodName) ({ cls := "Retouched", name := "parted", desc := "()I" } : Jvm.MethodName)) ∈ lw_tbl := mt_5 (List.mem_of_getElem? (i := 41) (by decide +kernel))
theorem wd_5_42 : (Jvm.Cond.code ({ cls := "Retouched", name := "parted", desc := "()I" } : Jvm.MethodName) prog_1_method_19_code (1 : Nat) (Option.some Jvm.ClassFile.FieldType.int)) ∈ lw_tbl := mt_5 (List.mem_of_getElem? (i := 42) (by decide +kernel))
theorem wd_5_5 : (Jvm.Cond.methodLink "RetouchedLaw" (75 : Nat) ({ cls := "Retouched", name := "curtain", desc := "(I)I" } : Jvm.MethodName)) ∈ lw_tbl := mt_5 (List.mem_of_getElem? (i := 5) (by decide +kernel))
theorem wd_5_52 : (Jvm.Cond.methodLink "RetouchedLaw" (92 : Nat) ({ cls := "Retouched", name := "rest", desc := "(I)I" } : Jvm.MethodName)) ∈ lw_tbl := mt_5 (List.mem_of_getElem? (i := 52) (by decide +kernel))
theorem wd_5_53 : (Jvm.Cond.instanceMethod ({ cls := "Retouched", name := "rest", desc := "(I)I" } : Jvm.MethodName)) ∈ lw_tbl := mt_5 (List.mem_of_getElem? (i := 53) (by decide +kernel))
theorem wd_5_54 : (Jvm.Cond.selects "Retouched" ({ cls := "Retouched", name := "rest", desc := "(I)I" } : Jvm.MethodName) ({ cls := "Retouched", name := "rest", desc := "(I)I" } : Jvm.MethodName)) ∈ lw_tbl := mt_5 (List.mem_of_getElem? (i := 54) (by decide +kernel))
theorem wd_5_55 : (Jvm.Cond.code ({ cls := "Retouched", name := "rest", desc := "(I)I" } : Jvm.MethodName) prog_1_method_20_code (5 : Nat) (Option.some Jvm.ClassFile.FieldType.int)) ∈ lw_tbl := mt_5 (List.mem_of_getElem? (i := 55) (by decide +kernel))
theorem wd_5_6 : (Jvm.Cond.instanceMethod ({ cls := "Retouched", name := "curtain", desc := "(I)I" } : Jvm.MethodName)) ∈ lw_tbl := mt_5 (List.mem_of_getElem? (i := 6) (by decide +kernel))
theorem wd_5_7 : (Jvm.Cond.selects "Retouched" ({ cls := "Retouched", name := "curtain", desc := "(I)I" } : Jvm.MethodName) ({ cls := "Retouched", name := "curtain", desc := "(I)I" } : Jvm.MethodName)) ∈ lw_tbl := mt_5 (List.mem_of_getElem? (i := 7) (by decide +kernel))
theorem wd_5_73 : (Jvm.Cond.methodLink "RetouchedLaw" (96 : Nat) ({ cls := "Retouched", name := "see", desc := "()I" } : Jvm.MethodName)) ∈ lw_tbl := mt_5 (List.mem_of_getElem? (i := 73) (by decide +kernel))
theorem wd_5_74 : (Jvm.Cond.instanceMethod ({ cls := "Retouched", name := "see", desc := "()I" } : Jvm.MethodName)) ∈ lw_tbl := mt_5 (List.mem_of_getElem? (i := 74) (by decide +kernel))
theorem wd_5_75 : (Jvm.Cond.selects "Retouched" ({ cls := "Retouched", name := "see", desc := "()I" } : Jvm.MethodName) ({ cls := "Retouched", name := "see", desc := "()I" } : Jvm.MethodName)) ∈ lw_tbl := mt_5 (List.mem_of_getElem? (i := 75) (by decide +kernel))
theorem wd_5_76 : (Jvm.Cond.code ({ cls := "Retouched", name := "see", desc := "()I" } : Jvm.MethodName) prog_1_method_21_code (2 : Nat) (Option.some Jvm.ClassFile.FieldType.int)) ∈ lw_tbl := mt_5 (List.mem_of_getElem? (i := 76) (by decide +kernel))
theorem wd_5_8 : (Jvm.Cond.code ({ cls := "Retouched", name := "curtain", desc := "(I)I" } : Jvm.MethodName) prog_1_method_16_code (2 : Nat) (Option.some Jvm.ClassFile.FieldType.int)) ∈ lw_tbl := mt_5 (List.mem_of_getElem? (i := 8) (by decide +kernel))
theorem wd_5_83 : (Jvm.Cond.methodLink "RetouchedLaw" (100 : Nat) ({ cls := "Retouched", name := "thoughts", desc := "(II)I" } : Jvm.MethodName)) ∈ lw_tbl := mt_5 (List.mem_of_getElem? (i := 83) (by decide +kernel))
theorem wd_5_84 : (Jvm.Cond.instanceMethod ({ cls := "Retouched", name := "thoughts", desc := "(II)I" } : Jvm.MethodName)) ∈ lw_tbl := mt_5 (List.mem_of_getElem? (i := 84) (by decide +kernel))
theorem wd_5_85 : (Jvm.Cond.selects "Retouched" ({ cls := "Retouched", name := "thoughts", desc := "(II)I" } : Jvm.MethodName) ({ cls := "Retouched", name := "thoughts", desc := "(II)I" } : Jvm.MethodName)) ∈ lw_tbl := mt_5 (List.mem_of_getElem? (i := 85) (by decide +kernel))
theorem wd_5_86 : (Jvm.Cond.code ({ cls := "Retouched", name := "thoughts", desc := "(II)I" } : Jvm.MethodName) prog_1_method_22_code (3 : Nat) (Option.some Jvm.ClassFile.FieldType.int)) ∈ lw_tbl := mt_5 (List.mem_of_getElem? (i := 86) (by decide +kernel))
theorem wd_6_12 : (Jvm.Cond.methodLink "RetouchedLaw" (155 : Nat) ({ cls := "Retouched", name := "on", desc := "()Z" } : Jvm.MethodName)) ∈ lw_tbl := mt_6 (List.mem_of_getElem? (i := 12) (by decide +kernel))
theorem wd_6_13 : (Jvm.Cond.instanceMethod ({ cls := "Retouched", name := "on", desc := "()Z" } : Jvm.MethodName)) ∈ lw_tbl := mt_6 (List.mem_of_getElem? (i := 13) (by decide +kernel))
theorem wd_6_14 : (Jvm.Cond.selects "Retouched" ({ cls := "Retouched", name := "on", desc := "()Z" } : Jvm.MethodName) ({ cls := "Retouched", name := "on", desc := "()Z" } : Jvm.MethodName)) ∈ lw_tbl := mt_6 (List.mem_of_getElem? (i := 14) (by decide +kernel))
theorem wd_6_15 : (Jvm.Cond.code ({ cls := "Retouched", name := "on", desc := "()Z" } : Jvm.MethodName) prog_1_method_35_code (2 : Nat) (Option.some Jvm.ClassFile.FieldType.boolean)) ∈ lw_tbl := mt_6 (List.mem_of_getElem? (i := 15) (by decide +kernel))
theorem wd_6_36 : (Jvm.Cond.methodLink "RetouchedLaw" (159 : Nat) ({ cls := "Retouched", name := "status", desc := "(I)I" } : Jvm.MethodName)) ∈ lw_tbl := mt_6 (List.mem_of_getElem? (i := 36) (by decide +kernel))
theorem wd_6_37 : (Jvm.Cond.instanceMethod ({ cls := "Retouched", name := "status", desc := "(I)I" } : Jvm.MethodName)) ∈ lw_tbl := mt_6 (List.mem_of_getElem? (i := 37) (by decide +kernel))
theorem wd_6_38 : (Jvm.Cond.selects "Retouched" ({ cls := "Retouched", name := "status", desc := "(I)I" } : Jvm.MethodName) ({ cls := "Retouched", name := "status", desc := "(I)I" } : Jvm.MethodName)) ∈ lw_tbl := mt_6 (List.mem_of_getElem? (i := 38) (by decide +kernel))
theorem wd_6_39 : (Jvm.Cond.code ({ cls := "Retouched", name := "status", desc := "(I)I" } : Jvm.MethodName) prog_1_method_36_code (2 : Nat) (Option.some Jvm.ClassFile.FieldType.int)) ∈ lw_tbl := mt_6 (List.mem_of_getElem? (i := 39) (by decide +kernel))
theorem wd_6_4 : (Jvm.Cond.methodLink "RetouchedLaw" (151 : Nat) ({ cls := "Retouched", name := "octet", desc := "(I)I" } : Jvm.MethodName)) ∈ lw_tbl := mt_6 (List.mem_of_getElem? (i := 4) (by decide +kernel))
theorem wd_6_5 : (Jvm.Cond.instanceMethod ({ cls := "Retouched", name := "octet", desc := "(I)I" } : Jvm.MethodName)) ∈ lw_tbl := mt_6 (List.mem_of_getElem? (i := 5) (by decide +kernel))
theorem wd_6_6 : (Jvm.Cond.selects "Retouched" ({ cls := "Retouched", name := "octet", desc := "(I)I" } : Jvm.MethodName) ({ cls := "Retouched", name := "octet", desc := "(I)I" } : Jvm.MethodName)) ∈ lw_tbl := mt_6 (List.mem_of_getElem? (i := 6) (by decide +kernel))
theorem wd_6_7 : (Jvm.Cond.code ({ cls := "Retouched", name := "octet", desc := "(I)I" } : Jvm.MethodName) prog_1_method_34_code (2 : Nat) (Option.some Jvm.ClassFile.FieldType.int)) ∈ lw_tbl := mt_6 (List.mem_of_getElem? (i := 7) (by decide +kernel))
theorem wd_7_148 : (Jvm.Cond.methodLink "RetouchedLaw" (17 : Nat) ({ cls := "RetouchedModel", name := "feed", desc := "(IIIII)I" } : Jvm.MethodName)) ∈ lw_tbl := mt_7 (List.mem_of_getElem? (i := 148) (by decide +kernel))
theorem wd_7_149 : (Jvm.Cond.instanceMethod ({ cls := "RetouchedModel", name := "feed", desc := "(IIIII)I" } : Jvm.MethodName)) ∈ lw_tbl := mt_7 (List.mem_of_getElem? (i := 149) (by decide +kernel))
theorem wd_7_150 : (Jvm.Cond.selects "RetouchedModel" ({ cls := "RetouchedModel", name := "feed", desc := "(IIIII)I" } : Jvm.MethodName) ({ cls := "RetouchedModel", name := "feed", desc := "(IIIII)I" } : Jvm.MethodName)) ∈ lw_tbl := mt_7 (List.mem_of_getElem? (i := 150) (by decide +kernel))
theorem wd_7_151 : (Jvm.Cond.code ({ cls := "RetouchedModel", name := "feed", desc := "(IIIII)I" } : Jvm.MethodName) prog_14_method_3_code (8 : Nat) (Option.some Jvm.ClassFile.FieldType.int)) ∈ lw_tbl := mt_7 (List.mem_of_getElem? (i := 151) (by decide +kernel))
theorem wd_7_152 : (Jvm.Cond.methodLink "RetouchedLaw" (22 : Nat) ({ cls := "RetouchedModel", name := "end", desc := "(I)Z" } : Jvm.MethodName)) ∈ lw_tbl := mt_7 (List.mem_of_getElem? (i := 152) (by decide +kernel))
theorem wd_7_153 : (Jvm.Cond.instanceMethod ({ cls := "RetouchedModel", name := "end", desc := "(I)Z" } : Jvm.MethodName)) ∈ lw_tbl := mt_7 (List.mem_of_getElem? (i := 153) (by decide +kernel))
theorem wd_7_154 : (Jvm.Cond.selects "RetouchedModel" ({ cls := "RetouchedModel", name := "end", desc := "(I)Z" } : Jvm.MethodName) ({ cls := "RetouchedModel", name := "end", desc := "(I)Z" } : Jvm.MethodName)) ∈ lw_tbl := mt_7 (List.mem_of_getElem? (i := 154) (by decide +kernel))
theorem wd_7_155 : (Jvm.Cond.code ({ cls := "RetouchedModel", name := "end", desc := "(I)Z" } : Jvm.MethodName) prog_14_method_4_code (2 : Nat) (Option.some Jvm.ClassFile.FieldType.boolean)) ∈ lw_tbl := mt_7 (List.mem_of_getElem? (i := 155) (by decide +kernel))
theorem wd_7_156 : (Jvm.Cond.methodLink "RetouchedLaw" (27 : Nat) ({ cls := "RetouchedModel", name := "terrace", desc := "()I" } : Jvm.MethodName)) ∈ lw_tbl := mt_7 (List.mem_of_getElem? (i := 156) (by decide +kernel))
theorem wd_7_157 : (Jvm.Cond.instanceMethod ({ cls := "RetouchedModel", name := "terrace", desc := "()I" } : Jvm.MethodName)) ∈ lw_tbl := mt_7 (List.mem_of_getElem? (i := 157) (by decide +kernel))
theorem wd_7_158 : (Jvm.Cond.selects "RetouchedModel" ({ cls := "RetouchedModel", name := "terrace", desc := "()I" } : Jvm.MethodName) ({ cls := "RetouchedModel", name := "terrace", desc := "()I" } : Jvm.MethodName)) ∈ lw_tbl := mt_7 (List.mem_of_getElem? (i := 158) (by decide +kernel))
theorem wd_7_159 : (Jvm.Cond.code ({ cls := "RetouchedModel", name := "terrace", desc := "()I" } : Jvm.MethodName) prog_14_method_25_code (2 : Nat) (Option.some Jvm.ClassFile.FieldType.int)) ∈ lw_tbl := mt_7 (List.mem_of_getElem? (i := 159) (by decide +kernel))
theorem wd_8_166 : (Jvm.Cond.methodLink "RetouchedLaw" (41 : Nat) ({ cls := "RetouchedModel", name := "letter", desc := "(II)I" } : Jvm.MethodName)) ∈ lw_tbl := mt_8 (List.mem_of_getElem? (i := 166) (by decide +kernel))
theorem wd_8_167 : (Jvm.Cond.instanceMethod ({ cls := "RetouchedModel", name := "letter", desc := "(II)I" } : Jvm.MethodName)) ∈ lw_tbl := mt_8 (List.mem_of_getElem? (i := 167) (by decide +kernel))
theorem wd_8_168 : (Jvm.Cond.selects "RetouchedModel" ({ cls := "RetouchedModel", name := "letter", desc := "(II)I" } : Jvm.MethodName) ({ cls := "RetouchedModel", name := "letter", desc := "(II)I" } : Jvm.MethodName)) ∈ lw_tbl := mt_8 (List.mem_of_getElem? (i := 168) (by decide +kernel))
theorem wd_8_169 : (Jvm.Cond.code ({ cls := "RetouchedModel", name := "letter", desc := "(II)I" } : Jvm.MethodName) prog_14_method_60_code (8 : Nat) (Option.some Jvm.ClassFile.FieldType.int)) ∈ lw_tbl := mt_8 (List.mem_of_getElem? (i := 169) (by decide +kernel))
theorem wd_8_175 : (Jvm.Cond.methodLink "RetouchedLaw" (45 : Nat) ({ cls := "RetouchedModel", name := "house", desc := "(I)I" } : Jvm.MethodName)) ∈ lw_tbl := mt_8 (List.mem_of_getElem? (i := 175) (by decide +kernel))
theorem wd_8_176 : (Jvm.Cond.instanceMethod ({ cls := "RetouchedModel", name := "house", desc := "(I)I" } : Jvm.MethodName)) ∈ lw_tbl := mt_8 (List.mem_of_getElem? (i := 176) (by decide +kernel))
theorem wd_8_177 : (Jvm.Cond.selects "RetouchedModel" ({ cls := "RetouchedModel", name := "house", desc := "(I)I" } : Jvm.MethodName) ({ cls := "RetouchedModel", name := "house", desc := "(I)I" } : Jvm.MethodName)) ∈ lw_tbl := mt_8 (List.mem_of_getElem? (i := 177) (by decide +kernel))
theorem wd_8_178 : (Jvm.Cond.code ({ cls := "RetouchedModel", name := "house", desc := "(I)I" } : Jvm.MethodName) prog_14_method_61_code (2 : Nat) (Option.some Jvm.ClassFile.FieldType.int)) ∈ lw_tbl := mt_8 (List.mem_of_getElem? (i := 178) (by decide +kernel))
theorem wd_8_183 : (Jvm.Cond.methodLink "RetouchedLaw" (49 : Nat) ({ cls := "RetouchedModel", name := "person", desc := "(II)I" } : Jvm.MethodName)) ∈ lw_tbl := mt_8 (List.mem_of_getElem? (i := 183) (by decide +kernel))
theorem wd_8_184 : (Jvm.Cond.instanceMethod ({ cls := "RetouchedModel", name := "person", desc := "(II)I" } : Jvm.MethodName)) ∈ lw_tbl := mt_8 (List.mem_of_getElem? (i := 184) (by decide +kernel))
theorem wd_8_185 : (Jvm.Cond.selects "RetouchedModel" ({ cls := "RetouchedModel", name := "person", desc := "(II)I" } : Jvm.MethodName) ({ cls := "RetouchedModel", name := "person", desc := "(II)I" } : Jvm.MethodName)) ∈ lw_tbl := mt_8 (List.mem_of_getElem? (i := 185) (by decide +kernel))
theorem wd_8_186 : (Jvm.Cond.code ({ cls := "RetouchedModel", name := "person", desc := "(II)I" } : Jvm.MethodName) prog_14_method_62_code (3 : Nat) (Option.some Jvm.ClassFile.FieldType.int)) ∈ lw_tbl := mt_8 (List.mem_of_getElem? (i := 186) (by decide +kernel))
theorem wd_8_191 : (Jvm.Cond.methodLink "RetouchedLaw" (53 : Nat) ({ cls := "RetouchedModel", name := "thinks", desc := "(II)I" } : Jvm.MethodName)) ∈ lw_tbl := mt_8 (List.mem_of_getElem? (i := 191) (by decide +kernel))
theorem wd_8_192 : (Jvm.Cond.instanceMethod ({ cls := "RetouchedModel", name := "thinks", desc := "(II)I" } : Jvm.MethodName)) ∈ lw_tbl := mt_8 (List.mem_of_getElem? (i := 192) (by decide +kernel))
theorem wd_8_193 : (Jvm.Cond.selects "RetouchedModel" ({ cls := "RetouchedModel", name := "thinks", desc := "(II)I" } : Jvm.MethodName) ({ cls := "RetouchedModel", name := "thinks", desc := "(II)I" } : Jvm.MethodName)) ∈ lw_tbl := mt_8 (List.mem_of_getElem? (i := 193) (by decide +kernel))
theorem wd_8_194 : (Jvm.Cond.code ({ cls := "RetouchedModel", name := "thinks", desc := "(II)I" } : Jvm.MethodName) prog_14_method_63_code (3 : Nat) (Option.some Jvm.ClassFile.FieldType.int)) ∈ lw_tbl := mt_8 (List.mem_of_getElem? (i := 194) (by decide +kernel))
theorem wd_8_203 : (Jvm.Cond.methodLink "RetouchedLaw" (57 : Nat) ({ cls := "RetouchedModel", name := "paints", desc := "(II)I" } : Jvm.MethodName)) ∈ lw_tbl := mt_8 (List.mem_of_getElem? (i := 203) (by decide +kernel))
theorem wd_8_204 : (Jvm.Cond.instanceMethod ({ cls := "RetouchedModel", name := "paints", desc := "(II)I" } : Jvm.MethodName)) ∈ lw_tbl := mt_8 (List.mem_of_getElem? (i := 204) (by decide +kernel))
theorem wd_8_205 : (Jvm.Cond.selects "RetouchedModel" ({ cls := "RetouchedModel", name := "paints", desc := "(II)I" } : Jvm.MethodName) ({ cls := "RetouchedModel", name := "paints", desc := "(II)I" } : Jvm.MethodName)) ∈ lw_tbl := mt_8 (List.mem_of_getElem? (i := 205) (by decide +kernel))
theorem wd_8_206 : (Jvm.Cond.code ({ cls := "RetouchedModel", name := "paints", desc := "(II)I" } : Jvm.MethodName) prog_14_method_64_code (4 : Nat) (Option.some Jvm.ClassFile.FieldType.int)) ∈ lw_tbl := mt_8 (List.mem_of_getElem? (i := 206) (by decide +kernel))
theorem wd_8_214 : (Jvm.Cond.methodLink "RetouchedLaw" (61 : Nat) ({ cls := "RetouchedModel", name := "feud", desc := "(I)I" } : Jvm.MethodName)) ∈ lw_tbl := mt_8 (List.mem_of_getElem? (i := 214) (by decide +kernel))
theorem wd_8_215 : (Jvm.Cond.instanceMethod ({ cls := "RetouchedModel", name := "feud", desc := "(I)I" } : Jvm.MethodName)) ∈ lw_tbl := mt_8 (List.mem_of_getElem? (i := 215) (by decide +kernel))
theorem wd_8_216 : (Jvm.Cond.selects "RetouchedModel" ({ cls := "RetouchedModel", name := "feud", desc := "(I)I" } : Jvm.MethodName) ({ cls := "RetouchedModel", name := "feud", desc := "(I)I" } : Jvm.MethodName)) ∈ lw_tbl := mt_8 (List.mem_of_getElem? (i := 216) (by decide +kernel))
theorem wd_8_217 : (Jvm.Cond.code ({ cls := "RetouchedModel", name := "feud", desc := "(I)I" } : Jvm.MethodName) prog_14_method_65_code (2 : Nat) (Option.some Jvm.ClassFile.FieldType.int)) ∈ lw_tbl := mt_8 (List.mem_of_getElem? (i := 217) (by decide +kernel))
theorem wd_8_218 : (Jvm.Cond.methodLink "RetouchedLaw" (65 : Nat) ({ cls := "RetouchedModel", name := "kept", desc := "(II)I" } : Jvm.MethodName)) ∈ lw_tbl := mt_8 (List.mem_of_getElem? (i := 218) (by decide +kernel))
theorem wd_8_219 : (Jvm.Cond.instanceMethod ({ cls := "RetouchedModel", name := "kept", desc := "(II)I" } : Jvm.MethodName)) ∈ lw_tbl := mt_8 (List.mem_of_getElem? (i := 219) (by decide +kernel))
theorem wd_8_220 : (Jvm.Cond.selects "RetouchedModel" ({ cls := "RetouchedModel", name := "kept", desc := "(II)I" } : Jvm.MethodName) ({ cls := "RetouchedModel", name := "kept", desc := "(II)I" } : Jvm.MethodName)) ∈ lw_tbl := mt_8 (List.mem_of_getElem? (i := 220) (by decide +kernel))
theorem wd_8_221 : (Jvm.Cond.code ({ cls := "RetouchedModel", name := "kept", desc := "(II)I" } : Jvm.MethodName) prog_14_method_66_code (3 : Nat) (Option.some Jvm.ClassFile.FieldType.int)) ∈ lw_tbl := mt_8 (List.mem_of_getElem? (i := 221) (by decide +kernel))
theorem wd_8_223 : (Jvm.Cond.methodLink "RetouchedLaw" (69 : Nat) ({ cls := "RetouchedModel", name := "later", desc := "(II)I" } : Jvm.MethodName)) ∈ lw_tbl := mt_8 (List.mem_of_getElem? (i := 223) (by decide +kernel))
theorem wd_8_224 : (Jvm.Cond.instanceMethod ({ cls := "RetouchedModel", name := "later", desc := "(II)I" } : Jvm.MethodName)) ∈ lw_tbl := mt_8 (List.mem_of_getElem? (i := 224) (by decide +kernel))
theorem wd_8_225 : (Jvm.Cond.selects "RetouchedModel" ({ cls := "RetouchedModel", name := "later", desc := "(II)I" } : Jvm.MethodName) ({ cls := "RetouchedModel", name := "later", desc := "(II)I" } : Jvm.MethodName)) ∈ lw_tbl := mt_8 (List.mem_of_getElem? (i := 225) (by decide +kernel))
theorem wd_8_226 : (Jvm.Cond.code ({ cls := "RetouchedModel", name := "later", desc := "(II)I" } : Jvm.MethodName) prog_14_method_67_code (4 : Nat) (Option.some Jvm.ClassFile.FieldType.int)) ∈ lw_tbl := mt_8 (List.mem_of_getElem? (i := 226) (by decide +kernel))
theorem wd_8_82 : (Jvm.Cond.methodLink "RetouchedLaw" (32 : Nat) ({ cls := "RetouchedModel", name := "fault", desc := "(I)I" } : Jvm.MethodName)) ∈ lw_tbl := mt_8 (List.mem_of_getElem? (i := 82) (by decide +kernel))
theorem wd_8_83 : (Jvm.Cond.instanceMethod ({ cls := "RetouchedModel", name := "fault", desc := "(I)I" } : Jvm.MethodName)) ∈ lw_tbl := mt_8 (List.mem_of_getElem? (i := 83) (by decide +kernel))
theorem wd_8_84 : (Jvm.Cond.selects "RetouchedModel" ({ cls := "RetouchedModel", name := "fault", desc := "(I)I" } : Jvm.MethodName) ({ cls := "RetouchedModel", name := "fault", desc := "(I)I" } : Jvm.MethodName)) ∈ lw_tbl := mt_8 (List.mem_of_getElem? (i := 84) (by decide +kernel))
theorem wd_8_85 : (Jvm.Cond.code ({ cls := "RetouchedModel", name := "fault", desc := "(I)I" } : Jvm.MethodName) prog_14_method_27_code (2 : Nat) (Option.some Jvm.ClassFile.FieldType.int)) ∈ lw_tbl := mt_8 (List.mem_of_getElem? (i := 85) (by decide +kernel))
theorem wd_8_86 : (Jvm.Cond.methodLink "RetouchedLaw" (36 : Nat) ({ cls := "RetouchedModel", name := "has", desc := "(I)I" } : Jvm.MethodName)) ∈ lw_tbl := mt_8 (List.mem_of_getElem? (i := 86) (by decide +kernel))
theorem wd_8_87 : (Jvm.Cond.instanceMethod ({ cls := "RetouchedModel", name := "has", desc := "(I)I" } : Jvm.MethodName)) ∈ lw_tbl := mt_8 (List.mem_of_getElem? (i := 87) (by decide +kernel))
theorem wd_8_88 : (Jvm.Cond.selects "RetouchedModel" ({ cls := "RetouchedModel", name := "has", desc := "(I)I" } : Jvm.MethodName) ({ cls := "RetouchedModel", name := "has", desc := "(I)I" } : Jvm.MethodName)) ∈ lw_tbl := mt_8 (List.mem_of_getElem? (i := 88) (by decide +kernel))
theorem wd_8_89 : (Jvm.Cond.code ({ cls := "RetouchedModel", name := "has", desc := "(I)I" } : Jvm.MethodName) prog_14_method_59_code (2 : Nat) (Option.some Jvm.ClassFile.FieldType.int)) ∈ lw_tbl := mt_8 (List.mem_of_getElem? (i := 89) (by decide +kernel))
theorem wd_9_100 : (Jvm.Cond.instanceMethod ({ cls := "RetouchedModel", name := "faces", desc := "(I)I" } : Jvm.MethodName)) ∈ lw_tbl := mt_9 (List.mem_of_getElem? (i := 100) (by decide +kernel))
theorem wd_9_101 : (Jvm.Cond.selects "RetouchedModel" ({ cls := "RetouchedModel", name := "faces", desc := "(I)I" } : Jvm.MethodName) ({ cls := "RetouchedModel", name := "faces", desc := "(I)I" } : Jvm.MethodName)) ∈ lw_tbl := mt_9 (List.mem_of_getElem? (i := 101) (by decide +kernel))
theorem wd_9_102 : (Jvm.Cond.code ({ cls := "RetouchedModel", name := "faces", desc := "(I)I" } : Jvm.MethodName) prog_14_method_86_code (4 : Nat) (Option.some Jvm.ClassFile.FieldType.int)) ∈ lw_tbl := mt_9 (List.mem_of_getElem? (i := 102) (by decide +kernel))
theorem wd_9_103 : (Jvm.Cond.methodLink "RetouchedLaw" (111 : Nat) ({ cls := "RetouchedModel", name := "tells", desc := "(III)I" } : Jvm.MethodName)) ∈ lw_tbl := mt_9 (List.mem_of_getElem? (i := 103) (by decide +kernel))
theorem wd_9_104 : (Jvm.Cond.instanceMethod ({ cls := "RetouchedModel", name := "tells", desc := "(III)I" } : Jvm.MethodName)) ∈ lw_tbl := mt_9 (List.mem_of_getElem? (i := 104) (by decide +kernel))
theorem wd_9_105 : (Jvm.Cond.selects "RetouchedModel" ({ cls := "RetouchedModel", name := "tells", desc := "(III)I" } : Jvm.MethodName) ({ cls := "RetouchedModel", name := "tells", desc := "(III)I" } : Jvm.MethodName)) ∈ lw_tbl := mt_9 (List.mem_of_getElem? (i := 105) (by decide +kernel))
theorem wd_9_106 : (Jvm.Cond.code ({ cls := "RetouchedModel", name := "tells", desc := "(III)I" } : Jvm.MethodName) prog_14_method_88_code (8 : Nat) (Option.some Jvm.ClassFile.FieldType.int)) ∈ lw_tbl := mt_9 (List.mem_of_getElem? (i := 106) (by decide +kernel))
theorem wd_9_111 : (Jvm.Cond.methodLink "RetouchedLaw" (137 : Nat) ({ cls := "RetouchedModel", name := "undo", desc := "()Z" } : Jvm.MethodName)) ∈ lw_tbl := mt_9 (List.mem_of_getElem? (i := 111) (by decide +kernel))
theorem wd_9_112 : (Jvm.Cond.instanceMethod ({ cls := "RetouchedModel", name := "undo", desc := "()Z" } : Jvm.MethodName)) ∈ lw_tbl := mt_9 (List.mem_of_getElem? (i := 112) (by decide +kernel))
theorem wd_9_113 : (Jvm.Cond.selects "RetouchedModel" ({ cls := "RetouchedModel", name := "undo", desc := "()Z" } : Jvm.MethodName) ({ cls := "RetouchedModel", name := "undo", desc := "()Z" } : Jvm.MethodName)) ∈ lw_tbl := mt_9 (List.mem_of_getElem? (i := 113) (by decide +kernel))
theorem wd_9_114 : (Jvm.Cond.code ({ cls := "RetouchedModel", name := "undo", desc := "()Z" } : Jvm.MethodName) prog_14_method_90_code (2 : Nat) (Option.some Jvm.ClassFile.FieldType.boolean)) ∈ lw_tbl := mt_9 (List.mem_of_getElem? (i := 114) (by decide +kernel))
theorem wd_9_115 : (Jvm.Cond.methodLink "RetouchedLaw" (116 : Nat) ({ cls := "RetouchedModel", name := "change", desc := "(II)Z" } : Jvm.MethodName)) ∈ lw_tbl := mt_9 (List.mem_of_getElem? (i := 115) (by decide +kernel))
theorem wd_9_116 : (Jvm.Cond.instanceMethod ({ cls := "RetouchedModel", name := "change", desc := "(II)Z" } : Jvm.MethodName)) ∈ lw_tbl := mt_9 (List.mem_of_getElem? (i := 116) (by decide +kernel))
theorem wd_9_117 : (Jvm.Cond.selects "RetouchedModel" ({ cls := "RetouchedModel", name := "change", desc := "(II)Z" } : Jvm.MethodName) ({ cls := "RetouchedModel", name := "change", desc := "(II)Z" } : Jvm.MethodName)) ∈ lw_tbl := mt_9 (List.mem_of_getElem? (i := 117) (by decide +kernel))
theorem wd_9_118 : (Jvm.Cond.code ({ cls := "RetouchedModel", name := "change", desc := "(II)Z" } : Jvm.MethodName) prog_14_method_92_code (3 : Nat) (Option.some Jvm.ClassFile.FieldType.boolean)) ∈ lw_tbl := mt_9 (List.mem_of_getElem? (i := 118) (by decide +kernel))
theorem wd_9_127 : (Jvm.Cond.methodLink "RetouchedLaw" (120 : Nat) ({ cls := "RetouchedModel", name := "right", desc := "(I)Z" } : Jvm.MethodName)) ∈ lw_tbl := mt_9 (List.mem_of_getElem? (i := 127) (by decide +kernel))
theorem wd_9_128 : (Jvm.Cond.instanceMethod ({ cls := "RetouchedModel", name := "right", desc := "(I)Z" } : Jvm.MethodName)) ∈ lw_tbl := mt_9 (List.mem_of_getElem? (i := 128) (by decide +kernel))
theorem wd_9_129 : (Jvm.Cond.selects "RetouchedModel" ({ cls := "RetouchedModel", name := "right", desc := "(I)Z" } : Jvm.MethodName) ({ cls := "RetouchedModel", name := "right", desc := "(I)Z" } : Jvm.MethodName)) ∈ lw_tbl := mt_9 (List.mem_of_getElem? (i := 129) (by decide +kernel))
theorem wd_9_130 : (Jvm.Cond.code ({ cls := "RetouchedModel", name := "right", desc := "(I)Z" } : Jvm.MethodName) prog_14_method_93_code (2 : Nat) (Option.some Jvm.ClassFile.FieldType.boolean)) ∈ lw_tbl := mt_9 (List.mem_of_getElem? (i := 130) (by decide +kernel))
theorem wd_9_131 : (Jvm.Cond.methodLink "RetouchedLaw" (124 : Nat) ({ cls := "RetouchedModel", name := "spare", desc := "(II)Z" } : Jvm.MethodName)) ∈ lw_tbl := mt_9 (List.mem_of_getElem? (i := 131) (by decide +kernel))
theorem wd_9_132 : (Jvm.Cond.instanceMethod ({ cls := "RetouchedModel", name := "spare", desc := "(II)Z" } : Jvm.MethodName)) ∈ lw_tbl := mt_9 (List.mem_of_getElem? (i := 132) (by decide +kernel))
theorem wd_9_133 : (Jvm.Cond.selects "RetouchedModel" ({ cls := "RetouchedModel", name := "spare", desc := "(II)Z" } : Jvm.MethodName) ({ cls := "RetouchedModel", name := "spare", desc := "(II)Z" } : Jvm.MethodName)) ∈ lw_tbl := mt_9 (List.mem_of_getElem? (i := 133) (by decide +kernel))
theorem wd_9_134 : (Jvm.Cond.code ({ cls := "RetouchedModel", name := "spare", desc := "(II)Z" } : Jvm.MethodName) prog_14_method_94_code (3 : Nat) (Option.some Jvm.ClassFile.FieldType.boolean)) ∈ lw_tbl := mt_9 (List.mem_of_getElem? (i := 134) (by decide +kernel))
theorem wd_9_135 : (Jvm.Cond.methodLink "RetouchedLaw" (128 : Nat) ({ cls := "RetouchedModel", name := "years", desc := "(I)I" } : Jvm.MethodName)) ∈ lw_tbl := mt_9 (List.mem_of_getElem? (i := 135) (by decide +kernel))
theorem wd_9_136 : (Jvm.Cond.instanceMethod ({ cls := "RetouchedModel", name := "years", desc := "(I)I" } : Jvm.MethodName)) ∈ lw_tbl := mt_9 (List.mem_of_getElem? (i := 136) (by decide +kernel))
theorem wd_9_137 : (Jvm.Cond.selects "RetouchedModel" ({ cls := "RetouchedModel", name := "years", desc := "(I)I" } : Jvm.MethodName) ({ cls := "RetouchedModel", name := "years", desc := "(I)I" } : Jvm.MethodName)) ∈ lw_tbl := mt_9 (List.mem_of_getElem? (i := 137) (by decide +kernel))
theorem wd_9_138 : (Jvm.Cond.code ({ cls := "RetouchedModel", name := "years", desc := "(I)I" } : Jvm.MethodName) prog_14_method_95_code (2 : Nat) (Option.some Jvm.ClassFile.FieldType.int)) ∈ lw_tbl := mt_9 (List.mem_of_getElem? (i := 138) (by decide +kernel))
theorem wd_9_139 : (Jvm.Cond.methodLink "RetouchedLaw" (141 : Nat) ({ cls := "RetouchedModel", name := "seed", desc := "(I)Z" } : Jvm.MethodName)) ∈ lw_tbl := mt_9 (List.mem_of_getElem? (i := 139) (by decide +kernel))
theorem wd_9_140 : (Jvm.Cond.instanceMethod ({ cls := "RetouchedModel", name := "seed", desc := "(I)Z" } : Jvm.MethodName)) ∈ lw_tbl := mt_9 (List.mem_of_getElem? (i := 140) (by decide +kernel))
theorem wd_9_141 : (Jvm.Cond.selects "RetouchedModel" ({ cls := "RetouchedModel", name := "seed", desc := "(I)Z" } : Jvm.MethodName) ({ cls := "RetouchedModel", name := "seed", desc := "(I)Z" } : Jvm.MethodName)) ∈ lw_tbl := mt_9 (List.mem_of_getElem? (i := 141) (by decide +kernel))
theorem wd_9_142 : (Jvm.Cond.code ({ cls := "RetouchedModel", name := "seed", desc := "(I)Z" } : Jvm.MethodName) prog_14_method_96_code (2 : Nat) (Option.some Jvm.ClassFile.FieldType.boolean)) ∈ lw_tbl := mt_9 (List.mem_of_getElem? (i := 142) (by decide +kernel))
theorem wd_9_143 : (Jvm.Cond.methodLink "RetouchedLaw" (132 : Nat) ({ cls := "RetouchedModel", name := "chance", desc := "(I)I" } : Jvm.MethodName)) ∈ lw_tbl := mt_9 (List.mem_of_getElem? (i := 143) (by decide +kernel))
theorem wd_9_144 : (Jvm.Cond.instanceMethod ({ cls := "RetouchedModel", name := "chance", desc := "(I)I" } : Jvm.MethodName)) ∈ lw_tbl := mt_9 (List.mem_of_getElem? (i := 144) (by decide +kernel))
theorem wd_9_145 : (Jvm.Cond.selects "RetouchedModel" ({ cls := "RetouchedModel", name := "chance", desc := "(I)I" } : Jvm.MethodName) ({ cls := "RetouchedModel", name := "chance", desc := "(I)I" } : Jvm.MethodName)) ∈ lw_tbl := mt_9 (List.mem_of_getElem? (i := 145) (by decide +kernel))
theorem wd_9_146 : (Jvm.Cond.code ({ cls := "RetouchedModel", name := "chance", desc := "(I)I" } : Jvm.MethodName) prog_14_method_98_code (5 : Nat) (Option.some Jvm.ClassFile.FieldType.int)) ∈ lw_tbl := mt_9 (List.mem_of_getElem? (i := 146) (by decide +kernel))
theorem wd_9_155 : (Jvm.Cond.methodLink "RetouchedLaw" (146 : Nat) ({ cls := "RetouchedModel", name := "ask", desc := "()J" } : Jvm.MethodName)) ∈ lw_tbl := mt_9 (List.mem_of_getElem? (i := 155) (by decide +kernel))
theorem wd_9_156 : (Jvm.Cond.instanceMethod ({ cls := "RetouchedModel", name := "ask", desc := "()J" } : Jvm.MethodName)) ∈ lw_tbl := mt_9 (List.mem_of_getElem? (i := 156) (by decide +kernel))
theorem wd_9_157 : (Jvm.Cond.selects "RetouchedModel" ({ cls := "RetouchedModel", name := "ask", desc := "()J" } : Jvm.MethodName) ({ cls := "RetouchedModel", name := "ask", desc := "()J" } : Jvm.MethodName)) ∈ lw_tbl := mt_9 (List.mem_of_getElem? (i := 157) (by decide +kernel))
theorem wd_9_158 : (Jvm.Cond.code ({ cls := "RetouchedModel", name := "ask", desc := "()J" } : Jvm.MethodName) prog_14_method_127_code (3 : Nat) (Option.some Jvm.ClassFile.FieldType.long)) ∈ lw_tbl := mt_9 (List.mem_of_getElem? (i := 158) (by decide +kernel))
theorem wd_9_177 : (Jvm.Cond.methodLink "RetouchedLaw" (150 : Nat) ({ cls := "RetouchedModel", name := "image", desc := "()I" } : Jvm.MethodName)) ∈ lw_tbl := mt_9 (List.mem_of_getElem? (i := 177) (by decide +kernel))
theorem wd_9_178 : (Jvm.Cond.instanceMethod ({ cls := "RetouchedModel", name := "image", desc := "()I" } : Jvm.MethodName)) ∈ lw_tbl := mt_9 (List.mem_of_getElem? (i := 178) (by decide +kernel))
theorem wd_9_179 : (Jvm.Cond.selects "RetouchedModel" ({ cls := "RetouchedModel", name := "image", desc := "()I" } : Jvm.MethodName) ({ cls := "RetouchedModel", name := "image", desc := "()I" } : Jvm.MethodName)) ∈ lw_tbl := mt_9 (List.mem_of_getElem? (i := 179) (by decide +kernel))
theorem wd_9_180 : (Jvm.Cond.code ({ cls := "RetouchedModel", name := "image", desc := "()I" } : Jvm.MethodName) prog_14_method_130_code (3 : Nat) (Option.some Jvm.ClassFile.FieldType.int)) ∈ lw_tbl := mt_9 (List.mem_of_getElem? (i := 180) (by decide +kernel))
theorem wd_9_188 : (Jvm.Cond.methodLink "RetouchedLaw" (154 : Nat) ({ cls := "RetouchedModel", name := "octet", desc := "(I)I" } : Jvm.MethodName)) ∈ lw_tbl := mt_9 (List.mem_of_getElem? (i := 188) (by decide +kernel))
theorem wd_9_189 : (Jvm.Cond.instanceMethod ({ cls := "RetouchedModel", name := "octet", desc := "(I)I" } : Jvm.MethodName)) ∈ lw_tbl := mt_9 (List.mem_of_getElem? (i := 189) (by decide +kernel))
theorem wd_9_190 : (Jvm.Cond.selects "RetouchedModel" ({ cls := "RetouchedModel", name := "octet", desc := "(I)I" } : Jvm.MethodName) ({ cls := "RetouchedModel", name := "octet", desc := "(I)I" } : Jvm.MethodName)) ∈ lw_tbl := mt_9 (List.mem_of_getElem? (i := 190) (by decide +kernel))
theorem wd_9_191 : (Jvm.Cond.code ({ cls := "RetouchedModel", name := "octet", desc := "(I)I" } : Jvm.MethodName) prog_14_method_131_code (2 : Nat) (Option.some Jvm.ClassFile.FieldType.int)) ∈ lw_tbl := mt_9 (List.mem_of_getElem? (i := 191) (by decide +kernel))
theorem wd_9_192 : (Jvm.Cond.methodLink "RetouchedLaw" (158 : Nat) ({ cls := "RetouchedModel", name := "on", desc := "()Z" } : Jvm.MethodName)) ∈ lw_tbl := mt_9 (List.mem_of_getElem? (i := 192) (by decide +kernel))
theorem wd_9_193 : (Jvm.Cond.instanceMethod ({ cls := "RetouchedModel", name := "on", desc := "()Z" } : Jvm.MethodName)) ∈ lw_tbl := mt_9 (List.mem_of_getElem? (i := 193) (by decide +kernel))
theorem wd_9_194 : (Jvm.Cond.selects "RetouchedModel" ({ cls := "RetouchedModel", name := "on", desc := "()Z" } : Jvm.MethodName) ({ cls := "RetouchedModel", name := "on", desc := "()Z" } : Jvm.MethodName)) ∈ lw_tbl := mt_9 (List.mem_of_getElem? (i := 194) (by decide +kernel))
theorem wd_9_195 : (Jvm.Cond.code ({ cls := "RetouchedModel", name := "on", desc := "()Z" } : Jvm.MethodName) prog_14_method_134_code (5 : Nat) (Option.some Jvm.ClassFile.FieldType.boolean)) ∈ lw_tbl := mt_9 (List.mem_of_getElem? (i := 195) (by decide +kernel))
theorem wd_9_204 : (Jvm.Cond.methodLink "RetouchedLaw" (162 : Nat) ({ cls := "RetouchedModel", name := "status", desc := "(I)I" } : Jvm.MethodName)) ∈ lw_tbl := mt_9 (List.mem_of_getElem? (i := 204) (by decide +kernel))
theorem wd_9_205 : (Jvm.Cond.instanceMethod ({ cls := "RetouchedModel", name := "status", desc := "(I)I" } : Jvm.MethodName)) ∈ lw_tbl := mt_9 (List.mem_of_getElem? (i := 205) (by decide +kernel))
theorem wd_9_206 : (Jvm.Cond.selects "RetouchedModel" ({ cls := "RetouchedModel", name := "status", desc := "(I)I" } : Jvm.MethodName) ({ cls := "RetouchedModel", name := "status", desc := "(I)I" } : Jvm.MethodName)) ∈ lw_tbl := mt_9 (List.mem_of_getElem? (i := 206) (by decide +kernel))
theorem wd_9_207 : (Jvm.Cond.code ({ cls := "RetouchedModel", name := "status", desc := "(I)I" } : Jvm.MethodName) prog_14_method_135_code (2 : Nat) (Option.some Jvm.ClassFile.FieldType.int)) ∈ lw_tbl := mt_9 (List.mem_of_getElem? (i := 207) (by decide +kernel))
theorem wd_9_23 : (Jvm.Cond.methodLink "RetouchedLaw" (74 : Nat) ({ cls := "RetouchedModel", name := "mind", desc := "(III)I" } : Jvm.MethodName)) ∈ lw_tbl := mt_9 (List.mem_of_getElem? (i := 23) (by decide +kernel))
theorem wd_9_24 : (Jvm.Cond.instanceMethod ({ cls := "RetouchedModel", name := "mind", desc := "(III)I" } : Jvm.MethodName)) ∈ lw_tbl := mt_9 (List.mem_of_getElem? (i := 24) (by decide +kernel))
theorem wd_9_25 : (Jvm.Cond.selects "RetouchedModel" ({ cls := "RetouchedModel", name := "mind", desc := "(III)I" } : Jvm.MethodName) ({ cls := "RetouchedModel", name := "mind", desc := "(III)I" } : Jvm.MethodName)) ∈ lw_tbl := mt_9 (List.mem_of_getElem? (i := 25) (by decide +kernel))
theorem wd_9_26 : (Jvm.Cond.code ({ cls := "RetouchedModel", name := "mind", desc := "(III)I" } : Jvm.MethodName) prog_14_method_68_code (5 : Nat) (Option.some Jvm.ClassFile.FieldType.int)) ∈ lw_tbl := mt_9 (List.mem_of_getElem? (i := 26) (by decide +kernel))
theorem wd_9_27 : (Jvm.Cond.methodLink "RetouchedLaw" (78 : Nat) ({ cls := "RetouchedModel", name := "curtain", desc := "(I)I" } : Jvm.MethodName)) ∈ lw_tbl := mt_9 (List.mem_of_getElem? (i := 27) (by decide +kernel))
theorem wd_9_28 : (Jvm.Cond.instanceMethod ({ cls := "RetouchedModel", name := "curtain", desc := "(I)I" } : Jvm.MethodName)) ∈ lw_tbl := mt_9 (List.mem_of_getElem? (i := 28) (by decide +kernel))
theorem wd_9_29 : (Jvm.Cond.selects "RetouchedModel" ({ cls := "RetouchedModel", name := "curtain", desc := "(I)I" } : Jvm.MethodName) ({ cls := "RetouchedModel", name := "curtain", desc := "(I)I" } : Jvm.MethodName)) ∈ lw_tbl := mt_9 (List.mem_of_getElem? (i := 29) (by decide +kernel))
theorem wd_9_30 : (Jvm.Cond.code ({ cls := "RetouchedModel", name := "curtain", desc := "(I)I" } : Jvm.MethodName) prog_14_method_69_code (4 : Nat) (Option.some Jvm.ClassFile.FieldType.int)) ∈ lw_tbl := mt_9 (List.mem_of_getElem? (i := 30) (by decide +kernel))
theorem wd_9_31 : (Jvm.Cond.methodLink "RetouchedLaw" (82 : Nat) ({ cls := "RetouchedModel", name := "changed", desc := "(II)I" } : Jvm.MethodName)) ∈ lw_tbl := mt_9 (List.mem_of_getElem? (i := 31) (by decide +kernel))
theorem wd_9_32 : (Jvm.Cond.instanceMethod ({ cls := "RetouchedModel", name := "changed", desc := "(II)I" } : Jvm.MethodName)) ∈ lw_tbl := mt_9 (List.mem_of_getElem? (i := 32) (by decide +kernel))
theorem wd_9_33 : (Jvm.Cond.selects "RetouchedModel" ({ cls := "RetouchedModel", name := "changed", desc := "(II)I" } : Jvm.MethodName) ({ cls := "RetouchedModel", name := "changed", desc := "(II)I" } : Jvm.MethodName)) ∈ lw_tbl := mt_9 (List.mem_of_getElem? (i := 33) (by decide +kernel))
theorem wd_9_34 : (Jvm.Cond.code ({ cls := "RetouchedModel", name := "changed", desc := "(II)I" } : Jvm.MethodName) prog_14_method_71_code (9 : Nat) (Option.some Jvm.ClassFile.FieldType.int)) ∈ lw_tbl := mt_9 (List.mem_of_getElem? (i := 34) (by decide +kernel))
theorem wd_9_39 : (Jvm.Cond.methodLink "RetouchedLaw" (87 : Nat) ({ cls := "RetouchedModel", name := "stranger", desc := "(IIII)I" } : Jvm.MethodName)) ∈ lw_tbl := mt_9 (List.mem_of_getElem? (i := 39) (by decide +kernel))
theorem wd_9_40 : (Jvm.Cond.instanceMethod ({ cls := "RetouchedModel", name := "stranger", desc := "(IIII)I" } : Jvm.MethodName)) ∈ lw_tbl := mt_9 (List.mem_of_getElem? (i := 40) (by decide +kernel))
theorem wd_9_41 : (Jvm.Cond.selects "RetouchedModel" ({ cls := "RetouchedModel", name := "stranger", desc := "(IIII)I" } : Jvm.MethodName) ({ cls := "RetouchedModel", name := "stranger", desc := "(IIII)I" } : Jvm.MethodName)) ∈ lw_tbl := mt_9 (List.mem_of_getElem? (i := 41) (by decide +kernel))
theorem wd_9_42 : (Jvm.Cond.code ({ cls := "RetouchedModel", name := "stranger", desc := "(IIII)I" } : Jvm.MethodName) prog_14_method_73_code (10 : Nat) (Option.some Jvm.ClassFile.FieldType.int)) ∈ lw_tbl := mt_9 (List.mem_of_getElem? (i := 42) (by decide +kernel))
theorem wd_9_48 : (Jvm.Cond.methodLink "RetouchedLaw" (91 : Nat) ({ cls := "RetouchedModel", name := "parted", desc := "()I" } : Jvm.MethodName)) ∈ lw_tbl := mt_9 (List.mem_of_getElem? (i := 48) (by decide +kernel))
theorem wd_9_49 : (Jvm.Cond.instanceMethod ({ cls := "RetouchedModel", name := "parted", desc := "()I" } : Jvm.MethodName)) ∈ lw_tbl := mt_9 (List.mem_of_getElem? (i := 49) (by decide +kernel))
theorem wd_9_50 : (Jvm.Cond.selects "RetouchedModel" ({ cls := "RetouchedModel", name := "parted", desc := "()I" } : Jvm.MethodName) ({ cls := "RetouchedModel", name := "parted", desc := "()I" } : Jvm.MethodName)) ∈ lw_tbl := mt_9 (List.mem_of_getElem? (i := 50) (by decide +kernel))
theorem wd_9_51 : (Jvm.Cond.code ({ cls := "RetouchedModel", name := "parted", desc := "()I" } : Jvm.MethodName) prog_14_method_75_code (3 : Nat) (Option.some Jvm.ClassFile.FieldType.int)) ∈ lw_tbl := mt_9 (List.mem_of_getElem? (i := 51) (by decide +kernel))
theorem wd_9_59 : (Jvm.Cond.methodLink "RetouchedLaw" (95 : Nat) ({ cls := "RetouchedModel", name := "rest", desc := "(I)I" } : Jvm.MethodName)) ∈ lw_tbl := mt_9 (List.mem_of_getElem? (i := 59) (by decide +kernel))
theorem wd_9_60 : (Jvm.Cond.instanceMethod ({ cls := "RetouchedModel", name := "rest", desc := "(I)I" } : Jvm.MethodName)) ∈ lw_tbl := mt_9 (List.mem_of_getElem? (i := 60) (by decide +kernel))
theorem wd_9_61 : (Jvm.Cond.selects "RetouchedModel" ({ cls := "RetouchedModel", name := "rest", desc := "(I)I" } : Jvm.MethodName) ({ cls := "RetouchedModel", name := "rest", desc := "(I)I" } : Jvm.MethodName)) ∈ lw_tbl := mt_9 (List.mem_of_getElem? (i := 61) (by decide +kernel))
theorem wd_9_62 : (Jvm.Cond.code ({ cls := "RetouchedModel", name := "rest", desc := "(I)I" } : Jvm.MethodName) prog_14_method_78_code (4 : Nat) (Option.some Jvm.ClassFile.FieldType.int)) ∈ lw_tbl := mt_9 (List.mem_of_getElem? (i := 62) (by decide +kernel))
theorem wd_9_71 : (Jvm.Cond.methodLink "RetouchedLaw" (99 : Nat) ({ cls := "RetouchedModel", name := "see", desc := "()I" } : Jvm.MethodName)) ∈ lw_tbl := mt_9 (List.mem_of_getElem? (i := 71) (by decide +kernel))
theorem wd_9_72 : (Jvm.Cond.instanceMethod ({ cls := "RetouchedModel", name := "see", desc := "()I" } : Jvm.MethodName)) ∈ lw_tbl := mt_9 (List.mem_of_getElem? (i := 72) (by decide +kernel))
theorem wd_9_73 : (Jvm.Cond.selects "RetouchedModel" ({ cls := "RetouchedModel", name := "see", desc := "()I" } : Jvm.MethodName) ({ cls := "RetouchedModel", name := "see", desc := "()I" } : Jvm.MethodName)) ∈ lw_tbl := mt_9 (List.mem_of_getElem? (i := 73) (by decide +kernel))
theorem wd_9_74 : (Jvm.Cond.code ({ cls := "RetouchedModel", name := "see", desc := "()I" } : Jvm.MethodName) prog_14_method_80_code (4 : Nat) (Option.some Jvm.ClassFile.FieldType.int)) ∈ lw_tbl := mt_9 (List.mem_of_getElem? (i := 74) (by decide +kernel))
theorem wd_9_79 : (Jvm.Cond.methodLink "RetouchedLaw" (103 : Nat) ({ cls := "RetouchedModel", name := "thoughts", desc := "(II)I" } : Jvm.MethodName)) ∈ lw_tbl := mt_9 (List.mem_of_getElem? (i := 79) (by decide +kernel))
theorem wd_9_80 : (Jvm.Cond.instanceMethod ({ cls := "RetouchedModel", name := "thoughts", desc := "(II)I" } : Jvm.MethodName)) ∈ lw_tbl := mt_9 (List.mem_of_getElem? (i := 80) (by decide +kernel))
theorem wd_9_81 : (Jvm.Cond.selects "RetouchedModel" ({ cls := "RetouchedModel", name := "thoughts", desc := "(II)I" } : Jvm.MethodName) ({ cls := "RetouchedModel", name := "thoughts", desc := "(II)I" } : Jvm.MethodName)) ∈ lw_tbl := mt_9 (List.mem_of_getElem? (i := 81) (by decide +kernel))
theorem wd_9_82 : (Jvm.Cond.code ({ cls := "RetouchedModel", name := "thoughts", desc := "(II)I" } : Jvm.MethodName) prog_14_method_85_code (3 : Nat) (Option.some Jvm.ClassFile.FieldType.int)) ∈ lw_tbl := mt_9 (List.mem_of_getElem? (i := 82) (by decide +kernel))
theorem wd_9_99 : (Jvm.Cond.methodLink "RetouchedLaw" (107 : Nat) ({ cls := "RetouchedModel", name := "faces", desc := "(I)I" } : Jvm.MethodName)) ∈ lw_tbl := mt_9 (List.mem_of_getElem? (i := 99) (by decide +kernel))
def cd_L_law_0 (L : Nat) (xs : Nat → Int32) : mm_K mm_H := [(18, s_iload 3 19), (19, s_aload 0 20), (20, s_slen L 21), (21, s_pushI 6 23), (23, s_bin (fun x y => x - y) 24), (24, s_icmp (fun x y => y < x) 1140 27), (27, s_aload 0 28), (28, s_iload 3 29), (29, s_sld L xs 30), (30, s_pushI 63 32), (32, s_bin (fun x y => x &&& y) 33), (33, s_sw [(0, 188), (1, 251), (2, 274), (3, 287), (4, 310), (5, 333), (6, 366), (7, 389), (8, 422), (9, 455), (10, 488), (11, 511), (12, 544), (13, 577), (14, 620), (15, 643), (16, 676), (17, 729), (18, 742), (19, 765), (20, 778), (21, 811), (22, 834), (23, 877), (24, 910), (25, 933), (26, 966), (27, 989), (28, 1012), (29, 1025), (30, 1048), (31, 1062), (32, 1075), (33, 1098), (34, 1111)] 1134), (188, s_aload 1 189), (189, s_aload 0 190), (190, s_iload 3 191), (191, s_pushI 1 192), (192, s_bin (fun x y => x + y) 193), (193, s_sld L xs 194), (194, s_aload 0 195), (195, s_iload 3 196), (196, s_pushI 2 197), (197, s_bin (fun x y => x + y) 198), (198, s_sld L xs 199), (199, s_aload 0 200), (200, s_iload 3 201), (201, s_pushI 3 202), (202, s_bin (fun x y => x + y) 203), (203, s_sld L xs 204), (204, s_aload 0 205), (205, s_iload 3 206), (206, s_pushI 4 207), (207, s_bin (fun x y => x + y) 208), (208, s_sld L xs 209), (209, s_aload 0 210), (210, s_iload 3 211), (211, s_pushI 5 212), (212, s_bin (fun x y => x + y) 213), (213, s_sld L xs 214), (214, s_callV 11 148 5 1 217), (217, s_aload 2 218), (218, s_aload 0 219), (219, s_iload 3 220), (220, s_pushI 1 221), (221, s_bin (fun x y => x + y) 222), (222, s_sld L xs 223), (223, s_aload 0 224), (224, s_iload 3 225), (225, s_pushI 2 226), (226, s_bin (fun x y => x + y) 227), (227, s_sld L xs 228), (228, s_aload 0 229), (229, s_iload 3 230), (230, s_pushI 3 231), (231, s_bin (fun x y => x + y) 232), (232, s_sld L xs 233), (233, s_aload 0 234), (234, s_iload 3 235), (235, s_pushI 4 236), (236, s_bin (fun x y => x + y) 237), (237, s_sld L xs 238), (238, s_aload 0 239), (239, s_iload 3 240), (240, s_pushI 5 241), (241, s_bin (fun x y => x + y) 242), (242, s_sld L xs 243), (243, s_callV 12 189 5 1 246), (246, s_icmp (fun x y => x = y) 1134 249), (249, s_pushI 0 250), (250, s_zret), (251, s_aload 1 252), (252, s_aload 0 253), (253, s_iload 3 254), (254, s_pushI 1 255), (255, s_bin (fun x y => x + y) 256), (256, s_sld L xs 257), (257, s_callV 11 149 1 1 260), (260, s_aload 2 261), (261, s_aload 0 262), (262, s_iload 3 263), (263, s_pushI 1 264), (264, s_bin (fun x y => x + y) 265), (265, s_sld L xs 266), (266, s_callV 12 190 1 1 269), (269, s_icmp (fun x y => x = y) 1134 272), (272, s_pushI 0 273), (273, s_zret), (274, s_aload 1 275), (275, s_callV 11 150 0 1 278), (278, s_aload 2 279), (279, s_callV 12 211 0 1 282), (282, s_icmp (fun x y => x = y) 1134 285), (285, s_pushI 0 286), (286, s_zret), (287, s_aload 1 288), (288, s_aload 0 289), (289, s_iload 3 290), (290, s_pushI 1 291), (291, s_bin (fun x y => x + y) 292), (292, s_sld L xs 293), (293, s_callV 11 151 1 1 296)]
set_option maxRecDepth 100000 in
set_option maxHeartbeats 4000000 in
theorem ok_L_law_0 {p : Program} {l : Launch} {e : Env} {R : Room} {s : State} {m : MethodId} {args : Array Value} {below : List Frame} {meth : Method} {c : Code} {Q : State → Prop} {σ : Nat → Nat} {cA : Nat → ClassId} {D : va_G} {A : Nat → Prop} {kc ks d : Nat} {C : mm_C mm_H} {b L : Nat} {xs : Nat → Int32} (X : mm_Cx p l R s m args c cL_law 4 RL σ cA D A kc ks mm_I0 d C) (hX : va_X b L xs s s.heap) (hbl : b < s.heap.size) (hbA : ¬ A b) (hσ : σ mm_SCR = b) : ∀ q ∈ cd_L_law_0 L xs, mm_Sim p l e R s m args below meth c ret cL_law 4 Q σ (mm_Rz σ cA D A s.heap kc ks) C q := by
  have hx := X.1
  have hb := X.2.1
  have hown := X.2.2.2.1
  have hts := X.2.2.2.2.1
  refine mm_fc (ss_iload_n hx hb (by decide +kernel : decode cL_law 18 = .ok (.iload_n 3, 1)) rfl) ?_
  refine mm_fc (ss_aload_n hx hb (by decide +kernel : decode cL_law 19 = .ok (.aload_n 0, 1)) rfl) ?_
  refine mm_fc (ss_slen X hX hbl hbA hσ (by decide +kernel : decode cL_law 20 = .ok (.arraylength, 1))) ?_
  refine mm_fc (ss_bipush hx hb (by decide +kernel : decode cL_law 21 = .ok (.bipush 6, 2)) (by decide)) ?_
  refine mm_fc (ss_isub hx hb (by decide +kernel : decode cL_law 23 = .ok (.isub, 1))) ?_
  refine mm_fc (ss_icmpgt hx hb (by decide +kernel : decode cL_law 24 = .ok (.if_icmp .gt 1116, 3)) (by decide)) ?_
  refine mm_fc (ss_aload_n hx hb (by decide +kernel : decode cL_law 27 = .ok (.aload_n 0, 1)) rfl) ?_
  refine mm_fc (ss_iload_n hx hb (by decide +kernel : decode cL_law 28 = .ok (.iload_n 3, 1)) rfl) ?_
  refine mm_fc (ss_sld X hX hbl hbA hσ (by decide +kernel : decode cL_law 29 = .ok (.iaload, 1))) ?_
  refine mm_fc (ss_bipush hx hb (by decide +kernel : decode cL_law 30 = .ok (.bipush 63, 2)) (by decide)) ?_
  refine mm_fc (ss_iand hx hb (by decide +kernel : decode cL_law 32 = .ok (.iand, 1))) ?_
  refine mm_fc (ss_table hx hb (by decide +kernel : decode cL_law 33 = .ok (.tableswitch 1101 0 34 #[155, 218, 241, 254, 277, 300, 333, 356, 389, 422, 455, 478, 511, 544, 587, 610, 643, 696, 709, 732, 745, 778, 801, 844, 877, 900, 933, 956, 979, 992, 1015, 1029, 1042, 1065, 1078], 155)) (by decide) (by decide) (by decide)) ?_
  refine mm_fc (ss_aload_n hx hb (by decide +kernel : decode cL_law 188 = .ok (.aload_n 1, 1)) rfl) ?_
  refine mm_fc (ss_aload_n hx hb (by decide +kernel : decode cL_law 189 = .ok (.aload_n 0, 1)) rfl) ?_
  refine mm_fc (ss_iload_n hx hb (by decide +kernel : decode cL_law 190 = .ok (.iload_n 3, 1)) rfl) ?_
  refine mm_fc (ss_iconst hx hb (by decide +kernel : decode cL_law 191 = .ok (.iconst 1, 1)) (by decide)) ?_
  refine mm_fc (ss_iadd hx hb (by decide +kernel : decode cL_law 192 = .ok (.iadd, 1))) ?_
  refine mm_fc (ss_sld X hX hbl hbA hσ (by decide +kernel : decode cL_law 193 = .ok (.iaload, 1))) ?_
  refine mm_fc (ss_aload_n hx hb (by decide +kernel : decode cL_law 194 = .ok (.aload_n 0, 1)) rfl) ?_
  refine mm_fc (ss_iload_n hx hb (by decide +kernel : decode cL_law 195 = .ok (.iload_n 3, 1)) rfl) ?_
  refine mm_fc (ss_iconst hx hb (by decide +kernel : decode cL_law 196 = .ok (.iconst 2, 1)) (by decide)) ?_
  refine mm_fc (ss_iadd hx hb (by decide +kernel : decode cL_law 197 = .ok (.iadd, 1))) ?_
  refine mm_fc (ss_sld X hX hbl hbA hσ (by decide +kernel : decode cL_law 198 = .ok (.iaload, 1))) ?_
  refine mm_fc (ss_aload_n hx hb (by decide +kernel : decode cL_law 199 = .ok (.aload_n 0, 1)) rfl) ?_
  refine mm_fc (ss_iload_n hx hb (by decide +kernel : decode cL_law 200 = .ok (.iload_n 3, 1)) rfl) ?_
  refine mm_fc (ss_iconst hx hb (by decide +kernel : decode cL_law 201 = .ok (.iconst 3, 1)) (by decide)) ?_
  refine mm_fc (ss_iadd hx hb (by decide +kernel : decode cL_law 202 = .ok (.iadd, 1))) ?_
  refine mm_fc (ss_sld X hX hbl hbA hσ (by decide +kernel : decode cL_law 203 = .ok (.iaload, 1))) ?_
  refine mm_fc (ss_aload_n hx hb (by decide +kernel : decode cL_law 204 = .ok (.aload_n 0, 1)) rfl) ?_
  refine mm_fc (ss_iload_n hx hb (by decide +kernel : decode cL_law 205 = .ok (.iload_n 3, 1)) rfl) ?_
  refine mm_fc (ss_iconst hx hb (by decide +kernel : decode cL_law 206 = .ok (.iconst 4, 1)) (by decide)) ?_
  refine mm_fc (ss_iadd hx hb (by decide +kernel : decode cL_law 207 = .ok (.iadd, 1))) ?_
  refine mm_fc (ss_sld X hX hbl hbA hσ (by decide +kernel : decode cL_law 208 = .ok (.iaload, 1))) ?_
  refine mm_fc (ss_aload_n hx hb (by decide +kernel : decode cL_law 209 = .ok (.aload_n 0, 1)) rfl) ?_
  refine mm_fc (ss_iload_n hx hb (by decide +kernel : decode cL_law 210 = .ok (.iload_n 3, 1)) rfl) ?_
  refine mm_fc (ss_iconst hx hb (by decide +kernel : decode cL_law 211 = .ok (.iconst 5, 1)) (by decide)) ?_
  refine mm_fc (ss_iadd hx hb (by decide +kernel : decode cL_law 212 = .ok (.iadd, 1))) ?_
  refine mm_fc (ss_sld X hX hbl hbA hσ (by decide +kernel : decode cL_law 213 = .ok (.iaload, 1))) ?_
  refine mm_fc (ss_callV X rfl rfl wd_2_139 wd_1_1 wd_2_136 wd_2_137 wd_2_138 (by decide +kernel) (by decide +kernel) (by decide) (by decide +kernel : decode cL_law 214 = .ok (.invokevirtual 13, 3))) ?_
  refine mm_fc (ss_aload_n hx hb (by decide +kernel : decode cL_law 217 = .ok (.aload_n 2, 1)) rfl) ?_
  refine mm_fc (ss_aload_n hx hb (by decide +kernel : decode cL_law 218 = .ok (.aload_n 0, 1)) rfl) ?_
  refine mm_fc (ss_iload_n hx hb (by decide +kernel : decode cL_law 219 = .ok (.iload_n 3, 1)) rfl) ?_
  refine mm_fc (ss_iconst hx hb (by decide +kernel : decode cL_law 220 = .ok (.iconst 1, 1)) (by decide)) ?_
  refine mm_fc (ss_iadd hx hb (by decide +kernel : decode cL_law 221 = .ok (.iadd, 1))) ?_
  refine mm_fc (ss_sld X hX hbl hbA hσ (by decide +kernel : decode cL_law 222 = .ok (.iaload, 1))) ?_
  refine mm_fc (ss_aload_n hx hb (by decide +kernel : decode cL_law 223 = .ok (.aload_n 0, 1)) rfl) ?_
  refine mm_fc (ss_iload_n hx hb (by decide +kernel : decode cL_law 224 = .ok (.iload_n 3, 1)) rfl) ?_
  refine mm_fc (ss_iconst hx hb (by decide +kernel : decode cL_law 225 = .ok (.iconst 2, 1)) (by decide)) ?_
  refine mm_fc (ss_iadd hx hb (by decide +kernel : decode cL_law 226 = .ok (.iadd, 1))) ?_
  refine mm_fc (ss_sld X hX hbl hbA hσ (by decide +kernel : decode cL_law 227 = .ok (.iaload, 1))) ?_
  refine mm_fc (ss_aload_n hx hb (by decide +kernel : decode cL_law 228 = .ok (.aload_n 0, 1)) rfl) ?_
  refine mm_fc (ss_iload_n hx hb (by decide +kernel : decode cL_law 229 = .ok (.iload_n 3, 1)) rfl) ?_
  refine mm_fc (ss_iconst hx hb (by decide +kernel : decode cL_law 230 = .ok (.iconst 3, 1)) (by decide)) ?_
  refine mm_fc (ss_iadd hx hb (by decide +kernel : decode cL_law 231 = .ok (.iadd, 1))) ?_
  refine mm_fc (ss_sld X hX hbl hbA hσ (by decide +kernel : decode cL_law 232 = .ok (.iaload, 1))) ?_
  refine mm_fc (ss_aload_n hx hb (by decide +kernel : decode cL_law 233 = .ok (.aload_n 0, 1)) rfl) ?_
  refine mm_fc (ss_iload_n hx hb (by decide +kernel : decode cL_law 234 = .ok (.iload_n 3, 1)) rfl) ?_
  refine mm_fc (ss_iconst hx hb (by decide +kernel : decode cL_law 235 = .ok (.iconst 4, 1)) (by decide)) ?_
  refine mm_fc (ss_iadd hx hb (by decide +kernel : decode cL_law 236 = .ok (.iadd, 1))) ?_
  refine mm_fc (ss_sld X hX hbl hbA hσ (by decide +kernel : decode cL_law 237 = .ok (.iaload, 1))) ?_
  refine mm_fc (ss_aload_n hx hb (by decide +kernel : decode cL_law 238 = .ok (.aload_n 0, 1)) rfl) ?_
  refine mm_fc (ss_iload_n hx hb (by decide +kernel : decode cL_law 239 = .ok (.iload_n 3, 1)) rfl) ?_
  refine mm_fc (ss_iconst hx hb (by decide +kernel : decode cL_law 240 = .ok (.iconst 5, 1)) (by decide)) ?_
  refine mm_fc (ss_iadd hx hb (by decide +kernel : decode cL_law 241 = .ok (.iadd, 1))) ?_
  refine mm_fc (ss_sld X hX hbl hbA hσ (by decide +kernel : decode cL_law 242 = .ok (.iaload, 1))) ?_
  refine mm_fc (ss_callV X rfl rfl wd_7_151 wd_1_13 wd_7_148 wd_7_149 wd_7_150 (by decide +kernel) (by decide +kernel) (by decide) (by decide +kernel : decode cL_law 243 = .ok (.invokevirtual 17, 3))) ?_
  refine mm_fc (ss_icmpeq hx hb (by decide +kernel : decode cL_law 246 = .ok (.if_icmp .eq 888, 3)) (by decide)) ?_
  refine mm_fc (ss_iconst hx hb (by decide +kernel : decode cL_law 249 = .ok (.iconst 0, 1)) (by decide)) ?_
  refine mm_fc (ss_zret (by decide +kernel : decode cL_law 250 = .ok (.ireturn, 1)) rfl) ?_
  refine mm_fc (ss_aload_n hx hb (by decide +kernel : decode cL_law 251 = .ok (.aload_n 1, 1)) rfl) ?_
  refine mm_fc (ss_aload_n hx hb (by decide +kernel : decode cL_law 252 = .ok (.aload_n 0, 1)) rfl) ?_
  refine mm_fc (ss_iload_n hx hb (by decide +kernel : decode cL_law 253 = .ok (.iload_n 3, 1)) rfl) ?_
  refine mm_fc (ss_iconst hx hb (by decide +kernel : decode cL_law 254 = .ok (.iconst 1, 1)) (by decide)) ?_
  refine mm_fc (ss_iadd hx hb (by decide +kernel : decode cL_law 255 = .ok (.iadd, 1))) ?_
  refine mm_fc (ss_sld X hX hbl hbA hσ (by decide +kernel : decode cL_law 256 = .ok (.iaload, 1))) ?_
  refine mm_fc (ss_callV X rfl rfl wd_2_155 wd_1_1 wd_2_152 wd_2_153 wd_2_154 (by decide +kernel) (by decide +kernel) (by decide) (by decide +kernel : decode cL_law 257 = .ok (.invokevirtual 18, 3))) ?_
  refine mm_fc (ss_aload_n hx hb (by decide +kernel : decode cL_law 260 = .ok (.aload_n 2, 1)) rfl) ?_
  refine mm_fc (ss_aload_n hx hb (by decide +kernel : decode cL_law 261 = .ok (.aload_n 0, 1)) rfl) ?_
  refine mm_fc (ss_iload_n hx hb (by decide +kernel : decode cL_law 262 = .ok (.iload_n 3, 1)) rfl) ?_
  refine mm_fc (ss_iconst hx hb (by decide +kernel : decode cL_law 263 = .ok (.iconst 1, 1)) (by decide)) ?_
  refine mm_fc (ss_iadd hx hb (by decide +kernel : decode cL_law 264 = .ok (.iadd, 1))) ?_
  refine mm_fc (ss_sld X hX hbl hbA hσ (by decide +kernel : decode cL_law 265 = .ok (.iaload, 1))) ?_
  refine mm_fc (ss_callV X rfl rfl wd_7_155 wd_1_13 wd_7_152 wd_7_153 wd_7_154 (by decide +kernel) (by decide +kernel) (by decide) (by decide +kernel : decode cL_law 266 = .ok (.invokevirtual 22, 3))) ?_
  refine mm_fc (ss_icmpeq hx hb (by decide +kernel : decode cL_law 269 = .ok (.if_icmp .eq 865, 3)) (by decide)) ?_
  refine mm_fc (ss_iconst hx hb (by decide +kernel : decode cL_law 272 = .ok (.iconst 0, 1)) (by decide)) ?_
  refine mm_fc (ss_zret (by decide +kernel : decode cL_law 273 = .ok (.ireturn, 1)) rfl) ?_
  refine mm_fc (ss_aload_n hx hb (by decide +kernel : decode cL_law 274 = .ok (.aload_n 1, 1)) rfl) ?_
  refine mm_fc (ss_callV X rfl rfl wd_2_169 wd_1_1 wd_2_166 wd_2_167 wd_2_168 (by decide +kernel) (by decide +kernel) (by decide) (by decide +kernel : decode cL_law 275 = .ok (.invokevirtual 23, 3))) ?_
  refine mm_fc (ss_aload_n hx hb (by decide +kernel : decode cL_law 278 = .ok (.aload_n 2, 1)) rfl) ?_
  refine mm_fc (ss_callV X rfl rfl wd_7_159 wd_1_13 wd_7_156 wd_7_157 wd_7_158 (by decide +kernel) (by decide +kernel) (by decide) (by decide +kernel : decode cL_law 279 = .ok (.invokevirtual 27, 3))) ?_
  refine mm_fc (ss_icmpeq hx hb (by decide +kernel : decode cL_law 282 = .ok (.if_icmp .eq 852, 3)) (by decide)) ?_
  refine mm_fc (ss_iconst hx hb (by decide +kernel : decode cL_law 285 = .ok (.iconst 0, 1)) (by decide)) ?_
  refine mm_fc (ss_zret (by decide +kernel : decode cL_law 286 = .ok (.ireturn, 1)) rfl) ?_
  refine mm_fc (ss_aload_n hx hb (by decide +kernel : decode cL_law 287 = .ok (.aload_n 1, 1)) rfl) ?_
  refine mm_fc (ss_aload_n hx hb (by decide +kernel : decode cL_law 288 = .ok (.aload_n 0, 1)) rfl) ?_
  refine mm_fc (ss_iload_n hx hb (by decide +kernel : decode cL_law 289 = .ok (.iload_n 3, 1)) rfl) ?_
  refine mm_fc (ss_iconst hx hb (by decide +kernel : decode cL_law 290 = .ok (.iconst 1, 1)) (by decide)) ?_
  refine mm_fc (ss_iadd hx hb (by decide +kernel : decode cL_law 291 = .ok (.iadd, 1))) ?_
  refine mm_fc (ss_sld X hX hbl hbA hσ (by decide +kernel : decode cL_law 292 = .ok (.iaload, 1))) ?_
  refine mm_fc (ss_callV X rfl rfl wd_4_30 wd_1_1 wd_4_27 wd_4_28 wd_4_29 (by decide +kernel) (by decide +kernel) (by decide) (by decide +kernel : decode cL_law 293 = .ok (.invokevirtual 28, 3))) ?_
  exact mm_fn
def cd_L_law_1 (L : Nat) (xs : Nat → Int32) : mm_K mm_H := [(296, s_aload 2 297), (297, s_aload 0 298), (298, s_iload 3 299), (299, s_pushI 1 300), (300, s_bin (fun x y => x + y) 301), (301, s_sld L xs 302), (302, s_callV 12 213 1 1 305), (305, s_icmp (fun x y => x = y) 1134 308), (308, s_pushI 0 309), (309, s_zret), (310, s_aload 1 311), (311, s_aload 0 312), (312, s_iload 3 313), (313, s_pushI 1 314), (314, s_bin (fun x y => x + y) 315), (315, s_sld L xs 316), (316, s_callV 11 152 1 1 319), (319, s_aload 2 320), (320, s_aload 0 321), (321, s_iload 3 322), (322, s_pushI 1 323), (323, s_bin (fun x y => x + y) 324), (324, s_sld L xs 325), (325, s_callV 12 245 1 1 328), (328, s_icmp (fun x y => x = y) 1134 331), (331, s_pushI 0 332), (332, s_zret), (333, s_aload 1 334), (334, s_aload 0 335), (335, s_iload 3 336), (336, s_pushI 1 337), (337, s_bin (fun x y => x + y) 338), (338, s_sld L xs 339), (339, s_aload 0 340), (340, s_iload 3 341), (341, s_pushI 2 342), (342, s_bin (fun x y => x + y) 343), (343, s_sld L xs 344), (344, s_callV 11 153 2 1 347), (347, s_aload 2 348), (348, s_aload 0 349), (349, s_iload 3 350), (350, s_pushI 1 351), (351, s_bin (fun x y => x + y) 352), (352, s_sld L xs 353), (353, s_aload 0 354), (354, s_iload 3 355), (355, s_pushI 2 356), (356, s_bin (fun x y => x + y) 357), (357, s_sld L xs 358), (358, s_callV 12 246 2 1 361), (361, s_icmp (fun x y => x = y) 1134 364), (364, s_pushI 0 365), (365, s_zret), (366, s_aload 1 367), (367, s_aload 0 368), (368, s_iload 3 369), (369, s_pushI 1 370), (370, s_bin (fun x y => x + y) 371), (371, s_sld L xs 372), (372, s_callV 11 154 1 1 375), (375, s_aload 2 376), (376, s_aload 0 377), (377, s_iload 3 378), (378, s_pushI 1 379), (379, s_bin (fun x y => x + y) 380), (380, s_sld L xs 381), (381, s_callV 12 247 1 1 384), (384, s_icmp (fun x y => x = y) 1134 387), (387, s_pushI 0 388), (388, s_zret), (389, s_aload 1 390), (390, s_aload 0 391), (391, s_iload 3 392), (392, s_pushI 1 393), (393, s_bin (fun x y => x + y) 394), (394, s_sld L xs 395), (395, s_aload 0 396), (396, s_iload 3 397), (397, s_pushI 2 398), (398, s_bin (fun x y => x + y) 399), (399, s_sld L xs 400), (400, s_callV 11 155 2 1 403), (403, s_aload 2 404), (404, s_aload 0 405), (405, s_iload 3 406), (406, s_pushI 1 407), (407, s_bin (fun x y => x + y) 408), (408, s_sld L xs 409), (409, s_aload 0 410), (410, s_iload 3 411), (411, s_pushI 2 412), (412, s_bin (fun x y => x + y) 413), (413, s_sld L xs 414), (414, s_callV 12 248 2 1 417), (417, s_icmp (fun x y => x = y) 1134 420), (420, s_pushI 0 421), (421, s_zret), (422, s_aload 1 423), (423, s_aload 0 424)]
set_option maxRecDepth 100000 in
set_option maxHeartbeats 4000000 in
theorem ok_L_law_1 {p : Program} {l : Launch} {e : Env} {R : Room} {s : State} {m : MethodId} {args : Array Value} {below : List Frame} {meth : Method} {c : Code} {Q : State → Prop} {σ : Nat → Nat} {cA : Nat → ClassId} {D : va_G} {A : Nat → Prop} {kc ks d : Nat} {C : mm_C mm_H} {b L : Nat} {xs : Nat → Int32} (X : mm_Cx p l R s m args c cL_law 4 RL σ cA D A kc ks mm_I0 d C) (hX : va_X b L xs s s.heap) (hbl : b < s.heap.size) (hbA : ¬ A b) (hσ : σ mm_SCR = b) : ∀ q ∈ cd_L_law_1 L xs, mm_Sim p l e R s m args below meth c ret cL_law 4 Q σ (mm_Rz σ cA D A s.heap kc ks) C q := by
  have hx := X.1
  have hb := X.2.1
  have hown := X.2.2.2.1
  have hts := X.2.2.2.2.1
  refine mm_fc (ss_aload_n hx hb (by decide +kernel : decode cL_law 296 = .ok (.aload_n 2, 1)) rfl) ?_
  refine mm_fc (ss_aload_n hx hb (by decide +kernel : decode cL_law 297 = .ok (.aload_n 0, 1)) rfl) ?_
  refine mm_fc (ss_iload_n hx hb (by decide +kernel : decode cL_law 298 = .ok (.iload_n 3, 1)) rfl) ?_
  refine mm_fc (ss_iconst hx hb (by decide +kernel : decode cL_law 299 = .ok (.iconst 1, 1)) (by decide)) ?_
  refine mm_fc (ss_iadd hx hb (by decide +kernel : decode cL_law 300 = .ok (.iadd, 1))) ?_
  refine mm_fc (ss_sld X hX hbl hbA hσ (by decide +kernel : decode cL_law 301 = .ok (.iaload, 1))) ?_
  refine mm_fc (ss_callV X rfl rfl wd_8_85 wd_1_13 wd_8_82 wd_8_83 wd_8_84 (by decide +kernel) (by decide +kernel) (by decide) (by decide +kernel : decode cL_law 302 = .ok (.invokevirtual 32, 3))) ?_
  refine mm_fc (ss_icmpeq hx hb (by decide +kernel : decode cL_law 305 = .ok (.if_icmp .eq 829, 3)) (by decide)) ?_
  refine mm_fc (ss_iconst hx hb (by decide +kernel : decode cL_law 308 = .ok (.iconst 0, 1)) (by decide)) ?_
  refine mm_fc (ss_zret (by decide +kernel : decode cL_law 309 = .ok (.ireturn, 1)) rfl) ?_
  refine mm_fc (ss_aload_n hx hb (by decide +kernel : decode cL_law 310 = .ok (.aload_n 1, 1)) rfl) ?_
  refine mm_fc (ss_aload_n hx hb (by decide +kernel : decode cL_law 311 = .ok (.aload_n 0, 1)) rfl) ?_
  refine mm_fc (ss_iload_n hx hb (by decide +kernel : decode cL_law 312 = .ok (.iload_n 3, 1)) rfl) ?_
  refine mm_fc (ss_iconst hx hb (by decide +kernel : decode cL_law 313 = .ok (.iconst 1, 1)) (by decide)) ?_
  refine mm_fc (ss_iadd hx hb (by decide +kernel : decode cL_law 314 = .ok (.iadd, 1))) ?_
  refine mm_fc (ss_sld X hX hbl hbA hσ (by decide +kernel : decode cL_law 315 = .ok (.iaload, 1))) ?_
  refine mm_fc (ss_callV X rfl rfl wd_4_34 wd_1_1 wd_4_31 wd_4_32 wd_4_33 (by decide +kernel) (by decide +kernel) (by decide) (by decide +kernel : decode cL_law 316 = .ok (.invokevirtual 33, 3))) ?_
  refine mm_fc (ss_aload_n hx hb (by decide +kernel : decode cL_law 319 = .ok (.aload_n 2, 1)) rfl) ?_
  refine mm_fc (ss_aload_n hx hb (by decide +kernel : decode cL_law 320 = .ok (.aload_n 0, 1)) rfl) ?_
  refine mm_fc (ss_iload_n hx hb (by decide +kernel : decode cL_law 321 = .ok (.iload_n 3, 1)) rfl) ?_
  refine mm_fc (ss_iconst hx hb (by decide +kernel : decode cL_law 322 = .ok (.iconst 1, 1)) (by decide)) ?_
  refine mm_fc (ss_iadd hx hb (by decide +kernel : decode cL_law 323 = .ok (.iadd, 1))) ?_
  refine mm_fc (ss_sld X hX hbl hbA hσ (by decide +kernel : decode cL_law 324 = .ok (.iaload, 1))) ?_
  refine mm_fc (ss_callV X rfl rfl wd_8_89 wd_1_13 wd_8_86 wd_8_87 wd_8_88 (by decide +kernel) (by decide +kernel) (by decide) (by decide +kernel : decode cL_law 325 = .ok (.invokevirtual 36, 3))) ?_
  refine mm_fc (ss_icmpeq hx hb (by decide +kernel : decode cL_law 328 = .ok (.if_icmp .eq 806, 3)) (by decide)) ?_
  refine mm_fc (ss_iconst hx hb (by decide +kernel : decode cL_law 331 = .ok (.iconst 0, 1)) (by decide)) ?_
  refine mm_fc (ss_zret (by decide +kernel : decode cL_law 332 = .ok (.ireturn, 1)) rfl) ?_
  refine mm_fc (ss_aload_n hx hb (by decide +kernel : decode cL_law 333 = .ok (.aload_n 1, 1)) rfl) ?_
  refine mm_fc (ss_aload_n hx hb (by decide +kernel : decode cL_law 334 = .ok (.aload_n 0, 1)) rfl) ?_
  refine mm_fc (ss_iload_n hx hb (by decide +kernel : decode cL_law 335 = .ok (.iload_n 3, 1)) rfl) ?_
  refine mm_fc (ss_iconst hx hb (by decide +kernel : decode cL_law 336 = .ok (.iconst 1, 1)) (by decide)) ?_
  refine mm_fc (ss_iadd hx hb (by decide +kernel : decode cL_law 337 = .ok (.iadd, 1))) ?_
  refine mm_fc (ss_sld X hX hbl hbA hσ (by decide +kernel : decode cL_law 338 = .ok (.iaload, 1))) ?_
  refine mm_fc (ss_aload_n hx hb (by decide +kernel : decode cL_law 339 = .ok (.aload_n 0, 1)) rfl) ?_
  refine mm_fc (ss_iload_n hx hb (by decide +kernel : decode cL_law 340 = .ok (.iload_n 3, 1)) rfl) ?_
  refine mm_fc (ss_iconst hx hb (by decide +kernel : decode cL_law 341 = .ok (.iconst 2, 1)) (by decide)) ?_
  refine mm_fc (ss_iadd hx hb (by decide +kernel : decode cL_law 342 = .ok (.iadd, 1))) ?_
  refine mm_fc (ss_sld X hX hbl hbA hσ (by decide +kernel : decode cL_law 343 = .ok (.iaload, 1))) ?_
  refine mm_fc (ss_callV X rfl rfl wd_4_144 wd_1_1 wd_4_141 wd_4_142 wd_4_143 (by decide +kernel) (by decide +kernel) (by decide) (by decide +kernel : decode cL_law 344 = .ok (.invokevirtual 37, 3))) ?_
  refine mm_fc (ss_aload_n hx hb (by decide +kernel : decode cL_law 347 = .ok (.aload_n 2, 1)) rfl) ?_
  refine mm_fc (ss_aload_n hx hb (by decide +kernel : decode cL_law 348 = .ok (.aload_n 0, 1)) rfl) ?_
  refine mm_fc (ss_iload_n hx hb (by decide +kernel : decode cL_law 349 = .ok (.iload_n 3, 1)) rfl) ?_
  refine mm_fc (ss_iconst hx hb (by decide +kernel : decode cL_law 350 = .ok (.iconst 1, 1)) (by decide)) ?_
  refine mm_fc (ss_iadd hx hb (by decide +kernel : decode cL_law 351 = .ok (.iadd, 1))) ?_
  refine mm_fc (ss_sld X hX hbl hbA hσ (by decide +kernel : decode cL_law 352 = .ok (.iaload, 1))) ?_
  refine mm_fc (ss_aload_n hx hb (by decide +kernel : decode cL_law 353 = .ok (.aload_n 0, 1)) rfl) ?_
  refine mm_fc (ss_iload_n hx hb (by decide +kernel : decode cL_law 354 = .ok (.iload_n 3, 1)) rfl) ?_
  refine mm_fc (ss_iconst hx hb (by decide +kernel : decode cL_law 355 = .ok (.iconst 2, 1)) (by decide)) ?_
  refine mm_fc (ss_iadd hx hb (by decide +kernel : decode cL_law 356 = .ok (.iadd, 1))) ?_
  refine mm_fc (ss_sld X hX hbl hbA hσ (by decide +kernel : decode cL_law 357 = .ok (.iaload, 1))) ?_
  refine mm_fc (ss_callV X rfl rfl wd_8_169 wd_1_13 wd_8_166 wd_8_167 wd_8_168 (by decide +kernel) (by decide +kernel) (by decide) (by decide +kernel : decode cL_law 358 = .ok (.invokevirtual 41, 3))) ?_
  refine mm_fc (ss_icmpeq hx hb (by decide +kernel : decode cL_law 361 = .ok (.if_icmp .eq 773, 3)) (by decide)) ?_
  refine mm_fc (ss_iconst hx hb (by decide +kernel : decode cL_law 364 = .ok (.iconst 0, 1)) (by decide)) ?_
  refine mm_fc (ss_zret (by decide +kernel : decode cL_law 365 = .ok (.ireturn, 1)) rfl) ?_
  refine mm_fc (ss_aload_n hx hb (by decide +kernel : decode cL_law 366 = .ok (.aload_n 1, 1)) rfl) ?_
  refine mm_fc (ss_aload_n hx hb (by decide +kernel : decode cL_law 367 = .ok (.aload_n 0, 1)) rfl) ?_
  refine mm_fc (ss_iload_n hx hb (by decide +kernel : decode cL_law 368 = .ok (.iload_n 3, 1)) rfl) ?_
  refine mm_fc (ss_iconst hx hb (by decide +kernel : decode cL_law 369 = .ok (.iconst 1, 1)) (by decide)) ?_
  refine mm_fc (ss_iadd hx hb (by decide +kernel : decode cL_law 370 = .ok (.iadd, 1))) ?_
  refine mm_fc (ss_sld X hX hbl hbA hσ (by decide +kernel : decode cL_law 371 = .ok (.iaload, 1))) ?_
  refine mm_fc (ss_callV X rfl rfl wd_4_150 wd_1_1 wd_4_147 wd_4_148 wd_4_149 (by decide +kernel) (by decide +kernel) (by decide) (by decide +kernel : decode cL_law 372 = .ok (.invokevirtual 42, 3))) ?_
  refine mm_fc (ss_aload_n hx hb (by decide +kernel : decode cL_law 375 = .ok (.aload_n 2, 1)) rfl) ?_
  refine mm_fc (ss_aload_n hx hb (by decide +kernel : decode cL_law 376 = .ok (.aload_n 0, 1)) rfl) ?_
  refine mm_fc (ss_iload_n hx hb (by decide +kernel : decode cL_law 377 = .ok (.iload_n 3, 1)) rfl) ?_
  refine mm_fc (ss_iconst hx hb (by decide +kernel : decode cL_law 378 = .ok (.iconst 1, 1)) (by decide)) ?_
  refine mm_fc (ss_iadd hx hb (by decide +kernel : decode cL_law 379 = .ok (.iadd, 1))) ?_
  refine mm_fc (ss_sld X hX hbl hbA hσ (by decide +kernel : decode cL_law 380 = .ok (.iaload, 1))) ?_
  refine mm_fc (ss_callV X rfl rfl wd_8_178 wd_1_13 wd_8_175 wd_8_176 wd_8_177 (by decide +kernel) (by decide +kernel) (by decide) (by decide +kernel : decode cL_law 381 = .ok (.invokevirtual 45, 3))) ?_
  refine mm_fc (ss_icmpeq hx hb (by decide +kernel : decode cL_law 384 = .ok (.if_icmp .eq 750, 3)) (by decide)) ?_
  refine mm_fc (ss_iconst hx hb (by decide +kernel : decode cL_law 387 = .ok (.iconst 0, 1)) (by decide)) ?_
  refine mm_fc (ss_zret (by decide +kernel : decode cL_law 388 = .ok (.ireturn, 1)) rfl) ?_
  refine mm_fc (ss_aload_n hx hb (by decide +kernel : decode cL_law 389 = .ok (.aload_n 1, 1)) rfl) ?_
  refine mm_fc (ss_aload_n hx hb (by decide +kernel : decode cL_law 390 = .ok (.aload_n 0, 1)) rfl) ?_
  refine mm_fc (ss_iload_n hx hb (by decide +kernel : decode cL_law 391 = .ok (.iload_n 3, 1)) rfl) ?_
  refine mm_fc (ss_iconst hx hb (by decide +kernel : decode cL_law 392 = .ok (.iconst 1, 1)) (by decide)) ?_
  refine mm_fc (ss_iadd hx hb (by decide +kernel : decode cL_law 393 = .ok (.iadd, 1))) ?_
  refine mm_fc (ss_sld X hX hbl hbA hσ (by decide +kernel : decode cL_law 394 = .ok (.iaload, 1))) ?_
  refine mm_fc (ss_aload_n hx hb (by decide +kernel : decode cL_law 395 = .ok (.aload_n 0, 1)) rfl) ?_
  refine mm_fc (ss_iload_n hx hb (by decide +kernel : decode cL_law 396 = .ok (.iload_n 3, 1)) rfl) ?_
  refine mm_fc (ss_iconst hx hb (by decide +kernel : decode cL_law 397 = .ok (.iconst 2, 1)) (by decide)) ?_
  refine mm_fc (ss_iadd hx hb (by decide +kernel : decode cL_law 398 = .ok (.iadd, 1))) ?_
  refine mm_fc (ss_sld X hX hbl hbA hσ (by decide +kernel : decode cL_law 399 = .ok (.iaload, 1))) ?_
  refine mm_fc (ss_callV X rfl rfl wd_4_155 wd_1_1 wd_4_152 wd_4_153 wd_4_154 (by decide +kernel) (by decide +kernel) (by decide) (by decide +kernel : decode cL_law 400 = .ok (.invokevirtual 46, 3))) ?_
  refine mm_fc (ss_aload_n hx hb (by decide +kernel : decode cL_law 403 = .ok (.aload_n 2, 1)) rfl) ?_
  refine mm_fc (ss_aload_n hx hb (by decide +kernel : decode cL_law 404 = .ok (.aload_n 0, 1)) rfl) ?_
  refine mm_fc (ss_iload_n hx hb (by decide +kernel : decode cL_law 405 = .ok (.iload_n 3, 1)) rfl) ?_
  refine mm_fc (ss_iconst hx hb (by decide +kernel : decode cL_law 406 = .ok (.iconst 1, 1)) (by decide)) ?_
  refine mm_fc (ss_iadd hx hb (by decide +kernel : decode cL_law 407 = .ok (.iadd, 1))) ?_
  refine mm_fc (ss_sld X hX hbl hbA hσ (by decide +kernel : decode cL_law 408 = .ok (.iaload, 1))) ?_
  refine mm_fc (ss_aload_n hx hb (by decide +kernel : decode cL_law 409 = .ok (.aload_n 0, 1)) rfl) ?_
  refine mm_fc (ss_iload_n hx hb (by decide +kernel : decode cL_law 410 = .ok (.iload_n 3, 1)) rfl) ?_
  refine mm_fc (ss_iconst hx hb (by decide +kernel : decode cL_law 411 = .ok (.iconst 2, 1)) (by decide)) ?_
  refine mm_fc (ss_iadd hx hb (by decide +kernel : decode cL_law 412 = .ok (.iadd, 1))) ?_
  refine mm_fc (ss_sld X hX hbl hbA hσ (by decide +kernel : decode cL_law 413 = .ok (.iaload, 1))) ?_
  refine mm_fc (ss_callV X rfl rfl wd_8_186 wd_1_13 wd_8_183 wd_8_184 wd_8_185 (by decide +kernel) (by decide +kernel) (by decide) (by decide +kernel : decode cL_law 414 = .ok (.invokevirtual 49, 3))) ?_
  refine mm_fc (ss_icmpeq hx hb (by decide +kernel : decode cL_law 417 = .ok (.if_icmp .eq 717, 3)) (by decide)) ?_
  refine mm_fc (ss_iconst hx hb (by decide +kernel : decode cL_law 420 = .ok (.iconst 0, 1)) (by decide)) ?_
  refine mm_fc (ss_zret (by decide +kernel : decode cL_law 421 = .ok (.ireturn, 1)) rfl) ?_
  refine mm_fc (ss_aload_n hx hb (by decide +kernel : decode cL_law 422 = .ok (.aload_n 1, 1)) rfl) ?_
  refine mm_fc (ss_aload_n hx hb (by decide +kernel : decode cL_law 423 = .ok (.aload_n 0, 1)) rfl) ?_
  exact mm_fn
def cd_L_law_2 (L : Nat) (xs : Nat → Int32) : mm_K mm_H := [(424, s_iload 3 425), (425, s_pushI 1 426), (426, s_bin (fun x y => x + y) 427), (427, s_sld L xs 428), (428, s_aload 0 429), (429, s_iload 3 430), (430, s_pushI 2 431), (431, s_bin (fun x y => x + y) 432), (432, s_sld L xs 433), (433, s_callV 11 156 2 1 436), (436, s_aload 2 437), (437, s_aload 0 438), (438, s_iload 3 439), (439, s_pushI 1 440), (440, s_bin (fun x y => x + y) 441), (441, s_sld L xs 442), (442, s_aload 0 443), (443, s_iload 3 444), (444, s_pushI 2 445), (445, s_bin (fun x y => x + y) 446), (446, s_sld L xs 447), (447, s_callV 12 249 2 1 450), (450, s_icmp (fun x y => x = y) 1134 453), (453, s_pushI 0 454), (454, s_zret), (455, s_aload 1 456), (456, s_aload 0 457), (457, s_iload 3 458), (458, s_pushI 1 459), (459, s_bin (fun x y => x + y) 460), (460, s_sld L xs 461), (461, s_aload 0 462), (462, s_iload 3 463), (463, s_pushI 2 464), (464, s_bin (fun x y => x + y) 465), (465, s_sld L xs 466), (466, s_callV 11 157 2 1 469), (469, s_aload 2 470), (470, s_aload 0 471), (471, s_iload 3 472), (472, s_pushI 1 473), (473, s_bin (fun x y => x + y) 474), (474, s_sld L xs 475), (475, s_aload 0 476), (476, s_iload 3 477), (477, s_pushI 2 478), (478, s_bin (fun x y => x + y) 479), (479, s_sld L xs 480), (480, s_callV 12 250 2 1 483), (483, s_icmp (fun x y => x = y) 1134 486), (486, s_pushI 0 487), (487, s_zret), (488, s_aload 1 489), (489, s_aload 0 490), (490, s_iload 3 491), (491, s_pushI 1 492), (492, s_bin (fun x y => x + y) 493), (493, s_sld L xs 494), (494, s_callV 11 158 1 1 497), (497, s_aload 2 498), (498, s_aload 0 499), (499, s_iload 3 500), (500, s_pushI 1 501), (501, s_bin (fun x y => x + y) 502), (502, s_sld L xs 503), (503, s_callV 12 251 1 1 506), (506, s_icmp (fun x y => x = y) 1134 509), (509, s_pushI 0 510), (510, s_zret), (511, s_aload 1 512), (512, s_aload 0 513), (513, s_iload 3 514), (514, s_pushI 1 515), (515, s_bin (fun x y => x + y) 516), (516, s_sld L xs 517), (517, s_aload 0 518), (518, s_iload 3 519), (519, s_pushI 2 520), (520, s_bin (fun x y => x + y) 521), (521, s_sld L xs 522), (522, s_callV 11 159 2 1 525), (525, s_aload 2 526), (526, s_aload 0 527), (527, s_iload 3 528), (528, s_pushI 1 529), (529, s_bin (fun x y => x + y) 530), (530, s_sld L xs 531), (531, s_aload 0 532), (532, s_iload 3 533), (533, s_pushI 2 534), (534, s_bin (fun x y => x + y) 535), (535, s_sld L xs 536), (536, s_callV 12 252 2 1 539), (539, s_icmp (fun x y => x = y) 1134 542), (542, s_pushI 0 543), (543, s_zret), (544, s_aload 1 545), (545, s_aload 0 546), (546, s_iload 3 547), (547, s_pushI 1 548)]
set_option maxRecDepth 100000 in
set_option maxHeartbeats 4000000 in
theorem ok_L_law_2 {p : Program} {l : Launch} {e : Env} {R : Room} {s : State} {m : MethodId} {args : Array Value} {below : List Frame} {meth : Method} {c : Code} {Q : State → Prop} {σ : Nat → Nat} {cA : Nat → ClassId} {D : va_G} {A : Nat → Prop} {kc ks d : Nat} {C : mm_C mm_H} {b L : Nat} {xs : Nat → Int32} (X : mm_Cx p l R s m args c cL_law 4 RL σ cA D A kc ks mm_I0 d C) (hX : va_X b L xs s s.heap) (hbl : b < s.heap.size) (hbA : ¬ A b) (hσ : σ mm_SCR = b) : ∀ q ∈ cd_L_law_2 L xs, mm_Sim p l e R s m args below meth c ret cL_law 4 Q σ (mm_Rz σ cA D A s.heap kc ks) C q := by
  have hx := X.1
  have hb := X.2.1
  have hown := X.2.2.2.1
  have hts := X.2.2.2.2.1
  refine mm_fc (ss_iload_n hx hb (by decide +kernel : decode cL_law 424 = .ok (.iload_n 3, 1)) rfl) ?_
  refine mm_fc (ss_iconst hx hb (by decide +kernel : decode cL_law 425 = .ok (.iconst 1, 1)) (by decide)) ?_
  refine mm_fc (ss_iadd hx hb (by decide +kernel : decode cL_law 426 = .ok (.iadd, 1))) ?_
  refine mm_fc (ss_sld X hX hbl hbA hσ (by decide +kernel : decode cL_law 427 = .ok (.iaload, 1))) ?_
  refine mm_fc (ss_aload_n hx hb (by decide +kernel : decode cL_law 428 = .ok (.aload_n 0, 1)) rfl) ?_
  refine mm_fc (ss_iload_n hx hb (by decide +kernel : decode cL_law 429 = .ok (.iload_n 3, 1)) rfl) ?_
  refine mm_fc (ss_iconst hx hb (by decide +kernel : decode cL_law 430 = .ok (.iconst 2, 1)) (by decide)) ?_
  refine mm_fc (ss_iadd hx hb (by decide +kernel : decode cL_law 431 = .ok (.iadd, 1))) ?_
  refine mm_fc (ss_sld X hX hbl hbA hσ (by decide +kernel : decode cL_law 432 = .ok (.iaload, 1))) ?_
  refine mm_fc (ss_callV X rfl rfl wd_4_168 wd_1_1 wd_4_165 wd_4_166 wd_4_167 (by decide +kernel) (by decide +kernel) (by decide) (by decide +kernel : decode cL_law 433 = .ok (.invokevirtual 50, 3))) ?_
  refine mm_fc (ss_aload_n hx hb (by decide +kernel : decode cL_law 436 = .ok (.aload_n 2, 1)) rfl) ?_
  refine mm_fc (ss_aload_n hx hb (by decide +kernel : decode cL_law 437 = .ok (.aload_n 0, 1)) rfl) ?_
  refine mm_fc (ss_iload_n hx hb (by decide +kernel : decode cL_law 438 = .ok (.iload_n 3, 1)) rfl) ?_
  refine mm_fc (ss_iconst hx hb (by decide +kernel : decode cL_law 439 = .ok (.iconst 1, 1)) (by decide)) ?_
  refine mm_fc (ss_iadd hx hb (by decide +kernel : decode cL_law 440 = .ok (.iadd, 1))) ?_
  refine mm_fc (ss_sld X hX hbl hbA hσ (by decide +kernel : decode cL_law 441 = .ok (.iaload, 1))) ?_
  refine mm_fc (ss_aload_n hx hb (by decide +kernel : decode cL_law 442 = .ok (.aload_n 0, 1)) rfl) ?_
  refine mm_fc (ss_iload_n hx hb (by decide +kernel : decode cL_law 443 = .ok (.iload_n 3, 1)) rfl) ?_
  refine mm_fc (ss_iconst hx hb (by decide +kernel : decode cL_law 444 = .ok (.iconst 2, 1)) (by decide)) ?_
  refine mm_fc (ss_iadd hx hb (by decide +kernel : decode cL_law 445 = .ok (.iadd, 1))) ?_
  refine mm_fc (ss_sld X hX hbl hbA hσ (by decide +kernel : decode cL_law 446 = .ok (.iaload, 1))) ?_
  refine mm_fc (ss_callV X rfl rfl wd_8_194 wd_1_13 wd_8_191 wd_8_192 wd_8_193 (by decide +kernel) (by decide +kernel) (by decide) (by decide +kernel : decode cL_law 447 = .ok (.invokevirtual 53, 3))) ?_
  refine mm_fc (ss_icmpeq hx hb (by decide +kernel : decode cL_law 450 = .ok (.if_icmp .eq 684, 3)) (by decide)) ?_
  refine mm_fc (ss_iconst hx hb (by decide +kernel : decode cL_law 453 = .ok (.iconst 0, 1)) (by decide)) ?_
  refine mm_fc (ss_zret (by decide +kernel : decode cL_law 454 = .ok (.ireturn, 1)) rfl) ?_
  refine mm_fc (ss_aload_n hx hb (by decide +kernel : decode cL_law 455 = .ok (.aload_n 1, 1)) rfl) ?_
  refine mm_fc (ss_aload_n hx hb (by decide +kernel : decode cL_law 456 = .ok (.aload_n 0, 1)) rfl) ?_
  refine mm_fc (ss_iload_n hx hb (by decide +kernel : decode cL_law 457 = .ok (.iload_n 3, 1)) rfl) ?_
  refine mm_fc (ss_iconst hx hb (by decide +kernel : decode cL_law 458 = .ok (.iconst 1, 1)) (by decide)) ?_
  refine mm_fc (ss_iadd hx hb (by decide +kernel : decode cL_law 459 = .ok (.iadd, 1))) ?_
  refine mm_fc (ss_sld X hX hbl hbA hσ (by decide +kernel : decode cL_law 460 = .ok (.iaload, 1))) ?_
  refine mm_fc (ss_aload_n hx hb (by decide +kernel : decode cL_law 461 = .ok (.aload_n 0, 1)) rfl) ?_
  refine mm_fc (ss_iload_n hx hb (by decide +kernel : decode cL_law 462 = .ok (.iload_n 3, 1)) rfl) ?_
  refine mm_fc (ss_iconst hx hb (by decide +kernel : decode cL_law 463 = .ok (.iconst 2, 1)) (by decide)) ?_
  refine mm_fc (ss_iadd hx hb (by decide +kernel : decode cL_law 464 = .ok (.iadd, 1))) ?_
  refine mm_fc (ss_sld X hX hbl hbA hσ (by decide +kernel : decode cL_law 465 = .ok (.iaload, 1))) ?_
  refine mm_fc (ss_callV X rfl rfl wd_4_174 wd_1_1 wd_4_171 wd_4_172 wd_4_173 (by decide +kernel) (by decide +kernel) (by decide) (by decide +kernel : decode cL_law 466 = .ok (.invokevirtual 54, 3))) ?_
  refine mm_fc (ss_aload_n hx hb (by decide +kernel : decode cL_law 469 = .ok (.aload_n 2, 1)) rfl) ?_
  refine mm_fc (ss_aload_n hx hb (by decide +kernel : decode cL_law 470 = .ok (.aload_n 0, 1)) rfl) ?_
  refine mm_fc (ss_iload_n hx hb (by decide +kernel : decode cL_law 471 = .ok (.iload_n 3, 1)) rfl) ?_
  refine mm_fc (ss_iconst hx hb (by decide +kernel : decode cL_law 472 = .ok (.iconst 1, 1)) (by decide)) ?_
  refine mm_fc (ss_iadd hx hb (by decide +kernel : decode cL_law 473 = .ok (.iadd, 1))) ?_
  refine mm_fc (ss_sld X hX hbl hbA hσ (by decide +kernel : decode cL_law 474 = .ok (.iaload, 1))) ?_
  refine mm_fc (ss_aload_n hx hb (by decide +kernel : decode cL_law 475 = .ok (.aload_n 0, 1)) rfl) ?_
  refine mm_fc (ss_iload_n hx hb (by decide +kernel : decode cL_law 476 = .ok (.iload_n 3, 1)) rfl) ?_
  refine mm_fc (ss_iconst hx hb (by decide +kernel : decode cL_law 477 = .ok (.iconst 2, 1)) (by decide)) ?_
  refine mm_fc (ss_iadd hx hb (by decide +kernel : decode cL_law 478 = .ok (.iadd, 1))) ?_
  refine mm_fc (ss_sld X hX hbl hbA hσ (by decide +kernel : decode cL_law 479 = .ok (.iaload, 1))) ?_
  refine mm_fc (ss_callV X rfl rfl wd_8_206 wd_1_13 wd_8_203 wd_8_204 wd_8_205 (by decide +kernel) (by decide +kernel) (by decide) (by decide +kernel : decode cL_law 480 = .ok (.invokevirtual 57, 3))) ?_
  refine mm_fc (ss_icmpeq hx hb (by decide +kernel : decode cL_law 483 = .ok (.if_icmp .eq 651, 3)) (by decide)) ?_
  refine mm_fc (ss_iconst hx hb (by decide +kernel : decode cL_law 486 = .ok (.iconst 0, 1)) (by decide)) ?_
  refine mm_fc (ss_zret (by decide +kernel : decode cL_law 487 = .ok (.ireturn, 1)) rfl) ?_
  refine mm_fc (ss_aload_n hx hb (by decide +kernel : decode cL_law 488 = .ok (.aload_n 1, 1)) rfl) ?_
  refine mm_fc (ss_aload_n hx hb (by decide +kernel : decode cL_law 489 = .ok (.aload_n 0, 1)) rfl) ?_
  refine mm_fc (ss_iload_n hx hb (by decide +kernel : decode cL_law 490 = .ok (.iload_n 3, 1)) rfl) ?_
  refine mm_fc (ss_iconst hx hb (by decide +kernel : decode cL_law 491 = .ok (.iconst 1, 1)) (by decide)) ?_
  refine mm_fc (ss_iadd hx hb (by decide +kernel : decode cL_law 492 = .ok (.iadd, 1))) ?_
  refine mm_fc (ss_sld X hX hbl hbA hσ (by decide +kernel : decode cL_law 493 = .ok (.iaload, 1))) ?_
  refine mm_fc (ss_callV X rfl rfl wd_4_192 wd_1_1 wd_4_189 wd_4_190 wd_4_191 (by decide +kernel) (by decide +kernel) (by decide) (by decide +kernel : decode cL_law 494 = .ok (.invokevirtual 58, 3))) ?_
  refine mm_fc (ss_aload_n hx hb (by decide +kernel : decode cL_law 497 = .ok (.aload_n 2, 1)) rfl) ?_
  refine mm_fc (ss_aload_n hx hb (by decide +kernel : decode cL_law 498 = .ok (.aload_n 0, 1)) rfl) ?_
  refine mm_fc (ss_iload_n hx hb (by decide +kernel : decode cL_law 499 = .ok (.iload_n 3, 1)) rfl) ?_
  refine mm_fc (ss_iconst hx hb (by decide +kernel : decode cL_law 500 = .ok (.iconst 1, 1)) (by decide)) ?_
  refine mm_fc (ss_iadd hx hb (by decide +kernel : decode cL_law 501 = .ok (.iadd, 1))) ?_
  refine mm_fc (ss_sld X hX hbl hbA hσ (by decide +kernel : decode cL_law 502 = .ok (.iaload, 1))) ?_
  refine mm_fc (ss_callV X rfl rfl wd_8_217 wd_1_13 wd_8_214 wd_8_215 wd_8_216 (by decide +kernel) (by decide +kernel) (by decide) (by decide +kernel : decode cL_law 503 = .ok (.invokevirtual 61, 3))) ?_
  refine mm_fc (ss_icmpeq hx hb (by decide +kernel : decode cL_law 506 = .ok (.if_icmp .eq 628, 3)) (by decide)) ?_
  refine mm_fc (ss_iconst hx hb (by decide +kernel : decode cL_law 509 = .ok (.iconst 0, 1)) (by decide)) ?_
  refine mm_fc (ss_zret (by decide +kernel : decode cL_law 510 = .ok (.ireturn, 1)) rfl) ?_
  refine mm_fc (ss_aload_n hx hb (by decide +kernel : decode cL_law 511 = .ok (.aload_n 1, 1)) rfl) ?_
  refine mm_fc (ss_aload_n hx hb (by decide +kernel : decode cL_law 512 = .ok (.aload_n 0, 1)) rfl) ?_
  refine mm_fc (ss_iload_n hx hb (by decide +kernel : decode cL_law 513 = .ok (.iload_n 3, 1)) rfl) ?_
  refine mm_fc (ss_iconst hx hb (by decide +kernel : decode cL_law 514 = .ok (.iconst 1, 1)) (by decide)) ?_
  refine mm_fc (ss_iadd hx hb (by decide +kernel : decode cL_law 515 = .ok (.iadd, 1))) ?_
  refine mm_fc (ss_sld X hX hbl hbA hσ (by decide +kernel : decode cL_law 516 = .ok (.iaload, 1))) ?_
  refine mm_fc (ss_aload_n hx hb (by decide +kernel : decode cL_law 517 = .ok (.aload_n 0, 1)) rfl) ?_
  refine mm_fc (ss_iload_n hx hb (by decide +kernel : decode cL_law 518 = .ok (.iload_n 3, 1)) rfl) ?_
  refine mm_fc (ss_iconst hx hb (by decide +kernel : decode cL_law 519 = .ok (.iconst 2, 1)) (by decide)) ?_
  refine mm_fc (ss_iadd hx hb (by decide +kernel : decode cL_law 520 = .ok (.iadd, 1))) ?_
  refine mm_fc (ss_sld X hX hbl hbA hσ (by decide +kernel : decode cL_law 521 = .ok (.iaload, 1))) ?_
  refine mm_fc (ss_callV X rfl rfl wd_4_197 wd_1_1 wd_4_194 wd_4_195 wd_4_196 (by decide +kernel) (by decide +kernel) (by decide) (by decide +kernel : decode cL_law 522 = .ok (.invokevirtual 62, 3))) ?_
  refine mm_fc (ss_aload_n hx hb (by decide +kernel : decode cL_law 525 = .ok (.aload_n 2, 1)) rfl) ?_
  refine mm_fc (ss_aload_n hx hb (by decide +kernel : decode cL_law 526 = .ok (.aload_n 0, 1)) rfl) ?_
  refine mm_fc (ss_iload_n hx hb (by decide +kernel : decode cL_law 527 = .ok (.iload_n 3, 1)) rfl) ?_
  refine mm_fc (ss_iconst hx hb (by decide +kernel : decode cL_law 528 = .ok (.iconst 1, 1)) (by decide)) ?_
  refine mm_fc (ss_iadd hx hb (by decide +kernel : decode cL_law 529 = .ok (.iadd, 1))) ?_
  refine mm_fc (ss_sld X hX hbl hbA hσ (by decide +kernel : decode cL_law 530 = .ok (.iaload, 1))) ?_
  refine mm_fc (ss_aload_n hx hb (by decide +kernel : decode cL_law 531 = .ok (.aload_n 0, 1)) rfl) ?_
  refine mm_fc (ss_iload_n hx hb (by decide +kernel : decode cL_law 532 = .ok (.iload_n 3, 1)) rfl) ?_
  refine mm_fc (ss_iconst hx hb (by decide +kernel : decode cL_law 533 = .ok (.iconst 2, 1)) (by decide)) ?_
  refine mm_fc (ss_iadd hx hb (by decide +kernel : decode cL_law 534 = .ok (.iadd, 1))) ?_
  refine mm_fc (ss_sld X hX hbl hbA hσ (by decide +kernel : decode cL_law 535 = .ok (.iaload, 1))) ?_
  refine mm_fc (ss_callV X rfl rfl wd_8_221 wd_1_13 wd_8_218 wd_8_219 wd_8_220 (by decide +kernel) (by decide +kernel) (by decide) (by decide +kernel : decode cL_law 536 = .ok (.invokevirtual 65, 3))) ?_
  refine mm_fc (ss_icmpeq hx hb (by decide +kernel : decode cL_law 539 = .ok (.if_icmp .eq 595, 3)) (by decide)) ?_
  refine mm_fc (ss_iconst hx hb (by decide +kernel : decode cL_law 542 = .ok (.iconst 0, 1)) (by decide)) ?_
  refine mm_fc (ss_zret (by decide +kernel : decode cL_law 543 = .ok (.ireturn, 1)) rfl) ?_
  refine mm_fc (ss_aload_n hx hb (by decide +kernel : decode cL_law 544 = .ok (.aload_n 1, 1)) rfl) ?_
  refine mm_fc (ss_aload_n hx hb (by decide +kernel : decode cL_law 545 = .ok (.aload_n 0, 1)) rfl) ?_
  refine mm_fc (ss_iload_n hx hb (by decide +kernel : decode cL_law 546 = .ok (.iload_n 3, 1)) rfl) ?_
  refine mm_fc (ss_iconst hx hb (by decide +kernel : decode cL_law 547 = .ok (.iconst 1, 1)) (by decide)) ?_
  exact mm_fn
def cd_L_law_3 (L : Nat) (xs : Nat → Int32) : mm_K mm_H := [(548, s_bin (fun x y => x + y) 549), (549, s_sld L xs 550), (550, s_aload 0 551), (551, s_iload 3 552), (552, s_pushI 2 553), (553, s_bin (fun x y => x + y) 554), (554, s_sld L xs 555), (555, s_callV 11 160 2 1 558), (558, s_aload 2 559), (559, s_aload 0 560), (560, s_iload 3 561), (561, s_pushI 1 562), (562, s_bin (fun x y => x + y) 563), (563, s_sld L xs 564), (564, s_aload 0 565), (565, s_iload 3 566), (566, s_pushI 2 567), (567, s_bin (fun x y => x + y) 568), (568, s_sld L xs 569), (569, s_callV 12 253 2 1 572), (572, s_icmp (fun x y => x = y) 1134 575), (575, s_pushI 0 576), (576, s_zret), (577, s_aload 1 578), (578, s_aload 0 579), (579, s_iload 3 580), (580, s_pushI 1 581), (581, s_bin (fun x y => x + y) 582), (582, s_sld L xs 583), (583, s_aload 0 584), (584, s_iload 3 585), (585, s_pushI 2 586), (586, s_bin (fun x y => x + y) 587), (587, s_sld L xs 588), (588, s_aload 0 589), (589, s_iload 3 590), (590, s_pushI 3 591), (591, s_bin (fun x y => x + y) 592), (592, s_sld L xs 593), (593, s_callV 11 161 3 1 596), (596, s_aload 2 597), (597, s_aload 0 598), (598, s_iload 3 599), (599, s_pushI 1 600), (600, s_bin (fun x y => x + y) 601), (601, s_sld L xs 602), (602, s_aload 0 603), (603, s_iload 3 604), (604, s_pushI 2 605), (605, s_bin (fun x y => x + y) 606), (606, s_sld L xs 607), (607, s_aload 0 608), (608, s_iload 3 609), (609, s_pushI 3 610), (610, s_bin (fun x y => x + y) 611), (611, s_sld L xs 612), (612, s_callV 12 254 3 1 615), (615, s_icmp (fun x y => x = y) 1134 618), (618, s_pushI 0 619), (619, s_zret), (620, s_aload 1 621), (621, s_aload 0 622), (622, s_iload 3 623), (623, s_pushI 1 624), (624, s_bin (fun x y => x + y) 625), (625, s_sld L xs 626), (626, s_callV 11 162 1 1 629), (629, s_aload 2 630), (630, s_aload 0 631), (631, s_iload 3 632), (632, s_pushI 1 633), (633, s_bin (fun x y => x + y) 634), (634, s_sld L xs 635), (635, s_callV 12 255 1 1 638), (638, s_icmp (fun x y => x = y) 1134 641), (641, s_pushI 0 642), (642, s_zret), (643, s_aload 1 644), (644, s_aload 0 645), (645, s_iload 3 646), (646, s_pushI 1 647), (647, s_bin (fun x y => x + y) 648), (648, s_sld L xs 649), (649, s_aload 0 650), (650, s_iload 3 651), (651, s_pushI 2 652), (652, s_bin (fun x y => x + y) 653), (653, s_sld L xs 654), (654, s_callV 11 163 2 1 657), (657, s_aload 2 658), (658, s_aload 0 659), (659, s_iload 3 660), (660, s_pushI 1 661), (661, s_bin (fun x y => x + y) 662), (662, s_sld L xs 663), (663, s_aload 0 664), (664, s_iload 3 665), (665, s_pushI 2 666), (666, s_bin (fun x y => x + y) 667), (667, s_sld L xs 668)]
set_option maxRecDepth 100000 in
set_option maxHeartbeats 4000000 in
theorem ok_L_law_3 {p : Program} {l : Launch} {e : Env} {R : Room} {s : State} {m : MethodId} {args : Array Value} {below : List Frame} {meth : Method} {c : Code} {Q : State → Prop} {σ : Nat → Nat} {cA : Nat → ClassId} {D : va_G} {A : Nat → Prop} {kc ks d : Nat} {C : mm_C mm_H} {b L : Nat} {xs : Nat → Int32} (X : mm_Cx p l R s m args c cL_law 4 RL σ cA D A kc ks mm_I0 d C) (hX : va_X b L xs s s.heap) (hbl : b < s.heap.size) (hbA : ¬ A b) (hσ : σ mm_SCR = b) : ∀ q ∈ cd_L_law_3 L xs, mm_Sim p l e R s m args below meth c ret cL_law 4 Q σ (mm_Rz σ cA D A s.heap kc ks) C q := by
  have hx := X.1
  have hb := X.2.1
  have hown := X.2.2.2.1
  have hts := X.2.2.2.2.1
  refine mm_fc (ss_iadd hx hb (by decide +kernel : decode cL_law 548 = .ok (.iadd, 1))) ?_
  refine mm_fc (ss_sld X hX hbl hbA hσ (by decide +kernel : decode cL_law 549 = .ok (.iaload, 1))) ?_
  refine mm_fc (ss_aload_n hx hb (by decide +kernel : decode cL_law 550 = .ok (.aload_n 0, 1)) rfl) ?_
  refine mm_fc (ss_iload_n hx hb (by decide +kernel : decode cL_law 551 = .ok (.iload_n 3, 1)) rfl) ?_
  refine mm_fc (ss_iconst hx hb (by decide +kernel : decode cL_law 552 = .ok (.iconst 2, 1)) (by decide)) ?_
  refine mm_fc (ss_iadd hx hb (by decide +kernel : decode cL_law 553 = .ok (.iadd, 1))) ?_
  refine mm_fc (ss_sld X hX hbl hbA hσ (by decide +kernel : decode cL_law 554 = .ok (.iaload, 1))) ?_
  refine mm_fc (ss_callV X rfl rfl wd_4_209 wd_1_1 wd_4_206 wd_4_207 wd_4_208 (by decide +kernel) (by decide +kernel) (by decide) (by decide +kernel : decode cL_law 555 = .ok (.invokevirtual 66, 3))) ?_
  refine mm_fc (ss_aload_n hx hb (by decide +kernel : decode cL_law 558 = .ok (.aload_n 2, 1)) rfl) ?_
  refine mm_fc (ss_aload_n hx hb (by decide +kernel : decode cL_law 559 = .ok (.aload_n 0, 1)) rfl) ?_
  refine mm_fc (ss_iload_n hx hb (by decide +kernel : decode cL_law 560 = .ok (.iload_n 3, 1)) rfl) ?_
  refine mm_fc (ss_iconst hx hb (by decide +kernel : decode cL_law 561 = .ok (.iconst 1, 1)) (by decide)) ?_
  refine mm_fc (ss_iadd hx hb (by decide +kernel : decode cL_law 562 = .ok (.iadd, 1))) ?_
  refine mm_fc (ss_sld X hX hbl hbA hσ (by decide +kernel : decode cL_law 563 = .ok (.iaload, 1))) ?_
  refine mm_fc (ss_aload_n hx hb (by decide +kernel : decode cL_law 564 = .ok (.aload_n 0, 1)) rfl) ?_
  refine mm_fc (ss_iload_n hx hb (by decide +kernel : decode cL_law 565 = .ok (.iload_n 3, 1)) rfl) ?_
  refine mm_fc (ss_iconst hx hb (by decide +kernel : decode cL_law 566 = .ok (.iconst 2, 1)) (by decide)) ?_
  refine mm_fc (ss_iadd hx hb (by decide +kernel : decode cL_law 567 = .ok (.iadd, 1))) ?_
  refine mm_fc (ss_sld X hX hbl hbA hσ (by decide +kernel : decode cL_law 568 = .ok (.iaload, 1))) ?_
  refine mm_fc (ss_callV X rfl rfl wd_8_226 wd_1_13 wd_8_223 wd_8_224 wd_8_225 (by decide +kernel) (by decide +kernel) (by decide) (by decide +kernel : decode cL_law 569 = .ok (.invokevirtual 69, 3))) ?_
  refine mm_fc (ss_icmpeq hx hb (by decide +kernel : decode cL_law 572 = .ok (.if_icmp .eq 562, 3)) (by decide)) ?_
  refine mm_fc (ss_iconst hx hb (by decide +kernel : decode cL_law 575 = .ok (.iconst 0, 1)) (by decide)) ?_
  refine mm_fc (ss_zret (by decide +kernel : decode cL_law 576 = .ok (.ireturn, 1)) rfl) ?_
  refine mm_fc (ss_aload_n hx hb (by decide +kernel : decode cL_law 577 = .ok (.aload_n 1, 1)) rfl) ?_
  refine mm_fc (ss_aload_n hx hb (by decide +kernel : decode cL_law 578 = .ok (.aload_n 0, 1)) rfl) ?_
  refine mm_fc (ss_iload_n hx hb (by decide +kernel : decode cL_law 579 = .ok (.iload_n 3, 1)) rfl) ?_
  refine mm_fc (ss_iconst hx hb (by decide +kernel : decode cL_law 580 = .ok (.iconst 1, 1)) (by decide)) ?_
  refine mm_fc (ss_iadd hx hb (by decide +kernel : decode cL_law 581 = .ok (.iadd, 1))) ?_
  refine mm_fc (ss_sld X hX hbl hbA hσ (by decide +kernel : decode cL_law 582 = .ok (.iaload, 1))) ?_
  refine mm_fc (ss_aload_n hx hb (by decide +kernel : decode cL_law 583 = .ok (.aload_n 0, 1)) rfl) ?_
  refine mm_fc (ss_iload_n hx hb (by decide +kernel : decode cL_law 584 = .ok (.iload_n 3, 1)) rfl) ?_
  refine mm_fc (ss_iconst hx hb (by decide +kernel : decode cL_law 585 = .ok (.iconst 2, 1)) (by decide)) ?_
  refine mm_fc (ss_iadd hx hb (by decide +kernel : decode cL_law 586 = .ok (.iadd, 1))) ?_
  refine mm_fc (ss_sld X hX hbl hbA hσ (by decide +kernel : decode cL_law 587 = .ok (.iaload, 1))) ?_
  refine mm_fc (ss_aload_n hx hb (by decide +kernel : decode cL_law 588 = .ok (.aload_n 0, 1)) rfl) ?_
  refine mm_fc (ss_iload_n hx hb (by decide +kernel : decode cL_law 589 = .ok (.iload_n 3, 1)) rfl) ?_
  refine mm_fc (ss_iconst hx hb (by decide +kernel : decode cL_law 590 = .ok (.iconst 3, 1)) (by decide)) ?_
  refine mm_fc (ss_iadd hx hb (by decide +kernel : decode cL_law 591 = .ok (.iadd, 1))) ?_
  refine mm_fc (ss_sld X hX hbl hbA hσ (by decide +kernel : decode cL_law 592 = .ok (.iaload, 1))) ?_
  refine mm_fc (ss_callV X rfl rfl wd_5_4 wd_1_1 wd_5_1 wd_5_2 wd_5_3 (by decide +kernel) (by decide +kernel) (by decide) (by decide +kernel : decode cL_law 593 = .ok (.invokevirtual 70, 3))) ?_
  refine mm_fc (ss_aload_n hx hb (by decide +kernel : decode cL_law 596 = .ok (.aload_n 2, 1)) rfl) ?_
  refine mm_fc (ss_aload_n hx hb (by decide +kernel : decode cL_law 597 = .ok (.aload_n 0, 1)) rfl) ?_
  refine mm_fc (ss_iload_n hx hb (by decide +kernel : decode cL_law 598 = .ok (.iload_n 3, 1)) rfl) ?_
  refine mm_fc (ss_iconst hx hb (by decide +kernel : decode cL_law 599 = .ok (.iconst 1, 1)) (by decide)) ?_
  refine mm_fc (ss_iadd hx hb (by decide +kernel : decode cL_law 600 = .ok (.iadd, 1))) ?_
  refine mm_fc (ss_sld X hX hbl hbA hσ (by decide +kernel : decode cL_law 601 = .ok (.iaload, 1))) ?_
  refine mm_fc (ss_aload_n hx hb (by decide +kernel : decode cL_law 602 = .ok (.aload_n 0, 1)) rfl) ?_
  refine mm_fc (ss_iload_n hx hb (by decide +kernel : decode cL_law 603 = .ok (.iload_n 3, 1)) rfl) ?_
  refine mm_fc (ss_iconst hx hb (by decide +kernel : decode cL_law 604 = .ok (.iconst 2, 1)) (by decide)) ?_
  refine mm_fc (ss_iadd hx hb (by decide +kernel : decode cL_law 605 = .ok (.iadd, 1))) ?_
  refine mm_fc (ss_sld X hX hbl hbA hσ (by decide +kernel : decode cL_law 606 = .ok (.iaload, 1))) ?_
  refine mm_fc (ss_aload_n hx hb (by decide +kernel : decode cL_law 607 = .ok (.aload_n 0, 1)) rfl) ?_
  refine mm_fc (ss_iload_n hx hb (by decide +kernel : decode cL_law 608 = .ok (.iload_n 3, 1)) rfl) ?_
  refine mm_fc (ss_iconst hx hb (by decide +kernel : decode cL_law 609 = .ok (.iconst 3, 1)) (by decide)) ?_
  refine mm_fc (ss_iadd hx hb (by decide +kernel : decode cL_law 610 = .ok (.iadd, 1))) ?_
  refine mm_fc (ss_sld X hX hbl hbA hσ (by decide +kernel : decode cL_law 611 = .ok (.iaload, 1))) ?_
  refine mm_fc (ss_callV X rfl rfl wd_9_26 wd_1_13 wd_9_23 wd_9_24 wd_9_25 (by decide +kernel) (by decide +kernel) (by decide) (by decide +kernel : decode cL_law 612 = .ok (.invokevirtual 74, 3))) ?_
  refine mm_fc (ss_icmpeq hx hb (by decide +kernel : decode cL_law 615 = .ok (.if_icmp .eq 519, 3)) (by decide)) ?_
  refine mm_fc (ss_iconst hx hb (by decide +kernel : decode cL_law 618 = .ok (.iconst 0, 1)) (by decide)) ?_
  refine mm_fc (ss_zret (by decide +kernel : decode cL_law 619 = .ok (.ireturn, 1)) rfl) ?_
  refine mm_fc (ss_aload_n hx hb (by decide +kernel : decode cL_law 620 = .ok (.aload_n 1, 1)) rfl) ?_
  refine mm_fc (ss_aload_n hx hb (by decide +kernel : decode cL_law 621 = .ok (.aload_n 0, 1)) rfl) ?_
  refine mm_fc (ss_iload_n hx hb (by decide +kernel : decode cL_law 622 = .ok (.iload_n 3, 1)) rfl) ?_
  refine mm_fc (ss_iconst hx hb (by decide +kernel : decode cL_law 623 = .ok (.iconst 1, 1)) (by decide)) ?_
  refine mm_fc (ss_iadd hx hb (by decide +kernel : decode cL_law 624 = .ok (.iadd, 1))) ?_
  refine mm_fc (ss_sld X hX hbl hbA hσ (by decide +kernel : decode cL_law 625 = .ok (.iaload, 1))) ?_
  refine mm_fc (ss_callV X rfl rfl wd_5_8 wd_1_1 wd_5_5 wd_5_6 wd_5_7 (by decide +kernel) (by decide +kernel) (by decide) (by decide +kernel : decode cL_law 626 = .ok (.invokevirtual 75, 3))) ?_
  refine mm_fc (ss_aload_n hx hb (by decide +kernel : decode cL_law 629 = .ok (.aload_n 2, 1)) rfl) ?_
  refine mm_fc (ss_aload_n hx hb (by decide +kernel : decode cL_law 630 = .ok (.aload_n 0, 1)) rfl) ?_
  refine mm_fc (ss_iload_n hx hb (by decide +kernel : decode cL_law 631 = .ok (.iload_n 3, 1)) rfl) ?_
  refine mm_fc (ss_iconst hx hb (by decide +kernel : decode cL_law 632 = .ok (.iconst 1, 1)) (by decide)) ?_
  refine mm_fc (ss_iadd hx hb (by decide +kernel : decode cL_law 633 = .ok (.iadd, 1))) ?_
  refine mm_fc (ss_sld X hX hbl hbA hσ (by decide +kernel : decode cL_law 634 = .ok (.iaload, 1))) ?_
  refine mm_fc (ss_callV X rfl rfl wd_9_30 wd_1_13 wd_9_27 wd_9_28 wd_9_29 (by decide +kernel) (by decide +kernel) (by decide) (by decide +kernel : decode cL_law 635 = .ok (.invokevirtual 78, 3))) ?_
  refine mm_fc (ss_icmpeq hx hb (by decide +kernel : decode cL_law 638 = .ok (.if_icmp .eq 496, 3)) (by decide)) ?_
  refine mm_fc (ss_iconst hx hb (by decide +kernel : decode cL_law 641 = .ok (.iconst 0, 1)) (by decide)) ?_
  refine mm_fc (ss_zret (by decide +kernel : decode cL_law 642 = .ok (.ireturn, 1)) rfl) ?_
  refine mm_fc (ss_aload_n hx hb (by decide +kernel : decode cL_law 643 = .ok (.aload_n 1, 1)) rfl) ?_
  refine mm_fc (ss_aload_n hx hb (by decide +kernel : decode cL_law 644 = .ok (.aload_n 0, 1)) rfl) ?_
  refine mm_fc (ss_iload_n hx hb (by decide +kernel : decode cL_law 645 = .ok (.iload_n 3, 1)) rfl) ?_
  refine mm_fc (ss_iconst hx hb (by decide +kernel : decode cL_law 646 = .ok (.iconst 1, 1)) (by decide)) ?_
  refine mm_fc (ss_iadd hx hb (by decide +kernel : decode cL_law 647 = .ok (.iadd, 1))) ?_
  refine mm_fc (ss_sld X hX hbl hbA hσ (by decide +kernel : decode cL_law 648 = .ok (.iaload, 1))) ?_
  refine mm_fc (ss_aload_n hx hb (by decide +kernel : decode cL_law 649 = .ok (.aload_n 0, 1)) rfl) ?_
  refine mm_fc (ss_iload_n hx hb (by decide +kernel : decode cL_law 650 = .ok (.iload_n 3, 1)) rfl) ?_
  refine mm_fc (ss_iconst hx hb (by decide +kernel : decode cL_law 651 = .ok (.iconst 2, 1)) (by decide)) ?_
  refine mm_fc (ss_iadd hx hb (by decide +kernel : decode cL_law 652 = .ok (.iadd, 1))) ?_
  refine mm_fc (ss_sld X hX hbl hbA hσ (by decide +kernel : decode cL_law 653 = .ok (.iaload, 1))) ?_
  refine mm_fc (ss_callV X rfl rfl wd_5_18 wd_1_1 wd_5_15 wd_5_16 wd_5_17 (by decide +kernel) (by decide +kernel) (by decide) (by decide +kernel : decode cL_law 654 = .ok (.invokevirtual 79, 3))) ?_
  refine mm_fc (ss_aload_n hx hb (by decide +kernel : decode cL_law 657 = .ok (.aload_n 2, 1)) rfl) ?_
  refine mm_fc (ss_aload_n hx hb (by decide +kernel : decode cL_law 658 = .ok (.aload_n 0, 1)) rfl) ?_
  refine mm_fc (ss_iload_n hx hb (by decide +kernel : decode cL_law 659 = .ok (.iload_n 3, 1)) rfl) ?_
  refine mm_fc (ss_iconst hx hb (by decide +kernel : decode cL_law 660 = .ok (.iconst 1, 1)) (by decide)) ?_
  refine mm_fc (ss_iadd hx hb (by decide +kernel : decode cL_law 661 = .ok (.iadd, 1))) ?_
  refine mm_fc (ss_sld X hX hbl hbA hσ (by decide +kernel : decode cL_law 662 = .ok (.iaload, 1))) ?_
  refine mm_fc (ss_aload_n hx hb (by decide +kernel : decode cL_law 663 = .ok (.aload_n 0, 1)) rfl) ?_
  refine mm_fc (ss_iload_n hx hb (by decide +kernel : decode cL_law 664 = .ok (.iload_n 3, 1)) rfl) ?_
  refine mm_fc (ss_iconst hx hb (by decide +kernel : decode cL_law 665 = .ok (.iconst 2, 1)) (by decide)) ?_
  refine mm_fc (ss_iadd hx hb (by decide +kernel : decode cL_law 666 = .ok (.iadd, 1))) ?_
  refine mm_fc (ss_sld X hX hbl hbA hσ (by decide +kernel : decode cL_law 667 = .ok (.iaload, 1))) ?_
  exact mm_fn
def cd_L_law_4 (L : Nat) (xs : Nat → Int32) : mm_K mm_H := [(668, s_callV 12 257 2 1 671), (671, s_icmp (fun x y => x = y) 1134 674), (674, s_pushI 0 675), (675, s_zret), (676, s_aload 1 677), (677, s_aload 0 678), (678, s_iload 3 679), (679, s_pushI 1 680), (680, s_bin (fun x y => x + y) 681), (681, s_sld L xs 682), (682, s_aload 0 683), (683, s_iload 3 684), (684, s_pushI 2 685), (685, s_bin (fun x y => x + y) 686), (686, s_sld L xs 687), (687, s_aload 0 688), (688, s_iload 3 689), (689, s_pushI 3 690), (690, s_bin (fun x y => x + y) 691), (691, s_sld L xs 692), (692, s_aload 0 693), (693, s_iload 3 694), (694, s_pushI 4 695), (695, s_bin (fun x y => x + y) 696), (696, s_sld L xs 697), (697, s_callV 11 164 4 1 700), (700, s_aload 2 701), (701, s_aload 0 702), (702, s_iload 3 703), (703, s_pushI 1 704), (704, s_bin (fun x y => x + y) 705), (705, s_sld L xs 706), (706, s_aload 0 707), (707, s_iload 3 708), (708, s_pushI 2 709), (709, s_bin (fun x y => x + y) 710), (710, s_sld L xs 711), (711, s_aload 0 712), (712, s_iload 3 713), (713, s_pushI 3 714), (714, s_bin (fun x y => x + y) 715), (715, s_sld L xs 716), (716, s_aload 0 717), (717, s_iload 3 718), (718, s_pushI 4 719), (719, s_bin (fun x y => x + y) 720), (720, s_sld L xs 721), (721, s_callV 12 259 4 1 724), (724, s_icmp (fun x y => x = y) 1134 727), (727, s_pushI 0 728), (728, s_zret), (729, s_aload 1 730), (730, s_callV 11 165 0 1 733), (733, s_aload 2 734), (734, s_callV 12 261 0 1 737), (737, s_icmp (fun x y => x = y) 1134 740), (740, s_pushI 0 741), (741, s_zret), (742, s_aload 1 743), (743, s_aload 0 744), (744, s_iload 3 745), (745, s_pushI 1 746), (746, s_bin (fun x y => x + y) 747), (747, s_sld L xs 748), (748, s_callV 11 166 1 1 751), (751, s_aload 2 752), (752, s_aload 0 753), (753, s_iload 3 754), (754, s_pushI 1 755), (755, s_bin (fun x y => x + y) 756), (756, s_sld L xs 757), (757, s_callV 12 264 1 1 760), (760, s_icmp (fun x y => x = y) 1134 763), (763, s_pushI 0 764), (764, s_zret), (765, s_aload 1 766), (766, s_callV 11 167 0 1 769), (769, s_aload 2 770), (770, s_callV 12 266 0 1 773), (773, s_icmp (fun x y => x = y) 1134 776), (776, s_pushI 0 777), (777, s_zret), (778, s_aload 1 779), (779, s_aload 0 780), (780, s_iload 3 781), (781, s_pushI 1 782), (782, s_bin (fun x y => x + y) 783), (783, s_sld L xs 784), (784, s_aload 0 785), (785, s_iload 3 786), (786, s_pushI 2 787), (787, s_bin (fun x y => x + y) 788), (788, s_sld L xs 789), (789, s_callV 11 168 2 1 792), (792, s_aload 2 793), (793, s_aload 0 794), (794, s_iload 3 795), (795, s_pushI 1 796), (796, s_bin (fun x y => x + y) 797), (797, s_sld L xs 798)]
set_option maxRecDepth 100000 in
set_option maxHeartbeats 4000000 in
theorem ok_L_law_4 {p : Program} {l : Launch} {e : Env} {R : Room} {s : State} {m : MethodId} {args : Array Value} {below : List Frame} {meth : Method} {c : Code} {Q : State → Prop} {σ : Nat → Nat} {cA : Nat → ClassId} {D : va_G} {A : Nat → Prop} {kc ks d : Nat} {C : mm_C mm_H} {b L : Nat} {xs : Nat → Int32} (X : mm_Cx p l R s m args c cL_law 4 RL σ cA D A kc ks mm_I0 d C) (hX : va_X b L xs s s.heap) (hbl : b < s.heap.size) (hbA : ¬ A b) (hσ : σ mm_SCR = b) : ∀ q ∈ cd_L_law_4 L xs, mm_Sim p l e R s m args below meth c ret cL_law 4 Q σ (mm_Rz σ cA D A s.heap kc ks) C q := by
  have hx := X.1
  have hb := X.2.1
  have hown := X.2.2.2.1
  have hts := X.2.2.2.2.1
  refine mm_fc (ss_callV X rfl rfl wd_9_34 wd_1_13 wd_9_31 wd_9_32 wd_9_33 (by decide +kernel) (by decide +kernel) (by decide) (by decide +kernel : decode cL_law 668 = .ok (.invokevirtual 82, 3))) ?_
  refine mm_fc (ss_icmpeq hx hb (by decide +kernel : decode cL_law 671 = .ok (.if_icmp .eq 463, 3)) (by decide)) ?_
  refine mm_fc (ss_iconst hx hb (by decide +kernel : decode cL_law 674 = .ok (.iconst 0, 1)) (by decide)) ?_
  refine mm_fc (ss_zret (by decide +kernel : decode cL_law 675 = .ok (.ireturn, 1)) rfl) ?_
  refine mm_fc (ss_aload_n hx hb (by decide +kernel : decode cL_law 676 = .ok (.aload_n 1, 1)) rfl) ?_
  refine mm_fc (ss_aload_n hx hb (by decide +kernel : decode cL_law 677 = .ok (.aload_n 0, 1)) rfl) ?_
  refine mm_fc (ss_iload_n hx hb (by decide +kernel : decode cL_law 678 = .ok (.iload_n 3, 1)) rfl) ?_
  refine mm_fc (ss_iconst hx hb (by decide +kernel : decode cL_law 679 = .ok (.iconst 1, 1)) (by decide)) ?_
  refine mm_fc (ss_iadd hx hb (by decide +kernel : decode cL_law 680 = .ok (.iadd, 1))) ?_
  refine mm_fc (ss_sld X hX hbl hbA hσ (by decide +kernel : decode cL_law 681 = .ok (.iaload, 1))) ?_
  refine mm_fc (ss_aload_n hx hb (by decide +kernel : decode cL_law 682 = .ok (.aload_n 0, 1)) rfl) ?_
  refine mm_fc (ss_iload_n hx hb (by decide +kernel : decode cL_law 683 = .ok (.iload_n 3, 1)) rfl) ?_
  refine mm_fc (ss_iconst hx hb (by decide +kernel : decode cL_law 684 = .ok (.iconst 2, 1)) (by decide)) ?_
  refine mm_fc (ss_iadd hx hb (by decide +kernel : decode cL_law 685 = .ok (.iadd, 1))) ?_
  refine mm_fc (ss_sld X hX hbl hbA hσ (by decide +kernel : decode cL_law 686 = .ok (.iaload, 1))) ?_
  refine mm_fc (ss_aload_n hx hb (by decide +kernel : decode cL_law 687 = .ok (.aload_n 0, 1)) rfl) ?_
  refine mm_fc (ss_iload_n hx hb (by decide +kernel : decode cL_law 688 = .ok (.iload_n 3, 1)) rfl) ?_
  refine mm_fc (ss_iconst hx hb (by decide +kernel : decode cL_law 689 = .ok (.iconst 3, 1)) (by decide)) ?_
  refine mm_fc (ss_iadd hx hb (by decide +kernel : decode cL_law 690 = .ok (.iadd, 1))) ?_
  refine mm_fc (ss_sld X hX hbl hbA hσ (by decide +kernel : decode cL_law 691 = .ok (.iaload, 1))) ?_
  refine mm_fc (ss_aload_n hx hb (by decide +kernel : decode cL_law 692 = .ok (.aload_n 0, 1)) rfl) ?_
  refine mm_fc (ss_iload_n hx hb (by decide +kernel : decode cL_law 693 = .ok (.iload_n 3, 1)) rfl) ?_
  refine mm_fc (ss_iconst hx hb (by decide +kernel : decode cL_law 694 = .ok (.iconst 4, 1)) (by decide)) ?_
  refine mm_fc (ss_iadd hx hb (by decide +kernel : decode cL_law 695 = .ok (.iadd, 1))) ?_
  refine mm_fc (ss_sld X hX hbl hbA hσ (by decide +kernel : decode cL_law 696 = .ok (.iaload, 1))) ?_
  refine mm_fc (ss_callV X rfl rfl wd_5_32 wd_1_1 wd_5_29 wd_5_30 wd_5_31 (by decide +kernel) (by decide +kernel) (by decide) (by decide +kernel : decode cL_law 697 = .ok (.invokevirtual 83, 3))) ?_
  refine mm_fc (ss_aload_n hx hb (by decide +kernel : decode cL_law 700 = .ok (.aload_n 2, 1)) rfl) ?_
  refine mm_fc (ss_aload_n hx hb (by decide +kernel : decode cL_law 701 = .ok (.aload_n 0, 1)) rfl) ?_
  refine mm_fc (ss_iload_n hx hb (by decide +kernel : decode cL_law 702 = .ok (.iload_n 3, 1)) rfl) ?_
  refine mm_fc (ss_iconst hx hb (by decide +kernel : decode cL_law 703 = .ok (.iconst 1, 1)) (by decide)) ?_
  refine mm_fc (ss_iadd hx hb (by decide +kernel : decode cL_law 704 = .ok (.iadd, 1))) ?_
  refine mm_fc (ss_sld X hX hbl hbA hσ (by decide +kernel : decode cL_law 705 = .ok (.iaload, 1))) ?_
  refine mm_fc (ss_aload_n hx hb (by decide +kernel : decode cL_law 706 = .ok (.aload_n 0, 1)) rfl) ?_
  refine mm_fc (ss_iload_n hx hb (by decide +kernel : decode cL_law 707 = .ok (.iload_n 3, 1)) rfl) ?_
  refine mm_fc (ss_iconst hx hb (by decide +kernel : decode cL_law 708 = .ok (.iconst 2, 1)) (by decide)) ?_
  refine mm_fc (ss_iadd hx hb (by decide +kernel : decode cL_law 709 = .ok (.iadd, 1))) ?_
  refine mm_fc (ss_sld X hX hbl hbA hσ (by decide +kernel : decode cL_law 710 = .ok (.iaload, 1))) ?_
  refine mm_fc (ss_aload_n hx hb (by decide +kernel : decode cL_law 711 = .ok (.aload_n 0, 1)) rfl) ?_
  refine mm_fc (ss_iload_n hx hb (by decide +kernel : decode cL_law 712 = .ok (.iload_n 3, 1)) rfl) ?_
  refine mm_fc (ss_iconst hx hb (by decide +kernel : decode cL_law 713 = .ok (.iconst 3, 1)) (by decide)) ?_
  refine mm_fc (ss_iadd hx hb (by decide +kernel : decode cL_law 714 = .ok (.iadd, 1))) ?_
  refine mm_fc (ss_sld X hX hbl hbA hσ (by decide +kernel : decode cL_law 715 = .ok (.iaload, 1))) ?_
  refine mm_fc (ss_aload_n hx hb (by decide +kernel : decode cL_law 716 = .ok (.aload_n 0, 1)) rfl) ?_
  refine mm_fc (ss_iload_n hx hb (by decide +kernel : decode cL_law 717 = .ok (.iload_n 3, 1)) rfl) ?_
  refine mm_fc (ss_iconst hx hb (by decide +kernel : decode cL_law 718 = .ok (.iconst 4, 1)) (by decide)) ?_
  refine mm_fc (ss_iadd hx hb (by decide +kernel : decode cL_law 719 = .ok (.iadd, 1))) ?_
  refine mm_fc (ss_sld X hX hbl hbA hσ (by decide +kernel : decode cL_law 720 = .ok (.iaload, 1))) ?_
  refine mm_fc (ss_callV X rfl rfl wd_9_42 wd_1_13 wd_9_39 wd_9_40 wd_9_41 (by decide +kernel) (by decide +kernel) (by decide) (by decide +kernel : decode cL_law 721 = .ok (.invokevirtual 87, 3))) ?_
  refine mm_fc (ss_icmpeq hx hb (by decide +kernel : decode cL_law 724 = .ok (.if_icmp .eq 410, 3)) (by decide)) ?_
  refine mm_fc (ss_iconst hx hb (by decide +kernel : decode cL_law 727 = .ok (.iconst 0, 1)) (by decide)) ?_
  refine mm_fc (ss_zret (by decide +kernel : decode cL_law 728 = .ok (.ireturn, 1)) rfl) ?_
  refine mm_fc (ss_aload_n hx hb (by decide +kernel : decode cL_law 729 = .ok (.aload_n 1, 1)) rfl) ?_
  refine mm_fc (ss_callV X rfl rfl wd_5_42 wd_1_1 wd_5_39 wd_5_40 wd_5_41 (by decide +kernel) (by decide +kernel) (by decide) (by decide +kernel : decode cL_law 730 = .ok (.invokevirtual 88, 3))) ?_
  refine mm_fc (ss_aload_n hx hb (by decide +kernel : decode cL_law 733 = .ok (.aload_n 2, 1)) rfl) ?_
  refine mm_fc (ss_callV X rfl rfl wd_9_51 wd_1_13 wd_9_48 wd_9_49 wd_9_50 (by decide +kernel) (by decide +kernel) (by decide) (by decide +kernel : decode cL_law 734 = .ok (.invokevirtual 91, 3))) ?_
  refine mm_fc (ss_icmpeq hx hb (by decide +kernel : decode cL_law 737 = .ok (.if_icmp .eq 397, 3)) (by decide)) ?_
  refine mm_fc (ss_iconst hx hb (by decide +kernel : decode cL_law 740 = .ok (.iconst 0, 1)) (by decide)) ?_
  refine mm_fc (ss_zret (by decide +kernel : decode cL_law 741 = .ok (.ireturn, 1)) rfl) ?_
  refine mm_fc (ss_aload_n hx hb (by decide +kernel : decode cL_law 742 = .ok (.aload_n 1, 1)) rfl) ?_
  refine mm_fc (ss_aload_n hx hb (by decide +kernel : decode cL_law 743 = .ok (.aload_n 0, 1)) rfl) ?_
  refine mm_fc (ss_iload_n hx hb (by decide +kernel : decode cL_law 744 = .ok (.iload_n 3, 1)) rfl) ?_
  refine mm_fc (ss_iconst hx hb (by decide +kernel : decode cL_law 745 = .ok (.iconst 1, 1)) (by decide)) ?_
  refine mm_fc (ss_iadd hx hb (by decide +kernel : decode cL_law 746 = .ok (.iadd, 1))) ?_
  refine mm_fc (ss_sld X hX hbl hbA hσ (by decide +kernel : decode cL_law 747 = .ok (.iaload, 1))) ?_
  refine mm_fc (ss_callV X rfl rfl wd_5_55 wd_1_1 wd_5_52 wd_5_53 wd_5_54 (by decide +kernel) (by decide +kernel) (by decide) (by decide +kernel : decode cL_law 748 = .ok (.invokevirtual 92, 3))) ?_
  refine mm_fc (ss_aload_n hx hb (by decide +kernel : decode cL_law 751 = .ok (.aload_n 2, 1)) rfl) ?_
  refine mm_fc (ss_aload_n hx hb (by decide +kernel : decode cL_law 752 = .ok (.aload_n 0, 1)) rfl) ?_
  refine mm_fc (ss_iload_n hx hb (by decide +kernel : decode cL_law 753 = .ok (.iload_n 3, 1)) rfl) ?_
  refine mm_fc (ss_iconst hx hb (by decide +kernel : decode cL_law 754 = .ok (.iconst 1, 1)) (by decide)) ?_
  refine mm_fc (ss_iadd hx hb (by decide +kernel : decode cL_law 755 = .ok (.iadd, 1))) ?_
  refine mm_fc (ss_sld X hX hbl hbA hσ (by decide +kernel : decode cL_law 756 = .ok (.iaload, 1))) ?_
  refine mm_fc (ss_callV X rfl rfl wd_9_62 wd_1_13 wd_9_59 wd_9_60 wd_9_61 (by decide +kernel) (by decide +kernel) (by decide) (by decide +kernel : decode cL_law 757 = .ok (.invokevirtual 95, 3))) ?_
  refine mm_fc (ss_icmpeq hx hb (by decide +kernel : decode cL_law 760 = .ok (.if_icmp .eq 374, 3)) (by decide)) ?_
  refine mm_fc (ss_iconst hx hb (by decide +kernel : decode cL_law 763 = .ok (.iconst 0, 1)) (by decide)) ?_
  refine mm_fc (ss_zret (by decide +kernel : decode cL_law 764 = .ok (.ireturn, 1)) rfl) ?_
  refine mm_fc (ss_aload_n hx hb (by decide +kernel : decode cL_law 765 = .ok (.aload_n 1, 1)) rfl) ?_
  refine mm_fc (ss_callV X rfl rfl wd_5_76 wd_1_1 wd_5_73 wd_5_74 wd_5_75 (by decide +kernel) (by decide +kernel) (by decide) (by decide +kernel : decode cL_law 766 = .ok (.invokevirtual 96, 3))) ?_
  refine mm_fc (ss_aload_n hx hb (by decide +kernel : decode cL_law 769 = .ok (.aload_n 2, 1)) rfl) ?_
  refine mm_fc (ss_callV X rfl rfl wd_9_74 wd_1_13 wd_9_71 wd_9_72 wd_9_73 (by decide +kernel) (by decide +kernel) (by decide) (by decide +kernel : decode cL_law 770 = .ok (.invokevirtual 99, 3))) ?_
  refine mm_fc (ss_icmpeq hx hb (by decide +kernel : decode cL_law 773 = .ok (.if_icmp .eq 361, 3)) (by decide)) ?_
  refine mm_fc (ss_iconst hx hb (by decide +kernel : decode cL_law 776 = .ok (.iconst 0, 1)) (by decide)) ?_
  refine mm_fc (ss_zret (by decide +kernel : decode cL_law 777 = .ok (.ireturn, 1)) rfl) ?_
  refine mm_fc (ss_aload_n hx hb (by decide +kernel : decode cL_law 778 = .ok (.aload_n 1, 1)) rfl) ?_
  refine mm_fc (ss_aload_n hx hb (by decide +kernel : decode cL_law 779 = .ok (.aload_n 0, 1)) rfl) ?_
  refine mm_fc (ss_iload_n hx hb (by decide +kernel : decode cL_law 780 = .ok (.iload_n 3, 1)) rfl) ?_
  refine mm_fc (ss_iconst hx hb (by decide +kernel : decode cL_law 781 = .ok (.iconst 1, 1)) (by decide)) ?_
  refine mm_fc (ss_iadd hx hb (by decide +kernel : decode cL_law 782 = .ok (.iadd, 1))) ?_
  refine mm_fc (ss_sld X hX hbl hbA hσ (by decide +kernel : decode cL_law 783 = .ok (.iaload, 1))) ?_
  refine mm_fc (ss_aload_n hx hb (by decide +kernel : decode cL_law 784 = .ok (.aload_n 0, 1)) rfl) ?_
  refine mm_fc (ss_iload_n hx hb (by decide +kernel : decode cL_law 785 = .ok (.iload_n 3, 1)) rfl) ?_
  refine mm_fc (ss_iconst hx hb (by decide +kernel : decode cL_law 786 = .ok (.iconst 2, 1)) (by decide)) ?_
  refine mm_fc (ss_iadd hx hb (by decide +kernel : decode cL_law 787 = .ok (.iadd, 1))) ?_
  refine mm_fc (ss_sld X hX hbl hbA hσ (by decide +kernel : decode cL_law 788 = .ok (.iaload, 1))) ?_
  refine mm_fc (ss_callV X rfl rfl wd_5_86 wd_1_1 wd_5_83 wd_5_84 wd_5_85 (by decide +kernel) (by decide +kernel) (by decide) (by decide +kernel : decode cL_law 789 = .ok (.invokevirtual 100, 3))) ?_
  refine mm_fc (ss_aload_n hx hb (by decide +kernel : decode cL_law 792 = .ok (.aload_n 2, 1)) rfl) ?_
  refine mm_fc (ss_aload_n hx hb (by decide +kernel : decode cL_law 793 = .ok (.aload_n 0, 1)) rfl) ?_
  refine mm_fc (ss_iload_n hx hb (by decide +kernel : decode cL_law 794 = .ok (.iload_n 3, 1)) rfl) ?_
  refine mm_fc (ss_iconst hx hb (by decide +kernel : decode cL_law 795 = .ok (.iconst 1, 1)) (by decide)) ?_
  refine mm_fc (ss_iadd hx hb (by decide +kernel : decode cL_law 796 = .ok (.iadd, 1))) ?_
  refine mm_fc (ss_sld X hX hbl hbA hσ (by decide +kernel : decode cL_law 797 = .ok (.iaload, 1))) ?_
  exact mm_fn
def cd_L_law_5 (L : Nat) (xs : Nat → Int32) : mm_K mm_H := [(798, s_aload 0 799), (799, s_iload 3 800), (800, s_pushI 2 801), (801, s_bin (fun x y => x + y) 802), (802, s_sld L xs 803), (803, s_callV 12 271 2 1 806), (806, s_icmp (fun x y => x = y) 1134 809), (809, s_pushI 0 810), (810, s_zret), (811, s_aload 1 812), (812, s_aload 0 813), (813, s_iload 3 814), (814, s_pushI 1 815), (815, s_bin (fun x y => x + y) 816), (816, s_sld L xs 817), (817, s_callV 11 169 1 1 820), (820, s_aload 2 821), (821, s_aload 0 822), (822, s_iload 3 823), (823, s_pushI 1 824), (824, s_bin (fun x y => x + y) 825), (825, s_sld L xs 826), (826, s_callV 12 272 1 1 829), (829, s_icmp (fun x y => x = y) 1134 832), (832, s_pushI 0 833), (833, s_zret), (834, s_aload 1 835), (835, s_aload 0 836), (836, s_iload 3 837), (837, s_pushI 1 838), (838, s_bin (fun x y => x + y) 839), (839, s_sld L xs 840), (840, s_aload 0 841), (841, s_iload 3 842), (842, s_pushI 2 843), (843, s_bin (fun x y => x + y) 844), (844, s_sld L xs 845), (845, s_aload 0 846), (846, s_iload 3 847), (847, s_pushI 3 848), (848, s_bin (fun x y => x + y) 849), (849, s_sld L xs 850), (850, s_callV 11 170 3 1 853), (853, s_aload 2 854), (854, s_aload 0 855), (855, s_iload 3 856), (856, s_pushI 1 857), (857, s_bin (fun x y => x + y) 858), (858, s_sld L xs 859), (859, s_aload 0 860), (860, s_iload 3 861), (861, s_pushI 2 862), (862, s_bin (fun x y => x + y) 863), (863, s_sld L xs 864), (864, s_aload 0 865), (865, s_iload 3 866), (866, s_pushI 3 867), (867, s_bin (fun x y => x + y) 868), (868, s_sld L xs 869), (869, s_callV 12 274 3 1 872), (872, s_icmp (fun x y => x = y) 1134 875), (875, s_pushI 0 876), (876, s_zret), (877, s_aload 1 878), (878, s_aload 0 879), (879, s_iload 3 880), (880, s_pushI 1 881), (881, s_bin (fun x y => x + y) 882), (882, s_sld L xs 883), (883, s_aload 0 884), (884, s_iload 3 885), (885, s_pushI 2 886), (886, s_bin (fun x y => x + y) 887), (887, s_sld L xs 888), (888, s_callV 11 171 2 1 891), (891, s_aload 2 892), (892, s_aload 0 893), (893, s_iload 3 894), (894, s_pushI 1 895), (895, s_bin (fun x y => x + y) 896), (896, s_sld L xs 897), (897, s_aload 0 898), (898, s_iload 3 899), (899, s_pushI 2 900), (900, s_bin (fun x y => x + y) 901), (901, s_sld L xs 902), (902, s_callV 12 278 2 1 905), (905, s_icmp (fun x y => x = y) 1134 908), (908, s_pushI 0 909), (909, s_zret), (910, s_aload 1 911), (911, s_aload 0 912), (912, s_iload 3 913), (913, s_pushI 1 914), (914, s_bin (fun x y => x + y) 915), (915, s_sld L xs 916), (916, s_callV 11 172 1 1 919), (919, s_aload 2 920), (920, s_aload 0 921), (921, s_iload 3 922)]
set_option maxRecDepth 100000 in
set_option maxHeartbeats 4000000 in
theorem ok_L_law_5 {p : Program} {l : Launch} {e : Env} {R : Room} {s : State} {m : MethodId} {args : Array Value} {below : List Frame} {meth : Method} {c : Code} {Q : State → Prop} {σ : Nat → Nat} {cA : Nat → ClassId} {D : va_G} {A : Nat → Prop} {kc ks d : Nat} {C : mm_C mm_H} {b L : Nat} {xs : Nat → Int32} (X : mm_Cx p l R s m args c cL_law 4 RL σ cA D A kc ks mm_I0 d C) (hX : va_X b L xs s s.heap) (hbl : b < s.heap.size) (hbA : ¬ A b) (hσ : σ mm_SCR = b) : ∀ q ∈ cd_L_law_5 L xs, mm_Sim p l e R s m args below meth c ret cL_law 4 Q σ (mm_Rz σ cA D A s.heap kc ks) C q := by
  have hx := X.1
  have hb := X.2.1
  have hown := X.2.2.2.1
  have hts := X.2.2.2.2.1
  refine mm_fc (ss_aload_n hx hb (by decide +kernel : decode cL_law 798 = .ok (.aload_n 0, 1)) rfl) ?_
  refine mm_fc (ss_iload_n hx hb (by decide +kernel : decode cL_law 799 = .ok (.iload_n 3, 1)) rfl) ?_
  refine mm_fc (ss_iconst hx hb (by decide +kernel : decode cL_law 800 = .ok (.iconst 2, 1)) (by decide)) ?_
  refine mm_fc (ss_iadd hx hb (by decide +kernel : decode cL_law 801 = .ok (.iadd, 1))) ?_
  refine mm_fc (ss_sld X hX hbl hbA hσ (by decide +kernel : decode cL_law 802 = .ok (.iaload, 1))) ?_
  refine mm_fc (ss_callV X rfl rfl wd_9_82 wd_1_13 wd_9_79 wd_9_80 wd_9_81 (by decide +kernel) (by decide +kernel) (by decide) (by decide +kernel : decode cL_law 803 = .ok (.invokevirtual 103, 3))) ?_
  refine mm_fc (ss_icmpeq hx hb (by decide +kernel : decode cL_law 806 = .ok (.if_icmp .eq 328, 3)) (by decide)) ?_
  refine mm_fc (ss_iconst hx hb (by decide +kernel : decode cL_law 809 = .ok (.iconst 0, 1)) (by decide)) ?_
  refine mm_fc (ss_zret (by decide +kernel : decode cL_law 810 = .ok (.ireturn, 1)) rfl) ?_
  refine mm_fc (ss_aload_n hx hb (by decide +kernel : decode cL_law 811 = .ok (.aload_n 1, 1)) rfl) ?_
  refine mm_fc (ss_aload_n hx hb (by decide +kernel : decode cL_law 812 = .ok (.aload_n 0, 1)) rfl) ?_
  refine mm_fc (ss_iload_n hx hb (by decide +kernel : decode cL_law 813 = .ok (.iload_n 3, 1)) rfl) ?_
  refine mm_fc (ss_iconst hx hb (by decide +kernel : decode cL_law 814 = .ok (.iconst 1, 1)) (by decide)) ?_
  refine mm_fc (ss_iadd hx hb (by decide +kernel : decode cL_law 815 = .ok (.iadd, 1))) ?_
  refine mm_fc (ss_sld X hX hbl hbA hσ (by decide +kernel : decode cL_law 816 = .ok (.iaload, 1))) ?_
  refine mm_fc (ss_callV X rfl rfl wd_5_108 wd_1_1 wd_5_105 wd_5_106 wd_5_107 (by decide +kernel) (by decide +kernel) (by decide) (by decide +kernel : decode cL_law 817 = .ok (.invokevirtual 104, 3))) ?_
  refine mm_fc (ss_aload_n hx hb (by decide +kernel : decode cL_law 820 = .ok (.aload_n 2, 1)) rfl) ?_
  refine mm_fc (ss_aload_n hx hb (by decide +kernel : decode cL_law 821 = .ok (.aload_n 0, 1)) rfl) ?_
  refine mm_fc (ss_iload_n hx hb (by decide +kernel : decode cL_law 822 = .ok (.iload_n 3, 1)) rfl) ?_
  refine mm_fc (ss_iconst hx hb (by decide +kernel : decode cL_law 823 = .ok (.iconst 1, 1)) (by decide)) ?_
  refine mm_fc (ss_iadd hx hb (by decide +kernel : decode cL_law 824 = .ok (.iadd, 1))) ?_
  refine mm_fc (ss_sld X hX hbl hbA hσ (by decide +kernel : decode cL_law 825 = .ok (.iaload, 1))) ?_
  refine mm_fc (ss_callV X rfl rfl wd_9_102 wd_1_13 wd_9_99 wd_9_100 wd_9_101 (by decide +kernel) (by decide +kernel) (by decide) (by decide +kernel : decode cL_law 826 = .ok (.invokevirtual 107, 3))) ?_
  refine mm_fc (ss_icmpeq hx hb (by decide +kernel : decode cL_law 829 = .ok (.if_icmp .eq 305, 3)) (by decide)) ?_
  refine mm_fc (ss_iconst hx hb (by decide +kernel : decode cL_law 832 = .ok (.iconst 0, 1)) (by decide)) ?_
  refine mm_fc (ss_zret (by decide +kernel : decode cL_law 833 = .ok (.ireturn, 1)) rfl) ?_
  refine mm_fc (ss_aload_n hx hb (by decide +kernel : decode cL_law 834 = .ok (.aload_n 1, 1)) rfl) ?_
  refine mm_fc (ss_aload_n hx hb (by decide +kernel : decode cL_law 835 = .ok (.aload_n 0, 1)) rfl) ?_
  refine mm_fc (ss_iload_n hx hb (by decide +kernel : decode cL_law 836 = .ok (.iload_n 3, 1)) rfl) ?_
  refine mm_fc (ss_iconst hx hb (by decide +kernel : decode cL_law 837 = .ok (.iconst 1, 1)) (by decide)) ?_
  refine mm_fc (ss_iadd hx hb (by decide +kernel : decode cL_law 838 = .ok (.iadd, 1))) ?_
  refine mm_fc (ss_sld X hX hbl hbA hσ (by decide +kernel : decode cL_law 839 = .ok (.iaload, 1))) ?_
  refine mm_fc (ss_aload_n hx hb (by decide +kernel : decode cL_law 840 = .ok (.aload_n 0, 1)) rfl) ?_
  refine mm_fc (ss_iload_n hx hb (by decide +kernel : decode cL_law 841 = .ok (.iload_n 3, 1)) rfl) ?_
  refine mm_fc (ss_iconst hx hb (by decide +kernel : decode cL_law 842 = .ok (.iconst 2, 1)) (by decide)) ?_
  refine mm_fc (ss_iadd hx hb (by decide +kernel : decode cL_law 843 = .ok (.iadd, 1))) ?_
  refine mm_fc (ss_sld X hX hbl hbA hσ (by decide +kernel : decode cL_law 844 = .ok (.iaload, 1))) ?_
  refine mm_fc (ss_aload_n hx hb (by decide +kernel : decode cL_law 845 = .ok (.aload_n 0, 1)) rfl) ?_
  refine mm_fc (ss_iload_n hx hb (by decide +kernel : decode cL_law 846 = .ok (.iload_n 3, 1)) rfl) ?_
  refine mm_fc (ss_iconst hx hb (by decide +kernel : decode cL_law 847 = .ok (.iconst 3, 1)) (by decide)) ?_
  refine mm_fc (ss_iadd hx hb (by decide +kernel : decode cL_law 848 = .ok (.iadd, 1))) ?_
  refine mm_fc (ss_sld X hX hbl hbA hσ (by decide +kernel : decode cL_law 849 = .ok (.iaload, 1))) ?_
  refine mm_fc (ss_callV X rfl rfl wd_5_120 wd_1_1 wd_5_117 wd_5_118 wd_5_119 (by decide +kernel) (by decide +kernel) (by decide) (by decide +kernel : decode cL_law 850 = .ok (.invokevirtual 108, 3))) ?_
  refine mm_fc (ss_aload_n hx hb (by decide +kernel : decode cL_law 853 = .ok (.aload_n 2, 1)) rfl) ?_
  refine mm_fc (ss_aload_n hx hb (by decide +kernel : decode cL_law 854 = .ok (.aload_n 0, 1)) rfl) ?_
  refine mm_fc (ss_iload_n hx hb (by decide +kernel : decode cL_law 855 = .ok (.iload_n 3, 1)) rfl) ?_
  refine mm_fc (ss_iconst hx hb (by decide +kernel : decode cL_law 856 = .ok (.iconst 1, 1)) (by decide)) ?_
  refine mm_fc (ss_iadd hx hb (by decide +kernel : decode cL_law 857 = .ok (.iadd, 1))) ?_
  refine mm_fc (ss_sld X hX hbl hbA hσ (by decide +kernel : decode cL_law 858 = .ok (.iaload, 1))) ?_
  refine mm_fc (ss_aload_n hx hb (by decide +kernel : decode cL_law 859 = .ok (.aload_n 0, 1)) rfl) ?_
  refine mm_fc (ss_iload_n hx hb (by decide +kernel : decode cL_law 860 = .ok (.iload_n 3, 1)) rfl) ?_
  refine mm_fc (ss_iconst hx hb (by decide +kernel : decode cL_law 861 = .ok (.iconst 2, 1)) (by decide)) ?_
  refine mm_fc (ss_iadd hx hb (by decide +kernel : decode cL_law 862 = .ok (.iadd, 1))) ?_
  refine mm_fc (ss_sld X hX hbl hbA hσ (by decide +kernel : decode cL_law 863 = .ok (.iaload, 1))) ?_
  refine mm_fc (ss_aload_n hx hb (by decide +kernel : decode cL_law 864 = .ok (.aload_n 0, 1)) rfl) ?_
  refine mm_fc (ss_iload_n hx hb (by decide +kernel : decode cL_law 865 = .ok (.iload_n 3, 1)) rfl) ?_
  refine mm_fc (ss_iconst hx hb (by decide +kernel : decode cL_law 866 = .ok (.iconst 3, 1)) (by decide)) ?_
  refine mm_fc (ss_iadd hx hb (by decide +kernel : decode cL_law 867 = .ok (.iadd, 1))) ?_
  refine mm_fc (ss_sld X hX hbl hbA hσ (by decide +kernel : decode cL_law 868 = .ok (.iaload, 1))) ?_
  refine mm_fc (ss_callV X rfl rfl wd_9_106 wd_1_13 wd_9_103 wd_9_104 wd_9_105 (by decide +kernel) (by decide +kernel) (by decide) (by decide +kernel : decode cL_law 869 = .ok (.invokevirtual 111, 3))) ?_
  refine mm_fc (ss_icmpeq hx hb (by decide +kernel : decode cL_law 872 = .ok (.if_icmp .eq 262, 3)) (by decide)) ?_
  refine mm_fc (ss_iconst hx hb (by decide +kernel : decode cL_law 875 = .ok (.iconst 0, 1)) (by decide)) ?_
  refine mm_fc (ss_zret (by decide +kernel : decode cL_law 876 = .ok (.ireturn, 1)) rfl) ?_
  refine mm_fc (ss_aload_n hx hb (by decide +kernel : decode cL_law 877 = .ok (.aload_n 1, 1)) rfl) ?_
  refine mm_fc (ss_aload_n hx hb (by decide +kernel : decode cL_law 878 = .ok (.aload_n 0, 1)) rfl) ?_
  refine mm_fc (ss_iload_n hx hb (by decide +kernel : decode cL_law 879 = .ok (.iload_n 3, 1)) rfl) ?_
  refine mm_fc (ss_iconst hx hb (by decide +kernel : decode cL_law 880 = .ok (.iconst 1, 1)) (by decide)) ?_
  refine mm_fc (ss_iadd hx hb (by decide +kernel : decode cL_law 881 = .ok (.iadd, 1))) ?_
  refine mm_fc (ss_sld X hX hbl hbA hσ (by decide +kernel : decode cL_law 882 = .ok (.iaload, 1))) ?_
  refine mm_fc (ss_aload_n hx hb (by decide +kernel : decode cL_law 883 = .ok (.aload_n 0, 1)) rfl) ?_
  refine mm_fc (ss_iload_n hx hb (by decide +kernel : decode cL_law 884 = .ok (.iload_n 3, 1)) rfl) ?_
  refine mm_fc (ss_iconst hx hb (by decide +kernel : decode cL_law 885 = .ok (.iconst 2, 1)) (by decide)) ?_
  refine mm_fc (ss_iadd hx hb (by decide +kernel : decode cL_law 886 = .ok (.iadd, 1))) ?_
  refine mm_fc (ss_sld X hX hbl hbA hσ (by decide +kernel : decode cL_law 887 = .ok (.iaload, 1))) ?_
  refine mm_fc (ss_callV X rfl rfl wd_5_136 wd_1_1 wd_5_133 wd_5_134 wd_5_135 (by decide +kernel) (by decide +kernel) (by decide) (by decide +kernel : decode cL_law 888 = .ok (.invokevirtual 112, 3))) ?_
  refine mm_fc (ss_aload_n hx hb (by decide +kernel : decode cL_law 891 = .ok (.aload_n 2, 1)) rfl) ?_
  refine mm_fc (ss_aload_n hx hb (by decide +kernel : decode cL_law 892 = .ok (.aload_n 0, 1)) rfl) ?_
  refine mm_fc (ss_iload_n hx hb (by decide +kernel : decode cL_law 893 = .ok (.iload_n 3, 1)) rfl) ?_
  refine mm_fc (ss_iconst hx hb (by decide +kernel : decode cL_law 894 = .ok (.iconst 1, 1)) (by decide)) ?_
  refine mm_fc (ss_iadd hx hb (by decide +kernel : decode cL_law 895 = .ok (.iadd, 1))) ?_
  refine mm_fc (ss_sld X hX hbl hbA hσ (by decide +kernel : decode cL_law 896 = .ok (.iaload, 1))) ?_
  refine mm_fc (ss_aload_n hx hb (by decide +kernel : decode cL_law 897 = .ok (.aload_n 0, 1)) rfl) ?_
  refine mm_fc (ss_iload_n hx hb (by decide +kernel : decode cL_law 898 = .ok (.iload_n 3, 1)) rfl) ?_
  refine mm_fc (ss_iconst hx hb (by decide +kernel : decode cL_law 899 = .ok (.iconst 2, 1)) (by decide)) ?_
  refine mm_fc (ss_iadd hx hb (by decide +kernel : decode cL_law 900 = .ok (.iadd, 1))) ?_
  refine mm_fc (ss_sld X hX hbl hbA hσ (by decide +kernel : decode cL_law 901 = .ok (.iaload, 1))) ?_
  refine mm_fc (ss_callV X rfl rfl wd_9_118 wd_1_13 wd_9_115 wd_9_116 wd_9_117 (by decide +kernel) (by decide +kernel) (by decide) (by decide +kernel : decode cL_law 902 = .ok (.invokevirtual 116, 3))) ?_
  refine mm_fc (ss_icmpeq hx hb (by decide +kernel : decode cL_law 905 = .ok (.if_icmp .eq 229, 3)) (by decide)) ?_
  refine mm_fc (ss_iconst hx hb (by decide +kernel : decode cL_law 908 = .ok (.iconst 0, 1)) (by decide)) ?_
  refine mm_fc (ss_zret (by decide +kernel : decode cL_law 909 = .ok (.ireturn, 1)) rfl) ?_
  refine mm_fc (ss_aload_n hx hb (by decide +kernel : decode cL_law 910 = .ok (.aload_n 1, 1)) rfl) ?_
  refine mm_fc (ss_aload_n hx hb (by decide +kernel : decode cL_law 911 = .ok (.aload_n 0, 1)) rfl) ?_
  refine mm_fc (ss_iload_n hx hb (by decide +kernel : decode cL_law 912 = .ok (.iload_n 3, 1)) rfl) ?_
  refine mm_fc (ss_iconst hx hb (by decide +kernel : decode cL_law 913 = .ok (.iconst 1, 1)) (by decide)) ?_
  refine mm_fc (ss_iadd hx hb (by decide +kernel : decode cL_law 914 = .ok (.iadd, 1))) ?_
  refine mm_fc (ss_sld X hX hbl hbA hσ (by decide +kernel : decode cL_law 915 = .ok (.iaload, 1))) ?_
  refine mm_fc (ss_callV X rfl rfl wd_5_149 wd_1_1 wd_5_146 wd_5_147 wd_5_148 (by decide +kernel) (by decide +kernel) (by decide) (by decide +kernel : decode cL_law 916 = .ok (.invokevirtual 117, 3))) ?_
  refine mm_fc (ss_aload_n hx hb (by decide +kernel : decode cL_law 919 = .ok (.aload_n 2, 1)) rfl) ?_
  refine mm_fc (ss_aload_n hx hb (by decide +kernel : decode cL_law 920 = .ok (.aload_n 0, 1)) rfl) ?_
  refine mm_fc (ss_iload_n hx hb (by decide +kernel : decode cL_law 921 = .ok (.iload_n 3, 1)) rfl) ?_
  exact mm_fn
def cd_L_law_6 (L : Nat) (xs : Nat → Int32) : mm_K mm_H := [(922, s_pushI 1 923), (923, s_bin (fun x y => x + y) 924), (924, s_sld L xs 925), (925, s_callV 12 279 1 1 928), (928, s_icmp (fun x y => x = y) 1134 931), (931, s_pushI 0 932), (932, s_zret), (933, s_aload 1 934), (934, s_aload 0 935), (935, s_iload 3 936), (936, s_pushI 1 937), (937, s_bin (fun x y => x + y) 938), (938, s_sld L xs 939), (939, s_aload 0 940), (940, s_iload 3 941), (941, s_pushI 2 942), (942, s_bin (fun x y => x + y) 943), (943, s_sld L xs 944), (944, s_callV 11 173 2 1 947), (947, s_aload 2 948), (948, s_aload 0 949), (949, s_iload 3 950), (950, s_pushI 1 951), (951, s_bin (fun x y => x + y) 952), (952, s_sld L xs 953), (953, s_aload 0 954), (954, s_iload 3 955), (955, s_pushI 2 956), (956, s_bin (fun x y => x + y) 957), (957, s_sld L xs 958), (958, s_callV 12 280 2 1 961), (961, s_icmp (fun x y => x = y) 1134 964), (964, s_pushI 0 965), (965, s_zret), (966, s_aload 1 967), (967, s_aload 0 968), (968, s_iload 3 969), (969, s_pushI 1 970), (970, s_bin (fun x y => x + y) 971), (971, s_sld L xs 972), (972, s_callV 11 174 1 1 975), (975, s_aload 2 976), (976, s_aload 0 977), (977, s_iload 3 978), (978, s_pushI 1 979), (979, s_bin (fun x y => x + y) 980), (980, s_sld L xs 981), (981, s_callV 12 281 1 1 984), (984, s_icmp (fun x y => x = y) 1134 987), (987, s_pushI 0 988), (988, s_zret), (989, s_aload 1 990), (990, s_aload 0 991), (991, s_iload 3 992), (992, s_pushI 1 993), (993, s_bin (fun x y => x + y) 994), (994, s_sld L xs 995), (995, s_callV 11 175 1 1 998), (998, s_aload 2 999), (999, s_aload 0 1000), (1000, s_iload 3 1001), (1001, s_pushI 1 1002), (1002, s_bin (fun x y => x + y) 1003), (1003, s_sld L xs 1004), (1004, s_callV 12 284 1 1 1007), (1007, s_icmp (fun x y => x = y) 1134 1010), (1010, s_pushI 0 1011), (1011, s_zret), (1012, s_aload 1 1013), (1013, s_callV 11 176 0 1 1016), (1016, s_aload 2 1017), (1017, s_callV 12 276 0 1 1020), (1020, s_icmp (fun x y => x = y) 1134 1023), (1023, s_pushI 0 1024), (1024, s_zret), (1025, s_aload 1 1026), (1026, s_aload 0 1027), (1027, s_iload 3 1028), (1028, s_pushI 1 1029), (1029, s_bin (fun x y => x + y) 1030), (1030, s_sld L xs 1031), (1031, s_callV 11 177 1 1 1034), (1034, s_aload 2 1035), (1035, s_aload 0 1036), (1036, s_iload 3 1037), (1037, s_pushI 1 1038), (1038, s_bin (fun x y => x + y) 1039), (1039, s_sld L xs 1040), (1040, s_callV 12 282 1 1 1043), (1043, s_icmp (fun x y => x = y) 1134 1046), (1046, s_pushI 0 1047), (1047, s_zret), (1048, s_aload 1 1049), (1049, s_callV 11 178 0 2 1052), (1052, s_aload 2 1053), (1053, s_callV 12 313 0 2 1056), (1056, s_lcmp 1057), (1057, s_if (fun x => x = 0) 1134 1060), (1060, s_pushI 0 1061), (1061, s_zret)]
set_option maxRecDepth 100000 in
set_option maxHeartbeats 4000000 in
theorem ok_L_law_6 {p : Program} {l : Launch} {e : Env} {R : Room} {s : State} {m : MethodId} {args : Array Value} {below : List Frame} {meth : Method} {c : Code} {Q : State → Prop} {σ : Nat → Nat} {cA : Nat → ClassId} {D : va_G} {A : Nat → Prop} {kc ks d : Nat} {C : mm_C mm_H} {b L : Nat} {xs : Nat → Int32} (X : mm_Cx p l R s m args c cL_law 4 RL σ cA D A kc ks mm_I0 d C) (hX : va_X b L xs s s.heap) (hbl : b < s.heap.size) (hbA : ¬ A b) (hσ : σ mm_SCR = b) : ∀ q ∈ cd_L_law_6 L xs, mm_Sim p l e R s m args below meth c ret cL_law 4 Q σ (mm_Rz σ cA D A s.heap kc ks) C q := by
  have hx := X.1
  have hb := X.2.1
  have hown := X.2.2.2.1
  have hts := X.2.2.2.2.1
  refine mm_fc (ss_iconst hx hb (by decide +kernel : decode cL_law 922 = .ok (.iconst 1, 1)) (by decide)) ?_
  refine mm_fc (ss_iadd hx hb (by decide +kernel : decode cL_law 923 = .ok (.iadd, 1))) ?_
  refine mm_fc (ss_sld X hX hbl hbA hσ (by decide +kernel : decode cL_law 924 = .ok (.iaload, 1))) ?_
  refine mm_fc (ss_callV X rfl rfl wd_9_130 wd_1_13 wd_9_127 wd_9_128 wd_9_129 (by decide +kernel) (by decide +kernel) (by decide) (by decide +kernel : decode cL_law 925 = .ok (.invokevirtual 120, 3))) ?_
  refine mm_fc (ss_icmpeq hx hb (by decide +kernel : decode cL_law 928 = .ok (.if_icmp .eq 206, 3)) (by decide)) ?_
  refine mm_fc (ss_iconst hx hb (by decide +kernel : decode cL_law 931 = .ok (.iconst 0, 1)) (by decide)) ?_
  refine mm_fc (ss_zret (by decide +kernel : decode cL_law 932 = .ok (.ireturn, 1)) rfl) ?_
  refine mm_fc (ss_aload_n hx hb (by decide +kernel : decode cL_law 933 = .ok (.aload_n 1, 1)) rfl) ?_
  refine mm_fc (ss_aload_n hx hb (by decide +kernel : decode cL_law 934 = .ok (.aload_n 0, 1)) rfl) ?_
  refine mm_fc (ss_iload_n hx hb (by decide +kernel : decode cL_law 935 = .ok (.iload_n 3, 1)) rfl) ?_
  refine mm_fc (ss_iconst hx hb (by decide +kernel : decode cL_law 936 = .ok (.iconst 1, 1)) (by decide)) ?_
  refine mm_fc (ss_iadd hx hb (by decide +kernel : decode cL_law 937 = .ok (.iadd, 1))) ?_
  refine mm_fc (ss_sld X hX hbl hbA hσ (by decide +kernel : decode cL_law 938 = .ok (.iaload, 1))) ?_
  refine mm_fc (ss_aload_n hx hb (by decide +kernel : decode cL_law 939 = .ok (.aload_n 0, 1)) rfl) ?_
  refine mm_fc (ss_iload_n hx hb (by decide +kernel : decode cL_law 940 = .ok (.iload_n 3, 1)) rfl) ?_
  refine mm_fc (ss_iconst hx hb (by decide +kernel : decode cL_law 941 = .ok (.iconst 2, 1)) (by decide)) ?_
  refine mm_fc (ss_iadd hx hb (by decide +kernel : decode cL_law 942 = .ok (.iadd, 1))) ?_
  refine mm_fc (ss_sld X hX hbl hbA hσ (by decide +kernel : decode cL_law 943 = .ok (.iaload, 1))) ?_
  refine mm_fc (ss_callV X rfl rfl wd_5_154 wd_1_1 wd_5_151 wd_5_152 wd_5_153 (by decide +kernel) (by decide +kernel) (by decide) (by decide +kernel : decode cL_law 944 = .ok (.invokevirtual 121, 3))) ?_
  refine mm_fc (ss_aload_n hx hb (by decide +kernel : decode cL_law 947 = .ok (.aload_n 2, 1)) rfl) ?_
  refine mm_fc (ss_aload_n hx hb (by decide +kernel : decode cL_law 948 = .ok (.aload_n 0, 1)) rfl) ?_
  refine mm_fc (ss_iload_n hx hb (by decide +kernel : decode cL_law 949 = .ok (.iload_n 3, 1)) rfl) ?_
  refine mm_fc (ss_iconst hx hb (by decide +kernel : decode cL_law 950 = .ok (.iconst 1, 1)) (by decide)) ?_
  refine mm_fc (ss_iadd hx hb (by decide +kernel : decode cL_law 951 = .ok (.iadd, 1))) ?_
  refine mm_fc (ss_sld X hX hbl hbA hσ (by decide +kernel : decode cL_law 952 = .ok (.iaload, 1))) ?_
  refine mm_fc (ss_aload_n hx hb (by decide +kernel : decode cL_law 953 = .ok (.aload_n 0, 1)) rfl) ?_
  refine mm_fc (ss_iload_n hx hb (by decide +kernel : decode cL_law 954 = .ok (.iload_n 3, 1)) rfl) ?_
  refine mm_fc (ss_iconst hx hb (by decide +kernel : decode cL_law 955 = .ok (.iconst 2, 1)) (by decide)) ?_
  refine mm_fc (ss_iadd hx hb (by decide +kernel : decode cL_law 956 = .ok (.iadd, 1))) ?_
  refine mm_fc (ss_sld X hX hbl hbA hσ (by decide +kernel : decode cL_law 957 = .ok (.iaload, 1))) ?_
  refine mm_fc (ss_callV X rfl rfl wd_9_134 wd_1_13 wd_9_131 wd_9_132 wd_9_133 (by decide +kernel) (by decide +kernel) (by decide) (by decide +kernel : decode cL_law 958 = .ok (.invokevirtual 124, 3))) ?_
  refine mm_fc (ss_icmpeq hx hb (by decide +kernel : decode cL_law 961 = .ok (.if_icmp .eq 173, 3)) (by decide)) ?_
  refine mm_fc (ss_iconst hx hb (by decide +kernel : decode cL_law 964 = .ok (.iconst 0, 1)) (by decide)) ?_
  refine mm_fc (ss_zret (by decide +kernel : decode cL_law 965 = .ok (.ireturn, 1)) rfl) ?_
  refine mm_fc (ss_aload_n hx hb (by decide +kernel : decode cL_law 966 = .ok (.aload_n 1, 1)) rfl) ?_
  refine mm_fc (ss_aload_n hx hb (by decide +kernel : decode cL_law 967 = .ok (.aload_n 0, 1)) rfl) ?_
  refine mm_fc (ss_iload_n hx hb (by decide +kernel : decode cL_law 968 = .ok (.iload_n 3, 1)) rfl) ?_
  refine mm_fc (ss_iconst hx hb (by decide +kernel : decode cL_law 969 = .ok (.iconst 1, 1)) (by decide)) ?_
  refine mm_fc (ss_iadd hx hb (by decide +kernel : decode cL_law 970 = .ok (.iadd, 1))) ?_
  refine mm_fc (ss_sld X hX hbl hbA hσ (by decide +kernel : decode cL_law 971 = .ok (.iaload, 1))) ?_
  refine mm_fc (ss_callV X rfl rfl wd_5_159 wd_1_1 wd_5_156 wd_5_157 wd_5_158 (by decide +kernel) (by decide +kernel) (by decide) (by decide +kernel : decode cL_law 972 = .ok (.invokevirtual 125, 3))) ?_
  refine mm_fc (ss_aload_n hx hb (by decide +kernel : decode cL_law 975 = .ok (.aload_n 2, 1)) rfl) ?_
  refine mm_fc (ss_aload_n hx hb (by decide +kernel : decode cL_law 976 = .ok (.aload_n 0, 1)) rfl) ?_
  refine mm_fc (ss_iload_n hx hb (by decide +kernel : decode cL_law 977 = .ok (.iload_n 3, 1)) rfl) ?_
  refine mm_fc (ss_iconst hx hb (by decide +kernel : decode cL_law 978 = .ok (.iconst 1, 1)) (by decide)) ?_
  refine mm_fc (ss_iadd hx hb (by decide +kernel : decode cL_law 979 = .ok (.iadd, 1))) ?_
  refine mm_fc (ss_sld X hX hbl hbA hσ (by decide +kernel : decode cL_law 980 = .ok (.iaload, 1))) ?_
  refine mm_fc (ss_callV X rfl rfl wd_9_138 wd_1_13 wd_9_135 wd_9_136 wd_9_137 (by decide +kernel) (by decide +kernel) (by decide) (by decide +kernel : decode cL_law 981 = .ok (.invokevirtual 128, 3))) ?_
  refine mm_fc (ss_icmpeq hx hb (by decide +kernel : decode cL_law 984 = .ok (.if_icmp .eq 150, 3)) (by decide)) ?_
  refine mm_fc (ss_iconst hx hb (by decide +kernel : decode cL_law 987 = .ok (.iconst 0, 1)) (by decide)) ?_
  refine mm_fc (ss_zret (by decide +kernel : decode cL_law 988 = .ok (.ireturn, 1)) rfl) ?_
  refine mm_fc (ss_aload_n hx hb (by decide +kernel : decode cL_law 989 = .ok (.aload_n 1, 1)) rfl) ?_
  refine mm_fc (ss_aload_n hx hb (by decide +kernel : decode cL_law 990 = .ok (.aload_n 0, 1)) rfl) ?_
  refine mm_fc (ss_iload_n hx hb (by decide +kernel : decode cL_law 991 = .ok (.iload_n 3, 1)) rfl) ?_
  refine mm_fc (ss_iconst hx hb (by decide +kernel : decode cL_law 992 = .ok (.iconst 1, 1)) (by decide)) ?_
  refine mm_fc (ss_iadd hx hb (by decide +kernel : decode cL_law 993 = .ok (.iadd, 1))) ?_
  refine mm_fc (ss_sld X hX hbl hbA hσ (by decide +kernel : decode cL_law 994 = .ok (.iaload, 1))) ?_
  refine mm_fc (ss_callV X rfl rfl wd_5_164 wd_1_1 wd_5_161 wd_5_162 wd_5_163 (by decide +kernel) (by decide +kernel) (by decide) (by decide +kernel : decode cL_law 995 = .ok (.invokevirtual 129, 3))) ?_
  refine mm_fc (ss_aload_n hx hb (by decide +kernel : decode cL_law 998 = .ok (.aload_n 2, 1)) rfl) ?_
  refine mm_fc (ss_aload_n hx hb (by decide +kernel : decode cL_law 999 = .ok (.aload_n 0, 1)) rfl) ?_
  refine mm_fc (ss_iload_n hx hb (by decide +kernel : decode cL_law 1000 = .ok (.iload_n 3, 1)) rfl) ?_
  refine mm_fc (ss_iconst hx hb (by decide +kernel : decode cL_law 1001 = .ok (.iconst 1, 1)) (by decide)) ?_
  refine mm_fc (ss_iadd hx hb (by decide +kernel : decode cL_law 1002 = .ok (.iadd, 1))) ?_
  refine mm_fc (ss_sld X hX hbl hbA hσ (by decide +kernel : decode cL_law 1003 = .ok (.iaload, 1))) ?_
  refine mm_fc (ss_callV X rfl rfl wd_9_146 wd_1_13 wd_9_143 wd_9_144 wd_9_145 (by decide +kernel) (by decide +kernel) (by decide) (by decide +kernel : decode cL_law 1004 = .ok (.invokevirtual 132, 3))) ?_
  refine mm_fc (ss_icmpeq hx hb (by decide +kernel : decode cL_law 1007 = .ok (.if_icmp .eq 127, 3)) (by decide)) ?_
  refine mm_fc (ss_iconst hx hb (by decide +kernel : decode cL_law 1010 = .ok (.iconst 0, 1)) (by decide)) ?_
  refine mm_fc (ss_zret (by decide +kernel : decode cL_law 1011 = .ok (.ireturn, 1)) rfl) ?_
  refine mm_fc (ss_aload_n hx hb (by decide +kernel : decode cL_law 1012 = .ok (.aload_n 1, 1)) rfl) ?_
  refine mm_fc (ss_callV X rfl rfl wd_5_178 wd_1_1 wd_5_175 wd_5_176 wd_5_177 (by decide +kernel) (by decide +kernel) (by decide) (by decide +kernel : decode cL_law 1013 = .ok (.invokevirtual 133, 3))) ?_
  refine mm_fc (ss_aload_n hx hb (by decide +kernel : decode cL_law 1016 = .ok (.aload_n 2, 1)) rfl) ?_
  refine mm_fc (ss_callV X rfl rfl wd_9_114 wd_1_13 wd_9_111 wd_9_112 wd_9_113 (by decide +kernel) (by decide +kernel) (by decide) (by decide +kernel : decode cL_law 1017 = .ok (.invokevirtual 137, 3))) ?_
  refine mm_fc (ss_icmpeq hx hb (by decide +kernel : decode cL_law 1020 = .ok (.if_icmp .eq 114, 3)) (by decide)) ?_
  refine mm_fc (ss_iconst hx hb (by decide +kernel : decode cL_law 1023 = .ok (.iconst 0, 1)) (by decide)) ?_
  refine mm_fc (ss_zret (by decide +kernel : decode cL_law 1024 = .ok (.ireturn, 1)) rfl) ?_
  refine mm_fc (ss_aload_n hx hb (by decide +kernel : decode cL_law 1025 = .ok (.aload_n 1, 1)) rfl) ?_
  refine mm_fc (ss_aload_n hx hb (by decide +kernel : decode cL_law 1026 = .ok (.aload_n 0, 1)) rfl) ?_
  refine mm_fc (ss_iload_n hx hb (by decide +kernel : decode cL_law 1027 = .ok (.iload_n 3, 1)) rfl) ?_
  refine mm_fc (ss_iconst hx hb (by decide +kernel : decode cL_law 1028 = .ok (.iconst 1, 1)) (by decide)) ?_
  refine mm_fc (ss_iadd hx hb (by decide +kernel : decode cL_law 1029 = .ok (.iadd, 1))) ?_
  refine mm_fc (ss_sld X hX hbl hbA hσ (by decide +kernel : decode cL_law 1030 = .ok (.iaload, 1))) ?_
  refine mm_fc (ss_callV X rfl rfl wd_5_186 wd_1_1 wd_5_183 wd_5_184 wd_5_185 (by decide +kernel) (by decide +kernel) (by decide) (by decide +kernel : decode cL_law 1031 = .ok (.invokevirtual 138, 3))) ?_
  refine mm_fc (ss_aload_n hx hb (by decide +kernel : decode cL_law 1034 = .ok (.aload_n 2, 1)) rfl) ?_
  refine mm_fc (ss_aload_n hx hb (by decide +kernel : decode cL_law 1035 = .ok (.aload_n 0, 1)) rfl) ?_
  refine mm_fc (ss_iload_n hx hb (by decide +kernel : decode cL_law 1036 = .ok (.iload_n 3, 1)) rfl) ?_
  refine mm_fc (ss_iconst hx hb (by decide +kernel : decode cL_law 1037 = .ok (.iconst 1, 1)) (by decide)) ?_
  refine mm_fc (ss_iadd hx hb (by decide +kernel : decode cL_law 1038 = .ok (.iadd, 1))) ?_
  refine mm_fc (ss_sld X hX hbl hbA hσ (by decide +kernel : decode cL_law 1039 = .ok (.iaload, 1))) ?_
  refine mm_fc (ss_callV X rfl rfl wd_9_142 wd_1_13 wd_9_139 wd_9_140 wd_9_141 (by decide +kernel) (by decide +kernel) (by decide) (by decide +kernel : decode cL_law 1040 = .ok (.invokevirtual 141, 3))) ?_
  refine mm_fc (ss_icmpeq hx hb (by decide +kernel : decode cL_law 1043 = .ok (.if_icmp .eq 91, 3)) (by decide)) ?_
  refine mm_fc (ss_iconst hx hb (by decide +kernel : decode cL_law 1046 = .ok (.iconst 0, 1)) (by decide)) ?_
  refine mm_fc (ss_zret (by decide +kernel : decode cL_law 1047 = .ok (.ireturn, 1)) rfl) ?_
  refine mm_fc (ss_aload_n hx hb (by decide +kernel : decode cL_law 1048 = .ok (.aload_n 1, 1)) rfl) ?_
  refine mm_fc (ss_callV X rfl rfl wd_5_190 wd_1_1 wd_5_187 wd_5_188 wd_5_189 (by decide +kernel) (by decide +kernel) (by decide) (by decide +kernel : decode cL_law 1049 = .ok (.invokevirtual 142, 3))) ?_
  refine mm_fc (ss_aload_n hx hb (by decide +kernel : decode cL_law 1052 = .ok (.aload_n 2, 1)) rfl) ?_
  refine mm_fc (ss_callV X rfl rfl wd_9_158 wd_1_13 wd_9_155 wd_9_156 wd_9_157 (by decide +kernel) (by decide +kernel) (by decide) (by decide +kernel : decode cL_law 1053 = .ok (.invokevirtual 146, 3))) ?_
  refine mm_fc (ss_lcmp hx hb (by decide +kernel : decode cL_law 1056 = .ok (.lcmp, 1))) ?_
  refine mm_fc (ss_ifeq hx hb (by decide +kernel : decode cL_law 1057 = .ok (.ifCond .eq 77, 3)) (by decide)) ?_
  refine mm_fc (ss_iconst hx hb (by decide +kernel : decode cL_law 1060 = .ok (.iconst 0, 1)) (by decide)) ?_
  refine mm_fc (ss_zret (by decide +kernel : decode cL_law 1061 = .ok (.ireturn, 1)) rfl) ?_
  exact mm_fn
def cd_L_law_7 (L : Nat) (xs : Nat → Int32) : mm_K mm_H := [(1062, s_aload 1 1063), (1063, s_callV 11 179 0 1 1066), (1066, s_aload 2 1067), (1067, s_callV 12 316 0 1 1070), (1070, s_icmp (fun x y => x = y) 1134 1073), (1073, s_pushI 0 1074), (1074, s_zret), (1075, s_aload 1 1076), (1076, s_aload 0 1077), (1077, s_iload 3 1078), (1078, s_pushI 1 1079), (1079, s_bin (fun x y => x + y) 1080), (1080, s_sld L xs 1081), (1081, s_callV 11 180 1 1 1084), (1084, s_aload 2 1085), (1085, s_aload 0 1086), (1086, s_iload 3 1087), (1087, s_pushI 1 1088), (1088, s_bin (fun x y => x + y) 1089), (1089, s_sld L xs 1090), (1090, s_callV 12 317 1 1 1093), (1093, s_icmp (fun x y => x = y) 1134 1096), (1096, s_pushI 0 1097), (1097, s_zret), (1098, s_aload 1 1099), (1099, s_callV 11 181 0 1 1102), (1102, s_aload 2 1103), (1103, s_callV 12 320 0 1 1106), (1106, s_icmp (fun x y => x = y) 1134 1109), (1109, s_pushI 0 1110), (1110, s_zret), (1111, s_aload 1 1112), (1112, s_aload 0 1113), (1113, s_iload 3 1114), (1114, s_pushI 1 1115), (1115, s_bin (fun x y => x + y) 1116), (1116, s_sld L xs 1117), (1117, s_callV 11 182 1 1 1120), (1120, s_aload 2 1121), (1121, s_aload 0 1122), (1122, s_iload 3 1123), (1123, s_pushI 1 1124), (1124, s_bin (fun x y => x + y) 1125), (1125, s_sld L xs 1126), (1126, s_callV 12 321 1 1 1129), (1129, s_icmp (fun x y => x = y) 1134 1132), (1132, s_pushI 0 1133), (1133, s_zret), (1134, s_iinc 3 6 1137), (1137, s_goto 18), (1140, s_pushI 1 1141), (1141, s_zret)]
set_option maxRecDepth 100000 in
set_option maxHeartbeats 4000000 in
theorem ok_L_law_7 {p : Program} {l : Launch} {e : Env} {R : Room} {s : State} {m : MethodId} {args : Array Value} {below : List Frame} {meth : Method} {c : Code} {Q : State → Prop} {σ : Nat → Nat} {cA : Nat → ClassId} {D : va_G} {A : Nat → Prop} {kc ks d : Nat} {C : mm_C mm_H} {b L : Nat} {xs : Nat → Int32} (X : mm_Cx p l R s m args c cL_law 4 RL σ cA D A kc ks mm_I0 d C) (hX : va_X b L xs s s.heap) (hbl : b < s.heap.size) (hbA : ¬ A b) (hσ : σ mm_SCR = b) : ∀ q ∈ cd_L_law_7 L xs, mm_Sim p l e R s m args below meth c ret cL_law 4 Q σ (mm_Rz σ cA D A s.heap kc ks) C q := by
  have hx := X.1
  have hb := X.2.1
  have hown := X.2.2.2.1
  have hts := X.2.2.2.2.1
  refine mm_fc (ss_aload_n hx hb (by decide +kernel : decode cL_law 1062 = .ok (.aload_n 1, 1)) rfl) ?_
  refine mm_fc (ss_callV X rfl rfl wd_5_231 wd_1_1 wd_5_228 wd_5_229 wd_5_230 (by decide +kernel) (by decide +kernel) (by decide) (by decide +kernel : decode cL_law 1063 = .ok (.invokevirtual 147, 3))) ?_
  refine mm_fc (ss_aload_n hx hb (by decide +kernel : decode cL_law 1066 = .ok (.aload_n 2, 1)) rfl) ?_
  refine mm_fc (ss_callV X rfl rfl wd_9_180 wd_1_13 wd_9_177 wd_9_178 wd_9_179 (by decide +kernel) (by decide +kernel) (by decide) (by decide +kernel : decode cL_law 1067 = .ok (.invokevirtual 150, 3))) ?_
  refine mm_fc (ss_icmpeq hx hb (by decide +kernel : decode cL_law 1070 = .ok (.if_icmp .eq 64, 3)) (by decide)) ?_
  refine mm_fc (ss_iconst hx hb (by decide +kernel : decode cL_law 1073 = .ok (.iconst 0, 1)) (by decide)) ?_
  refine mm_fc (ss_zret (by decide +kernel : decode cL_law 1074 = .ok (.ireturn, 1)) rfl) ?_
  refine mm_fc (ss_aload_n hx hb (by decide +kernel : decode cL_law 1075 = .ok (.aload_n 1, 1)) rfl) ?_
  refine mm_fc (ss_aload_n hx hb (by decide +kernel : decode cL_law 1076 = .ok (.aload_n 0, 1)) rfl) ?_
  refine mm_fc (ss_iload_n hx hb (by decide +kernel : decode cL_law 1077 = .ok (.iload_n 3, 1)) rfl) ?_
  refine mm_fc (ss_iconst hx hb (by decide +kernel : decode cL_law 1078 = .ok (.iconst 1, 1)) (by decide)) ?_
  refine mm_fc (ss_iadd hx hb (by decide +kernel : decode cL_law 1079 = .ok (.iadd, 1))) ?_
  refine mm_fc (ss_sld X hX hbl hbA hσ (by decide +kernel : decode cL_law 1080 = .ok (.iaload, 1))) ?_
  refine mm_fc (ss_callV X rfl rfl wd_6_7 wd_1_1 wd_6_4 wd_6_5 wd_6_6 (by decide +kernel) (by decide +kernel) (by decide) (by decide +kernel : decode cL_law 1081 = .ok (.invokevirtual 151, 3))) ?_
  refine mm_fc (ss_aload_n hx hb (by decide +kernel : decode cL_law 1084 = .ok (.aload_n 2, 1)) rfl) ?_
  refine mm_fc (ss_aload_n hx hb (by decide +kernel : decode cL_law 1085 = .ok (.aload_n 0, 1)) rfl) ?_
  refine mm_fc (ss_iload_n hx hb (by decide +kernel : decode cL_law 1086 = .ok (.iload_n 3, 1)) rfl) ?_
  refine mm_fc (ss_iconst hx hb (by decide +kernel : decode cL_law 1087 = .ok (.iconst 1, 1)) (by decide)) ?_
  refine mm_fc (ss_iadd hx hb (by decide +kernel : decode cL_law 1088 = .ok (.iadd, 1))) ?_
  refine mm_fc (ss_sld X hX hbl hbA hσ (by decide +kernel : decode cL_law 1089 = .ok (.iaload, 1))) ?_
  refine mm_fc (ss_callV X rfl rfl wd_9_191 wd_1_13 wd_9_188 wd_9_189 wd_9_190 (by decide +kernel) (by decide +kernel) (by decide) (by decide +kernel : decode cL_law 1090 = .ok (.invokevirtual 154, 3))) ?_
  refine mm_fc (ss_icmpeq hx hb (by decide +kernel : decode cL_law 1093 = .ok (.if_icmp .eq 41, 3)) (by decide)) ?_
  refine mm_fc (ss_iconst hx hb (by decide +kernel : decode cL_law 1096 = .ok (.iconst 0, 1)) (by decide)) ?_
  refine mm_fc (ss_zret (by decide +kernel : decode cL_law 1097 = .ok (.ireturn, 1)) rfl) ?_
  refine mm_fc (ss_aload_n hx hb (by decide +kernel : decode cL_law 1098 = .ok (.aload_n 1, 1)) rfl) ?_
  refine mm_fc (ss_callV X rfl rfl wd_6_15 wd_1_1 wd_6_12 wd_6_13 wd_6_14 (by decide +kernel) (by decide +kernel) (by decide) (by decide +kernel : decode cL_law 1099 = .ok (.invokevirtual 155, 3))) ?_
  refine mm_fc (ss_aload_n hx hb (by decide +kernel : decode cL_law 1102 = .ok (.aload_n 2, 1)) rfl) ?_
  refine mm_fc (ss_callV X rfl rfl wd_9_195 wd_1_13 wd_9_192 wd_9_193 wd_9_194 (by decide +kernel) (by decide +kernel) (by decide) (by decide +kernel : decode cL_law 1103 = .ok (.invokevirtual 158, 3))) ?_
  refine mm_fc (ss_icmpeq hx hb (by decide +kernel : decode cL_law 1106 = .ok (.if_icmp .eq 28, 3)) (by decide)) ?_
  refine mm_fc (ss_iconst hx hb (by decide +kernel : decode cL_law 1109 = .ok (.iconst 0, 1)) (by decide)) ?_
  refine mm_fc (ss_zret (by decide +kernel : decode cL_law 1110 = .ok (.ireturn, 1)) rfl) ?_
  refine mm_fc (ss_aload_n hx hb (by decide +kernel : decode cL_law 1111 = .ok (.aload_n 1, 1)) rfl) ?_
  refine mm_fc (ss_aload_n hx hb (by decide +kernel : decode cL_law 1112 = .ok (.aload_n 0, 1)) rfl) ?_
  refine mm_fc (ss_iload_n hx hb (by decide +kernel : decode cL_law 1113 = .ok (.iload_n 3, 1)) rfl) ?_
  refine mm_fc (ss_iconst hx hb (by decide +kernel : decode cL_law 1114 = .ok (.iconst 1, 1)) (by decide)) ?_
  refine mm_fc (ss_iadd hx hb (by decide +kernel : decode cL_law 1115 = .ok (.iadd, 1))) ?_
  refine mm_fc (ss_sld X hX hbl hbA hσ (by decide +kernel : decode cL_law 1116 = .ok (.iaload, 1))) ?_
  refine mm_fc (ss_callV X rfl rfl wd_6_39 wd_1_1 wd_6_36 wd_6_37 wd_6_38 (by decide +kernel) (by decide +kernel) (by decide) (by decide +kernel : decode cL_law 1117 = .ok (.invokevirtual 159, 3))) ?_
  refine mm_fc (ss_aload_n hx hb (by decide +kernel : decode cL_law 1120 = .ok (.aload_n 2, 1)) rfl) ?_
  refine mm_fc (ss_aload_n hx hb (by decide +kernel : decode cL_law 1121 = .ok (.aload_n 0, 1)) rfl) ?_
  refine mm_fc (ss_iload_n hx hb (by decide +kernel : decode cL_law 1122 = .ok (.iload_n 3, 1)) rfl) ?_
  refine mm_fc (ss_iconst hx hb (by decide +kernel : decode cL_law 1123 = .ok (.iconst 1, 1)) (by decide)) ?_
  refine mm_fc (ss_iadd hx hb (by decide +kernel : decode cL_law 1124 = .ok (.iadd, 1))) ?_
  refine mm_fc (ss_sld X hX hbl hbA hσ (by decide +kernel : decode cL_law 1125 = .ok (.iaload, 1))) ?_
  refine mm_fc (ss_callV X rfl rfl wd_9_207 wd_1_13 wd_9_204 wd_9_205 wd_9_206 (by decide +kernel) (by decide +kernel) (by decide) (by decide +kernel : decode cL_law 1126 = .ok (.invokevirtual 162, 3))) ?_
  refine mm_fc (ss_icmpeq hx hb (by decide +kernel : decode cL_law 1129 = .ok (.if_icmp .eq 5, 3)) (by decide)) ?_
  refine mm_fc (ss_iconst hx hb (by decide +kernel : decode cL_law 1132 = .ok (.iconst 0, 1)) (by decide)) ?_
  refine mm_fc (ss_zret (by decide +kernel : decode cL_law 1133 = .ok (.ireturn, 1)) rfl) ?_
  refine mm_fc (ss_iinc hx hb (by decide +kernel : decode cL_law 1134 = .ok (.iinc 3 6, 3)) (by decide) (by decide)) ?_
  refine mm_fc (ss_goto hx hb (by decide +kernel : decode cL_law 1137 = .ok (.goto (-1119), 3)) (by decide)) ?_
  refine mm_fc (ss_iconst hx hb (by decide +kernel : decode cL_law 1140 = .ok (.iconst 1, 1)) (by decide)) ?_
  refine mm_fc (ss_zret (by decide +kernel : decode cL_law 1141 = .ok (.ireturn, 1)) rfl) ?_
  exact mm_fn
def cd_L_law (L : Nat) (xs : Nat → Int32) : mm_K mm_H := cd_L_law_0 L xs ++ (cd_L_law_1 L xs ++ (cd_L_law_2 L xs ++ (cd_L_law_3 L xs ++ (cd_L_law_4 L xs ++ (cd_L_law_5 L xs ++ (cd_L_law_6 L xs ++ (cd_L_law_7 L xs)))))))
theorem ok_L_law {p : Program} {l : Launch} {e : Env} {R : Room} {s : State} {m : MethodId} {args : Array Value} {below : List Frame} {meth : Method} {c : Code} {Q : State → Prop} {σ : Nat → Nat} {cA : Nat → ClassId} {D : va_G} {A : Nat → Prop} {kc ks d : Nat} {C : mm_C mm_H} {b L : Nat} {xs : Nat → Int32} (X : mm_Cx p l R s m args c cL_law 4 RL σ cA D A kc ks mm_I0 d C) (hX : va_X b L xs s s.heap) (hbl : b < s.heap.size) (hbA : ¬ A b) (hσ : σ mm_SCR = b) : ∀ q ∈ cd_L_law L xs, mm_Sim p l e R s m args below meth c ret cL_law 4 Q σ (mm_Rz σ cA D A s.heap kc ks) C q := mm_fa (ok_L_law_0 X hX hbl hbA hσ) (mm_fa (ok_L_law_1 X hX hbl hbA hσ) (mm_fa (ok_L_law_2 X hX hbl hbA hσ) (mm_fa (ok_L_law_3 X hX hbl hbA hσ) (mm_fa (ok_L_law_4 X hX hbl hbA hσ) (mm_fa (ok_L_law_5 X hX hbl hbA hσ) (mm_fa (ok_L_law_6 X hX hbl hbA hσ) (ok_L_law_7 X hX hbl hbA hσ)))))))
