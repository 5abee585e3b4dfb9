theorem wm2010 : (Jvm.Cond.code ({ cls := "FirstComerModel", name := "isGot", desc := "(IIII)Z" } : Jvm.MethodName) prog_14_method_72_code (7 : Nat) (Option.some Jvm.ClassFile.FieldType.boolean)) ∈ jm_tbl := jm_in (tb9 (List.mem_of_getElem? (i := 3) rfl)) rfl
theorem wm2014 : (Jvm.Cond.code ({ cls := "FirstComerModel", name := "honest", desc := "(IIIIII)Z" } : Jvm.MethodName) prog_14_method_75_code (7 : Nat) (Option.some Jvm.ClassFile.FieldType.boolean)) ∈ jm_tbl := jm_in (tb9 (List.mem_of_getElem? (i := 7) rfl)) rfl
theorem wm2018 : (Jvm.Cond.code ({ cls := "FirstComerModel", name := "mended", desc := "(IIIII)I" } : Jvm.MethodName) prog_14_method_78_code (9 : Nat) (Option.some Jvm.ClassFile.FieldType.int)) ∈ jm_tbl := jm_in (tb9 (List.mem_of_getElem? (i := 11) rfl)) rfl
theorem wm2021 : (Jvm.Cond.instanceMethod ({ cls := "FirstComerModel", name := "maybes", desc := "()I" } : Jvm.MethodName)) ∈ jm_tbl := jm_in (tb9 (List.mem_of_getElem? (i := 14) rfl)) rfl
theorem wm2022 : (Jvm.Cond.code ({ cls := "FirstComerModel", name := "maybes", desc := "()I" } : Jvm.MethodName) prog_14_method_76_code (3 : Nat) (Option.some Jvm.ClassFile.FieldType.int)) ∈ jm_tbl := jm_in (tb9 (List.mem_of_getElem? (i := 15) rfl)) rfl
theorem wm2025 : (Jvm.Cond.instanceMethod ({ cls := "FirstComerModel", name := "does", desc := "(IIIII)Z" } : Jvm.MethodName)) ∈ jm_tbl := jm_in (tb9 (List.mem_of_getElem? (i := 18) rfl)) rfl
theorem wm2026 : (Jvm.Cond.code ({ cls := "FirstComerModel", name := "does", desc := "(IIIII)Z" } : Jvm.MethodName) prog_14_method_77_code (7 : Nat) (Option.some Jvm.ClassFile.FieldType.boolean)) ∈ jm_tbl := jm_in (tb9 (List.mem_of_getElem? (i := 19) rfl)) rfl
theorem wm2030 : (Jvm.Cond.code ({ cls := "FirstComerModel", name := "mark", desc := "(IZ)Z" } : Jvm.MethodName) prog_14_method_81_code (3 : Nat) (Option.some Jvm.ClassFile.FieldType.boolean)) ∈ jm_tbl := jm_in (tb9 (List.mem_of_getElem? (i := 23) rfl)) rfl
theorem wm2033 : (Jvm.Cond.instanceMethod ({ cls := "FirstComerModel", name := "takesBack", desc := "(I)V" } : Jvm.MethodName)) ∈ jm_tbl := jm_in (tb9 (List.mem_of_getElem? (i := 26) rfl)) rfl
theorem wm2034 : (Jvm.Cond.code ({ cls := "FirstComerModel", name := "takesBack", desc := "(I)V" } : Jvm.MethodName) prog_14_method_80_code (3 : Nat) (Option.none : Option Jvm.ClassFile.FieldType)) ∈ jm_tbl := jm_in (tb9 (List.mem_of_getElem? (i := 27) rfl)) rfl
theorem wm2037 : (Jvm.Cond.instanceMethod ({ cls := "FirstComerModel", name := "keeps", desc := "(I)V" } : Jvm.MethodName)) ∈ jm_tbl := jm_in (tb9 (List.mem_of_getElem? (i := 30) rfl)) rfl
theorem wm2038 : (Jvm.Cond.code ({ cls := "FirstComerModel", name := "keeps", desc := "(I)V" } : Jvm.MethodName) prog_14_method_79_code (3 : Nat) (Option.none : Option Jvm.ClassFile.FieldType)) ∈ jm_tbl := jm_in (tb9 (List.mem_of_getElem? (i := 31) rfl)) rfl
theorem wm2042 : (Jvm.Cond.code ({ cls := "FirstComerModel", name := "count", desc := "(I)I" } : Jvm.MethodName) prog_14_method_82_code (4 : Nat) (Option.some Jvm.ClassFile.FieldType.int)) ∈ jm_tbl := jm_in (tb9 (List.mem_of_getElem? (i := 35) rfl)) rfl
theorem flX11_1 : Cond.methodLink RX11 1 Lib.objectInit ∈ jm_tbl := jm_in (tb1 (List.mem_of_getElem? (i := 29) rfl)) rfl
theorem flX11_7 : Cond.classLink RX11 7 RX9 ∈ jm_tbl := jm_in (tb1 (List.mem_of_getElem? (i := 32) rfl)) rfl
theorem flX11_9 : Cond.methodLinkNest RX11 9 yX9_init "FirstComer" ∈ lw_tbl := (tb1 (List.mem_of_getElem? (i := 34) rfl))
theorem flX11_10 : Cond.fieldLink RX11 10 (TX11 0).1 (TX11 0).2.1 (TX11 0).2.2.1 ∈ jm_tbl := jm_in (tb3 (List.mem_of_getElem? (i := 27) rfl)) rfl
theorem flX11_16 : Cond.classLink RX11 16 RX1 ∈ jm_tbl := jm_in (tb1 (List.mem_of_getElem? (i := 84) rfl)) rfl
theorem flX11_18 : Cond.methodLinkNest RX11 18 yX1_init "FirstComer" ∈ lw_tbl := (tb1 (List.mem_of_getElem? (i := 86) rfl))
theorem flX11_19 : Cond.fieldLink RX11 19 (TX11 1).1 (TX11 1).2.1 (TX11 1).2.2.1 ∈ jm_tbl := jm_in (tb3 (List.mem_of_getElem? (i := 28) rfl)) rfl
theorem flX11_23 : Cond.classLink RX11 23 RX8 ∈ jm_tbl := jm_in (tb1 (List.mem_of_getElem? (i := 107) rfl)) rfl
theorem flX11_25 : Cond.methodLinkNest RX11 25 yX8_init "FirstComer" ∈ lw_tbl := (tb1 (List.mem_of_getElem? (i := 109) rfl))
theorem flX11_26 : Cond.fieldLink RX11 26 (TX11 2).1 (TX11 2).2.1 (TX11 2).2.2.1 ∈ jm_tbl := jm_in (tb3 (List.mem_of_getElem? (i := 29) rfl)) rfl
theorem flX11_30 : Cond.classLink RX11 30 RX0 ∈ jm_tbl := jm_in (tb1 (List.mem_of_getElem? (i := 146) rfl)) rfl
theorem flX11_32 : Cond.methodLinkNest RX11 32 yX0_init "FirstComer" ∈ lw_tbl := (tb1 (List.mem_of_getElem? (i := 148) rfl))
theorem flX11_33 : Cond.fieldLink RX11 33 (TX11 3).1 (TX11 3).2.1 (TX11 3).2.2.1 ∈ jm_tbl := jm_in (tb3 (List.mem_of_getElem? (i := 30) rfl)) rfl
theorem flX11_37 : Cond.classLink RX11 37 RX3 ∈ jm_tbl := jm_in (tb1 (List.mem_of_getElem? (i := 194) rfl)) rfl
theorem flX11_39 : Cond.methodLink RX11 39 yX3_init ∈ jm_tbl := jm_in (tb1 (List.mem_of_getElem? (i := 196) rfl)) rfl
theorem flX11_42 : Cond.fieldLink RX11 42 (TX11 4).1 (TX11 4).2.1 (TX11 4).2.2.1 ∈ jm_tbl := jm_in (tb3 (List.mem_of_getElem? (i := 31) rfl)) rfl
theorem flX11_46 : Cond.classLink RX11 46 RX10 ∈ jm_tbl := jm_in (tb2 (List.mem_of_getElem? (i := 0) rfl)) rfl
theorem flX11_48 : Cond.methodLink RX11 48 yX10_init ∈ jm_tbl := jm_in (tb2 (List.mem_of_getElem? (i := 2) rfl)) rfl
theorem flX11_51 : Cond.fieldLink RX11 51 (TX11 5).1 (TX11 5).2.1 (TX11 5).2.2.1 ∈ jm_tbl := jm_in (tb3 (List.mem_of_getElem? (i := 32) rfl)) rfl
theorem flX11_55 : Cond.classLink RX11 55 RX6 ∈ jm_tbl := jm_in (tb2 (List.mem_of_getElem? (i := 72) rfl)) rfl
theorem flX11_57 : Cond.methodLink RX11 57 yX6_init ∈ jm_tbl := jm_in (tb2 (List.mem_of_getElem? (i := 74) rfl)) rfl
theorem flX11_60 : Cond.fieldLink RX11 60 (TX11 6).1 (TX11 6).2.1 (TX11 6).2.2.1 ∈ jm_tbl := jm_in (tb3 (List.mem_of_getElem? (i := 33) rfl)) rfl
theorem flX11_64 : Cond.classLink RX11 64 RX2 ∈ jm_tbl := jm_in (tb2 (List.mem_of_getElem? (i := 122) rfl)) rfl
theorem flX11_66 : Cond.methodLink RX11 66 yX2_init ∈ jm_tbl := jm_in (tb2 (List.mem_of_getElem? (i := 124) rfl)) rfl
theorem flX11_67 : Cond.fieldLink RX11 67 (TX11 7).1 (TX11 7).2.1 (TX11 7).2.2.1 ∈ jm_tbl := jm_in (tb3 (List.mem_of_getElem? (i := 34) rfl)) rfl
theorem flX11_71 : Cond.classLink RX11 71 RX7 ∈ jm_tbl := jm_in (tb2 (List.mem_of_getElem? (i := 180) rfl)) rfl
theorem flX11_73 : Cond.fieldLink RX11 73 (TX11 8).1 (TX11 8).2.1 (TX11 8).2.2.1 ∈ jm_tbl := jm_in (tb3 (List.mem_of_getElem? (i := 35) rfl)) rfl
theorem flX11_77 : Cond.classLink RX11 77 RX5 ∈ jm_tbl := jm_in (tb2 (List.mem_of_getElem? (i := 182) rfl)) rfl
theorem flX11_79 : Cond.fieldLink RX11 79 (TX11 9).1 (TX11 9).2.1 (TX11 9).2.2.1 ∈ jm_tbl := jm_in (tb3 (List.mem_of_getElem? (i := 36) rfl)) rfl
theorem flX11_83 : Cond.classLink RX11 83 RX4 ∈ jm_tbl := jm_in (tb2 (List.mem_of_getElem? (i := 184) rfl)) rfl
theorem flX11_85 : Cond.methodLinkNest RX11 85 yX4_init "FirstComer" ∈ lw_tbl := (tb2 (List.mem_of_getElem? (i := 186) rfl))
theorem flX11_86 : Cond.fieldLink RX11 86 (TX11 10).1 (TX11 10).2.1 (TX11 10).2.2.1 ∈ jm_tbl := jm_in (tb3 (List.mem_of_getElem? (i := 37) rfl)) rfl
theorem flX11_90 : Cond.fieldLink RX11 90 (TX11 11).1 (TX11 11).2.1 (TX11 11).2.2.1 ∈ jm_tbl := jm_in (tb3 (List.mem_of_getElem? (i := 38) rfl)) rfl
theorem flX11_93 : Cond.fieldLinkNest RX11 93 (TX3 5).1 (TX3 5).2.1 (TX3 5).2.2.1 "FirstComer" ∈ lw_tbl := (tb1 (List.mem_of_getElem? (i := 207) rfl))
theorem flX11_96 : Cond.methodLink RX11 96 yX11_isPerson ∈ jm_tbl := jm_in (tb3 (List.mem_of_getElem? (i := 74) rfl)) rfl
theorem flX11_100 : Cond.methodLink RX11 100 yX9_isTold ∈ jm_tbl := jm_in (tb3 (List.mem_of_getElem? (i := 77) rfl)) rfl
theorem flX11_103 : Cond.fieldLinkNest RX11 103 (TX9 9).1 (TX9 9).2.1 (TX9 9).2.2.1 "FirstComer" ∈ lw_tbl := (tb1 (List.mem_of_getElem? (i := 58) rfl))
theorem flX11_107 : Cond.fieldLinkNest RX11 107 (TX9 5).1 (TX9 5).2.1 (TX9 5).2.2.1 "FirstComer" ∈ lw_tbl := (tb1 (List.mem_of_getElem? (i := 49) rfl))
theorem flX11_110 : Cond.methodLink RX11 110 yX1_add ∈ jm_tbl := jm_in (tb3 (List.mem_of_getElem? (i := 81) rfl)) rfl
theorem flX11_114 : Cond.methodLink RX11 114 yX11_areTwoPeople ∈ jm_tbl := jm_in (tb3 (List.mem_of_getElem? (i := 92) rfl)) rfl
theorem flX11_118 : Cond.methodLink RX11 118 yX1_of ∈ jm_tbl := jm_in (tb3 (List.mem_of_getElem? (i := 95) rfl)) rfl
theorem flX11_122 : Cond.methodLink RX11 122 yX1_move ∈ jm_tbl := jm_in (tb3 (List.mem_of_getElem? (i := 99) rfl)) rfl
theorem flX11_126 : Cond.methodLink RX11 126 yX9_areTwoTold ∈ jm_tbl := jm_in (tb3 (List.mem_of_getElem? (i := 108) rfl)) rfl
theorem flX11_129 : Cond.fieldLinkNest RX11 129 (TX9 0).1 (TX9 0).2.1 (TX9 0).2.2.1 "FirstComer" ∈ lw_tbl := (tb1 (List.mem_of_getElem? (i := 40) rfl))
theorem flX11_133 : Cond.methodLink RX11 133 yX9_layAt ∈ jm_tbl := jm_in (tb3 (List.mem_of_getElem? (i := 113) rfl)) rfl
theorem flX11_136 : Cond.fieldLinkNest RX11 136 (TX9 2).1 (TX9 2).2.1 (TX9 2).2.2.1 "FirstComer" ∈ lw_tbl := (tb1 (List.mem_of_getElem? (i := 43) rfl))
theorem flX11_139 : Cond.methodLink RX11 139 yX9_makeKin ∈ jm_tbl := jm_in (tb3 (List.mem_of_getElem? (i := 125) rfl)) rfl
theorem flX11_142 : Cond.fieldLinkNest RX11 142 (TX9 6).1 (TX9 6).2.1 (TX9 6).2.2.1 "FirstComer" ∈ lw_tbl := (tb1 (List.mem_of_getElem? (i := 51) rfl))
theorem flX11_145 : Cond.methodLink RX11 145 yX11_withBit ∈ jm_tbl := jm_in (tb3 (List.mem_of_getElem? (i := 134) rfl)) rfl
theorem flX11_149 : Cond.fieldLinkNest RX11 149 (TX9 7).1 (TX9 7).2.1 (TX9 7).2.2.1 "FirstComer" ∈ lw_tbl := (tb1 (List.mem_of_getElem? (i := 54) rfl))
theorem flX11_152 : Cond.fieldLinkNest RX11 152 (TX9 8).1 (TX9 8).2.1 (TX9 8).2.2.1 "FirstComer" ∈ lw_tbl := (tb1 (List.mem_of_getElem? (i := 57) rfl))
theorem flX11_155 : Cond.methodLink RX11 155 yX8_write ∈ jm_tbl := jm_in (tb3 (List.mem_of_getElem? (i := 147) rfl)) rfl
theorem flX11_159 : Cond.fieldLinkNest RX11 159 (TX8 1).1 (TX8 1).2.1 (TX8 1).2.2.1 "FirstComer" ∈ lw_tbl := (tb1 (List.mem_of_getElem? (i := 115) rfl))
theorem flX11_162 : Cond.methodLink RX11 162 yX8_read ∈ jm_tbl := jm_in (tb3 (List.mem_of_getElem? (i := 155) rfl)) rfl
theorem flX11_166 : Cond.methodLink RX11 166 yX9_standing ∈ jm_tbl := jm_in (tb4 (List.mem_of_getElem? (i := 55) rfl)) rfl
theorem flX11_170 : Cond.methodLink RX11 170 yX0_tell ∈ jm_tbl := jm_in (tb4 (List.mem_of_getElem? (i := 67) rfl)) rfl
theorem flX11_174 : Cond.methodLink RX11 174 yX0_canBe ∈ jm_tbl := jm_in (tb4 (List.mem_of_getElem? (i := 71) rfl)) rfl
theorem flX11_178 : Cond.fieldLink RX11 178 (TX11 12).1 (TX11 12).2.1 (TX11 12).2.2.1 ∈ jm_tbl := jm_in (tb3 (List.mem_of_getElem? (i := 39) rfl)) rfl
theorem flX11_181 : Cond.methodLinkNest RX11 181 yX7_init "FirstComer" ∈ lw_tbl := (tb4 (List.mem_of_getElem? (i := 86) rfl))
theorem flX11_182 : Cond.methodLink RX11 182 yX3_judgeAll ∈ jm_tbl := jm_in (tb4 (List.mem_of_getElem? (i := 126) rfl)) rfl
theorem flX11_186 : Cond.methodLink RX11 186 yX7_begin ∈ jm_tbl := jm_in (tb4 (List.mem_of_getElem? (i := 161) rfl)) rfl
theorem flX11_190 : Cond.fieldLinkNest RX11 190 (TX3 9).1 (TX3 9).2.1 (TX3 9).2.2.1 "FirstComer" ∈ lw_tbl := (tb1 (List.mem_of_getElem? (i := 218) rfl))
theorem flX11_193 : Cond.methodLink RX11 193 yX11_passingAt ∈ jm_tbl := jm_in (tb4 (List.mem_of_getElem? (i := 196) rfl)) rfl
theorem flX11_204 : Cond.fieldLinkNest RX11 204 (TX7 1).1 (TX7 1).2.1 (TX7 1).2.2.1 "FirstComer" ∈ lw_tbl := (tb4 (List.mem_of_getElem? (i := 95) rfl))
theorem flX11_207 : Cond.methodLink RX11 207 yX7_comerAt ∈ jm_tbl := jm_in (tb4 (List.mem_of_getElem? (i := 204) rfl)) rfl
theorem flX11_210 : Cond.fieldLinkNest RX11 210 (TX7 5).1 (TX7 5).2.1 (TX7 5).2.2.1 "FirstComer" ∈ lw_tbl := (tb4 (List.mem_of_getElem? (i := 103) rfl))
theorem flX11_213 : Cond.fieldLinkNest RX11 213 (TX7 4).1 (TX7 4).2.1 (TX7 4).2.2.1 "FirstComer" ∈ lw_tbl := (tb4 (List.mem_of_getElem? (i := 101) rfl))
theorem flX11_216 : Cond.fieldLinkNest RX11 216 (TX7 2).1 (TX7 2).2.1 (TX7 2).2.2.1 "FirstComer" ∈ lw_tbl := (tb4 (List.mem_of_getElem? (i := 97) rfl))
theorem flX11_219 : Cond.methodLink RX11 219 yX7_isWaived ∈ jm_tbl := jm_in (tb4 (List.mem_of_getElem? (i := 220) rfl)) rfl
theorem flX11_222 : Cond.methodLink RX11 222 yX11_isPrice ∈ jm_tbl := jm_in (tb4 (List.mem_of_getElem? (i := 228) rfl)) rfl
theorem flX11_225 : Cond.fieldLinkNest RX11 225 (TX7 0).1 (TX7 0).2.1 (TX7 0).2.2.1 "FirstComer" ∈ lw_tbl := (tb4 (List.mem_of_getElem? (i := 93) rfl))
theorem flX11_228 : Cond.fieldLinkNest RX11 228 (TX0 4).1 (TX0 4).2.1 (TX0 4).2.2.1 "FirstComer" ∈ lw_tbl := (tb1 (List.mem_of_getElem? (i := 172) rfl))
theorem flX11_231 : Cond.methodLink RX11 231 yX7_isTaken ∈ jm_tbl := jm_in (tb4 (List.mem_of_getElem? (i := 229) rfl)) rfl
theorem flX11_235 : Cond.methodLink RX11 235 yX7_judgeClaim ∈ jm_tbl := jm_in (tb4 (List.mem_of_getElem? (i := 237) rfl)) rfl
theorem flX11_239 : Cond.fieldLinkNest RX11 239 (TX0 0).1 (TX0 0).2.1 (TX0 0).2.2.1 "FirstComer" ∈ lw_tbl := (tb1 (List.mem_of_getElem? (i := 156) rfl))
theorem flX11_242 : Cond.fieldLinkNest RX11 242 (TX0 2).1 (TX0 2).2.1 (TX0 2).2.2.1 "FirstComer" ∈ lw_tbl := (tb1 (List.mem_of_getElem? (i := 164) rfl))
theorem flX11_245 : Cond.fieldLinkNest RX11 245 (TX0 3).1 (TX0 3).2.1 (TX0 3).2.2.1 "FirstComer" ∈ lw_tbl := (tb1 (List.mem_of_getElem? (i := 168) rfl))
theorem flX11_248 : Cond.methodLink RX11 248 yX7_portion ∈ jm_tbl := jm_in (tb5 (List.mem_of_getElem? (i := 20) rfl)) rfl
theorem flX11_251 : Cond.methodLink RX11 251 yX11_canGoRound ∈ jm_tbl := jm_in (tb5 (List.mem_of_getElem? (i := 32) rfl)) rfl
theorem flX11_255 : Cond.methodLink RX11 255 yX10_findRow ∈ jm_tbl := jm_in (tb5 (List.mem_of_getElem? (i := 39) rfl)) rfl
theorem flX11_259 : Cond.methodLink RX11 259 yX10_stepTells ∈ jm_tbl := jm_in (tb5 (List.mem_of_getElem? (i := 108) rfl)) rfl
theorem flX11_262 : Cond.methodLink RX11 262 yX11_isEach ∈ jm_tbl := jm_in (tb5 (List.mem_of_getElem? (i := 36) rfl)) rfl
theorem flX11_265 : Cond.methodLink RX11 265 yX2_find ∈ jm_tbl := jm_in (tb5 (List.mem_of_getElem? (i := 116) rfl)) rfl
theorem flX11_268 : Cond.fieldLinkNest RX11 268 (TX2 8).1 (TX2 8).2.1 (TX2 8).2.2.1 "FirstComer" ∈ lw_tbl := (tb2 (List.mem_of_getElem? (i := 141) rfl))
theorem flX11_271 : Cond.fieldLinkNest RX11 271 (TX2 10).1 (TX2 10).2.1 (TX2 10).2.2.1 "FirstComer" ∈ lw_tbl := (tb2 (List.mem_of_getElem? (i := 144) rfl))
theorem flX11_274 : Cond.methodLink RX11 274 yJ6_bitCount_0f7a4 ∈ jm_tbl := jm_in (tb5 (List.mem_of_getElem? (i := 161) rfl)) rfl
theorem flX11_279 : Cond.methodLink RX11 279 yX0_isSound ∈ jm_tbl := jm_in (tb5 (List.mem_of_getElem? (i := 166) rfl)) rfl
theorem flX11_283 : Cond.fieldLinkNest RX11 283 (TX6 6).1 (TX6 6).2.1 (TX6 6).2.2.1 "FirstComer" ∈ lw_tbl := (tb2 (List.mem_of_getElem? (i := 87) rfl))
theorem flX11_286 : Cond.methodLink RX11 286 yX6_addHonest ∈ jm_tbl := jm_in (tb5 (List.mem_of_getElem? (i := 167) rfl)) rfl
theorem flX11_290 : Cond.methodLink RX11 290 yX6_find ∈ jm_tbl := jm_in (tb5 (List.mem_of_getElem? (i := 177) rfl)) rfl
theorem flX11_292 : Cond.methodLink RX11 292 yX11_goBack ∈ jm_tbl := jm_in (tb5 (List.mem_of_getElem? (i := 213) rfl)) rfl
theorem flX11_295 : Cond.methodLinkNest RX11 295 yX5_init "FirstComer" ∈ lw_tbl := (tb5 (List.mem_of_getElem? (i := 227) rfl))
theorem flX11_296 : Cond.fieldLink RX11 296 (TX11 13).1 (TX11 13).2.1 (TX11 13).2.2.1 ∈ jm_tbl := jm_in (tb3 (List.mem_of_getElem? (i := 40) rfl)) rfl
theorem flX11_299 : Cond.methodLink RX11 299 yX5_lay ∈ jm_tbl := jm_in (tb6 (List.mem_of_getElem? (i := 14) rfl)) rfl
theorem flX11_303 : Cond.methodLink RX11 303 yX11_takenOnes ∈ jm_tbl := jm_in (tb6 (List.mem_of_getElem? (i := 23) rfl)) rfl
theorem flX11_307 : Cond.fieldLinkNest RX11 307 (TX4 12).1 (TX4 12).2.1 (TX4 12).2.2.1 "FirstComer" ∈ lw_tbl := (tb2 (List.mem_of_getElem? (i := 219) rfl))
theorem flX11_310 : Cond.fieldLinkNest RX11 310 (TX4 14).1 (TX4 14).2.1 (TX4 14).2.2.1 "FirstComer" ∈ lw_tbl := (tb2 (List.mem_of_getElem? (i := 224) rfl))
theorem flX11_313 : Cond.fieldLinkNest RX11 313 (TX5 2).1 (TX5 2).2.1 (TX5 2).2.2.1 "FirstComer" ∈ lw_tbl := (tb5 (List.mem_of_getElem? (i := 236) rfl))
theorem flX11_316 : Cond.methodLink RX11 316 yX5_restore ∈ jm_tbl := jm_in (tb5 (List.mem_of_getElem? (i := 217) rfl)) rfl
theorem flX11_320 : Cond.fieldLinkNest RX11 320 (TX5 5).1 (TX5 5).2.1 (TX5 5).2.2.1 "FirstComer" ∈ lw_tbl := (tb6 (List.mem_of_getElem? (i := 0) rfl))
theorem flX0_3 : Cond.methodLink RX0 3 Lib.objectInit ∈ jm_tbl := jm_in (tb1 (List.mem_of_getElem? (i := 151) rfl)) rfl
theorem flX0_9 : Cond.fieldLink RX0 9 (TX0 0).1 (TX0 0).2.1 (TX0 0).2.2.1 ∈ jm_tbl := jm_in (tb1 (List.mem_of_getElem? (i := 152) rfl)) rfl
theorem flX0_15 : Cond.fieldLink RX0 15 (TX0 1).1 (TX0 1).2.1 (TX0 1).2.2.1 ∈ jm_tbl := jm_in (tb1 (List.mem_of_getElem? (i := 157) rfl)) rfl
theorem flX0_18 : Cond.fieldLink RX0 18 (TX0 2).1 (TX0 2).2.1 (TX0 2).2.2.1 ∈ jm_tbl := jm_in (tb1 (List.mem_of_getElem? (i := 161) rfl)) rfl
theorem flX0_21 : Cond.fieldLink RX0 21 (TX0 3).1 (TX0 3).2.1 (TX0 3).2.2.1 ∈ jm_tbl := jm_in (tb1 (List.mem_of_getElem? (i := 165) rfl)) rfl
theorem flX0_24 : Cond.fieldLink RX0 24 (TX0 4).1 (TX0 4).2.1 (TX0 4).2.2.1 ∈ jm_tbl := jm_in (tb1 (List.mem_of_getElem? (i := 169) rfl)) rfl
theorem flX0_27 : Cond.fieldLink RX0 27 (TX0 5).1 (TX0 5).2.1 (TX0 5).2.2.1 ∈ jm_tbl := jm_in (tb1 (List.mem_of_getElem? (i := 173) rfl)) rfl
theorem flX0_30 : Cond.fieldLink RX0 30 (TX0 6).1 (TX0 6).2.1 (TX0 6).2.2.1 ∈ jm_tbl := jm_in (tb1 (List.mem_of_getElem? (i := 176) rfl)) rfl
theorem flX0_33 : Cond.methodLink RX0 33 yX0_tell ∈ jm_tbl := jm_in (tb4 (List.mem_of_getElem? (i := 169) rfl)) rfl
theorem flX0_37 : Cond.methodLink RX0 37 yX9_isTold ∈ jm_tbl := jm_in (tb4 (List.mem_of_getElem? (i := 79) rfl)) rfl
theorem flX0_43 : Cond.methodLinkNest RX0 43 yX11_areTwoPeople "FirstComer" ∈ lw_tbl := (tb4 (List.mem_of_getElem? (i := 80) rfl))
theorem flX0_47 : Cond.methodLinkNest RX0 47 yX11_isPrice "FirstComer" ∈ lw_tbl := (tb4 (List.mem_of_getElem? (i := 81) rfl))
theorem flX0_50 : Cond.methodLink RX0 50 yX0_isSound ∈ jm_tbl := jm_in (tb4 (List.mem_of_getElem? (i := 75) rfl)) rfl
theorem flX0_54 : Cond.methodLink RX0 54 yX1_of ∈ jm_tbl := jm_in (tb4 (List.mem_of_getElem? (i := 84) rfl)) rfl
theorem flX1_3 : Cond.methodLink RX1 3 Lib.objectInit ∈ jm_tbl := jm_in (tb1 (List.mem_of_getElem? (i := 89) rfl)) rfl
theorem flX1_9 : Cond.fieldLink RX1 9 (TX1 0).1 (TX1 0).2.1 (TX1 0).2.2.1 ∈ jm_tbl := jm_in (tb1 (List.mem_of_getElem? (i := 90) rfl)) rfl
theorem flX1_15 : Cond.fieldLink RX1 15 (TX1 1).1 (TX1 1).2.1 (TX1 1).2.2.1 ∈ jm_tbl := jm_in (tb1 (List.mem_of_getElem? (i := 92) rfl)) rfl
theorem flX1_18 : Cond.fieldLink RX1 18 (TX1 2).1 (TX1 2).2.1 (TX1 2).2.2.1 ∈ jm_tbl := jm_in (tb1 (List.mem_of_getElem? (i := 94) rfl)) rfl
theorem flX1_21 : Cond.fieldLink RX1 21 (TX1 3).1 (TX1 3).2.1 (TX1 3).2.2.1 ∈ jm_tbl := jm_in (tb1 (List.mem_of_getElem? (i := 96) rfl)) rfl
theorem flX1_24 : Cond.methodLinkNest RX1 24 yX11_withBit "FirstComer" ∈ lw_tbl := (tb3 (List.mem_of_getElem? (i := 85) rfl))
theorem flX1_28 : Cond.methodLink RX1 28 yX1_add ∈ jm_tbl := jm_in (tb3 (List.mem_of_getElem? (i := 103) rfl)) rfl
theorem flX1_32 : Cond.methodLink RX1 32 arraycopyName ∈ jm_tbl := jm_in (tb5 (List.mem_of_getElem? (i := 52) rfl)) rfl
theorem flX1_38 : Cond.methodLink RX1 38 yX1_of ∈ jm_tbl := jm_in (tb4 (List.mem_of_getElem? (i := 187) rfl)) rfl
theorem flX1_42 : Cond.methodLink RX1 42 yJ6_bitCount_0f7a4 ∈ jm_tbl := jm_in (tb5 (List.mem_of_getElem? (i := 128) rfl)) rfl
theorem flX1_48 : Cond.methodLink RX1 48 yJ6_numberOfTrailingZeros_0f7a4 ∈ jm_tbl := jm_in (tb5 (List.mem_of_getElem? (i := 134) rfl)) rfl
theorem flX2_3 : Cond.methodLink RX2 3 Lib.objectInit ∈ jm_tbl := jm_in (tb2 (List.mem_of_getElem? (i := 127) rfl)) rfl
theorem flX2_9 : Cond.classLink RX2 9 RX1 ∈ jm_tbl := jm_in (tb2 (List.mem_of_getElem? (i := 128) rfl)) rfl
theorem flX2_11 : Cond.methodLinkNest RX2 11 yX1_init "FirstComer" ∈ lw_tbl := (tb2 (List.mem_of_getElem? (i := 129) rfl))
theorem flX2_12 : Cond.fieldLink RX2 12 (TX2 3).1 (TX2 3).2.1 (TX2 3).2.2.1 ∈ jm_tbl := jm_in (tb2 (List.mem_of_getElem? (i := 135) rfl)) rfl
theorem flX2_18 : Cond.classLink RX2 18 RX0 ∈ jm_tbl := jm_in (tb2 (List.mem_of_getElem? (i := 130) rfl)) rfl
theorem flX2_20 : Cond.methodLinkNest RX2 20 yX0_init "FirstComer" ∈ lw_tbl := (tb2 (List.mem_of_getElem? (i := 131) rfl))
theorem flX2_21 : Cond.fieldLink RX2 21 (TX2 4).1 (TX2 4).2.1 (TX2 4).2.2.1 ∈ jm_tbl := jm_in (tb2 (List.mem_of_getElem? (i := 136) rfl)) rfl
theorem flX2_25 : Cond.fieldLink RX2 25 (TX2 5).1 (TX2 5).2.1 (TX2 5).2.2.1 ∈ jm_tbl := jm_in (tb2 (List.mem_of_getElem? (i := 137) rfl)) rfl
theorem flX2_29 : Cond.fieldLink RX2 29 (TX2 6).1 (TX2 6).2.1 (TX2 6).2.2.1 ∈ jm_tbl := jm_in (tb2 (List.mem_of_getElem? (i := 138) rfl)) rfl
theorem flX2_33 : Cond.fieldLink RX2 33 (TX2 14).1 (TX2 14).2.1 (TX2 14).2.2.1 ∈ jm_tbl := jm_in (tb2 (List.mem_of_getElem? (i := 148) rfl)) rfl
theorem flX2_37 : Cond.fieldLink RX2 37 (TX2 0).1 (TX2 0).2.1 (TX2 0).2.2.1 ∈ jm_tbl := jm_in (tb2 (List.mem_of_getElem? (i := 132) rfl)) rfl
theorem flX2_41 : Cond.fieldLink RX2 41 (TX2 1).1 (TX2 1).2.1 (TX2 1).2.2.1 ∈ jm_tbl := jm_in (tb2 (List.mem_of_getElem? (i := 133) rfl)) rfl
theorem flX2_44 : Cond.fieldLink RX2 44 (TX2 2).1 (TX2 2).2.1 (TX2 2).2.2.1 ∈ jm_tbl := jm_in (tb2 (List.mem_of_getElem? (i := 134) rfl)) rfl
theorem flX2_48 : Cond.fieldLink RX2 48 (TX2 11).1 (TX2 11).2.1 (TX2 11).2.2.1 ∈ jm_tbl := jm_in (tb2 (List.mem_of_getElem? (i := 145) rfl)) rfl
theorem flX2_51 : Cond.fieldLink RX2 51 (TX2 12).1 (TX2 12).2.1 (TX2 12).2.2.1 ∈ jm_tbl := jm_in (tb2 (List.mem_of_getElem? (i := 146) rfl)) rfl
theorem flX2_54 : Cond.fieldLink RX2 54 (TX2 13).1 (TX2 13).2.1 (TX2 13).2.2.1 ∈ jm_tbl := jm_in (tb2 (List.mem_of_getElem? (i := 147) rfl)) rfl
theorem flX2_57 : Cond.fieldLinkNest RX2 57 (TX9 9).1 (TX9 9).2.1 (TX9 9).2.2.1 "FirstComer" ∈ lw_tbl := (tb1 (List.mem_of_getElem? (i := 59) rfl))
theorem flX2_62 : Cond.methodLink RX2 62 yX2_begin ∈ jm_tbl := jm_in (tb5 (List.mem_of_getElem? (i := 120) rfl)) rfl
theorem flX2_65 : Cond.methodLink RX2 65 yX2_search ∈ jm_tbl := jm_in (tb5 (List.mem_of_getElem? (i := 139) rfl)) rfl
theorem flX2_68 : Cond.fieldLink RX2 68 (TX2 8).1 (TX2 8).2.1 (TX2 8).2.2.1 ∈ jm_tbl := jm_in (tb2 (List.mem_of_getElem? (i := 140) rfl)) rfl
theorem flX2_71 : Cond.fieldLink RX2 71 (TX2 9).1 (TX2 9).2.1 (TX2 9).2.2.1 ∈ jm_tbl := jm_in (tb2 (List.mem_of_getElem? (i := 142) rfl)) rfl
theorem flX2_74 : Cond.methodLink RX2 74 yX1_onlyHolder ∈ jm_tbl := jm_in (tb5 (List.mem_of_getElem? (i := 124) rfl)) rfl
theorem flX2_78 : Cond.methodLink RX2 78 yX1_copyAll ∈ jm_tbl := jm_in (tb5 (List.mem_of_getElem? (i := 138) rfl)) rfl
theorem flX2_82 : Cond.fieldLink RX2 82 (TX2 7).1 (TX2 7).2.1 (TX2 7).2.2.1 ∈ jm_tbl := jm_in (tb2 (List.mem_of_getElem? (i := 139) rfl)) rfl
theorem flX2_85 : Cond.fieldLink RX2 85 (TX2 10).1 (TX2 10).2.1 (TX2 10).2.2.1 ∈ jm_tbl := jm_in (tb2 (List.mem_of_getElem? (i := 143) rfl)) rfl
theorem flX2_88 : Cond.methodLink RX2 88 yJ6_bitCount_0f7a4 ∈ jm_tbl := jm_in (tb5 (List.mem_of_getElem? (i := 143) rfl)) rfl
theorem flX2_93 : Cond.methodLink RX2 93 yX2_comesAbout ∈ jm_tbl := jm_in (tb5 (List.mem_of_getElem? (i := 144) rfl)) rfl
theorem flX2_97 : Cond.methodLink RX2 97 yX2_place ∈ jm_tbl := jm_in (tb5 (List.mem_of_getElem? (i := 148) rfl)) rfl
theorem flX2_101 : Cond.methodLink RX2 101 yX2_sells ∈ jm_tbl := jm_in (tb5 (List.mem_of_getElem? (i := 153) rfl)) rfl
theorem flX2_104 : Cond.methodLink RX2 104 yX1_move ∈ jm_tbl := jm_in (tb5 (List.mem_of_getElem? (i := 152) rfl)) rfl
theorem flX2_108 : Cond.methodLink RX2 108 yX3_settle ∈ jm_tbl := jm_in (tb5 (List.mem_of_getElem? (i := 157) rfl)) rfl
theorem flX2_114 : Cond.methodLink RX2 114 yX0_tellEach ∈ jm_tbl := jm_in (tb5 (List.mem_of_getElem? (i := 158) rfl)) rfl
theorem flX2_118 : Cond.methodLink RX2 118 yX3_ask ∈ jm_tbl := jm_in (tb5 (List.mem_of_getElem? (i := 159) rfl)) rfl
theorem flX2_122 : Cond.fieldLinkNest RX2 122 (TX9 7).1 (TX9 7).2.1 (TX9 7).2.2.1 "FirstComer" ∈ lw_tbl := (tb1 (List.mem_of_getElem? (i := 53) rfl))
theorem flX2_125 : Cond.methodLink RX2 125 yX3_openSets ∈ jm_tbl := jm_in (tb5 (List.mem_of_getElem? (i := 160) rfl)) rfl
theorem flX3_3 : Cond.methodLink RX3 3 Lib.objectInit ∈ jm_tbl := jm_in (tb1 (List.mem_of_getElem? (i := 199) rfl)) rfl
theorem flX3_9 : Cond.fieldLink RX3 9 (TX3 1).1 (TX3 1).2.1 (TX3 1).2.2.1 ∈ jm_tbl := jm_in (tb1 (List.mem_of_getElem? (i := 202) rfl)) rfl
theorem flX3_15 : Cond.fieldLink RX3 15 (TX3 2).1 (TX3 2).2.1 (TX3 2).2.2.1 ∈ jm_tbl := jm_in (tb1 (List.mem_of_getElem? (i := 203) rfl)) rfl
theorem flX3_18 : Cond.fieldLink RX3 18 (TX3 3).1 (TX3 3).2.1 (TX3 3).2.2.1 ∈ jm_tbl := jm_in (tb1 (List.mem_of_getElem? (i := 204) rfl)) rfl
theorem flX3_21 : Cond.fieldLink RX3 21 (TX3 4).1 (TX3 4).2.1 (TX3 4).2.2.1 ∈ jm_tbl := jm_in (tb1 (List.mem_of_getElem? (i := 205) rfl)) rfl
theorem flX3_24 : Cond.fieldLink RX3 24 (TX3 0).1 (TX3 0).2.1 (TX3 0).2.2.1 ∈ jm_tbl := jm_in (tb1 (List.mem_of_getElem? (i := 200) rfl)) rfl
theorem flX3_28 : Cond.fieldLink RX3 28 (TX3 6).1 (TX3 6).2.1 (TX3 6).2.2.1 ∈ jm_tbl := jm_in (tb1 (List.mem_of_getElem? (i := 211) rfl)) rfl
theorem flX3_32 : Cond.methodLink RX3 32 yX9_standing ∈ jm_tbl := jm_in (tb4 (List.mem_of_getElem? (i := 134) rfl)) rfl
theorem flX3_37 : Cond.fieldLink RX3 37 (TX3 7).1 (TX3 7).2.1 (TX3 7).2.2.1 ∈ jm_tbl := jm_in (tb1 (List.mem_of_getElem? (i := 213) rfl)) rfl
theorem flX3_41 : Cond.fieldLinkNest RX3 41 (TX0 3).1 (TX0 3).2.1 (TX0 3).2.2.1 "FirstComer" ∈ lw_tbl := (tb1 (List.mem_of_getElem? (i := 166) rfl))
theorem flX3_47 : Cond.fieldLinkNest RX3 47 (TX0 5).1 (TX0 5).2.1 (TX0 5).2.2.1 "FirstComer" ∈ lw_tbl := (tb1 (List.mem_of_getElem? (i := 174) rfl))
theorem flX3_50 : Cond.fieldLinkNest RX3 50 (TX0 6).1 (TX0 6).2.1 (TX0 6).2.2.1 "FirstComer" ∈ lw_tbl := (tb1 (List.mem_of_getElem? (i := 178) rfl))
theorem flX3_53 : Cond.fieldLinkNest RX3 53 (TX0 0).1 (TX0 0).2.1 (TX0 0).2.2.1 "FirstComer" ∈ lw_tbl := (tb1 (List.mem_of_getElem? (i := 153) rfl))
theorem flX3_56 : Cond.fieldLinkNest RX3 56 (TX0 1).1 (TX0 1).2.1 (TX0 1).2.2.1 "FirstComer" ∈ lw_tbl := (tb1 (List.mem_of_getElem? (i := 158) rfl))
theorem flX3_59 : Cond.methodLink RX3 59 yX1_of ∈ jm_tbl := jm_in (tb4 (List.mem_of_getElem? (i := 139) rfl)) rfl
theorem flX3_65 : Cond.fieldLinkNest RX3 65 (TX1 3).1 (TX1 3).2.1 (TX1 3).2.2.1 "FirstComer" ∈ lw_tbl := (tb1 (List.mem_of_getElem? (i := 97) rfl))
theorem flX3_68 : Cond.fieldLinkNest RX3 68 (TX1 2).1 (TX1 2).2.1 (TX1 2).2.2.1 "FirstComer" ∈ lw_tbl := (tb1 (List.mem_of_getElem? (i := 95) rfl))
theorem flX3_71 : Cond.fieldLinkNest RX3 71 (TX0 2).1 (TX0 2).2.1 (TX0 2).2.2.1 "FirstComer" ∈ lw_tbl := (tb1 (List.mem_of_getElem? (i := 163) rfl))
theorem flX3_74 : Cond.fieldLinkNest RX3 74 (TX0 4).1 (TX0 4).2.1 (TX0 4).2.2.1 "FirstComer" ∈ lw_tbl := (tb1 (List.mem_of_getElem? (i := 170) rfl))
theorem flX3_77 : Cond.fieldLinkNest RX3 77 (TX9 8).1 (TX9 8).2.1 (TX9 8).2.2.1 "FirstComer" ∈ lw_tbl := (tb1 (List.mem_of_getElem? (i := 56) rfl))
theorem flX3_80 : Cond.fieldLinkNest RX3 80 (TX9 6).1 (TX9 6).2.1 (TX9 6).2.2.1 "FirstComer" ∈ lw_tbl := (tb1 (List.mem_of_getElem? (i := 50) rfl))
theorem flX3_83 : Cond.fieldLinkNest RX3 83 (TX1 0).1 (TX1 0).2.1 (TX1 0).2.2.1 "FirstComer" ∈ lw_tbl := (tb1 (List.mem_of_getElem? (i := 91) rfl))
theorem flX3_86 : Cond.fieldLinkNest RX3 86 (TX9 3).1 (TX9 3).2.1 (TX9 3).2.2.1 "FirstComer" ∈ lw_tbl := (tb1 (List.mem_of_getElem? (i := 45) rfl))
theorem flX3_89 : Cond.fieldLink RX3 89 (TX3 5).1 (TX3 5).2.1 (TX3 5).2.2.1 ∈ jm_tbl := jm_in (tb1 (List.mem_of_getElem? (i := 210) rfl)) rfl
theorem flX3_93 : Cond.fieldLinkNest RX3 93 (TX4 6).1 (TX4 6).2.1 (TX4 6).2.2.1 "FirstComer" ∈ lw_tbl := (tb2 (List.mem_of_getElem? (i := 207) rfl))
theorem flX3_98 : Cond.fieldLinkNest RX3 98 (TX4 7).1 (TX4 7).2.1 (TX4 7).2.2.1 "FirstComer" ∈ lw_tbl := (tb2 (List.mem_of_getElem? (i := 209) rfl))
theorem flX3_101 : Cond.fieldLinkNest RX3 101 (TX4 8).1 (TX4 8).2.1 (TX4 8).2.2.1 "FirstComer" ∈ lw_tbl := (tb2 (List.mem_of_getElem? (i := 211) rfl))
theorem flX3_105 : Cond.methodLink RX3 105 yX3_value ∈ jm_tbl := jm_in (tb4 (List.mem_of_getElem? (i := 145) rfl)) rfl
theorem flX3_108 : Cond.methodLink RX3 108 yX3_askAbout ∈ jm_tbl := jm_in (tb4 (List.mem_of_getElem? (i := 149) rfl)) rfl
theorem flX3_112 : Cond.fieldLinkNest RX3 112 (TX4 9).1 (TX4 9).2.1 (TX4 9).2.2.1 "FirstComer" ∈ lw_tbl := (tb2 (List.mem_of_getElem? (i := 213) rfl))
theorem flX3_115 : Cond.methodLink RX3 115 yX3_settle ∈ jm_tbl := jm_in (tb4 (List.mem_of_getElem? (i := 130) rfl)) rfl
theorem flX3_119 : Cond.methodLink RX3 119 yX3_ask ∈ jm_tbl := jm_in (tb4 (List.mem_of_getElem? (i := 135) rfl)) rfl
theorem flX3_123 : Cond.fieldLink RX3 123 (TX3 8).1 (TX3 8).2.1 (TX3 8).2.2.1 ∈ jm_tbl := jm_in (tb1 (List.mem_of_getElem? (i := 215) rfl)) rfl
theorem flX3_127 : Cond.fieldLinkNest RX3 127 (TX4 11).1 (TX4 11).2.1 (TX4 11).2.2.1 "FirstComer" ∈ lw_tbl := (tb2 (List.mem_of_getElem? (i := 216) rfl))
theorem flX3_130 : Cond.fieldLinkNest RX3 130 (TX4 0).1 (TX4 0).2.1 (TX4 0).2.2.1 "FirstComer" ∈ lw_tbl := (tb2 (List.mem_of_getElem? (i := 191) rfl))
theorem flX3_133 : Cond.fieldLinkNest RX3 133 (TX4 1).1 (TX4 1).2.1 (TX4 1).2.2.1 "FirstComer" ∈ lw_tbl := (tb2 (List.mem_of_getElem? (i := 193) rfl))
theorem flX3_139 : Cond.methodLink RX3 139 yX3_holdsForOne ∈ jm_tbl := jm_in (tb4 (List.mem_of_getElem? (i := 141) rfl)) rfl
theorem flX3_143 : Cond.methodLink RX3 143 yX3_lineFor ∈ jm_tbl := jm_in (tb4 (List.mem_of_getElem? (i := 153) rfl)) rfl
theorem flX3_147 : Cond.fieldLink RX3 147 (TX3 9).1 (TX3 9).2.1 (TX3 9).2.2.1 ∈ jm_tbl := jm_in (tb1 (List.mem_of_getElem? (i := 217) rfl)) rfl
theorem flX3_150 : Cond.fieldLinkNest RX3 150 (TX4 2).1 (TX4 2).2.1 (TX4 2).2.2.1 "FirstComer" ∈ lw_tbl := (tb2 (List.mem_of_getElem? (i := 196) rfl))
theorem flX3_153 : Cond.methodLink RX3 153 yX4_isFirstOn ∈ jm_tbl := jm_in (tb4 (List.mem_of_getElem? (i := 157) rfl)) rfl
theorem flX3_156 : Cond.fieldLinkNest RX3 156 (TX4 3).1 (TX4 3).2.1 (TX4 3).2.2.1 "FirstComer" ∈ lw_tbl := (tb2 (List.mem_of_getElem? (i := 199) rfl))
theorem flX4_3 : Cond.methodLink RX4 3 Lib.objectInit ∈ jm_tbl := jm_in (tb2 (List.mem_of_getElem? (i := 189) rfl)) rfl
theorem flX4_9 : Cond.fieldLink RX4 9 (TX4 0).1 (TX4 0).2.1 (TX4 0).2.2.1 ∈ jm_tbl := jm_in (tb2 (List.mem_of_getElem? (i := 190) rfl)) rfl
theorem flX4_15 : Cond.fieldLink RX4 15 (TX4 1).1 (TX4 1).2.1 (TX4 1).2.2.1 ∈ jm_tbl := jm_in (tb2 (List.mem_of_getElem? (i := 192) rfl)) rfl
theorem flX4_19 : Cond.fieldLink RX4 19 (TX4 2).1 (TX4 2).2.1 (TX4 2).2.2.1 ∈ jm_tbl := jm_in (tb2 (List.mem_of_getElem? (i := 194) rfl)) rfl
theorem flX4_23 : Cond.fieldLink RX4 23 (TX4 3).1 (TX4 3).2.1 (TX4 3).2.2.1 ∈ jm_tbl := jm_in (tb2 (List.mem_of_getElem? (i := 197) rfl)) rfl
theorem flX4_26 : Cond.fieldLink RX4 26 (TX4 4).1 (TX4 4).2.1 (TX4 4).2.2.1 ∈ jm_tbl := jm_in (tb2 (List.mem_of_getElem? (i := 201) rfl)) rfl
theorem flX4_29 : Cond.fieldLink RX4 29 (TX4 5).1 (TX4 5).2.1 (TX4 5).2.2.1 ∈ jm_tbl := jm_in (tb2 (List.mem_of_getElem? (i := 203) rfl)) rfl
theorem flX4_32 : Cond.fieldLink RX4 32 (TX4 6).1 (TX4 6).2.1 (TX4 6).2.2.1 ∈ jm_tbl := jm_in (tb2 (List.mem_of_getElem? (i := 206) rfl)) rfl
theorem flX4_35 : Cond.fieldLink RX4 35 (TX4 7).1 (TX4 7).2.1 (TX4 7).2.2.1 ∈ jm_tbl := jm_in (tb2 (List.mem_of_getElem? (i := 208) rfl)) rfl
theorem flX4_38 : Cond.fieldLink RX4 38 (TX4 8).1 (TX4 8).2.1 (TX4 8).2.2.1 ∈ jm_tbl := jm_in (tb2 (List.mem_of_getElem? (i := 210) rfl)) rfl
theorem flX4_41 : Cond.fieldLink RX4 41 (TX4 9).1 (TX4 9).2.1 (TX4 9).2.2.1 ∈ jm_tbl := jm_in (tb2 (List.mem_of_getElem? (i := 212) rfl)) rfl
theorem flX4_44 : Cond.fieldLink RX4 44 (TX4 10).1 (TX4 10).2.1 (TX4 10).2.2.1 ∈ jm_tbl := jm_in (tb2 (List.mem_of_getElem? (i := 214) rfl)) rfl
theorem flX4_48 : Cond.fieldLink RX4 48 (TX4 11).1 (TX4 11).2.1 (TX4 11).2.2.1 ∈ jm_tbl := jm_in (tb2 (List.mem_of_getElem? (i := 215) rfl)) rfl
theorem flX4_51 : Cond.fieldLink RX4 51 (TX4 12).1 (TX4 12).2.1 (TX4 12).2.2.1 ∈ jm_tbl := jm_in (tb2 (List.mem_of_getElem? (i := 217) rfl)) rfl
theorem flX4_54 : Cond.fieldLink RX4 54 (TX4 13).1 (TX4 13).2.1 (TX4 13).2.2.1 ∈ jm_tbl := jm_in (tb2 (List.mem_of_getElem? (i := 220) rfl)) rfl
theorem flX4_57 : Cond.fieldLink RX4 57 (TX4 14).1 (TX4 14).2.1 (TX4 14).2.2.1 ∈ jm_tbl := jm_in (tb2 (List.mem_of_getElem? (i := 221) rfl)) rfl
theorem flX4_60 : Cond.fieldLink RX4 60 (TX4 15).1 (TX4 15).2.1 (TX4 15).2.2.1 ∈ jm_tbl := jm_in (tb2 (List.mem_of_getElem? (i := 225) rfl)) rfl
theorem flX4_64 : Cond.fieldLink RX4 64 (TX4 16).1 (TX4 16).2.1 (TX4 16).2.2.1 ∈ jm_tbl := jm_in (tb2 (List.mem_of_getElem? (i := 228) rfl)) rfl
theorem flX4_67 : Cond.fieldLinkNest RX4 67 "FirstComer" "SETS_WITH" "[J" "FirstComer" ∈ lw_tbl := (tb4 (List.mem_of_getElem? (i := 1) rfl))
theorem flX5_3 : Cond.methodLink RX5 3 Lib.objectInit ∈ jm_tbl := jm_in (tb5 (List.mem_of_getElem? (i := 230) rfl)) rfl
theorem flX5_9 : Cond.classLink RX5 9 RX1 ∈ jm_tbl := jm_in (tb5 (List.mem_of_getElem? (i := 231) rfl)) rfl
theorem flX5_11 : Cond.methodLinkNest RX5 11 yX1_init "FirstComer" ∈ lw_tbl := (tb5 (List.mem_of_getElem? (i := 232) rfl))
theorem flX5_12 : Cond.fieldLink RX5 12 (TX5 0).1 (TX5 0).2.1 (TX5 0).2.2.1 ∈ jm_tbl := jm_in (tb5 (List.mem_of_getElem? (i := 233) rfl)) rfl
theorem flX5_18 : Cond.fieldLink RX5 18 (TX5 1).1 (TX5 1).2.1 (TX5 1).2.2.1 ∈ jm_tbl := jm_in (tb5 (List.mem_of_getElem? (i := 234) rfl)) rfl
theorem flX5_22 : Cond.fieldLink RX5 22 (TX5 2).1 (TX5 2).2.1 (TX5 2).2.2.1 ∈ jm_tbl := jm_in (tb5 (List.mem_of_getElem? (i := 235) rfl)) rfl
theorem flX5_26 : Cond.fieldLinkNest RX5 26 (TX9 5).1 (TX9 5).2.1 (TX9 5).2.2.1 "FirstComer" ∈ lw_tbl := (tb1 (List.mem_of_getElem? (i := 47) rfl))
theorem flX5_31 : Cond.fieldLink RX5 31 (TX5 3).1 (TX5 3).2.1 (TX5 3).2.2.1 ∈ jm_tbl := jm_in (tb5 (List.mem_of_getElem? (i := 237) rfl)) rfl
theorem flX5_32 : Cond.fieldLinkNest RX5 32 (TX9 8).1 (TX9 8).2.1 (TX9 8).2.2.1 "FirstComer" ∈ lw_tbl := (tb1 (List.mem_of_getElem? (i := 55) rfl))
theorem flX5_35 : Cond.fieldLink RX5 35 (TX5 4).1 (TX5 4).2.1 (TX5 4).2.2.1 ∈ jm_tbl := jm_in (tb5 (List.mem_of_getElem? (i := 238) rfl)) rfl
theorem flX5_36 : Cond.fieldLink RX5 36 (TX5 5).1 (TX5 5).2.1 (TX5 5).2.2.1 ∈ jm_tbl := jm_in (tb5 (List.mem_of_getElem? (i := 239) rfl)) rfl
theorem flX5_39 : Cond.methodLink RX5 39 yX1_copyAll ∈ jm_tbl := jm_in (tb6 (List.mem_of_getElem? (i := 18) rfl)) rfl
theorem flX5_43 : Cond.fieldLinkNest RX5 43 (TX7 4).1 (TX7 4).2.1 (TX7 4).2.2.1 "FirstComer" ∈ lw_tbl := (tb4 (List.mem_of_getElem? (i := 100) rfl))
theorem flX5_48 : Cond.methodLink RX5 48 arraycopyName ∈ jm_tbl := jm_in (tb5 (List.mem_of_getElem? (i := 225) rfl)) rfl
theorem flX5_54 : Cond.methodLink RX5 54 yX1_copyParcel ∈ jm_tbl := jm_in (tb5 (List.mem_of_getElem? (i := 221) rfl)) rfl
theorem flX6_3 : Cond.methodLink RX6 3 Lib.objectInit ∈ jm_tbl := jm_in (tb2 (List.mem_of_getElem? (i := 77) rfl)) rfl
theorem flX6_9 : Cond.classLink RX6 9 RX0 ∈ jm_tbl := jm_in (tb2 (List.mem_of_getElem? (i := 78) rfl)) rfl
theorem flX6_11 : Cond.fieldLink RX6 11 (TX6 4).1 (TX6 4).2.1 (TX6 4).2.2.1 ∈ jm_tbl := jm_in (tb2 (List.mem_of_getElem? (i := 84) rfl)) rfl
theorem flX6_17 : Cond.fieldLink RX6 17 (TX6 5).1 (TX6 5).2.1 (TX6 5).2.2.1 ∈ jm_tbl := jm_in (tb2 (List.mem_of_getElem? (i := 85) rfl)) rfl
theorem flX6_21 : Cond.fieldLink RX6 21 (TX6 12).1 (TX6 12).2.1 (TX6 12).2.2.1 ∈ jm_tbl := jm_in (tb2 (List.mem_of_getElem? (i := 93) rfl)) rfl
theorem flX6_25 : Cond.fieldLink RX6 25 (TX6 0).1 (TX6 0).2.1 (TX6 0).2.2.1 ∈ jm_tbl := jm_in (tb2 (List.mem_of_getElem? (i := 80) rfl)) rfl
theorem flX6_29 : Cond.fieldLink RX6 29 (TX6 1).1 (TX6 1).2.1 (TX6 1).2.2.1 ∈ jm_tbl := jm_in (tb2 (List.mem_of_getElem? (i := 81) rfl)) rfl
theorem flX6_33 : Cond.fieldLink RX6 33 (TX6 2).1 (TX6 2).2.1 (TX6 2).2.2.1 ∈ jm_tbl := jm_in (tb2 (List.mem_of_getElem? (i := 82) rfl)) rfl
theorem flX6_37 : Cond.fieldLink RX6 37 (TX6 3).1 (TX6 3).2.1 (TX6 3).2.2.1 ∈ jm_tbl := jm_in (tb2 (List.mem_of_getElem? (i := 83) rfl)) rfl
theorem flX6_41 : Cond.fieldLink RX6 41 (TX6 6).1 (TX6 6).2.1 (TX6 6).2.2.1 ∈ jm_tbl := jm_in (tb2 (List.mem_of_getElem? (i := 86) rfl)) rfl
theorem flX6_44 : Cond.methodLinkNest RX6 44 yX0_init "FirstComer" ∈ lw_tbl := (tb5 (List.mem_of_getElem? (i := 171) rfl))
theorem flX6_45 : Cond.methodLink RX6 45 yX0_copyAll ∈ jm_tbl := jm_in (tb5 (List.mem_of_getElem? (i := 172) rfl)) rfl
theorem flX6_49 : Cond.fieldLink RX6 49 (TX6 7).1 (TX6 7).2.1 (TX6 7).2.2.1 ∈ jm_tbl := jm_in (tb2 (List.mem_of_getElem? (i := 88) rfl)) rfl
theorem flX6_52 : Cond.fieldLink RX6 52 (TX6 8).1 (TX6 8).2.1 (TX6 8).2.2.1 ∈ jm_tbl := jm_in (tb2 (List.mem_of_getElem? (i := 89) rfl)) rfl
theorem flX6_55 : Cond.fieldLink RX6 55 (TX6 9).1 (TX6 9).2.1 (TX6 9).2.2.1 ∈ jm_tbl := jm_in (tb2 (List.mem_of_getElem? (i := 90) rfl)) rfl
theorem flX6_58 : Cond.fieldLink RX6 58 (TX6 10).1 (TX6 10).2.1 (TX6 10).2.2.1 ∈ jm_tbl := jm_in (tb2 (List.mem_of_getElem? (i := 91) rfl)) rfl
theorem flX6_61 : Cond.fieldLinkNest RX6 61 (TX9 9).1 (TX9 9).2.1 (TX9 9).2.2.1 "FirstComer" ∈ lw_tbl := (tb1 (List.mem_of_getElem? (i := 60) rfl))
theorem flX6_66 : Cond.methodLink RX6 66 yX6_honestSets ∈ jm_tbl := jm_in (tb5 (List.mem_of_getElem? (i := 181) rfl)) rfl
theorem flX6_70 : Cond.methodLink RX6 70 yX6_slySets ∈ jm_tbl := jm_in (tb5 (List.mem_of_getElem? (i := 191) rfl)) rfl
theorem flX6_76 : Cond.methodLink RX6 76 yX6_leastOf ∈ jm_tbl := jm_in (tb5 (List.mem_of_getElem? (i := 205) rfl)) rfl
theorem flX6_80 : Cond.fieldLink RX6 80 (TX6 11).1 (TX6 11).2.1 (TX6 11).2.2.1 ∈ jm_tbl := jm_in (tb2 (List.mem_of_getElem? (i := 92) rfl)) rfl
theorem flX6_83 : Cond.fieldLinkNest RX6 83 (TX3 5).1 (TX3 5).2.1 (TX3 5).2.2.1 "FirstComer" ∈ lw_tbl := (tb1 (List.mem_of_getElem? (i := 209) rfl))
theorem flX6_89 : Cond.fieldLinkNest RX6 89 (TX4 14).1 (TX4 14).2.1 (TX4 14).2.2.1 "FirstComer" ∈ lw_tbl := (tb2 (List.mem_of_getElem? (i := 223) rfl))
theorem flX6_94 : Cond.methodLink RX6 94 yX0_canBe ∈ jm_tbl := jm_in (tb5 (List.mem_of_getElem? (i := 186) rfl)) rfl
theorem flX6_98 : Cond.fieldLinkNest RX6 98 (TX0 0).1 (TX0 0).2.1 (TX0 0).2.2.1 "FirstComer" ∈ lw_tbl := (tb1 (List.mem_of_getElem? (i := 155) rfl))
theorem flX6_99 : Cond.fieldLinkNest RX6 99 (TX0 1).1 (TX0 1).2.1 (TX0 1).2.2.1 "FirstComer" ∈ lw_tbl := (tb1 (List.mem_of_getElem? (i := 160) rfl))
theorem flX6_102 : Cond.methodLink RX6 102 yX3_settle ∈ jm_tbl := jm_in (tb5 (List.mem_of_getElem? (i := 187) rfl)) rfl
theorem flX6_106 : Cond.methodLink RX6 106 yX3_ask ∈ jm_tbl := jm_in (tb5 (List.mem_of_getElem? (i := 188) rfl)) rfl
theorem flX6_110 : Cond.methodLink RX6 110 yX3_openSets ∈ jm_tbl := jm_in (tb5 (List.mem_of_getElem? (i := 190) rfl)) rfl
theorem flX6_114 : Cond.methodLink RX6 114 yX10_begin ∈ jm_tbl := jm_in (tb5 (List.mem_of_getElem? (i := 195) rfl)) rfl
theorem flX6_120 : Cond.fieldLinkNest RX6 120 (TX10 16).1 (TX10 16).2.1 (TX10 16).2.2.1 "FirstComer" ∈ lw_tbl := (tb2 (List.mem_of_getElem? (i := 27) rfl))
theorem flX6_123 : Cond.methodLink RX6 123 yX10_place ∈ jm_tbl := jm_in (tb5 (List.mem_of_getElem? (i := 196) rfl)) rfl
theorem flX6_127 : Cond.methodLink RX6 127 yX10_turnTo ∈ jm_tbl := jm_in (tb5 (List.mem_of_getElem? (i := 197) rfl)) rfl
theorem flX6_130 : Cond.methodLink RX6 130 yX10_left ∈ jm_tbl := jm_in (tb5 (List.mem_of_getElem? (i := 198) rfl)) rfl
theorem flX6_134 : Cond.methodLink RX6 134 yX10_openSets ∈ jm_tbl := jm_in (tb5 (List.mem_of_getElem? (i := 199) rfl)) rfl
theorem flX6_137 : Cond.methodLink RX6 137 yX6_spread ∈ jm_tbl := jm_in (tb5 (List.mem_of_getElem? (i := 200) rfl)) rfl
theorem flX6_140 : Cond.methodLink RX6 140 yX10_behind ∈ jm_tbl := jm_in (tb5 (List.mem_of_getElem? (i := 204) rfl)) rfl
theorem flX6_144 : Cond.methodLink RX6 144 yJ6_bitCount_0f7a4 ∈ jm_tbl := jm_in (tb5 (List.mem_of_getElem? (i := 208) rfl)) rfl
theorem flX7_3 : Cond.methodLink RX7 3 Lib.objectInit ∈ jm_tbl := jm_in (tb4 (List.mem_of_getElem? (i := 89) rfl)) rfl
theorem flX7_9 : Cond.classLink RX7 9 RX0 ∈ jm_tbl := jm_in (tb4 (List.mem_of_getElem? (i := 90) rfl)) rfl
theorem flX7_11 : Cond.methodLinkNest RX7 11 yX0_init "FirstComer" ∈ lw_tbl := (tb4 (List.mem_of_getElem? (i := 91) rfl))
theorem flX7_12 : Cond.fieldLink RX7 12 (TX7 0).1 (TX7 0).2.1 (TX7 0).2.2.1 ∈ jm_tbl := jm_in (tb4 (List.mem_of_getElem? (i := 92) rfl)) rfl
theorem flX7_18 : Cond.fieldLink RX7 18 (TX7 1).1 (TX7 1).2.1 (TX7 1).2.2.1 ∈ jm_tbl := jm_in (tb4 (List.mem_of_getElem? (i := 94) rfl)) rfl
theorem flX7_22 : Cond.fieldLink RX7 22 (TX7 2).1 (TX7 2).2.1 (TX7 2).2.2.1 ∈ jm_tbl := jm_in (tb4 (List.mem_of_getElem? (i := 96) rfl)) rfl
theorem flX7_25 : Cond.fieldLink RX7 25 (TX7 3).1 (TX7 3).2.1 (TX7 3).2.2.1 ∈ jm_tbl := jm_in (tb4 (List.mem_of_getElem? (i := 98) rfl)) rfl
theorem flX7_28 : Cond.fieldLink RX7 28 (TX7 4).1 (TX7 4).2.1 (TX7 4).2.2.1 ∈ jm_tbl := jm_in (tb4 (List.mem_of_getElem? (i := 99) rfl)) rfl
theorem flX7_31 : Cond.methodLink RX7 31 yX0_copyAll ∈ jm_tbl := jm_in (tb4 (List.mem_of_getElem? (i := 165) rfl)) rfl
theorem flX7_35 : Cond.fieldLink RX7 35 (TX7 5).1 (TX7 5).2.1 (TX7 5).2.2.1 ∈ jm_tbl := jm_in (tb4 (List.mem_of_getElem? (i := 102) rfl)) rfl
theorem flX7_39 : Cond.fieldLinkNest RX7 39 (TX3 8).1 (TX3 8).2.1 (TX3 8).2.2.1 "FirstComer" ∈ lw_tbl := (tb1 (List.mem_of_getElem? (i := 214) rfl))
theorem flX7_45 : Cond.fieldLink RX7 45 (TX7 6).1 (TX7 6).2.1 (TX7 6).2.2.1 ∈ jm_tbl := jm_in (tb4 (List.mem_of_getElem? (i := 104) rfl)) rfl
theorem flX7_46 : Cond.fieldLinkNest RX7 46 (TX0 2).1 (TX0 2).2.1 (TX0 2).2.2.1 "FirstComer" ∈ lw_tbl := (tb1 (List.mem_of_getElem? (i := 162) rfl))
theorem flX7_49 : Cond.methodLink RX7 49 yX3_rankBy ∈ jm_tbl := jm_in (tb4 (List.mem_of_getElem? (i := 170) rfl)) rfl
theorem flX7_53 : Cond.fieldLink RX7 53 (TX7 7).1 (TX7 7).2.1 (TX7 7).2.2.1 ∈ jm_tbl := jm_in (tb4 (List.mem_of_getElem? (i := 105) rfl)) rfl
theorem flX7_56 : Cond.fieldLinkNest RX7 56 (TX3 5).1 (TX3 5).2.1 (TX3 5).2.2.1 "FirstComer" ∈ lw_tbl := (tb1 (List.mem_of_getElem? (i := 208) rfl))
theorem flX7_60 : Cond.fieldLinkNest RX7 60 (TX4 15).1 (TX4 15).2.1 (TX4 15).2.2.1 "FirstComer" ∈ lw_tbl := (tb2 (List.mem_of_getElem? (i := 226) rfl))
theorem flX7_65 : Cond.fieldLink RX7 65 (TX7 8).1 (TX7 8).2.1 (TX7 8).2.2.1 ∈ jm_tbl := jm_in (tb4 (List.mem_of_getElem? (i := 106) rfl)) rfl
theorem flX7_68 : Cond.fieldLinkNest RX7 68 (TX3 9).1 (TX3 9).2.1 (TX3 9).2.2.1 "FirstComer" ∈ lw_tbl := (tb1 (List.mem_of_getElem? (i := 216) rfl))
theorem flX7_71 : Cond.methodLink RX7 71 yX7_keepComer ∈ jm_tbl := jm_in (tb4 (List.mem_of_getElem? (i := 174) rfl)) rfl
theorem flX7_75 : Cond.fieldLinkNest RX7 75 (TX0 6).1 (TX0 6).2.1 (TX0 6).2.2.1 "FirstComer" ∈ lw_tbl := (tb1 (List.mem_of_getElem? (i := 177) rfl))
theorem flX7_78 : Cond.fieldLinkNest RX7 78 (TX3 4).1 (TX3 4).2.1 (TX3 4).2.2.1 "FirstComer" ∈ lw_tbl := (tb1 (List.mem_of_getElem? (i := 206) rfl))
theorem flX7_81 : Cond.fieldLinkNest RX7 81 (TX4 3).1 (TX4 3).2.1 (TX4 3).2.2.1 "FirstComer" ∈ lw_tbl := (tb2 (List.mem_of_getElem? (i := 198) rfl))
theorem flX7_84 : Cond.fieldLinkNest RX7 84 (TX4 2).1 (TX4 2).2.1 (TX4 2).2.2.1 "FirstComer" ∈ lw_tbl := (tb2 (List.mem_of_getElem? (i := 195) rfl))
theorem flX7_85 : Cond.fieldLinkNest RX7 85 (TX4 5).1 (TX4 5).2.1 (TX4 5).2.2.1 "FirstComer" ∈ lw_tbl := (tb2 (List.mem_of_getElem? (i := 204) rfl))
theorem flX7_86 : Cond.fieldLinkNest RX7 86 (TX4 16).1 (TX4 16).2.1 (TX4 16).2.2.1 "FirstComer" ∈ lw_tbl := (tb2 (List.mem_of_getElem? (i := 229) rfl))
theorem flX7_89 : Cond.fieldLinkNest RX7 89 (TX3 0).1 (TX3 0).2.1 (TX3 0).2.2.1 "FirstComer" ∈ lw_tbl := (tb1 (List.mem_of_getElem? (i := 201) rfl))
theorem flX7_93 : Cond.fieldLinkNest RX7 93 (TX3 6).1 (TX3 6).2.1 (TX3 6).2.2.1 "FirstComer" ∈ lw_tbl := (tb1 (List.mem_of_getElem? (i := 212) rfl))
theorem flX7_97 : Cond.fieldLinkNest RX7 97 (TX0 0).1 (TX0 0).2.1 (TX0 0).2.2.1 "FirstComer" ∈ lw_tbl := (tb1 (List.mem_of_getElem? (i := 154) rfl))
theorem flX7_100 : Cond.methodLink RX7 100 yX9_shareOf ∈ jm_tbl := jm_in (tb4 (List.mem_of_getElem? (i := 178) rfl)) rfl
theorem flX7_106 : Cond.fieldLinkNest RX7 106 (TX0 1).1 (TX0 1).2.1 (TX0 1).2.2.1 "FirstComer" ∈ lw_tbl := (tb1 (List.mem_of_getElem? (i := 159) rfl))
theorem flX7_109 : Cond.fieldLinkNest RX7 109 (TX0 3).1 (TX0 3).2.1 (TX0 3).2.2.1 "FirstComer" ∈ lw_tbl := (tb1 (List.mem_of_getElem? (i := 167) rfl))
theorem flX7_112 : Cond.fieldLinkNest RX7 112 (TX0 4).1 (TX0 4).2.1 (TX0 4).2.2.1 "FirstComer" ∈ lw_tbl := (tb1 (List.mem_of_getElem? (i := 171) rfl))
theorem flX7_115 : Cond.fieldLinkNest RX7 115 (TX0 5).1 (TX0 5).2.1 (TX0 5).2.2.1 "FirstComer" ∈ lw_tbl := (tb1 (List.mem_of_getElem? (i := 175) rfl))
theorem flX7_118 : Cond.methodLink RX7 118 yX7_priceAsked ∈ jm_tbl := jm_in (tb5 (List.mem_of_getElem? (i := 11) rfl)) rfl
theorem flX7_122 : Cond.methodLink RX7 122 yX7_isTaken ∈ jm_tbl := jm_in (tb5 (List.mem_of_getElem? (i := 1) rfl)) rfl
theorem flX7_126 : Cond.methodLink RX7 126 yX7_isWaived ∈ jm_tbl := jm_in (tb5 (List.mem_of_getElem? (i := 2) rfl)) rfl
theorem flX7_130 : Cond.methodLink RX7 130 yX7_isLate ∈ jm_tbl := jm_in (tb5 (List.mem_of_getElem? (i := 3) rfl)) rfl
theorem flX7_134 : Cond.methodLink RX7 134 yX7_isBehindAnother ∈ jm_tbl := jm_in (tb5 (List.mem_of_getElem? (i := 7) rfl)) rfl
theorem flX7_137 : Cond.methodLink RX7 137 yX1_of ∈ jm_tbl := jm_in (tb5 (List.mem_of_getElem? (i := 15) rfl)) rfl
theorem flX7_143 : Cond.methodLink RX7 143 yX7_weightsOf ∈ jm_tbl := jm_in (tb5 (List.mem_of_getElem? (i := 24) rfl)) rfl
theorem flX8_3 : Cond.methodLink RX8 3 Lib.objectInit ∈ jm_tbl := jm_in (tb1 (List.mem_of_getElem? (i := 112) rfl)) rfl
theorem flX8_9 : Cond.fieldLink RX8 9 (TX8 0).1 (TX8 0).2.1 (TX8 0).2.2.1 ∈ jm_tbl := jm_in (tb1 (List.mem_of_getElem? (i := 113) rfl)) rfl
theorem flX8_15 : Cond.fieldLink RX8 15 (TX8 1).1 (TX8 1).2.1 (TX8 1).2.2.1 ∈ jm_tbl := jm_in (tb1 (List.mem_of_getElem? (i := 114) rfl)) rfl
theorem flX8_19 : Cond.fieldLink RX8 19 (TX8 9).1 (TX8 9).2.1 (TX8 9).2.2.1 ∈ jm_tbl := jm_in (tb1 (List.mem_of_getElem? (i := 123) rfl)) rfl
theorem flX8_23 : Cond.methodLink RX8 23 yX4_empty ∈ jm_tbl := jm_in (tb3 (List.mem_of_getElem? (i := 159) rfl)) rfl
theorem flX8_28 : Cond.fieldLink RX8 28 (TX8 7).1 (TX8 7).2.1 (TX8 7).2.2.1 ∈ jm_tbl := jm_in (tb1 (List.mem_of_getElem? (i := 121) rfl)) rfl
theorem flX8_32 : Cond.fieldLink RX8 32 (TX8 8).1 (TX8 8).2.1 (TX8 8).2.2.1 ∈ jm_tbl := jm_in (tb1 (List.mem_of_getElem? (i := 122) rfl)) rfl
theorem flX8_35 : Cond.fieldLink RX8 35 (TX8 6).1 (TX8 6).2.1 (TX8 6).2.2.1 ∈ jm_tbl := jm_in (tb1 (List.mem_of_getElem? (i := 120) rfl)) rfl
theorem flX8_38 : Cond.fieldLink RX8 38 (TX8 2).1 (TX8 2).2.1 (TX8 2).2.2.1 ∈ jm_tbl := jm_in (tb1 (List.mem_of_getElem? (i := 116) rfl)) rfl
theorem flX8_41 : Cond.methodLink RX8 41 yX8_next ∈ jm_tbl := jm_in (tb3 (List.mem_of_getElem? (i := 163) rfl)) rfl
theorem flX8_44 : Cond.fieldLink RX8 44 (TX8 4).1 (TX8 4).2.1 (TX8 4).2.2.1 ∈ jm_tbl := jm_in (tb1 (List.mem_of_getElem? (i := 118) rfl)) rfl
theorem flX8_47 : Cond.fieldLinkNest RX8 47 (TX4 14).1 (TX4 14).2.1 (TX4 14).2.2.1 "FirstComer" ∈ lw_tbl := (tb2 (List.mem_of_getElem? (i := 222) rfl))
theorem flX8_50 : Cond.methodLink RX8 50 yX8_wrong ∈ jm_tbl := jm_in (tb3 (List.mem_of_getElem? (i := 229) rfl)) rfl
theorem flX8_54 : Cond.methodLink RX8 54 yX8_readRule ∈ jm_tbl := jm_in (tb3 (List.mem_of_getElem? (i := 233) rfl)) rfl
theorem flX8_58 : Cond.methodLink RX8 58 yX8_readPrice ∈ jm_tbl := jm_in (tb4 (List.mem_of_getElem? (i := 39) rfl)) rfl
theorem flX8_61 : Cond.methodLink RX8 61 yX8_readParts ∈ jm_tbl := jm_in (tb4 (List.mem_of_getElem? (i := 43) rfl)) rfl
theorem flX8_64 : Cond.fieldLink RX8 64 (TX8 3).1 (TX8 3).2.1 (TX8 3).2.2.1 ∈ jm_tbl := jm_in (tb1 (List.mem_of_getElem? (i := 117) rfl)) rfl
theorem flX8_67 : Cond.methodLink RX8 67 yX8_isLetter ∈ jm_tbl := jm_in (tb3 (List.mem_of_getElem? (i := 167) rfl)) rfl
theorem flX8_71 : Cond.methodLink RX8 71 yX8_takeWord ∈ jm_tbl := jm_in (tb3 (List.mem_of_getElem? (i := 170) rfl)) rfl
theorem flX8_74 : Cond.methodLink RX8 74 yX8_isDigit ∈ jm_tbl := jm_in (tb3 (List.mem_of_getElem? (i := 219) rfl)) rfl
theorem flX8_77 : Cond.methodLink RX8 77 yX8_takeNumber ∈ jm_tbl := jm_in (tb3 (List.mem_of_getElem? (i := 222) rfl)) rfl
theorem flX8_80 : Cond.methodLink RX8 80 yX8_isSign ∈ jm_tbl := jm_in (tb3 (List.mem_of_getElem? (i := 226) rfl)) rfl
theorem flX8_83 : Cond.methodLink RX8 83 yX8_isWord ∈ jm_tbl := jm_in (tb3 (List.mem_of_getElem? (i := 174) rfl)) rfl
theorem flX8_88 : Cond.methodLink RX8 88 yJ0_charAt_5068e ∈ jm_tbl := jm_in (tb3 (List.mem_of_getElem? (i := 179) rfl)) rfl
theorem flX8_94 : Cond.fieldLink RX8 94 (TX8 5).1 (TX8 5).2.1 (TX8 5).2.2.1 ∈ jm_tbl := jm_in (tb1 (List.mem_of_getElem? (i := 119) rfl)) rfl
theorem flX8_97 : Cond.fieldLinkNest RX8 97 (TX4 15).1 (TX4 15).2.1 (TX4 15).2.2.1 "FirstComer" ∈ lw_tbl := (tb2 (List.mem_of_getElem? (i := 227) rfl))
theorem flX8_100 : Cond.methodLink RX8 100 yX8_want ∈ jm_tbl := jm_in (tb4 (List.mem_of_getElem? (i := 8) rfl)) rfl
theorem flX8_103 : Cond.fieldLinkNest RX8 103 (TX4 16).1 (TX4 16).2.1 (TX4 16).2.2.1 "FirstComer" ∈ lw_tbl := (tb2 (List.mem_of_getElem? (i := 230) rfl))
theorem flX8_106 : Cond.fieldLinkNest RX8 106 (TX4 12).1 (TX4 12).2.1 (TX4 12).2.2.1 "FirstComer" ∈ lw_tbl := (tb2 (List.mem_of_getElem? (i := 218) rfl))
theorem flX8_109 : Cond.methodLink RX8 109 yX4_addLine ∈ jm_tbl := jm_in (tb3 (List.mem_of_getElem? (i := 237) rfl)) rfl
theorem flX8_113 : Cond.methodLink RX8 113 yX8_readWho ∈ jm_tbl := jm_in (tb4 (List.mem_of_getElem? (i := 4) rfl)) rfl
theorem flX8_116 : Cond.methodLink RX8 116 yX8_readForms ∈ jm_tbl := jm_in (tb4 (List.mem_of_getElem? (i := 12) rfl)) rfl
theorem flX8_119 : Cond.methodLink RX8 119 yX8_readWithin ∈ jm_tbl := jm_in (tb4 (List.mem_of_getElem? (i := 16) rfl)) rfl
theorem flX8_122 : Cond.methodLink RX8 122 yX8_readLevel ∈ jm_tbl := jm_in (tb4 (List.mem_of_getElem? (i := 20) rfl)) rfl
theorem flX8_126 : Cond.methodLink RX8 126 yX4_endCondition ∈ jm_tbl := jm_in (tb4 (List.mem_of_getElem? (i := 35) rfl)) rfl
theorem flX8_129 : Cond.fieldLinkNest RX8 129 (TX4 3).1 (TX4 3).2.1 (TX4 3).2.2.1 "FirstComer" ∈ lw_tbl := (tb2 (List.mem_of_getElem? (i := 200) rfl))
theorem flX8_133 : Cond.fieldLinkNest RX8 133 (TX4 4).1 (TX4 4).2.1 (TX4 4).2.2.1 "FirstComer" ∈ lw_tbl := (tb2 (List.mem_of_getElem? (i := 202) rfl))
theorem flX8_136 : Cond.fieldLinkNest RX8 136 (TX4 5).1 (TX4 5).2.1 (TX4 5).2.2.1 "FirstComer" ∈ lw_tbl := (tb2 (List.mem_of_getElem? (i := 205) rfl))
theorem flX8_139 : Cond.methodLink RX8 139 yX8_readPiece ∈ jm_tbl := jm_in (tb4 (List.mem_of_getElem? (i := 24) rfl)) rfl
theorem flX8_142 : Cond.methodLink RX8 142 yX8_levelOf ∈ jm_tbl := jm_in (tb4 (List.mem_of_getElem? (i := 32) rfl)) rfl
theorem flX8_146 : Cond.methodLink RX8 146 yX4_addCode ∈ jm_tbl := jm_in (tb4 (List.mem_of_getElem? (i := 28) rfl)) rfl
theorem flX9_3 : Cond.methodLink RX9 3 Lib.objectInit ∈ jm_tbl := jm_in (tb1 (List.mem_of_getElem? (i := 37) rfl)) rfl
theorem flX9_9 : Cond.fieldLink RX9 9 (TX9 0).1 (TX9 0).2.1 (TX9 0).2.2.1 ∈ jm_tbl := jm_in (tb1 (List.mem_of_getElem? (i := 39) rfl)) rfl
theorem flX9_15 : Cond.fieldLink RX9 15 (TX9 1).1 (TX9 1).2.1 (TX9 1).2.2.1 ∈ jm_tbl := jm_in (tb1 (List.mem_of_getElem? (i := 41) rfl)) rfl
theorem flX9_18 : Cond.fieldLink RX9 18 (TX9 2).1 (TX9 2).2.1 (TX9 2).2.2.1 ∈ jm_tbl := jm_in (tb1 (List.mem_of_getElem? (i := 42) rfl)) rfl
theorem flX9_21 : Cond.fieldLink RX9 21 (TX9 3).1 (TX9 3).2.1 (TX9 3).2.2.1 ∈ jm_tbl := jm_in (tb1 (List.mem_of_getElem? (i := 44) rfl)) rfl
theorem flX9_24 : Cond.fieldLink RX9 24 (TX9 4).1 (TX9 4).2.1 (TX9 4).2.2.1 ∈ jm_tbl := jm_in (tb1 (List.mem_of_getElem? (i := 46) rfl)) rfl
theorem flX9_28 : Cond.fieldLink RX9 28 (TX9 7).1 (TX9 7).2.1 (TX9 7).2.2.1 ∈ jm_tbl := jm_in (tb1 (List.mem_of_getElem? (i := 52) rfl)) rfl
theorem flX9_32 : Cond.fieldLink RX9 32 (TX9 5).1 (TX9 5).2.1 (TX9 5).2.2.1 ∈ jm_tbl := jm_in (tb1 (List.mem_of_getElem? (i := 48) rfl)) rfl
theorem flX9_35 : Cond.methodLink RX9 35 yX9_isTold ∈ jm_tbl := jm_in (tb3 (List.mem_of_getElem? (i := 112) rfl)) rfl
theorem flX9_39 : Cond.methodLinkNest RX9 39 yX11_withBit "FirstComer" ∈ lw_tbl := (tb3 (List.mem_of_getElem? (i := 129) rfl))
theorem flX9_43 : Cond.fieldLinkNest RX9 43 (TX1 1).1 (TX1 1).2.1 (TX1 1).2.2.1 "FirstComer" ∈ lw_tbl := (tb1 (List.mem_of_getElem? (i := 93) rfl))
theorem flX9_48 : Cond.methodLink RX9 48 yX1_holdersOf ∈ jm_tbl := jm_in (tb4 (List.mem_of_getElem? (i := 59) rfl)) rfl
theorem flX9_52 : Cond.methodLink RX9 52 yX1_of ∈ jm_tbl := jm_in (tb4 (List.mem_of_getElem? (i := 182) rfl)) rfl
theorem flX9_56 : Cond.methodLink RX9 56 yX1_sumOf ∈ jm_tbl := jm_in (tb4 (List.mem_of_getElem? (i := 183) rfl)) rfl
theorem flX10_3 : Cond.methodLink RX10 3 Lib.objectInit ∈ jm_tbl := jm_in (tb2 (List.mem_of_getElem? (i := 5) rfl)) rfl
theorem flX10_9 : Cond.classLink RX10 9 RX1 ∈ jm_tbl := jm_in (tb2 (List.mem_of_getElem? (i := 6) rfl)) rfl
theorem flX10_11 : Cond.methodLinkNest RX10 11 yX1_init "FirstComer" ∈ lw_tbl := (tb2 (List.mem_of_getElem? (i := 7) rfl))
theorem flX10_12 : Cond.fieldLink RX10 12 (TX10 3).1 (TX10 3).2.1 (TX10 3).2.2.1 ∈ jm_tbl := jm_in (tb2 (List.mem_of_getElem? (i := 13) rfl)) rfl
theorem flX10_18 : Cond.classLink RX10 18 RX0 ∈ jm_tbl := jm_in (tb2 (List.mem_of_getElem? (i := 8) rfl)) rfl
theorem flX10_20 : Cond.methodLinkNest RX10 20 yX0_init "FirstComer" ∈ lw_tbl := (tb2 (List.mem_of_getElem? (i := 9) rfl))
theorem flX10_21 : Cond.fieldLink RX10 21 (TX10 4).1 (TX10 4).2.1 (TX10 4).2.2.1 ∈ jm_tbl := jm_in (tb2 (List.mem_of_getElem? (i := 14) rfl)) rfl
theorem flX10_25 : Cond.fieldLink RX10 25 (TX10 5).1 (TX10 5).2.1 (TX10 5).2.2.1 ∈ jm_tbl := jm_in (tb2 (List.mem_of_getElem? (i := 15) rfl)) rfl
theorem flX10_29 : Cond.fieldLink RX10 29 (TX10 6).1 (TX10 6).2.1 (TX10 6).2.2.1 ∈ jm_tbl := jm_in (tb2 (List.mem_of_getElem? (i := 16) rfl)) rfl
theorem flX10_32 : Cond.fieldLink RX10 32 (TX10 7).1 (TX10 7).2.1 (TX10 7).2.2.1 ∈ jm_tbl := jm_in (tb2 (List.mem_of_getElem? (i := 17) rfl)) rfl
theorem flX10_35 : Cond.fieldLink RX10 35 (TX10 19).1 (TX10 19).2.1 (TX10 19).2.2.1 ∈ jm_tbl := jm_in (tb2 (List.mem_of_getElem? (i := 30) rfl)) rfl
theorem flX10_39 : Cond.fieldLink RX10 39 (TX10 0).1 (TX10 0).2.1 (TX10 0).2.2.1 ∈ jm_tbl := jm_in (tb2 (List.mem_of_getElem? (i := 10) rfl)) rfl
theorem flX10_43 : Cond.fieldLink RX10 43 (TX10 1).1 (TX10 1).2.1 (TX10 1).2.2.1 ∈ jm_tbl := jm_in (tb2 (List.mem_of_getElem? (i := 11) rfl)) rfl
theorem flX10_46 : Cond.fieldLink RX10 46 (TX10 2).1 (TX10 2).2.1 (TX10 2).2.2.1 ∈ jm_tbl := jm_in (tb2 (List.mem_of_getElem? (i := 12) rfl)) rfl
theorem flX10_50 : Cond.fieldLink RX10 50 (TX10 9).1 (TX10 9).2.1 (TX10 9).2.2.1 ∈ jm_tbl := jm_in (tb2 (List.mem_of_getElem? (i := 19) rfl)) rfl
theorem flX10_53 : Cond.fieldLink RX10 53 (TX10 11).1 (TX10 11).2.1 (TX10 11).2.2.1 ∈ jm_tbl := jm_in (tb2 (List.mem_of_getElem? (i := 21) rfl)) rfl
theorem flX10_56 : Cond.fieldLink RX10 56 (TX10 12).1 (TX10 12).2.1 (TX10 12).2.2.1 ∈ jm_tbl := jm_in (tb2 (List.mem_of_getElem? (i := 22) rfl)) rfl
theorem flX10_59 : Cond.fieldLink RX10 59 (TX10 13).1 (TX10 13).2.1 (TX10 13).2.2.1 ∈ jm_tbl := jm_in (tb2 (List.mem_of_getElem? (i := 23) rfl)) rfl
theorem flX10_62 : Cond.fieldLink RX10 62 (TX10 10).1 (TX10 10).2.1 (TX10 10).2.2.1 ∈ jm_tbl := jm_in (tb2 (List.mem_of_getElem? (i := 20) rfl)) rfl
theorem flX10_65 : Cond.methodLink RX10 65 yX1_of ∈ jm_tbl := jm_in (tb5 (List.mem_of_getElem? (i := 47) rfl)) rfl
theorem flX10_69 : Cond.fieldLink RX10 69 (TX10 16).1 (TX10 16).2.1 (TX10 16).2.2.1 ∈ jm_tbl := jm_in (tb2 (List.mem_of_getElem? (i := 26) rfl)) rfl
theorem flX10_72 : Cond.methodLink RX10 72 yX1_copyAll ∈ jm_tbl := jm_in (tb5 (List.mem_of_getElem? (i := 48) rfl)) rfl
theorem flX10_76 : Cond.methodLink RX10 76 yX10_left ∈ jm_tbl := jm_in (tb5 (List.mem_of_getElem? (i := 67) rfl)) rfl
theorem flX10_79 : Cond.methodLink RX10 79 yX1_move ∈ jm_tbl := jm_in (tb5 (List.mem_of_getElem? (i := 71) rfl)) rfl
theorem flX10_83 : Cond.fieldLink RX10 83 (TX10 14).1 (TX10 14).2.1 (TX10 14).2.2.1 ∈ jm_tbl := jm_in (tb2 (List.mem_of_getElem? (i := 24) rfl)) rfl
theorem flX10_86 : Cond.methodLink RX10 86 yX3_settle ∈ jm_tbl := jm_in (tb5 (List.mem_of_getElem? (i := 76) rfl)) rfl
theorem flX10_92 : Cond.fieldLink RX10 92 (TX10 15).1 (TX10 15).2.1 (TX10 15).2.2.1 ∈ jm_tbl := jm_in (tb2 (List.mem_of_getElem? (i := 25) rfl)) rfl
theorem flX10_95 : Cond.methodLink RX10 95 yX0_tellEach ∈ jm_tbl := jm_in (tb5 (List.mem_of_getElem? (i := 81) rfl)) rfl
theorem flX10_99 : Cond.methodLink RX10 99 yX3_ask ∈ jm_tbl := jm_in (tb5 (List.mem_of_getElem? (i := 85) rfl)) rfl
theorem flX10_104 : Cond.methodLink RX10 104 yX3_openSets ∈ jm_tbl := jm_in (tb5 (List.mem_of_getElem? (i := 87) rfl)) rfl
theorem flX10_110 : Cond.fieldLinkNest RX10 110 (TX9 9).1 (TX9 9).2.1 (TX9 9).2.2.1 "FirstComer" ∈ lw_tbl := (tb1 (List.mem_of_getElem? (i := 61) rfl))
theorem flX10_115 : Cond.methodLink RX10 115 yX10_begin ∈ jm_tbl := jm_in (tb5 (List.mem_of_getElem? (i := 43) rfl)) rfl
theorem flX10_118 : Cond.methodLink RX10 118 yX10_search ∈ jm_tbl := jm_in (tb5 (List.mem_of_getElem? (i := 55) rfl)) rfl
theorem flX10_122 : Cond.fieldLink RX10 122 (TX10 18).1 (TX10 18).2.1 (TX10 18).2.2.1 ∈ jm_tbl := jm_in (tb2 (List.mem_of_getElem? (i := 29) rfl)) rfl
theorem flX10_125 : Cond.fieldLink RX10 125 (TX10 8).1 (TX10 8).2.1 (TX10 8).2.2.1 ∈ jm_tbl := jm_in (tb2 (List.mem_of_getElem? (i := 18) rfl)) rfl
theorem flX10_128 : Cond.methodLink RX10 128 yX10_endsBehind ∈ jm_tbl := jm_in (tb5 (List.mem_of_getElem? (i := 59) rfl)) rfl
theorem flX10_132 : Cond.methodLink RX10 132 yX10_spread ∈ jm_tbl := jm_in (tb5 (List.mem_of_getElem? (i := 100) rfl)) rfl
theorem flX10_136 : Cond.methodLink RX10 136 yX10_place ∈ jm_tbl := jm_in (tb5 (List.mem_of_getElem? (i := 63) rfl)) rfl
theorem flX10_139 : Cond.methodLink RX10 139 yX10_turnTo ∈ jm_tbl := jm_in (tb5 (List.mem_of_getElem? (i := 72) rfl)) rfl
theorem flX10_142 : Cond.methodLink RX10 142 yX10_openSets ∈ jm_tbl := jm_in (tb5 (List.mem_of_getElem? (i := 77) rfl)) rfl
theorem flX10_145 : Cond.methodLink RX10 145 yX10_behind ∈ jm_tbl := jm_in (tb5 (List.mem_of_getElem? (i := 92) rfl)) rfl
theorem flX10_149 : Cond.fieldLink RX10 149 (TX10 17).1 (TX10 17).2.1 (TX10 17).2.2.1 ∈ jm_tbl := jm_in (tb2 (List.mem_of_getElem? (i := 28) rfl)) rfl
theorem flX10_152 : Cond.methodLink RX10 152 yX10_keepStep ∈ jm_tbl := jm_in (tb5 (List.mem_of_getElem? (i := 96) rfl)) rfl
theorem flX12_1 : Cond.methodLink RX12 1 Lib.objectInit ∈ jm_tbl := jm_in (tb6 (List.mem_of_getElem? (i := 105) rfl)) rfl
theorem flX12_7 : Cond.fieldLink RX12 7 (TX12 1).1 (TX12 1).2.1 (TX12 1).2.2.1 ∈ jm_tbl := jm_in (tb6 (List.mem_of_getElem? (i := 107) rfl)) rfl
theorem flX12_13 : Cond.fieldLink RX12 13 (TX12 2).1 (TX12 2).2.1 (TX12 2).2.2.1 ∈ jm_tbl := jm_in (tb6 (List.mem_of_getElem? (i := 108) rfl)) rfl
theorem flX12_17 : Cond.fieldLink RX12 17 (TX12 3).1 (TX12 3).2.1 (TX12 3).2.2.1 ∈ jm_tbl := jm_in (tb6 (List.mem_of_getElem? (i := 109) rfl)) rfl
theorem flX12_20 : Cond.fieldLink RX12 20 (TX12 4).1 (TX12 4).2.1 (TX12 4).2.2.1 ∈ jm_tbl := jm_in (tb6 (List.mem_of_getElem? (i := 110) rfl)) rfl
theorem flX12_23 : Cond.fieldLink RX12 23 (TX12 5).1 (TX12 5).2.1 (TX12 5).2.2.1 ∈ jm_tbl := jm_in (tb6 (List.mem_of_getElem? (i := 111) rfl)) rfl
theorem flX12_26 : Cond.fieldLink RX12 26 (TX12 6).1 (TX12 6).2.1 (TX12 6).2.2.1 ∈ jm_tbl := jm_in (tb6 (List.mem_of_getElem? (i := 112) rfl)) rfl
theorem flX12_29 : Cond.fieldLink RX12 29 (TX12 7).1 (TX12 7).2.1 (TX12 7).2.2.1 ∈ jm_tbl := jm_in (tb6 (List.mem_of_getElem? (i := 113) rfl)) rfl
theorem flX12_32 : Cond.fieldLink RX12 32 (TX12 10).1 (TX12 10).2.1 (TX12 10).2.2.1 ∈ jm_tbl := jm_in (tb6 (List.mem_of_getElem? (i := 116) rfl)) rfl
theorem flX12_35 : Cond.fieldLink RX12 35 (TX12 19).1 (TX12 19).2.1 (TX12 19).2.2.1 ∈ jm_tbl := jm_in (tb6 (List.mem_of_getElem? (i := 125) rfl)) rfl
theorem flX12_38 : Cond.fieldLink RX12 38 (TX12 20).1 (TX12 20).2.1 (TX12 20).2.2.1 ∈ jm_tbl := jm_in (tb6 (List.mem_of_getElem? (i := 126) rfl)) rfl
theorem flX12_41 : Cond.fieldLink RX12 41 (TX12 21).1 (TX12 21).2.1 (TX12 21).2.2.1 ∈ jm_tbl := jm_in (tb6 (List.mem_of_getElem? (i := 127) rfl)) rfl
theorem flX12_44 : Cond.fieldLink RX12 44 (TX12 22).1 (TX12 22).2.1 (TX12 22).2.2.1 ∈ jm_tbl := jm_in (tb6 (List.mem_of_getElem? (i := 128) rfl)) rfl
theorem flX12_47 : Cond.fieldLink RX12 47 (TX12 23).1 (TX12 23).2.1 (TX12 23).2.2.1 ∈ jm_tbl := jm_in (tb6 (List.mem_of_getElem? (i := 129) rfl)) rfl
theorem flX12_50 : Cond.fieldLink RX12 50 (TX12 24).1 (TX12 24).2.1 (TX12 24).2.2.1 ∈ jm_tbl := jm_in (tb6 (List.mem_of_getElem? (i := 130) rfl)) rfl
theorem flX12_53 : Cond.fieldLink RX12 53 (TX12 25).1 (TX12 25).2.1 (TX12 25).2.2.1 ∈ jm_tbl := jm_in (tb6 (List.mem_of_getElem? (i := 131) rfl)) rfl
theorem flX12_56 : Cond.fieldLink RX12 56 (TX12 26).1 (TX12 26).2.1 (TX12 26).2.2.1 ∈ jm_tbl := jm_in (tb6 (List.mem_of_getElem? (i := 132) rfl)) rfl
theorem flX12_59 : Cond.fieldLink RX12 59 (TX12 27).1 (TX12 27).2.1 (TX12 27).2.2.1 ∈ jm_tbl := jm_in (tb6 (List.mem_of_getElem? (i := 133) rfl)) rfl
theorem flX12_62 : Cond.fieldLink RX12 62 (TX12 31).1 (TX12 31).2.1 (TX12 31).2.2.1 ∈ jm_tbl := jm_in (tb6 (List.mem_of_getElem? (i := 137) rfl)) rfl
theorem flX12_65 : Cond.fieldLink RX12 65 (TX12 32).1 (TX12 32).2.1 (TX12 32).2.2.1 ∈ jm_tbl := jm_in (tb6 (List.mem_of_getElem? (i := 138) rfl)) rfl
theorem flX12_68 : Cond.fieldLink RX12 68 (TX12 36).1 (TX12 36).2.1 (TX12 36).2.2.1 ∈ jm_tbl := jm_in (tb6 (List.mem_of_getElem? (i := 142) rfl)) rfl
theorem flX12_71 : Cond.fieldLink RX12 71 (TX12 37).1 (TX12 37).2.1 (TX12 37).2.2.1 ∈ jm_tbl := jm_in (tb6 (List.mem_of_getElem? (i := 143) rfl)) rfl
theorem flX12_74 : Cond.fieldLink RX12 74 (TX12 38).1 (TX12 38).2.1 (TX12 38).2.2.1 ∈ jm_tbl := jm_in (tb6 (List.mem_of_getElem? (i := 144) rfl)) rfl
theorem flX12_77 : Cond.fieldLink RX12 77 (TX12 39).1 (TX12 39).2.1 (TX12 39).2.2.1 ∈ jm_tbl := jm_in (tb6 (List.mem_of_getElem? (i := 145) rfl)) rfl
theorem flX12_80 : Cond.fieldLink RX12 80 (TX12 40).1 (TX12 40).2.1 (TX12 40).2.2.1 ∈ jm_tbl := jm_in (tb6 (List.mem_of_getElem? (i := 146) rfl)) rfl
theorem flX12_83 : Cond.fieldLink RX12 83 (TX12 41).1 (TX12 41).2.1 (TX12 41).2.2.1 ∈ jm_tbl := jm_in (tb6 (List.mem_of_getElem? (i := 147) rfl)) rfl
theorem flX12_86 : Cond.fieldLink RX12 86 (TX12 42).1 (TX12 42).2.1 (TX12 42).2.2.1 ∈ jm_tbl := jm_in (tb6 (List.mem_of_getElem? (i := 148) rfl)) rfl
theorem flX12_89 : Cond.fieldLink RX12 89 (TX12 43).1 (TX12 43).2.1 (TX12 43).2.2.1 ∈ jm_tbl := jm_in (tb6 (List.mem_of_getElem? (i := 149) rfl)) rfl
theorem flX12_92 : Cond.fieldLink RX12 92 (TX12 44).1 (TX12 44).2.1 (TX12 44).2.2.1 ∈ jm_tbl := jm_in (tb6 (List.mem_of_getElem? (i := 150) rfl)) rfl
theorem flX12_95 : Cond.fieldLink RX12 95 (TX12 45).1 (TX12 45).2.1 (TX12 45).2.2.1 ∈ jm_tbl := jm_in (tb6 (List.mem_of_getElem? (i := 151) rfl)) rfl
theorem flX12_98 : Cond.fieldLink RX12 98 (TX12 53).1 (TX12 53).2.1 (TX12 53).2.2.1 ∈ jm_tbl := jm_in (tb6 (List.mem_of_getElem? (i := 159) rfl)) rfl
theorem flX12_101 : Cond.fieldLink RX12 101 (TX12 54).1 (TX12 54).2.1 (TX12 54).2.2.1 ∈ jm_tbl := jm_in (tb6 (List.mem_of_getElem? (i := 160) rfl)) rfl
theorem flX12_104 : Cond.fieldLink RX12 104 (TX12 55).1 (TX12 55).2.1 (TX12 55).2.2.1 ∈ jm_tbl := jm_in (tb6 (List.mem_of_getElem? (i := 161) rfl)) rfl
theorem flX12_107 : Cond.fieldLink RX12 107 (TX12 56).1 (TX12 56).2.1 (TX12 56).2.2.1 ∈ jm_tbl := jm_in (tb6 (List.mem_of_getElem? (i := 162) rfl)) rfl
theorem flX12_110 : Cond.fieldLink RX12 110 (TX12 57).1 (TX12 57).2.1 (TX12 57).2.2.1 ∈ jm_tbl := jm_in (tb6 (List.mem_of_getElem? (i := 163) rfl)) rfl
theorem flX12_113 : Cond.fieldLink RX12 113 (TX12 58).1 (TX12 58).2.1 (TX12 58).2.2.1 ∈ jm_tbl := jm_in (tb6 (List.mem_of_getElem? (i := 164) rfl)) rfl
theorem flX12_116 : Cond.fieldLink RX12 116 (TX12 59).1 (TX12 59).2.1 (TX12 59).2.2.1 ∈ jm_tbl := jm_in (tb6 (List.mem_of_getElem? (i := 165) rfl)) rfl
theorem flX12_119 : Cond.fieldLink RX12 119 (TX12 60).1 (TX12 60).2.1 (TX12 60).2.2.1 ∈ jm_tbl := jm_in (tb6 (List.mem_of_getElem? (i := 166) rfl)) rfl
theorem flX12_122 : Cond.fieldLink RX12 122 (TX12 61).1 (TX12 61).2.1 (TX12 61).2.2.1 ∈ jm_tbl := jm_in (tb6 (List.mem_of_getElem? (i := 167) rfl)) rfl
theorem flX12_125 : Cond.fieldLink RX12 125 (TX12 62).1 (TX12 62).2.1 (TX12 62).2.2.1 ∈ jm_tbl := jm_in (tb6 (List.mem_of_getElem? (i := 168) rfl)) rfl
theorem flX12_128 : Cond.fieldLink RX12 128 (TX12 63).1 (TX12 63).2.1 (TX12 63).2.2.1 ∈ jm_tbl := jm_in (tb6 (List.mem_of_getElem? (i := 169) rfl)) rfl
theorem flX12_131 : Cond.fieldLink RX12 131 (TX12 64).1 (TX12 64).2.1 (TX12 64).2.2.1 ∈ jm_tbl := jm_in (tb6 (List.mem_of_getElem? (i := 170) rfl)) rfl
theorem flX12_134 : Cond.fieldLink RX12 134 (TX12 65).1 (TX12 65).2.1 (TX12 65).2.2.1 ∈ jm_tbl := jm_in (tb6 (List.mem_of_getElem? (i := 171) rfl)) rfl
theorem flX12_137 : Cond.fieldLink RX12 137 (TX12 66).1 (TX12 66).2.1 (TX12 66).2.2.1 ∈ jm_tbl := jm_in (tb6 (List.mem_of_getElem? (i := 172) rfl)) rfl
theorem flX12_140 : Cond.fieldLink RX12 140 (TX12 67).1 (TX12 67).2.1 (TX12 67).2.2.1 ∈ jm_tbl := jm_in (tb6 (List.mem_of_getElem? (i := 173) rfl)) rfl
theorem flX12_143 : Cond.fieldLink RX12 143 (TX12 68).1 (TX12 68).2.1 (TX12 68).2.2.1 ∈ jm_tbl := jm_in (tb6 (List.mem_of_getElem? (i := 174) rfl)) rfl
theorem flX12_146 : Cond.fieldLink RX12 146 (TX12 69).1 (TX12 69).2.1 (TX12 69).2.2.1 ∈ jm_tbl := jm_in (tb6 (List.mem_of_getElem? (i := 175) rfl)) rfl
theorem flX12_149 : Cond.fieldLink RX12 149 (TX12 70).1 (TX12 70).2.1 (TX12 70).2.2.1 ∈ jm_tbl := jm_in (tb6 (List.mem_of_getElem? (i := 176) rfl)) rfl
theorem flX12_152 : Cond.fieldLink RX12 152 (TX12 71).1 (TX12 71).2.1 (TX12 71).2.2.1 ∈ jm_tbl := jm_in (tb6 (List.mem_of_getElem? (i := 177) rfl)) rfl
theorem flX12_155 : Cond.fieldLink RX12 155 (TX12 72).1 (TX12 72).2.1 (TX12 72).2.2.1 ∈ jm_tbl := jm_in (tb6 (List.mem_of_getElem? (i := 178) rfl)) rfl
theorem flX12_158 : Cond.fieldLink RX12 158 (TX12 73).1 (TX12 73).2.1 (TX12 73).2.2.1 ∈ jm_tbl := jm_in (tb6 (List.mem_of_getElem? (i := 179) rfl)) rfl
theorem flX12_161 : Cond.fieldLink RX12 161 (TX12 74).1 (TX12 74).2.1 (TX12 74).2.2.1 ∈ jm_tbl := jm_in (tb6 (List.mem_of_getElem? (i := 180) rfl)) rfl
theorem flX12_164 : Cond.fieldLink RX12 164 (TX12 75).1 (TX12 75).2.1 (TX12 75).2.2.1 ∈ jm_tbl := jm_in (tb6 (List.mem_of_getElem? (i := 181) rfl)) rfl
theorem flX12_167 : Cond.fieldLink RX12 167 (TX12 79).1 (TX12 79).2.1 (TX12 79).2.2.1 ∈ jm_tbl := jm_in (tb6 (List.mem_of_getElem? (i := 185) rfl)) rfl
theorem flX12_170 : Cond.fieldLink RX12 170 (TX12 80).1 (TX12 80).2.1 (TX12 80).2.2.1 ∈ jm_tbl := jm_in (tb6 (List.mem_of_getElem? (i := 186) rfl)) rfl
theorem flX12_173 : Cond.fieldLink RX12 173 (TX12 82).1 (TX12 82).2.1 (TX12 82).2.2.1 ∈ jm_tbl := jm_in (tb6 (List.mem_of_getElem? (i := 188) rfl)) rfl
theorem flX12_176 : Cond.fieldLink RX12 176 (TX12 83).1 (TX12 83).2.1 (TX12 83).2.2.1 ∈ jm_tbl := jm_in (tb6 (List.mem_of_getElem? (i := 189) rfl)) rfl
theorem flX12_179 : Cond.fieldLink RX12 179 (TX12 84).1 (TX12 84).2.1 (TX12 84).2.2.1 ∈ jm_tbl := jm_in (tb6 (List.mem_of_getElem? (i := 190) rfl)) rfl
theorem flX12_182 : Cond.fieldLink RX12 182 (TX12 85).1 (TX12 85).2.1 (TX12 85).2.2.1 ∈ jm_tbl := jm_in (tb6 (List.mem_of_getElem? (i := 191) rfl)) rfl
theorem flX12_185 : Cond.fieldLink RX12 185 (TX12 86).1 (TX12 86).2.1 (TX12 86).2.2.1 ∈ jm_tbl := jm_in (tb6 (List.mem_of_getElem? (i := 192) rfl)) rfl
theorem flX12_188 : Cond.fieldLink RX12 188 (TX12 87).1 (TX12 87).2.1 (TX12 87).2.2.1 ∈ jm_tbl := jm_in (tb6 (List.mem_of_getElem? (i := 193) rfl)) rfl
theorem flX12_191 : Cond.fieldLink RX12 191 (TX12 89).1 (TX12 89).2.1 (TX12 89).2.2.1 ∈ jm_tbl := jm_in (tb6 (List.mem_of_getElem? (i := 195) rfl)) rfl
theorem flX12_194 : Cond.fieldLink RX12 194 (TX12 90).1 (TX12 90).2.1 (TX12 90).2.2.1 ∈ jm_tbl := jm_in (tb6 (List.mem_of_getElem? (i := 196) rfl)) rfl
theorem flX12_197 : Cond.fieldLink RX12 197 (TX12 91).1 (TX12 91).2.1 (TX12 91).2.2.1 ∈ jm_tbl := jm_in (tb6 (List.mem_of_getElem? (i := 197) rfl)) rfl
theorem flX12_200 : Cond.fieldLink RX12 200 (TX12 92).1 (TX12 92).2.1 (TX12 92).2.2.1 ∈ jm_tbl := jm_in (tb6 (List.mem_of_getElem? (i := 198) rfl)) rfl
theorem flX12_203 : Cond.fieldLink RX12 203 (TX12 93).1 (TX12 93).2.1 (TX12 93).2.2.1 ∈ jm_tbl := jm_in (tb6 (List.mem_of_getElem? (i := 199) rfl)) rfl
theorem flX12_206 : Cond.fieldLink RX12 206 (TX12 94).1 (TX12 94).2.1 (TX12 94).2.2.1 ∈ jm_tbl := jm_in (tb6 (List.mem_of_getElem? (i := 200) rfl)) rfl
theorem flX12_209 : Cond.fieldLink RX12 209 (TX12 95).1 (TX12 95).2.1 (TX12 95).2.2.1 ∈ jm_tbl := jm_in (tb6 (List.mem_of_getElem? (i := 201) rfl)) rfl
theorem flX12_212 : Cond.fieldLink RX12 212 (TX12 96).1 (TX12 96).2.1 (TX12 96).2.2.1 ∈ jm_tbl := jm_in (tb6 (List.mem_of_getElem? (i := 202) rfl)) rfl
theorem flX12_215 : Cond.fieldLink RX12 215 (TX12 97).1 (TX12 97).2.1 (TX12 97).2.2.1 ∈ jm_tbl := jm_in (tb6 (List.mem_of_getElem? (i := 203) rfl)) rfl
theorem flX12_218 : Cond.fieldLink RX12 218 (TX12 0).1 (TX12 0).2.1 (TX12 0).2.2.1 ∈ jm_tbl := jm_in (tb6 (List.mem_of_getElem? (i := 106) rfl)) rfl
theorem flX12_222 : Cond.methodLink RX12 222 yX12_within ∈ jm_tbl := jm_in (tb7 (List.mem_of_getElem? (i := 169) rfl)) rfl
theorem flX12_226 : Cond.methodLink RX12 226 yX12_isPerson ∈ jm_tbl := jm_in (tb7 (List.mem_of_getElem? (i := 172) rfl)) rfl
theorem flX12_230 : Cond.methodLink RX12 230 yX12_isParcel ∈ jm_tbl := jm_in (tb7 (List.mem_of_getElem? (i := 179) rfl)) rfl
theorem flX12_233 : Cond.methodLink RX12 233 yX12_moves ∈ jm_tbl := jm_in (tb7 (List.mem_of_getElem? (i := 183) rfl)) rfl
theorem flX12_237 : Cond.fieldLink RX12 237 (TX12 8).1 (TX12 8).2.1 (TX12 8).2.2.1 ∈ jm_tbl := jm_in (tb6 (List.mem_of_getElem? (i := 114) rfl)) rfl
theorem flX12_240 : Cond.methodLink RX12 240 yX12_joins ∈ jm_tbl := jm_in (tb7 (List.mem_of_getElem? (i := 223) rfl)) rfl
theorem flX12_243 : Cond.methodLink RX12 243 yX12_weight ∈ jm_tbl := jm_in (tb7 (List.mem_of_getElem? (i := 219) rfl)) rfl
theorem flX12_249 : Cond.fieldLink RX12 249 (TX12 9).1 (TX12 9).2.1 (TX12 9).2.2.1 ∈ jm_tbl := jm_in (tb6 (List.mem_of_getElem? (i := 115) rfl)) rfl
theorem flX12_252 : Cond.fieldLink RX12 252 (TX12 11).1 (TX12 11).2.1 (TX12 11).2.2.1 ∈ jm_tbl := jm_in (tb6 (List.mem_of_getElem? (i := 117) rfl)) rfl
theorem flX12_255 : Cond.fieldLink RX12 255 (TX12 12).1 (TX12 12).2.1 (TX12 12).2.2.1 ∈ jm_tbl := jm_in (tb6 (List.mem_of_getElem? (i := 118) rfl)) rfl
theorem flX12_258 : Cond.fieldLink RX12 258 (TX12 13).1 (TX12 13).2.1 (TX12 13).2.2.1 ∈ jm_tbl := jm_in (tb6 (List.mem_of_getElem? (i := 119) rfl)) rfl
theorem flX12_261 : Cond.fieldLink RX12 261 (TX12 15).1 (TX12 15).2.1 (TX12 15).2.2.1 ∈ jm_tbl := jm_in (tb6 (List.mem_of_getElem? (i := 121) rfl)) rfl
theorem flX12_265 : Cond.fieldLink RX12 265 (TX12 16).1 (TX12 16).2.1 (TX12 16).2.2.1 ∈ jm_tbl := jm_in (tb6 (List.mem_of_getElem? (i := 122) rfl)) rfl
theorem flX12_268 : Cond.fieldLink RX12 268 (TX12 14).1 (TX12 14).2.1 (TX12 14).2.2.1 ∈ jm_tbl := jm_in (tb6 (List.mem_of_getElem? (i := 120) rfl)) rfl
theorem flX12_271 : Cond.methodLink RX12 271 yX12_signAt ∈ jm_tbl := jm_in (tb8 (List.mem_of_getElem? (i := 4) rfl)) rfl
theorem flX12_279 : Cond.fieldLink RX12 279 (TX12 17).1 (TX12 17).2.1 (TX12 17).2.2.1 ∈ jm_tbl := jm_in (tb6 (List.mem_of_getElem? (i := 123) rfl)) rfl
theorem flX12_282 : Cond.fieldLink RX12 282 (TX12 28).1 (TX12 28).2.1 (TX12 28).2.2.1 ∈ jm_tbl := jm_in (tb6 (List.mem_of_getElem? (i := 134) rfl)) rfl
theorem flX12_307 : Cond.methodLink RX12 307 yX12_form ∈ jm_tbl := jm_in (tb8 (List.mem_of_getElem? (i := 44) rfl)) rfl
theorem flX12_313 : Cond.methodLink RX12 313 yX12_isWord ∈ jm_tbl := jm_in (tb8 (List.mem_of_getElem? (i := 11) rfl)) rfl
theorem flX12_321 : Cond.methodLink RX12 321 yX12_fact ∈ jm_tbl := jm_in (tb8 (List.mem_of_getElem? (i := 61) rfl)) rfl
theorem flX12_326 : Cond.methodLink RX12 326 yX12_isSign ∈ jm_tbl := jm_in (tb8 (List.mem_of_getElem? (i := 28) rfl)) rfl
theorem flX12_329 : Cond.methodLink RX12 329 yX12_fails ∈ jm_tbl := jm_in (tb8 (List.mem_of_getElem? (i := 16) rfl)) rfl
theorem flX12_332 : Cond.methodLink RX12 332 yX12_puts ∈ jm_tbl := jm_in (tb8 (List.mem_of_getElem? (i := 75) rfl)) rfl
theorem flX12_336 : Cond.methodLink RX12 336 yX12_nextToken ∈ jm_tbl := jm_in (tb8 (List.mem_of_getElem? (i := 0) rfl)) rfl
theorem flX12_345 : Cond.methodLink RX12 345 yX12_reads ∈ jm_tbl := jm_in (tb8 (List.mem_of_getElem? (i := 57) rfl)) rfl
theorem flX12_361 : Cond.methodLink RX12 361 yX12_readsWhen ∈ jm_tbl := jm_in (tb8 (List.mem_of_getElem? (i := 52) rfl)) rfl
theorem flX12_370 : Cond.fieldLink RX12 370 (TX12 33).1 (TX12 33).2.1 (TX12 33).2.2.1 ∈ jm_tbl := jm_in (tb6 (List.mem_of_getElem? (i := 139) rfl)) rfl
theorem flX12_374 : Cond.fieldLink RX12 374 (TX12 34).1 (TX12 34).2.1 (TX12 34).2.2.1 ∈ jm_tbl := jm_in (tb6 (List.mem_of_getElem? (i := 140) rfl)) rfl
theorem flX12_379 : Cond.methodLink RX12 379 yX12_readsWay ∈ jm_tbl := jm_in (tb8 (List.mem_of_getElem? (i := 20) rfl)) rfl
theorem flX12_389 : Cond.methodLink RX12 389 yX12_readsFirst ∈ jm_tbl := jm_in (tb8 (List.mem_of_getElem? (i := 35) rfl)) rfl
theorem flX12_392 : Cond.fieldLink RX12 392 (TX12 35).1 (TX12 35).2.1 (TX12 35).2.2.1 ∈ jm_tbl := jm_in (tb6 (List.mem_of_getElem? (i := 141) rfl)) rfl
theorem flX12_395 : Cond.methodLink RX12 395 yX12_readsAll ∈ jm_tbl := jm_in (tb7 (List.mem_of_getElem? (i := 236) rfl)) rfl
theorem flX12_398 : Cond.fieldLink RX12 398 (TX12 18).1 (TX12 18).2.1 (TX12 18).2.2.1 ∈ jm_tbl := jm_in (tb6 (List.mem_of_getElem? (i := 124) rfl)) rfl
theorem flX12_401 : Cond.fieldLink RX12 401 (TX12 29).1 (TX12 29).2.1 (TX12 29).2.2.1 ∈ jm_tbl := jm_in (tb6 (List.mem_of_getElem? (i := 135) rfl)) rfl
theorem flX12_404 : Cond.fieldLink RX12 404 (TX12 30).1 (TX12 30).2.1 (TX12 30).2.2.1 ∈ jm_tbl := jm_in (tb6 (List.mem_of_getElem? (i := 136) rfl)) rfl
theorem flX12_407 : Cond.methodLink RX12 407 yX12_sums ∈ jm_tbl := jm_in (tb8 (List.mem_of_getElem? (i := 117) rfl)) rfl
theorem flX12_410 : Cond.methodLink RX12 410 yX12_opens ∈ jm_tbl := jm_in (tb8 (List.mem_of_getElem? (i := 113) rfl)) rfl
theorem flX12_413 : Cond.methodLink RX12 413 yX12_tests ∈ jm_tbl := jm_in (tb8 (List.mem_of_getElem? (i := 121) rfl)) rfl
theorem flX12_416 : Cond.fieldLink RX12 416 (TX12 46).1 (TX12 46).2.1 (TX12 46).2.2.1 ∈ jm_tbl := jm_in (tb6 (List.mem_of_getElem? (i := 152) rfl)) rfl
theorem flX12_419 : Cond.fieldLink RX12 419 (TX12 47).1 (TX12 47).2.1 (TX12 47).2.2.1 ∈ jm_tbl := jm_in (tb6 (List.mem_of_getElem? (i := 153) rfl)) rfl
theorem flX12_422 : Cond.fieldLink RX12 422 (TX12 48).1 (TX12 48).2.1 (TX12 48).2.2.1 ∈ jm_tbl := jm_in (tb6 (List.mem_of_getElem? (i := 154) rfl)) rfl
theorem flX12_425 : Cond.fieldLink RX12 425 (TX12 49).1 (TX12 49).2.1 (TX12 49).2.2.1 ∈ jm_tbl := jm_in (tb6 (List.mem_of_getElem? (i := 155) rfl)) rfl
theorem flX12_428 : Cond.methodLink RX12 428 yX12_ownsOf ∈ jm_tbl := jm_in (tb8 (List.mem_of_getElem? (i := 93) rfl)) rfl
theorem flX12_431 : Cond.methodLink RX12 431 yX12_worth ∈ jm_tbl := jm_in (tb8 (List.mem_of_getElem? (i := 109) rfl)) rfl
theorem flX12_434 : Cond.fieldLink RX12 434 (TX12 50).1 (TX12 50).2.1 (TX12 50).2.2.1 ∈ jm_tbl := jm_in (tb6 (List.mem_of_getElem? (i := 156) rfl)) rfl
theorem flX12_437 : Cond.methodLink RX12 437 yX12_isForced ∈ jm_tbl := jm_in (tb8 (List.mem_of_getElem? (i := 101) rfl)) rfl
theorem flX12_440 : Cond.methodLink RX12 440 yX12_isSo ∈ jm_tbl := jm_in (tb8 (List.mem_of_getElem? (i := 105) rfl)) rfl
theorem flX12_444 : Cond.fieldLink RX12 444 (TX12 51).1 (TX12 51).2.1 (TX12 51).2.2.1 ∈ jm_tbl := jm_in (tb6 (List.mem_of_getElem? (i := 157) rfl)) rfl
theorem flX12_447 : Cond.methodLink RX12 447 yX12_isFree ∈ jm_tbl := jm_in (tb8 (List.mem_of_getElem? (i := 97) rfl)) rfl
theorem flX12_450 : Cond.methodLink RX12 450 yX12_rankOf ∈ jm_tbl := jm_in (tb8 (List.mem_of_getElem? (i := 125) rfl)) rfl
theorem flX12_453 : Cond.methodLink RX12 453 yX12_comesFirst ∈ jm_tbl := jm_in (tb8 (List.mem_of_getElem? (i := 129) rfl)) rfl
theorem flX12_456 : Cond.methodLink RX12 456 yX12_isPassing ∈ jm_tbl := jm_in (tb8 (List.mem_of_getElem? (i := 85) rfl)) rfl
theorem flX12_460 : Cond.fieldLink RX12 460 (TX12 52).1 (TX12 52).2.1 (TX12 52).2.2.1 ∈ jm_tbl := jm_in (tb6 (List.mem_of_getElem? (i := 158) rfl)) rfl
theorem flX12_463 : Cond.methodLink RX12 463 yX12_lays ∈ jm_tbl := jm_in (tb8 (List.mem_of_getElem? (i := 89) rfl)) rfl
theorem flX12_467 : Cond.methodLink RX12 467 yX12_comers ∈ jm_tbl := jm_in (tb8 (List.mem_of_getElem? (i := 137) rfl)) rfl
theorem flX12_470 : Cond.methodLink RX12 470 yX12_isPassed ∈ jm_tbl := jm_in (tb8 (List.mem_of_getElem? (i := 145) rfl)) rfl
theorem flX12_473 : Cond.methodLink RX12 473 yX12_askedPrice ∈ jm_tbl := jm_in (tb8 (List.mem_of_getElem? (i := 149) rfl)) rfl
theorem flX12_476 : Cond.methodLink RX12 476 yX12_mays ∈ jm_tbl := jm_in (tb8 (List.mem_of_getElem? (i := 157) rfl)) rfl
theorem flX12_479 : Cond.methodLink RX12 479 yX12_isLate ∈ jm_tbl := jm_in (tb8 (List.mem_of_getElem? (i := 185) rfl)) rfl
theorem flX12_482 : Cond.fieldLink RX12 482 (TX12 77).1 (TX12 77).2.1 (TX12 77).2.2.1 ∈ jm_tbl := jm_in (tb6 (List.mem_of_getElem? (i := 183) rfl)) rfl
theorem flX12_485 : Cond.methodLink RX12 485 yX12_isUnseen ∈ jm_tbl := jm_in (tb8 (List.mem_of_getElem? (i := 213) rfl)) rfl
theorem flX12_489 : Cond.fieldLink RX12 489 (TX12 78).1 (TX12 78).2.1 (TX12 78).2.2.1 ∈ jm_tbl := jm_in (tb6 (List.mem_of_getElem? (i := 184) rfl)) rfl
theorem flX12_492 : Cond.fieldLink RX12 492 (TX12 76).1 (TX12 76).2.1 (TX12 76).2.2.1 ∈ jm_tbl := jm_in (tb6 (List.mem_of_getElem? (i := 182) rfl)) rfl
theorem flX12_495 : Cond.methodLink RX12 495 yX12_lies ∈ jm_tbl := jm_in (tb8 (List.mem_of_getElem? (i := 205) rfl)) rfl
theorem flX12_498 : Cond.methodLink RX12 498 yX12_steps ∈ jm_tbl := jm_in (tb8 (List.mem_of_getElem? (i := 209) rfl)) rfl
theorem flX12_502 : Cond.methodLink RX12 502 yX12_isSly ∈ jm_tbl := jm_in (tb8 (List.mem_of_getElem? (i := 197) rfl)) rfl
theorem flX12_506 : Cond.methodLink RX12 506 yX12_seeks ∈ jm_tbl := jm_in (tb8 (List.mem_of_getElem? (i := 201) rfl)) rfl
theorem flX12_509 : Cond.methodLink RX12 509 yX12_whoCares ∈ jm_tbl := jm_in (tb8 (List.mem_of_getElem? (i := 229) rfl)) rfl
theorem flX12_512 : Cond.methodLink RX12 512 yX12_holderOf ∈ jm_tbl := jm_in (tb8 (List.mem_of_getElem? (i := 233) rfl)) rfl
theorem flX12_515 : Cond.methodLink RX12 515 yX12_bits ∈ jm_tbl := jm_in (tb8 (List.mem_of_getElem? (i := 237) rfl)) rfl
theorem flX12_518 : Cond.methodLink RX12 518 yX12_isGot ∈ jm_tbl := jm_in (tb9 (List.mem_of_getElem? (i := 0) rfl)) rfl
theorem flX12_521 : Cond.methodLink RX12 521 yX12_goesFar ∈ jm_tbl := jm_in (tb8 (List.mem_of_getElem? (i := 225) rfl)) rfl
theorem flX12_525 : Cond.fieldLink RX12 525 (TX12 81).1 (TX12 81).2.1 (TX12 81).2.2.1 ∈ jm_tbl := jm_in (tb6 (List.mem_of_getElem? (i := 187) rfl)) rfl
theorem flX12_528 : Cond.methodLink RX12 528 yX12_maybes ∈ jm_tbl := jm_in (tb9 (List.mem_of_getElem? (i := 12) rfl)) rfl
theorem flX12_531 : Cond.methodLink RX12 531 yX12_does ∈ jm_tbl := jm_in (tb9 (List.mem_of_getElem? (i := 16) rfl)) rfl
theorem flX12_535 : Cond.fieldLink RX12 535 (TX12 88).1 (TX12 88).2.1 (TX12 88).2.2.1 ∈ jm_tbl := jm_in (tb6 (List.mem_of_getElem? (i := 194) rfl)) rfl
theorem flX12_538 : Cond.methodLink RX12 538 yX12_takesBack ∈ jm_tbl := jm_in (tb9 (List.mem_of_getElem? (i := 24) rfl)) rfl
theorem flX12_541 : Cond.methodLink RX12 541 yX12_keeps ∈ jm_tbl := jm_in (tb9 (List.mem_of_getElem? (i := 28) rfl)) rfl
