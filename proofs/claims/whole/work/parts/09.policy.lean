theorem wd_0 : Cond.selects R_Po y_Po_isStricter y_Po_isStricter ∈ lw_g := wd_in (i := 0) (by decide +kernel) (by decide +kernel)
theorem wd_28 : Cond.initialized R_Po ∈ lw_g := wd_in (i := 28) (by decide +kernel) (by decide +kernel)
theorem wd_29 : Cond.initialized R_Ac ∈ lw_g := wd_in (i := 29) (by decide +kernel) (by decide +kernel)
theorem wd_30 : Cond.initialized R_Ru ∈ lw_g := wd_in (i := 30) (by decide +kernel) (by decide +kernel)
theorem wd_31 : Cond.initialized R_Co ∈ lw_g := wd_in (i := 31) (by decide +kernel) (by decide +kernel)
theorem wd_71 : Cond.fieldLink R_Ac 7 R_Ac "kind" "I" ∈ lw_g := wd_in (i := 71) (by decide +kernel) (by decide +kernel)
theorem wd_72 : Cond.fieldLink R_Po 58 R_Ac "kind" "I" ∈ lw_g := wd_in (i := 72) (by decide +kernel) (by decide +kernel)
theorem wd_73 : Cond.fieldLink R_Ac 14 R_Ac "data" "I" ∈ lw_g := wd_in (i := 73) (by decide +kernel) (by decide +kernel)
theorem wd_95 : Cond.fieldLink R_Co 9 R_Co "place" "I" ∈ lw_g := wd_in (i := 95) (by decide +kernel) (by decide +kernel)
theorem wd_96 : Cond.fieldLink R_Co 13 R_Co "operator" "I" ∈ lw_g := wd_in (i := 96) (by decide +kernel) (by decide +kernel)
theorem wd_97 : Cond.fieldLink R_Co 16 R_Co "value" "J" ∈ lw_g := wd_in (i := 97) (by decide +kernel) (by decide +kernel)
theorem wd_98 : Cond.fieldLink R_Co 20 R_Co "mask" "J" ∈ lw_g := wd_in (i := 98) (by decide +kernel) (by decide +kernel)
theorem wd_108 : Cond.fieldLink R_Ru 12 R_Ru "action" "LCallFilter$Action;" ∈ lw_g := wd_in (i := 108) (by decide +kernel) (by decide +kernel)
theorem wd_109 : Cond.fieldLink R_Po 55 R_Ru "action" "LCallFilter$Action;" ∈ lw_g := wd_in (i := 109) (by decide +kernel) (by decide +kernel)
theorem wd_110 : Cond.fieldLink R_Ru 36 R_Ru "count" "I" ∈ lw_g := wd_in (i := 110) (by decide +kernel) (by decide +kernel)
theorem wd_112 : Cond.fieldLink R_Ru 25 R_Ru "from" "I" ∈ lw_g := wd_in (i := 112) (by decide +kernel) (by decide +kernel)
theorem wd_113 : Cond.fieldLink R_Ru 29 R_Ru "to" "I" ∈ lw_g := wd_in (i := 113) (by decide +kernel) (by decide +kernel)
theorem wd_114 : Cond.fieldLink R_Ru 20 R_Ru "conditions" "[LCallFilter$Condition;" ∈ lw_g := wd_in (i := 114) (by decide +kernel) (by decide +kernel)
theorem wd_126 : Cond.fieldLink R_Po 14 R_Po "defaultAction" "LCallFilter$Action;" ∈ lw_g := wd_in (i := 126) (by decide +kernel) (by decide +kernel)
theorem wd_128 : Cond.fieldLink R_Po 20 R_Po "foreignAction" "LCallFilter$Action;" ∈ lw_g := wd_in (i := 128) (by decide +kernel) (by decide +kernel)
theorem wd_130 : Cond.fieldLink R_Po 25 R_Po "rules" "[LCallFilter$Rule;" ∈ lw_g := wd_in (i := 130) (by decide +kernel) (by decide +kernel)
theorem wd_132 : Cond.fieldLink R_Po 34 R_Po "count" "I" ∈ lw_g := wd_in (i := 132) (by decide +kernel) (by decide +kernel)
theorem wd_134 : Cond.fieldLink R_Po 29 R_Po "architecture" "I" ∈ lw_g := wd_in (i := 134) (by decide +kernel) (by decide +kernel)
theorem wd_252 : Cond.methodLink R_Po 37 y_Ru_become ∈ lw_g := wd_in (i := 252) (by decide +kernel) (by decide +kernel)
theorem wd_253 : Cond.instanceMethod y_Ru_become ∈ lw_g := wd_in (i := 253) (by decide +kernel) (by decide +kernel)
theorem wd_254 : Cond.selects R_Ru y_Ru_become y_Ru_become ∈ lw_g := wd_in (i := 254) (by decide +kernel) (by decide +kernel)
theorem wd_255 : Cond.code y_Ru_become prog_10_method_2_code 5 (Option.none : Option Jvm.ClassFile.FieldType) ∈ lw_g := wd_in (i := 255) (by decide +kernel) (by decide +kernel)
theorem wd_256 : Cond.methodLink R_Ru 32 y_Ac_become ∈ lw_g := wd_in (i := 256) (by decide +kernel) (by decide +kernel)
theorem wd_257 : Cond.instanceMethod y_Ac_become ∈ lw_g := wd_in (i := 257) (by decide +kernel) (by decide +kernel)
theorem wd_258 : Cond.selects R_Ac y_Ac_become y_Ac_become ∈ lw_g := wd_in (i := 258) (by decide +kernel) (by decide +kernel)
theorem wd_259 : Cond.code y_Ac_become prog_2_method_3_code 3 (Option.none : Option Jvm.ClassFile.FieldType) ∈ lw_g := wd_in (i := 259) (by decide +kernel) (by decide +kernel)
theorem wd_271 : Cond.methodLink R_Ru 39 y_Co_become ∈ lw_g := wd_in (i := 271) (by decide +kernel) (by decide +kernel)
theorem wd_272 : Cond.instanceMethod y_Co_become ∈ lw_g := wd_in (i := 272) (by decide +kernel) (by decide +kernel)
theorem wd_273 : Cond.selects R_Co y_Co_become y_Co_become ∈ lw_g := wd_in (i := 273) (by decide +kernel) (by decide +kernel)
theorem wd_274 : Cond.code y_Co_become prog_5_method_3_code 7 (Option.none : Option Jvm.ClassFile.FieldType) ∈ lw_g := wd_in (i := 274) (by decide +kernel) (by decide +kernel)
theorem wd_292 : Cond.methodLink R_Po 41 y_Ca_isForeignTo ∈ lw_g := wd_in (i := 292) (by decide +kernel) (by decide +kernel)
theorem wd_293 : Cond.instanceMethod y_Ca_isForeignTo ∈ lw_g := wd_in (i := 293) (by decide +kernel) (by decide +kernel)
theorem wd_294 : Cond.selects R_Ca y_Ca_isForeignTo y_Ca_isForeignTo ∈ lw_g := wd_in (i := 294) (by decide +kernel) (by decide +kernel)
theorem wd_295 : Cond.code y_Ca_isForeignTo prog_3_method_6_code 2 (Option.some Jvm.ClassFile.FieldType.boolean) ∈ lw_g := wd_in (i := 295) (by decide +kernel) (by decide +kernel)
theorem wd_305 : Cond.methodLink R_Po 47 y_Ru_matches ∈ lw_g := wd_in (i := 305) (by decide +kernel) (by decide +kernel)
theorem wd_306 : Cond.instanceMethod y_Ru_matches ∈ lw_g := wd_in (i := 306) (by decide +kernel) (by decide +kernel)
theorem wd_307 : Cond.selects R_Ru y_Ru_matches y_Ru_matches ∈ lw_g := wd_in (i := 307) (by decide +kernel) (by decide +kernel)
theorem wd_308 : Cond.code y_Ru_matches prog_10_method_4_code 3 (Option.some Jvm.ClassFile.FieldType.boolean) ∈ lw_g := wd_in (i := 308) (by decide +kernel) (by decide +kernel)
theorem wd_309 : Cond.methodLink R_Ru 42 y_Ca_number ∈ lw_g := wd_in (i := 309) (by decide +kernel) (by decide +kernel)
theorem wd_310 : Cond.methodLink R_Ru 48 y_Co_holdsFor ∈ lw_g := wd_in (i := 310) (by decide +kernel) (by decide +kernel)
theorem wd_311 : Cond.instanceMethod y_Co_holdsFor ∈ lw_g := wd_in (i := 311) (by decide +kernel) (by decide +kernel)
theorem wd_312 : Cond.selects R_Co y_Co_holdsFor y_Co_holdsFor ∈ lw_g := wd_in (i := 312) (by decide +kernel) (by decide +kernel)
theorem wd_313 : Cond.code y_Co_holdsFor prog_5_method_4_code 4 (Option.some Jvm.ClassFile.FieldType.boolean) ∈ lw_g := wd_in (i := 313) (by decide +kernel) (by decide +kernel)
theorem wd_314 : Cond.methodLink R_Co 23 y_Ca_getArgument ∈ lw_g := wd_in (i := 314) (by decide +kernel) (by decide +kernel)
theorem wd_315 : Cond.instanceMethod y_Ca_getArgument ∈ lw_g := wd_in (i := 315) (by decide +kernel) (by decide +kernel)
theorem wd_316 : Cond.selects R_Ca y_Ca_getArgument y_Ca_getArgument ∈ lw_g := wd_in (i := 316) (by decide +kernel) (by decide +kernel)
theorem wd_317 : Cond.code y_Ca_getArgument prog_3_method_4_code 3 (Option.some Jvm.ClassFile.FieldType.long) ∈ lw_g := wd_in (i := 317) (by decide +kernel) (by decide +kernel)
theorem wd_318 : Cond.methodLink R_Co 29 y_Co_isBelow ∈ lw_g := wd_in (i := 318) (by decide +kernel) (by decide +kernel)
theorem wd_319 : Cond.static y_Co_isBelow ∈ lw_g := wd_in (i := 319) (by decide +kernel) (by decide +kernel)
theorem wd_320 : Cond.code y_Co_isBelow prog_5_method_5_code 6 (Option.some Jvm.ClassFile.FieldType.boolean) ∈ lw_g := wd_in (i := 320) (by decide +kernel) (by decide +kernel)
theorem wd_322 : Cond.methodLink R_Po 51 y_Po_isStricter ∈ lw_g := wd_in (i := 322) (by decide +kernel) (by decide +kernel)
theorem wd_324 : Cond.instanceMethod y_Po_isStricter ∈ lw_g := wd_in (i := 324) (by decide +kernel) (by decide +kernel)
theorem wd_325 : Cond.code y_Po_isStricter prog_8_method_4_code 3 (Option.some Jvm.ClassFile.FieldType.boolean) ∈ lw_g := wd_in (i := 325) (by decide +kernel) (by decide +kernel)
theorem wd_334 : Cond.fieldLink R_Ac 17 R_Ac "KIND_WORDS" "[J" ∈ lw_g := wd_in (i := 334) (by decide +kernel) (by decide +kernel)
theorem d_Ac_become_0 : decode b_Ac_become 0 = .ok (.aload_n 0, 1) := by decide +kernel
theorem d_Ac_become_1 : decode b_Ac_become 1 = .ok (.iload_n 1, 1) := by decide +kernel
theorem d_Ac_become_2 : decode b_Ac_become 2 = .ok (.putfield 7, 3) := by decide +kernel
theorem d_Ac_become_5 : decode b_Ac_become 5 = .ok (.aload_n 0, 1) := by decide +kernel
theorem d_Ac_become_6 : decode b_Ac_become 6 = .ok (.iload_n 2, 1) := by decide +kernel
theorem d_Ac_become_7 : decode b_Ac_become 7 = .ok (.putfield 14, 3) := by decide +kernel
theorem d_Ac_become_10 : decode b_Ac_become 10 = .ok (.return_, 1) := by decide +kernel
theorem d_Ac_asWord_0 : decode b_Ac_asWord 0 = .ok (.iconst 2, 1) := by decide +kernel
theorem d_Ac_asWord_1 : decode b_Ac_asWord 1 = .ok (.aload_n 0, 1) := by decide +kernel
theorem d_Ac_asWord_2 : decode b_Ac_asWord 2 = .ok (.getfield 7, 3) := by decide +kernel
theorem d_Ac_asWord_5 : decode b_Ac_asWord 5 = .ok (.if_icmp .gt 15, 3) := by decide +kernel
theorem d_Ac_asWord_8 : decode b_Ac_asWord 8 = .ok (.aload_n 0, 1) := by decide +kernel
theorem d_Ac_asWord_9 : decode b_Ac_asWord 9 = .ok (.getfield 7, 3) := by decide +kernel
theorem d_Ac_asWord_12 : decode b_Ac_asWord 12 = .ok (.iconst 4, 1) := by decide +kernel
theorem d_Ac_asWord_13 : decode b_Ac_asWord 13 = .ok (.if_icmp .gt 7, 3) := by decide +kernel
theorem d_Ac_asWord_16 : decode b_Ac_asWord 16 = .ok (.iconst 1, 1) := by decide +kernel
theorem d_Ac_asWord_17 : decode b_Ac_asWord 17 = .ok (.goto 4, 3) := by decide +kernel
theorem d_Ac_asWord_20 : decode b_Ac_asWord 20 = .ok (.iconst 0, 1) := by decide +kernel
theorem d_Ac_asWord_21 : decode b_Ac_asWord 21 = .ok (.istore_n 1, 1) := by decide +kernel
theorem d_Ac_asWord_22 : decode b_Ac_asWord 22 = .ok (.getstatic 17, 3) := by decide +kernel
theorem d_Ac_asWord_25 : decode b_Ac_asWord 25 = .ok (.aload_n 0, 1) := by decide +kernel
theorem d_Ac_asWord_26 : decode b_Ac_asWord 26 = .ok (.getfield 7, 3) := by decide +kernel
theorem d_Ac_asWord_29 : decode b_Ac_asWord 29 = .ok (.laload, 1) := by decide +kernel
theorem d_Ac_asWord_30 : decode b_Ac_asWord 30 = .ok (.iload_n 1, 1) := by decide +kernel
theorem d_Ac_asWord_31 : decode b_Ac_asWord 31 = .ok (.ifCond .eq 10, 3) := by decide +kernel
theorem d_Ac_asWord_34 : decode b_Ac_asWord 34 = .ok (.aload_n 0, 1) := by decide +kernel
theorem d_Ac_asWord_35 : decode b_Ac_asWord 35 = .ok (.getfield 14, 3) := by decide +kernel
theorem d_Ac_asWord_38 : decode b_Ac_asWord 38 = .ok (.goto 4, 3) := by decide +kernel
theorem d_Ac_asWord_41 : decode b_Ac_asWord 41 = .ok (.iconst 0, 1) := by decide +kernel
theorem d_Ac_asWord_42 : decode b_Ac_asWord 42 = .ok (.i2l, 1) := by decide +kernel
theorem d_Ac_asWord_43 : decode b_Ac_asWord 43 = .ok (.ladd, 1) := by decide +kernel
theorem d_Ac_asWord_44 : decode b_Ac_asWord 44 = .ok (.lreturn, 1) := by decide +kernel
theorem d_Co_become_0 : decode b_Co_become 0 = .ok (.aload_n 0, 1) := by decide +kernel
theorem d_Co_become_1 : decode b_Co_become 1 = .ok (.iload_n 1, 1) := by decide +kernel
theorem d_Co_become_2 : decode b_Co_become 2 = .ok (.putfield 9, 3) := by decide +kernel
theorem d_Co_become_5 : decode b_Co_become 5 = .ok (.aload_n 0, 1) := by decide +kernel
theorem d_Co_become_6 : decode b_Co_become 6 = .ok (.iload_n 2, 1) := by decide +kernel
theorem d_Co_become_7 : decode b_Co_become 7 = .ok (.putfield 13, 3) := by decide +kernel
theorem d_Co_become_10 : decode b_Co_become 10 = .ok (.aload_n 0, 1) := by decide +kernel
theorem d_Co_become_11 : decode b_Co_become 11 = .ok (.lload_n 3, 1) := by decide +kernel
theorem d_Co_become_12 : decode b_Co_become 12 = .ok (.putfield 16, 3) := by decide +kernel
theorem d_Co_become_15 : decode b_Co_become 15 = .ok (.aload_n 0, 1) := by decide +kernel
theorem d_Co_become_16 : decode b_Co_become 16 = .ok (.lload 5, 2) := by decide +kernel
theorem d_Co_become_18 : decode b_Co_become 18 = .ok (.putfield 20, 3) := by decide +kernel
theorem d_Co_become_21 : decode b_Co_become 21 = .ok (.return_, 1) := by decide +kernel
theorem d_Co_holdsFor_0 : decode b_Co_holdsFor 0 = .ok (.aload_n 1, 1) := by decide +kernel
theorem d_Co_holdsFor_1 : decode b_Co_holdsFor 1 = .ok (.aload_n 0, 1) := by decide +kernel
theorem d_Co_holdsFor_2 : decode b_Co_holdsFor 2 = .ok (.getfield 9, 3) := by decide +kernel
theorem d_Co_holdsFor_5 : decode b_Co_holdsFor 5 = .ok (.invokevirtual 23, 3) := by decide +kernel
theorem d_Co_holdsFor_8 : decode b_Co_holdsFor 8 = .ok (.lstore_n 2, 1) := by decide +kernel
theorem d_Co_holdsFor_9 : decode b_Co_holdsFor 9 = .ok (.aload_n 0, 1) := by decide +kernel
theorem d_Co_holdsFor_10 : decode b_Co_holdsFor 10 = .ok (.getfield 13, 3) := by decide +kernel
theorem d_Co_holdsFor_13 : decode b_Co_holdsFor 13 = .ok (.tableswitch 121 0 5 #[39, 54, 69, 78, 95, 104], 39) := by decide +kernel
theorem d_Co_holdsFor_52 : decode b_Co_holdsFor 52 = .ok (.lload_n 2, 1) := by decide +kernel
theorem d_Co_holdsFor_53 : decode b_Co_holdsFor 53 = .ok (.aload_n 0, 1) := by decide +kernel
theorem d_Co_holdsFor_54 : decode b_Co_holdsFor 54 = .ok (.getfield 16, 3) := by decide +kernel
theorem d_Co_holdsFor_57 : decode b_Co_holdsFor 57 = .ok (.lcmp, 1) := by decide +kernel
theorem d_Co_holdsFor_58 : decode b_Co_holdsFor 58 = .ok (.ifCond .ne 7, 3) := by decide +kernel
theorem d_Co_holdsFor_61 : decode b_Co_holdsFor 61 = .ok (.iconst 1, 1) := by decide +kernel
theorem d_Co_holdsFor_62 : decode b_Co_holdsFor 62 = .ok (.goto 4, 3) := by decide +kernel
theorem d_Co_holdsFor_65 : decode b_Co_holdsFor 65 = .ok (.iconst 0, 1) := by decide +kernel
theorem d_Co_holdsFor_66 : decode b_Co_holdsFor 66 = .ok (.ireturn, 1) := by decide +kernel
theorem d_Co_holdsFor_67 : decode b_Co_holdsFor 67 = .ok (.lload_n 2, 1) := by decide +kernel
theorem d_Co_holdsFor_68 : decode b_Co_holdsFor 68 = .ok (.aload_n 0, 1) := by decide +kernel
theorem d_Co_holdsFor_69 : decode b_Co_holdsFor 69 = .ok (.getfield 16, 3) := by decide +kernel
theorem d_Co_holdsFor_72 : decode b_Co_holdsFor 72 = .ok (.lcmp, 1) := by decide +kernel
theorem d_Co_holdsFor_73 : decode b_Co_holdsFor 73 = .ok (.ifCond .eq 7, 3) := by decide +kernel
theorem d_Co_holdsFor_76 : decode b_Co_holdsFor 76 = .ok (.iconst 1, 1) := by decide +kernel
theorem d_Co_holdsFor_77 : decode b_Co_holdsFor 77 = .ok (.goto 4, 3) := by decide +kernel
theorem d_Co_holdsFor_80 : decode b_Co_holdsFor 80 = .ok (.iconst 0, 1) := by decide +kernel
theorem d_Co_holdsFor_81 : decode b_Co_holdsFor 81 = .ok (.ireturn, 1) := by decide +kernel
theorem d_Co_holdsFor_82 : decode b_Co_holdsFor 82 = .ok (.lload_n 2, 1) := by decide +kernel
theorem d_Co_holdsFor_83 : decode b_Co_holdsFor 83 = .ok (.aload_n 0, 1) := by decide +kernel
theorem d_Co_holdsFor_84 : decode b_Co_holdsFor 84 = .ok (.getfield 16, 3) := by decide +kernel
theorem d_Co_holdsFor_87 : decode b_Co_holdsFor 87 = .ok (.invokestatic 29, 3) := by decide +kernel
theorem d_Co_holdsFor_90 : decode b_Co_holdsFor 90 = .ok (.ireturn, 1) := by decide +kernel
theorem d_Co_holdsFor_91 : decode b_Co_holdsFor 91 = .ok (.aload_n 0, 1) := by decide +kernel
theorem d_Co_holdsFor_92 : decode b_Co_holdsFor 92 = .ok (.getfield 16, 3) := by decide +kernel
theorem d_Co_holdsFor_95 : decode b_Co_holdsFor 95 = .ok (.lload_n 2, 1) := by decide +kernel
theorem d_Co_holdsFor_96 : decode b_Co_holdsFor 96 = .ok (.invokestatic 29, 3) := by decide +kernel
theorem d_Co_holdsFor_99 : decode b_Co_holdsFor 99 = .ok (.ifCond .ne 7, 3) := by decide +kernel
theorem d_Co_holdsFor_102 : decode b_Co_holdsFor 102 = .ok (.iconst 1, 1) := by decide +kernel
theorem d_Co_holdsFor_103 : decode b_Co_holdsFor 103 = .ok (.goto 4, 3) := by decide +kernel
theorem d_Co_holdsFor_106 : decode b_Co_holdsFor 106 = .ok (.iconst 0, 1) := by decide +kernel
theorem d_Co_holdsFor_107 : decode b_Co_holdsFor 107 = .ok (.ireturn, 1) := by decide +kernel
theorem d_Co_holdsFor_108 : decode b_Co_holdsFor 108 = .ok (.aload_n 0, 1) := by decide +kernel
theorem d_Co_holdsFor_109 : decode b_Co_holdsFor 109 = .ok (.getfield 16, 3) := by decide +kernel
theorem d_Co_holdsFor_112 : decode b_Co_holdsFor 112 = .ok (.lload_n 2, 1) := by decide +kernel
theorem d_Co_holdsFor_113 : decode b_Co_holdsFor 113 = .ok (.invokestatic 29, 3) := by decide +kernel
theorem d_Co_holdsFor_116 : decode b_Co_holdsFor 116 = .ok (.ireturn, 1) := by decide +kernel
theorem d_Co_holdsFor_117 : decode b_Co_holdsFor 117 = .ok (.lload_n 2, 1) := by decide +kernel
theorem d_Co_holdsFor_118 : decode b_Co_holdsFor 118 = .ok (.aload_n 0, 1) := by decide +kernel
theorem d_Co_holdsFor_119 : decode b_Co_holdsFor 119 = .ok (.getfield 16, 3) := by decide +kernel
theorem d_Co_holdsFor_122 : decode b_Co_holdsFor 122 = .ok (.invokestatic 29, 3) := by decide +kernel
theorem d_Co_holdsFor_125 : decode b_Co_holdsFor 125 = .ok (.ifCond .ne 7, 3) := by decide +kernel
theorem d_Co_holdsFor_128 : decode b_Co_holdsFor 128 = .ok (.iconst 1, 1) := by decide +kernel
theorem d_Co_holdsFor_129 : decode b_Co_holdsFor 129 = .ok (.goto 4, 3) := by decide +kernel
theorem d_Co_holdsFor_132 : decode b_Co_holdsFor 132 = .ok (.iconst 0, 1) := by decide +kernel
theorem d_Co_holdsFor_133 : decode b_Co_holdsFor 133 = .ok (.ireturn, 1) := by decide +kernel
theorem d_Co_holdsFor_134 : decode b_Co_holdsFor 134 = .ok (.lload_n 2, 1) := by decide +kernel
theorem d_Co_holdsFor_135 : decode b_Co_holdsFor 135 = .ok (.aload_n 0, 1) := by decide +kernel
theorem d_Co_holdsFor_136 : decode b_Co_holdsFor 136 = .ok (.getfield 20, 3) := by decide +kernel
theorem d_Co_holdsFor_139 : decode b_Co_holdsFor 139 = .ok (.land, 1) := by decide +kernel
theorem d_Co_holdsFor_140 : decode b_Co_holdsFor 140 = .ok (.aload_n 0, 1) := by decide +kernel
theorem d_Co_holdsFor_141 : decode b_Co_holdsFor 141 = .ok (.getfield 16, 3) := by decide +kernel
theorem d_Co_holdsFor_144 : decode b_Co_holdsFor 144 = .ok (.lcmp, 1) := by decide +kernel
theorem d_Co_holdsFor_145 : decode b_Co_holdsFor 145 = .ok (.ifCond .ne 7, 3) := by decide +kernel
theorem d_Co_holdsFor_148 : decode b_Co_holdsFor 148 = .ok (.iconst 1, 1) := by decide +kernel
theorem d_Co_holdsFor_149 : decode b_Co_holdsFor 149 = .ok (.goto 4, 3) := by decide +kernel
theorem d_Co_holdsFor_152 : decode b_Co_holdsFor 152 = .ok (.iconst 0, 1) := by decide +kernel
theorem d_Co_holdsFor_153 : decode b_Co_holdsFor 153 = .ok (.ireturn, 1) := by decide +kernel
theorem d_Ru_become_0 : decode b_Ru_become 0 = .ok (.aload_n 0, 1) := by decide +kernel
theorem d_Ru_become_1 : decode b_Ru_become 1 = .ok (.iload_n 1, 1) := by decide +kernel
theorem d_Ru_become_2 : decode b_Ru_become 2 = .ok (.putfield 25, 3) := by decide +kernel
theorem d_Ru_become_5 : decode b_Ru_become 5 = .ok (.aload_n 0, 1) := by decide +kernel
theorem d_Ru_become_6 : decode b_Ru_become 6 = .ok (.iload_n 2, 1) := by decide +kernel
theorem d_Ru_become_7 : decode b_Ru_become 7 = .ok (.putfield 29, 3) := by decide +kernel
theorem d_Ru_become_10 : decode b_Ru_become 10 = .ok (.aload_n 0, 1) := by decide +kernel
theorem d_Ru_become_11 : decode b_Ru_become 11 = .ok (.getfield 12, 3) := by decide +kernel
theorem d_Ru_become_14 : decode b_Ru_become 14 = .ok (.iload_n 3, 1) := by decide +kernel
theorem d_Ru_become_15 : decode b_Ru_become 15 = .ok (.iload 4, 2) := by decide +kernel
theorem d_Ru_become_17 : decode b_Ru_become 17 = .ok (.invokevirtual 32, 3) := by decide +kernel
theorem d_Ru_become_20 : decode b_Ru_become 20 = .ok (.aload_n 0, 1) := by decide +kernel
theorem d_Ru_become_21 : decode b_Ru_become 21 = .ok (.iconst 0, 1) := by decide +kernel
theorem d_Ru_become_22 : decode b_Ru_become 22 = .ok (.putfield 36, 3) := by decide +kernel
theorem d_Ru_become_25 : decode b_Ru_become 25 = .ok (.return_, 1) := by decide +kernel
theorem d_Ru_add_0 : decode b_Ru_add 0 = .ok (.aload_n 0, 1) := by decide +kernel
theorem d_Ru_add_1 : decode b_Ru_add 1 = .ok (.getfield 20, 3) := by decide +kernel
theorem d_Ru_add_4 : decode b_Ru_add 4 = .ok (.aload_n 0, 1) := by decide +kernel
theorem d_Ru_add_5 : decode b_Ru_add 5 = .ok (.getfield 36, 3) := by decide +kernel
theorem d_Ru_add_8 : decode b_Ru_add 8 = .ok (.aaload, 1) := by decide +kernel
theorem d_Ru_add_9 : decode b_Ru_add 9 = .ok (.iload_n 1, 1) := by decide +kernel
theorem d_Ru_add_10 : decode b_Ru_add 10 = .ok (.iload_n 2, 1) := by decide +kernel
theorem d_Ru_add_11 : decode b_Ru_add 11 = .ok (.lload_n 3, 1) := by decide +kernel
theorem d_Ru_add_12 : decode b_Ru_add 12 = .ok (.lload 5, 2) := by decide +kernel
theorem d_Ru_add_14 : decode b_Ru_add 14 = .ok (.invokevirtual 39, 3) := by decide +kernel
theorem d_Ru_add_17 : decode b_Ru_add 17 = .ok (.aload_n 0, 1) := by decide +kernel
theorem d_Ru_add_18 : decode b_Ru_add 18 = .ok (.dup, 1) := by decide +kernel
theorem d_Ru_add_19 : decode b_Ru_add 19 = .ok (.getfield 36, 3) := by decide +kernel
theorem d_Ru_add_22 : decode b_Ru_add 22 = .ok (.iconst 1, 1) := by decide +kernel
theorem d_Ru_add_23 : decode b_Ru_add 23 = .ok (.iadd, 1) := by decide +kernel
theorem d_Ru_add_24 : decode b_Ru_add 24 = .ok (.putfield 36, 3) := by decide +kernel
theorem d_Ru_add_27 : decode b_Ru_add 27 = .ok (.return_, 1) := by decide +kernel
theorem d_Ru_matches_0 : decode b_Ru_matches 0 = .ok (.aload_n 1, 1) := by decide +kernel
theorem d_Ru_matches_1 : decode b_Ru_matches 1 = .ok (.invokevirtual 42, 3) := by decide +kernel
theorem d_Ru_matches_4 : decode b_Ru_matches 4 = .ok (.aload_n 0, 1) := by decide +kernel
theorem d_Ru_matches_5 : decode b_Ru_matches 5 = .ok (.getfield 25, 3) := by decide +kernel
theorem d_Ru_matches_8 : decode b_Ru_matches 8 = .ok (.if_icmp .lt 14, 3) := by decide +kernel
theorem d_Ru_matches_11 : decode b_Ru_matches 11 = .ok (.aload_n 1, 1) := by decide +kernel
theorem d_Ru_matches_12 : decode b_Ru_matches 12 = .ok (.invokevirtual 42, 3) := by decide +kernel
theorem d_Ru_matches_15 : decode b_Ru_matches 15 = .ok (.aload_n 0, 1) := by decide +kernel
theorem d_Ru_matches_16 : decode b_Ru_matches 16 = .ok (.getfield 29, 3) := by decide +kernel
theorem d_Ru_matches_19 : decode b_Ru_matches 19 = .ok (.if_icmp .le 5, 3) := by decide +kernel
theorem d_Ru_matches_22 : decode b_Ru_matches 22 = .ok (.iconst 0, 1) := by decide +kernel
theorem d_Ru_matches_23 : decode b_Ru_matches 23 = .ok (.ireturn, 1) := by decide +kernel
theorem d_Ru_matches_24 : decode b_Ru_matches 24 = .ok (.iconst 0, 1) := by decide +kernel
theorem d_Ru_matches_25 : decode b_Ru_matches 25 = .ok (.istore_n 2, 1) := by decide +kernel
theorem d_Ru_matches_26 : decode b_Ru_matches 26 = .ok (.iload_n 2, 1) := by decide +kernel
theorem d_Ru_matches_27 : decode b_Ru_matches 27 = .ok (.aload_n 0, 1) := by decide +kernel
theorem d_Ru_matches_28 : decode b_Ru_matches 28 = .ok (.getfield 36, 3) := by decide +kernel
theorem d_Ru_matches_31 : decode b_Ru_matches 31 = .ok (.if_icmp .ge 24, 3) := by decide +kernel
theorem d_Ru_matches_34 : decode b_Ru_matches 34 = .ok (.aload_n 0, 1) := by decide +kernel
theorem d_Ru_matches_35 : decode b_Ru_matches 35 = .ok (.getfield 20, 3) := by decide +kernel
theorem d_Ru_matches_38 : decode b_Ru_matches 38 = .ok (.iload_n 2, 1) := by decide +kernel
theorem d_Ru_matches_39 : decode b_Ru_matches 39 = .ok (.aaload, 1) := by decide +kernel
theorem d_Ru_matches_40 : decode b_Ru_matches 40 = .ok (.aload_n 1, 1) := by decide +kernel
theorem d_Ru_matches_41 : decode b_Ru_matches 41 = .ok (.invokevirtual 48, 3) := by decide +kernel
theorem d_Ru_matches_44 : decode b_Ru_matches 44 = .ok (.ifCond .ne 5, 3) := by decide +kernel
theorem d_Ru_matches_47 : decode b_Ru_matches 47 = .ok (.iconst 0, 1) := by decide +kernel
theorem d_Ru_matches_48 : decode b_Ru_matches 48 = .ok (.ireturn, 1) := by decide +kernel
theorem d_Ru_matches_49 : decode b_Ru_matches 49 = .ok (.iinc 2 1, 3) := by decide +kernel
theorem d_Ru_matches_52 : decode b_Ru_matches 52 = .ok (.goto (-26), 3) := by decide +kernel
theorem d_Ru_matches_55 : decode b_Ru_matches 55 = .ok (.iconst 1, 1) := by decide +kernel
theorem d_Ru_matches_56 : decode b_Ru_matches 56 = .ok (.ireturn, 1) := by decide +kernel
theorem d_Po_add_0 : decode b_Po_add 0 = .ok (.aload_n 0, 1) := by decide +kernel
theorem d_Po_add_1 : decode b_Po_add 1 = .ok (.getfield 25, 3) := by decide +kernel
theorem d_Po_add_4 : decode b_Po_add 4 = .ok (.aload_n 0, 1) := by decide +kernel
theorem d_Po_add_5 : decode b_Po_add 5 = .ok (.getfield 34, 3) := by decide +kernel
theorem d_Po_add_8 : decode b_Po_add 8 = .ok (.aaload, 1) := by decide +kernel
theorem d_Po_add_9 : decode b_Po_add 9 = .ok (.iload_n 1, 1) := by decide +kernel
theorem d_Po_add_10 : decode b_Po_add 10 = .ok (.iload_n 2, 1) := by decide +kernel
theorem d_Po_add_11 : decode b_Po_add 11 = .ok (.iload_n 3, 1) := by decide +kernel
theorem d_Po_add_12 : decode b_Po_add 12 = .ok (.iload 4, 2) := by decide +kernel
theorem d_Po_add_14 : decode b_Po_add 14 = .ok (.invokevirtual 37, 3) := by decide +kernel
theorem d_Po_add_17 : decode b_Po_add 17 = .ok (.aload_n 0, 1) := by decide +kernel
theorem d_Po_add_18 : decode b_Po_add 18 = .ok (.dup, 1) := by decide +kernel
theorem d_Po_add_19 : decode b_Po_add 19 = .ok (.getfield 34, 3) := by decide +kernel
theorem d_Po_add_22 : decode b_Po_add 22 = .ok (.iconst 1, 1) := by decide +kernel
theorem d_Po_add_23 : decode b_Po_add 23 = .ok (.iadd, 1) := by decide +kernel
theorem d_Po_add_24 : decode b_Po_add 24 = .ok (.putfield 34, 3) := by decide +kernel
theorem d_Po_add_27 : decode b_Po_add 27 = .ok (.aload_n 0, 1) := by decide +kernel
theorem d_Po_add_28 : decode b_Po_add 28 = .ok (.getfield 34, 3) := by decide +kernel
theorem d_Po_add_31 : decode b_Po_add 31 = .ok (.iconst 1, 1) := by decide +kernel
theorem d_Po_add_32 : decode b_Po_add 32 = .ok (.isub, 1) := by decide +kernel
theorem d_Po_add_33 : decode b_Po_add 33 = .ok (.ireturn, 1) := by decide +kernel
theorem d_Po_isStricter_0 : decode b_Po_isStricter 0 = .ok (.iload_n 2, 1) := by decide +kernel
theorem d_Po_isStricter_1 : decode b_Po_isStricter 1 = .ok (.iconst (-1), 1) := by decide +kernel
theorem d_Po_isStricter_2 : decode b_Po_isStricter 2 = .ok (.if_icmp .eq 30, 3) := by decide +kernel
theorem d_Po_isStricter_5 : decode b_Po_isStricter 5 = .ok (.aload_n 0, 1) := by decide +kernel
theorem d_Po_isStricter_6 : decode b_Po_isStricter 6 = .ok (.getfield 25, 3) := by decide +kernel
theorem d_Po_isStricter_9 : decode b_Po_isStricter 9 = .ok (.iload_n 1, 1) := by decide +kernel
theorem d_Po_isStricter_10 : decode b_Po_isStricter 10 = .ok (.aaload, 1) := by decide +kernel
theorem d_Po_isStricter_11 : decode b_Po_isStricter 11 = .ok (.getfield 55, 3) := by decide +kernel
theorem d_Po_isStricter_14 : decode b_Po_isStricter 14 = .ok (.getfield 58, 3) := by decide +kernel
theorem d_Po_isStricter_17 : decode b_Po_isStricter 17 = .ok (.aload_n 0, 1) := by decide +kernel
theorem d_Po_isStricter_18 : decode b_Po_isStricter 18 = .ok (.getfield 25, 3) := by decide +kernel
theorem d_Po_isStricter_21 : decode b_Po_isStricter 21 = .ok (.iload_n 2, 1) := by decide +kernel
theorem d_Po_isStricter_22 : decode b_Po_isStricter 22 = .ok (.aaload, 1) := by decide +kernel
theorem d_Po_isStricter_23 : decode b_Po_isStricter 23 = .ok (.getfield 55, 3) := by decide +kernel
theorem d_Po_isStricter_26 : decode b_Po_isStricter 26 = .ok (.getfield 58, 3) := by decide +kernel
theorem d_Po_isStricter_29 : decode b_Po_isStricter 29 = .ok (.if_icmp .ge 7, 3) := by decide +kernel
theorem d_Po_isStricter_32 : decode b_Po_isStricter 32 = .ok (.iconst 1, 1) := by decide +kernel
theorem d_Po_isStricter_33 : decode b_Po_isStricter 33 = .ok (.goto 4, 3) := by decide +kernel
theorem d_Po_isStricter_36 : decode b_Po_isStricter 36 = .ok (.iconst 0, 1) := by decide +kernel
theorem d_Po_isStricter_37 : decode b_Po_isStricter 37 = .ok (.ireturn, 1) := by decide +kernel
theorem d_Po_actionOf_0 : decode b_Po_actionOf 0 = .ok (.iload_n 1, 1) := by decide +kernel
theorem d_Po_actionOf_1 : decode b_Po_actionOf 1 = .ok (.bipush (-2), 2) := by decide +kernel
theorem d_Po_actionOf_3 : decode b_Po_actionOf 3 = .ok (.if_icmp .ne 8, 3) := by decide +kernel
theorem d_Po_actionOf_6 : decode b_Po_actionOf 6 = .ok (.aload_n 0, 1) := by decide +kernel
theorem d_Po_actionOf_7 : decode b_Po_actionOf 7 = .ok (.getfield 20, 3) := by decide +kernel
theorem d_Po_actionOf_10 : decode b_Po_actionOf 10 = .ok (.areturn, 1) := by decide +kernel
theorem d_Po_actionOf_11 : decode b_Po_actionOf 11 = .ok (.iload_n 1, 1) := by decide +kernel
theorem d_Po_actionOf_12 : decode b_Po_actionOf 12 = .ok (.iconst (-1), 1) := by decide +kernel
theorem d_Po_actionOf_13 : decode b_Po_actionOf 13 = .ok (.if_icmp .ne 10, 3) := by decide +kernel
theorem d_Po_actionOf_16 : decode b_Po_actionOf 16 = .ok (.aload_n 0, 1) := by decide +kernel
theorem d_Po_actionOf_17 : decode b_Po_actionOf 17 = .ok (.getfield 14, 3) := by decide +kernel
theorem d_Po_actionOf_20 : decode b_Po_actionOf 20 = .ok (.goto 12, 3) := by decide +kernel
theorem d_Po_actionOf_23 : decode b_Po_actionOf 23 = .ok (.aload_n 0, 1) := by decide +kernel
theorem d_Po_actionOf_24 : decode b_Po_actionOf 24 = .ok (.getfield 25, 3) := by decide +kernel
theorem d_Po_actionOf_27 : decode b_Po_actionOf 27 = .ok (.iload_n 1, 1) := by decide +kernel
theorem d_Po_actionOf_28 : decode b_Po_actionOf 28 = .ok (.aaload, 1) := by decide +kernel
theorem d_Po_actionOf_29 : decode b_Po_actionOf 29 = .ok (.getfield 55, 3) := by decide +kernel
theorem d_Po_actionOf_32 : decode b_Po_actionOf 32 = .ok (.areturn, 1) := by decide +kernel
theorem d_Po_chooseFor_0 : decode b_Po_chooseFor 0 = .ok (.aload_n 1, 1) := by decide +kernel
theorem d_Po_chooseFor_1 : decode b_Po_chooseFor 1 = .ok (.aload_n 0, 1) := by decide +kernel
theorem d_Po_chooseFor_2 : decode b_Po_chooseFor 2 = .ok (.getfield 29, 3) := by decide +kernel
theorem d_Po_chooseFor_5 : decode b_Po_chooseFor 5 = .ok (.invokevirtual 41, 3) := by decide +kernel
theorem d_Po_chooseFor_8 : decode b_Po_chooseFor 8 = .ok (.ifCond .eq 6, 3) := by decide +kernel
theorem d_Po_chooseFor_11 : decode b_Po_chooseFor 11 = .ok (.bipush (-2), 2) := by decide +kernel
theorem d_Po_chooseFor_13 : decode b_Po_chooseFor 13 = .ok (.ireturn, 1) := by decide +kernel
theorem d_Po_chooseFor_14 : decode b_Po_chooseFor 14 = .ok (.iconst (-1), 1) := by decide +kernel
theorem d_Po_chooseFor_15 : decode b_Po_chooseFor 15 = .ok (.istore_n 2, 1) := by decide +kernel
theorem d_Po_chooseFor_16 : decode b_Po_chooseFor 16 = .ok (.iconst 0, 1) := by decide +kernel
theorem d_Po_chooseFor_17 : decode b_Po_chooseFor 17 = .ok (.istore_n 3, 1) := by decide +kernel
theorem d_Po_chooseFor_18 : decode b_Po_chooseFor 18 = .ok (.iload_n 3, 1) := by decide +kernel
theorem d_Po_chooseFor_19 : decode b_Po_chooseFor 19 = .ok (.aload_n 0, 1) := by decide +kernel
theorem d_Po_chooseFor_20 : decode b_Po_chooseFor 20 = .ok (.getfield 34, 3) := by decide +kernel
theorem d_Po_chooseFor_23 : decode b_Po_chooseFor 23 = .ok (.if_icmp .ge 33, 3) := by decide +kernel
theorem d_Po_chooseFor_26 : decode b_Po_chooseFor 26 = .ok (.aload_n 0, 1) := by decide +kernel
theorem d_Po_chooseFor_27 : decode b_Po_chooseFor 27 = .ok (.getfield 25, 3) := by decide +kernel
theorem d_Po_chooseFor_30 : decode b_Po_chooseFor 30 = .ok (.iload_n 3, 1) := by decide +kernel
theorem d_Po_chooseFor_31 : decode b_Po_chooseFor 31 = .ok (.aaload, 1) := by decide +kernel
theorem d_Po_chooseFor_32 : decode b_Po_chooseFor 32 = .ok (.aload_n 1, 1) := by decide +kernel
theorem d_Po_chooseFor_33 : decode b_Po_chooseFor 33 = .ok (.invokevirtual 47, 3) := by decide +kernel
theorem d_Po_chooseFor_36 : decode b_Po_chooseFor 36 = .ok (.ifCond .eq 14, 3) := by decide +kernel
theorem d_Po_chooseFor_39 : decode b_Po_chooseFor 39 = .ok (.aload_n 0, 1) := by decide +kernel
theorem d_Po_chooseFor_40 : decode b_Po_chooseFor 40 = .ok (.iload_n 3, 1) := by decide +kernel
theorem d_Po_chooseFor_41 : decode b_Po_chooseFor 41 = .ok (.iload_n 2, 1) := by decide +kernel
theorem d_Po_chooseFor_42 : decode b_Po_chooseFor 42 = .ok (.invokevirtual 51, 3) := by decide +kernel
theorem d_Po_chooseFor_45 : decode b_Po_chooseFor 45 = .ok (.ifCond .eq 5, 3) := by decide +kernel
theorem d_Po_chooseFor_48 : decode b_Po_chooseFor 48 = .ok (.iload_n 3, 1) := by decide +kernel
theorem d_Po_chooseFor_49 : decode b_Po_chooseFor 49 = .ok (.istore_n 2, 1) := by decide +kernel
theorem d_Po_chooseFor_50 : decode b_Po_chooseFor 50 = .ok (.iinc 3 1, 3) := by decide +kernel
theorem d_Po_chooseFor_53 : decode b_Po_chooseFor 53 = .ok (.goto (-35), 3) := by decide +kernel
theorem d_Po_chooseFor_56 : decode b_Po_chooseFor 56 = .ok (.iload_n 2, 1) := by decide +kernel
theorem d_Po_chooseFor_57 : decode b_Po_chooseFor 57 = .ok (.ireturn, 1) := by decide +kernel
def m_Ac_become_d (P : PT) (kd : Int32) (dt : Int32) : PT := (P.1, P.2.1, (kd, dt), P.2.2.2.1, P.2.2.2.2)
set_option maxHeartbeats 4000000 in
set_option maxRecDepth 100000 in
theorem c_Ac_become_d (l : Launch) (D : va_G) (dA : Nat → ClassId) (ad : Nat → Nat) (A : Nat → Prop) (hAd : AdOK 49 ad A) (w : Nat → Int32) (P : PT) (g : GT) (ss : Nat → Int32) (M : MT) (kd : Int32) (dt : Int32) : Met l y_Ac_become (mW y_Ac_become b_Ac_become 3 none) { frames := 0, cells := 0, slots := 0, locals := 0 } (va_Pc [.ref (ad 4), .int kd, .int dt] (fun U => CG D dA ad w P g ss M U)) (va_Qv (fun u : PT => u = m_Ac_become_d P kd dt) (fun u t => CG D dA ad w u g ss M t) A) 0 0 A := by
  refine Met.ofW (cc := b_Ac_become) (maxL := 3) (ret := none) (by decide) rfl ?_
  intro p e s m args below meth c s₁ B hml hv
  obtain ⟨rfl, hP, hK, hN⟩ := hv
  have hx := B.exec
  have hb := B.bytes
  have hr := B.returns
  have hlocks := B.notSynchronized
  have hts := fun (w : Cond) (h : w ∈ lw_g) => atoms_spec (ws := mW y_Ac_become b_Ac_become 3 none) B.pre w (List.mem_cons_of_mem _ h)
  have hown : s.vm.findClass R_Ac = some m.cls := findClass_of_methodNamed B.named
  have hS : va_S A s.heap s.heap [] := va_S.rf
  have hl := lv_entry ([.ref (ad 4), .int kd, .int dt]) (n := 3) (Nat.le_of_ble_eq_true rfl)
  rw [lg_entry_eq]
  generalize (lg_sl ([.ref (ad 4), .int kd, .int dt]) ++ List.replicate (3 - (lg_sl ([.ref (ad 4), .int kd, .int dt])).length) Slot.unset).toArray = ls at hl ⊢
  have hl : lv_has ls 3 [(0, .ref (ad 4)), (1, .int kd), (2, .int dt)] := hl
  refine lv_aload_n hx hb d_Ac_become_0 rfl (lv_at hl 0 rfl) ?_
  refine lv_iload_n hx hb d_Ac_become_1 rfl (lv_at hl 1 rfl) ?_
  refine va_put (D := D) (ci := 0) (v := .int kd) (ty := .int) (C := R_Ac) (T := F_Ac) (N := 2) hx hb hts in_Ac t_Ac k_Ac n_Ac hown hK hP (wC_D hAd) hS 4 rfl rfl 0 (by decide) (hts _ wd_71) (fun _ h9 => h9) rfl (by decide +kernel) rfl rfl (Nat.le_of_ble_eq_true rfl) d_Ac_become_2 (fun H locs hP _ hS => ?_)
  have hP : va_P D cls (wC ad dA w (P.1, P.2.1, (kd, P.2.2.1.2), P.2.2.2.1, P.2.2.2.2) g ss M) H := hP
  refine lv_aload_n hx hb d_Ac_become_5 rfl (lv_at hl 0 rfl) ?_
  refine lv_iload_n hx hb d_Ac_become_6 rfl (lv_at hl 2 rfl) ?_
  refine va_put (D := D) (ci := 0) (v := .int dt) (ty := .int) (C := R_Ac) (T := F_Ac) (N := 2) hx hb hts in_Ac t_Ac k_Ac n_Ac hown hK hP (wC_D hAd) hS 4 rfl rfl 1 (by decide) (hts _ wd_73) (fun _ h9 => h9) rfl (by decide +kernel) rfl rfl (Nat.le_of_ble_eq_true rfl) d_Ac_become_7 (fun H locs hP _ hS => ?_)
  have hP : va_P D cls (wC ad dA w (P.1, P.2.1, (kd, dt), P.2.2.2.1, P.2.2.2.2) g ss M) H := hP
  exact W.vret hx hb hr (fun t ht hW => ⟨⟨_, rfl, (by rw [m_Ac_become_d]), CG_at hP hK hN ht hW⟩, hS.F ht⟩) hS.2.2 d_Ac_become_10
def m_Ac_become_f (P : PT) (kd : Int32) (dt : Int32) : PT := (P.1, P.2.1, P.2.2.1, (kd, dt), P.2.2.2.2)
set_option maxHeartbeats 4000000 in
set_option maxRecDepth 100000 in
theorem c_Ac_become_f (l : Launch) (D : va_G) (dA : Nat → ClassId) (ad : Nat → Nat) (A : Nat → Prop) (hAd : AdOK 49 ad A) (w : Nat → Int32) (P : PT) (g : GT) (ss : Nat → Int32) (M : MT) (kd : Int32) (dt : Int32) : Met l y_Ac_become (mW y_Ac_become b_Ac_become 3 none) { frames := 0, cells := 0, slots := 0, locals := 0 } (va_Pc [.ref (ad 5), .int kd, .int dt] (fun U => CG D dA ad w P g ss M U)) (va_Qv (fun u : PT => u = m_Ac_become_f P kd dt) (fun u t => CG D dA ad w u g ss M t) A) 0 0 A := by
  refine Met.ofW (cc := b_Ac_become) (maxL := 3) (ret := none) (by decide) rfl ?_
  intro p e s m args below meth c s₁ B hml hv
  obtain ⟨rfl, hP, hK, hN⟩ := hv
  have hx := B.exec
  have hb := B.bytes
  have hr := B.returns
  have hlocks := B.notSynchronized
  have hts := fun (w : Cond) (h : w ∈ lw_g) => atoms_spec (ws := mW y_Ac_become b_Ac_become 3 none) B.pre w (List.mem_cons_of_mem _ h)
  have hown : s.vm.findClass R_Ac = some m.cls := findClass_of_methodNamed B.named
  have hS : va_S A s.heap s.heap [] := va_S.rf
  have hl := lv_entry ([.ref (ad 5), .int kd, .int dt]) (n := 3) (Nat.le_of_ble_eq_true rfl)
  rw [lg_entry_eq]
  generalize (lg_sl ([.ref (ad 5), .int kd, .int dt]) ++ List.replicate (3 - (lg_sl ([.ref (ad 5), .int kd, .int dt])).length) Slot.unset).toArray = ls at hl ⊢
  have hl : lv_has ls 3 [(0, .ref (ad 5)), (1, .int kd), (2, .int dt)] := hl
  refine lv_aload_n hx hb d_Ac_become_0 rfl (lv_at hl 0 rfl) ?_
  refine lv_iload_n hx hb d_Ac_become_1 rfl (lv_at hl 1 rfl) ?_
  refine va_put (D := D) (ci := 0) (v := .int kd) (ty := .int) (C := R_Ac) (T := F_Ac) (N := 2) hx hb hts in_Ac t_Ac k_Ac n_Ac hown hK hP (wC_D hAd) hS 5 rfl rfl 0 (by decide) (hts _ wd_71) (fun _ h9 => h9) rfl (by decide +kernel) rfl rfl (Nat.le_of_ble_eq_true rfl) d_Ac_become_2 (fun H locs hP _ hS => ?_)
  have hP : va_P D cls (wC ad dA w (P.1, P.2.1, P.2.2.1, (kd, P.2.2.2.1.2), P.2.2.2.2) g ss M) H := hP
  refine lv_aload_n hx hb d_Ac_become_5 rfl (lv_at hl 0 rfl) ?_
  refine lv_iload_n hx hb d_Ac_become_6 rfl (lv_at hl 2 rfl) ?_
  refine va_put (D := D) (ci := 0) (v := .int dt) (ty := .int) (C := R_Ac) (T := F_Ac) (N := 2) hx hb hts in_Ac t_Ac k_Ac n_Ac hown hK hP (wC_D hAd) hS 5 rfl rfl 1 (by decide) (hts _ wd_73) (fun _ h9 => h9) rfl (by decide +kernel) rfl rfl (Nat.le_of_ble_eq_true rfl) d_Ac_become_7 (fun H locs hP _ hS => ?_)
  have hP : va_P D cls (wC ad dA w (P.1, P.2.1, P.2.2.1, (kd, dt), P.2.2.2.2) g ss M) H := hP
  exact W.vret hx hb hr (fun t ht hW => ⟨⟨_, rfl, (by rw [m_Ac_become_f]), CG_at hP hK hN ht hW⟩, hS.F ht⟩) hS.2.2 d_Ac_become_10
def m_Ac_become_r (P : PT) (i : Nat) (kd : Int32) (dt : Int32) : PT := (P.1, P.2.1, P.2.2.1, P.2.2.2.1, updR P.2.2.2.2 i ((P.2.2.2.2 i).1, (P.2.2.2.2 i).2.1, (P.2.2.2.2 i).2.2.1, kd, dt, (P.2.2.2.2 i).2.2.2.2.2))
set_option maxHeartbeats 4000000 in
set_option maxRecDepth 100000 in
theorem c_Ac_become_r (l : Launch) (D : va_G) (dA : Nat → ClassId) (ad : Nat → Nat) (A : Nat → Prop) (hAd : AdOK 49 ad A) (w : Nat → Int32) (P : PT) (g : GT) (ss : Nat → Int32) (M : MT) (i : Nat) (kd : Int32) (dt : Int32) (hi : i < 6) : Met l y_Ac_become (mW y_Ac_become b_Ac_become 3 none) { frames := 0, cells := 0, slots := 0, locals := 0 } (va_Pc [.ref (ad (14 + 6 * i)), .int kd, .int dt] (fun U => CG D dA ad w P g ss M U)) (va_Qv (fun u : PT => u = m_Ac_become_r P i kd dt) (fun u t => CG D dA ad w u g ss M t) A) 0 0 A := by
  refine Met.ofW (cc := b_Ac_become) (maxL := 3) (ret := none) (by decide) rfl ?_
  intro p e s m args below meth c s₁ B hml hv
  obtain ⟨rfl, hP, hK, hN⟩ := hv
  have hx := B.exec
  have hb := B.bytes
  have hr := B.returns
  have hlocks := B.notSynchronized
  have hts := fun (w : Cond) (h : w ∈ lw_g) => atoms_spec (ws := mW y_Ac_become b_Ac_become 3 none) B.pre w (List.mem_cons_of_mem _ h)
  have hown : s.vm.findClass R_Ac = some m.cls := findClass_of_methodNamed B.named
  have hS : va_S A s.heap s.heap [] := va_S.rf
  have hl := lv_entry ([.ref (ad (14 + 6 * i)), .int kd, .int dt]) (n := 3) (Nat.le_of_ble_eq_true rfl)
  rw [lg_entry_eq]
  generalize (lg_sl ([.ref (ad (14 + 6 * i)), .int kd, .int dt]) ++ List.replicate (3 - (lg_sl ([.ref (ad (14 + 6 * i)), .int kd, .int dt])).length) Slot.unset).toArray = ls at hl ⊢
  have hl : lv_has ls 3 [(0, .ref (ad (14 + 6 * i))), (1, .int kd), (2, .int dt)] := hl
  have hP : va_P D cls (wC ad dA w (P.1, P.2.1, P.2.2.1, P.2.2.2.1, updR P.2.2.2.2 i ((P.2.2.2.2 i).1, (P.2.2.2.2 i).2.1, (P.2.2.2.2 i).2.2.1, (P.2.2.2.2 i).2.2.2.1, (P.2.2.2.2 i).2.2.2.2.1, (P.2.2.2.2 i).2.2.2.2.2)) g ss M) s.heap := wF_in hP
  refine lv_aload_n hx hb d_Ac_become_0 rfl (lv_at hl 0 rfl) ?_
  refine lv_iload_n hx hb d_Ac_become_1 rfl (lv_at hl 1 rfl) ?_
  refine va_put (D := D) (ci := 0) (v := .int kd) (ty := .int) (C := R_Ac) (T := F_Ac) (N := 2) hx hb hts in_Ac t_Ac k_Ac n_Ac hown hK hP (wC_D hAd) hS (13 + 6 * i + 1) (wF_ra (by omega)) rfl 0 (by decide) (hts _ wd_71) (fun _ h9 => h9) rfl (by decide +kernel) rfl rfl (Nat.le_of_ble_eq_true rfl) d_Ac_become_2 (fun H locs hP _ hS => ?_)
  have hP : va_P D cls (wC ad dA w (P.1, P.2.1, P.2.2.1, P.2.2.2.1, updR P.2.2.2.2 i ((P.2.2.2.2 i).1, (P.2.2.2.2 i).2.1, (P.2.2.2.2 i).2.2.1, kd, (P.2.2.2.2 i).2.2.2.2.1, (P.2.2.2.2 i).2.2.2.2.2)) g ss M) H := wF_put (r := ((P.2.2.2.2 i).1, (P.2.2.2.2 i).2.1, (P.2.2.2.2 i).2.2.1, kd, (P.2.2.2.2 i).2.2.2.2.1, (P.2.2.2.2 i).2.2.2.2.2)) (by omega) 1 (by omega) (by rfl) hP
  refine lv_aload_n hx hb d_Ac_become_5 rfl (lv_at hl 0 rfl) ?_
  refine lv_iload_n hx hb d_Ac_become_6 rfl (lv_at hl 2 rfl) ?_
  refine va_put (D := D) (ci := 0) (v := .int dt) (ty := .int) (C := R_Ac) (T := F_Ac) (N := 2) hx hb hts in_Ac t_Ac k_Ac n_Ac hown hK hP (wC_D hAd) hS (13 + 6 * i + 1) (wF_ra (by omega)) rfl 1 (by decide) (hts _ wd_73) (fun _ h9 => h9) rfl (by decide +kernel) rfl rfl (Nat.le_of_ble_eq_true rfl) d_Ac_become_7 (fun H locs hP _ hS => ?_)
  have hP : va_P D cls (wC ad dA w (P.1, P.2.1, P.2.2.1, P.2.2.2.1, updR P.2.2.2.2 i ((P.2.2.2.2 i).1, (P.2.2.2.2 i).2.1, (P.2.2.2.2 i).2.2.1, kd, dt, (P.2.2.2.2 i).2.2.2.2.2)) g ss M) H := wF_put (r := ((P.2.2.2.2 i).1, (P.2.2.2.2 i).2.1, (P.2.2.2.2 i).2.2.1, kd, dt, (P.2.2.2.2 i).2.2.2.2.2)) (by omega) 1 (by omega) (by rfl) hP
  exact W.vret hx hb hr (fun t ht hW => ⟨⟨_, rfl, (by rw [m_Ac_become_r]), CG_at hP hK hN ht hW⟩, hS.F ht⟩) hS.2.2 d_Ac_become_10
theorem ac_foc {a b : Int32} {c d : Int32 × Int32} {R0 : Nat → RT} {i : Nat} {r : RT} {kd dt : Int32} : m_Ac_become_r (a, b, c, d, updR R0 i r) i kd dt = (a, b, c, d, updR R0 i (r.1, r.2.1, r.2.2.1, kd, dt, r.2.2.2.2.2)) := by
  unfold m_Ac_become_r
  dsimp only
  rw [updR_at, updR_two]
def m_Ac_asWord_d (P : PT) : Int64 := if P.2.2.1.1 < (2 : Int32) then (kwf P.2.2.1.1.toNatClampNeg) + ((0 : Int32).toInt64) else if (4 : Int32) < P.2.2.1.1 then (kwf P.2.2.1.1.toNatClampNeg) + ((0 : Int32).toInt64) else (kwf P.2.2.1.1.toNatClampNeg) + P.2.2.1.2.toInt64
set_option maxHeartbeats 4000000 in
set_option maxRecDepth 100000 in
theorem c_Ac_asWord_d (l : Launch) (D : va_G) (dA : Nat → ClassId) (ad : Nat → Nat) (kt : Nat) (w : Nat → Int32) (P : PT) (g : GT) (ss : Nat → Int32) (M : MT) (hk : vp_in P.2.2.1.1 7) : Met l y_Ac_asWord (mW y_Ac_asWord b_Ac_asWord 2 (some .long)) { frames := 0, cells := 0, slots := 0, locals := 0 } (va_Pc [.ref (ad 4)] (fun U => CG D dA ad w P g ss M U ∧ KW kt U)) (vp_Sl (fun r => r = m_Ac_asWord_d P)) 0 0 (fun _ => False) := by
  refine Met.ofW (cc := b_Ac_asWord) (maxL := 2) (ret := (some .long)) (by decide) rfl ?_
  intro p e s m args below meth c s₁ B hml hv
  obtain ⟨rfl, ⟨hP, hK, hN⟩, hkw⟩ := hv
  have hx := B.exec
  have hb := B.bytes
  have hr := B.returns
  have hlocks := B.notSynchronized
  have hts := fun (w : Cond) (h : w ∈ lw_g) => atoms_spec (ws := mW y_Ac_asWord b_Ac_asWord 2 (some .long)) B.pre w (List.mem_cons_of_mem _ h)
  have hown : s.vm.findClass R_Ac = some m.cls := findClass_of_methodNamed B.named
  have hZ := hkw.1
  have hT := hkw.2
  have hl := lv_entry ([.ref (ad 4)]) (n := 2) (Nat.le_of_ble_eq_true rfl)
  rw [lg_entry_eq]
  generalize (lg_sl ([.ref (ad 4)]) ++ List.replicate (2 - (lg_sl ([.ref (ad 4)])).length) Slot.unset).toArray = ls at hl ⊢
  have hl : lv_has ls 2 [(0, .ref (ad 4))] := hl
  refine lv_iconst (v := 2) hx hb d_Ac_asWord_0 (by decide) ?_
  refine lv_aload_n hx hb d_Ac_asWord_1 rfl (lv_at hl 0 rfl) ?_
  refine va_get (D := D) (ci := 0) (v := .int P.2.2.1.1) (C := R_Ac) (T := F_Ac) (N := 2) hx hb hts in_Ac hown hK hP 4 rfl rfl 0 (by decide) (hts _ wd_71) (fun _ h9 => h9) rfl d_Ac_asWord_2 ?_
  refine lv_icmp_gt (tgt := 20) hx hb d_Ac_asWord_5 (by decide) (fun h1 => ?_) (fun h1 => ?_)
  · refine lv_iconst (v := 0) hx hb d_Ac_asWord_20 (by decide) ?_
    refine lv_istore_n hx hb d_Ac_asWord_21 rfl hl (by decide) rfl (fun ls hl => ?_)
    have hl : lv_has ls 2 [(1, .int (0 : Int32)), (0, .ref (ad 4))] := hl
    refine va_gets hx hb hZ va_S.rf hown (hts _ wd_334) (fun _ h9 => h9) d_Ac_asWord_22 ?_
    refine lv_aload_n hx hb d_Ac_asWord_25 rfl (lv_at hl 1 rfl) ?_
    refine va_get (D := D) (ci := 0) (v := .int P.2.2.1.1) (C := R_Ac) (T := F_Ac) (N := 2) hx hb hts in_Ac hown hK hP 4 rfl rfl 0 (by decide) (hts _ wd_71) (fun _ h9 => h9) rfl d_Ac_asWord_26 ?_
    refine va_tl hx hb hT va_S.rf hk (v := .long (kwf P.2.2.1.1.toNatClampNeg)) rfl d_Ac_asWord_29 ?_
    refine lv_iload_n hx hb d_Ac_asWord_30 rfl (lv_at hl 0 rfl) ?_
    refine lv_if_eq (tgt := 41) hx hb d_Ac_asWord_31 (by decide) (fun _ => ?_) (fun h => absurd h (by decide))
    refine lv_iconst (v := 0) hx hb d_Ac_asWord_41 (by decide) ?_
    refine lv_i2l hx hb d_Ac_asWord_42 rfl ?_
    refine lv_ladd hx hb d_Ac_asWord_43 ?_
    exact W.lret hx hb hr (fun t ht hW => ⟨_, rfl, (by rw [m_Ac_asWord_d, if_pos h1]), ht⟩) (fun _ h => by cases h) d_Ac_asWord_44
  refine lv_aload_n hx hb d_Ac_asWord_8 rfl (lv_at hl 0 rfl) ?_
  refine va_get (D := D) (ci := 0) (v := .int P.2.2.1.1) (C := R_Ac) (T := F_Ac) (N := 2) hx hb hts in_Ac hown hK hP 4 rfl rfl 0 (by decide) (hts _ wd_71) (fun _ h9 => h9) rfl d_Ac_asWord_9 ?_
  refine lv_iconst (v := 4) hx hb d_Ac_asWord_12 (by decide) ?_
  refine lv_icmp_gt (tgt := 20) hx hb d_Ac_asWord_13 (by decide) (fun h2 => ?_) (fun h2 => ?_)
  · refine lv_iconst (v := 0) hx hb d_Ac_asWord_20 (by decide) ?_
    refine lv_istore_n hx hb d_Ac_asWord_21 rfl hl (by decide) rfl (fun ls hl => ?_)
    have hl : lv_has ls 2 [(1, .int (0 : Int32)), (0, .ref (ad 4))] := hl
    refine va_gets hx hb hZ va_S.rf hown (hts _ wd_334) (fun _ h9 => h9) d_Ac_asWord_22 ?_
    refine lv_aload_n hx hb d_Ac_asWord_25 rfl (lv_at hl 1 rfl) ?_
    refine va_get (D := D) (ci := 0) (v := .int P.2.2.1.1) (C := R_Ac) (T := F_Ac) (N := 2) hx hb hts in_Ac hown hK hP 4 rfl rfl 0 (by decide) (hts _ wd_71) (fun _ h9 => h9) rfl d_Ac_asWord_26 ?_
    refine va_tl hx hb hT va_S.rf hk (v := .long (kwf P.2.2.1.1.toNatClampNeg)) rfl d_Ac_asWord_29 ?_
    refine lv_iload_n hx hb d_Ac_asWord_30 rfl (lv_at hl 0 rfl) ?_
    refine lv_if_eq (tgt := 41) hx hb d_Ac_asWord_31 (by decide) (fun _ => ?_) (fun h => absurd h (by decide))
    refine lv_iconst (v := 0) hx hb d_Ac_asWord_41 (by decide) ?_
    refine lv_i2l hx hb d_Ac_asWord_42 rfl ?_
    refine lv_ladd hx hb d_Ac_asWord_43 ?_
    exact W.lret hx hb hr (fun t ht hW => ⟨_, rfl, (by rw [m_Ac_asWord_d, if_neg h1, if_pos h2]), ht⟩) (fun _ h => by cases h) d_Ac_asWord_44
  refine lv_iconst (v := 1) hx hb d_Ac_asWord_16 (by decide) ?_
  refine lv_goto (tgt := 21) hx hb d_Ac_asWord_17 (by decide) ?_
  refine lv_istore_n hx hb d_Ac_asWord_21 rfl hl (by decide) rfl (fun ls hl => ?_)
  have hl : lv_has ls 2 [(1, .int (1 : Int32)), (0, .ref (ad 4))] := hl
  refine va_gets hx hb hZ va_S.rf hown (hts _ wd_334) (fun _ h9 => h9) d_Ac_asWord_22 ?_
  refine lv_aload_n hx hb d_Ac_asWord_25 rfl (lv_at hl 1 rfl) ?_
  refine va_get (D := D) (ci := 0) (v := .int P.2.2.1.1) (C := R_Ac) (T := F_Ac) (N := 2) hx hb hts in_Ac hown hK hP 4 rfl rfl 0 (by decide) (hts _ wd_71) (fun _ h9 => h9) rfl d_Ac_asWord_26 ?_
  refine va_tl hx hb hT va_S.rf hk (v := .long (kwf P.2.2.1.1.toNatClampNeg)) rfl d_Ac_asWord_29 ?_
  refine lv_iload_n hx hb d_Ac_asWord_30 rfl (lv_at hl 0 rfl) ?_
  refine lv_if_eq (tgt := 41) hx hb d_Ac_asWord_31 (by decide) (fun h => absurd h (by decide)) (fun _ => ?_)
  refine lv_aload_n hx hb d_Ac_asWord_34 rfl (lv_at hl 1 rfl) ?_
  refine va_get (D := D) (ci := 0) (v := .int P.2.2.1.2) (C := R_Ac) (T := F_Ac) (N := 2) hx hb hts in_Ac hown hK hP 4 rfl rfl 1 (by decide) (hts _ wd_73) (fun _ h9 => h9) rfl d_Ac_asWord_35 ?_
  refine lv_goto (tgt := 42) hx hb d_Ac_asWord_38 (by decide) ?_
  refine lv_i2l hx hb d_Ac_asWord_42 rfl ?_
  refine lv_ladd hx hb d_Ac_asWord_43 ?_
  exact W.lret hx hb hr (fun t ht hW => ⟨_, rfl, (by rw [m_Ac_asWord_d, if_neg h1, if_neg h2]), ht⟩) (fun _ h => by cases h) d_Ac_asWord_44
def m_Ac_asWord_f (P : PT) : Int64 := if P.2.2.2.1.1 < (2 : Int32) then (kwf P.2.2.2.1.1.toNatClampNeg) + ((0 : Int32).toInt64) else if (4 : Int32) < P.2.2.2.1.1 then (kwf P.2.2.2.1.1.toNatClampNeg) + ((0 : Int32).toInt64) else (kwf P.2.2.2.1.1.toNatClampNeg) + P.2.2.2.1.2.toInt64
set_option maxHeartbeats 4000000 in
set_option maxRecDepth 100000 in
theorem c_Ac_asWord_f (l : Launch) (D : va_G) (dA : Nat → ClassId) (ad : Nat → Nat) (kt : Nat) (w : Nat → Int32) (P : PT) (g : GT) (ss : Nat → Int32) (M : MT) (hk : vp_in P.2.2.2.1.1 7) : Met l y_Ac_asWord (mW y_Ac_asWord b_Ac_asWord 2 (some .long)) { frames := 0, cells := 0, slots := 0, locals := 0 } (va_Pc [.ref (ad 5)] (fun U => CG D dA ad w P g ss M U ∧ KW kt U)) (vp_Sl (fun r => r = m_Ac_asWord_f P)) 0 0 (fun _ => False) := by
  refine Met.ofW (cc := b_Ac_asWord) (maxL := 2) (ret := (some .long)) (by decide) rfl ?_
  intro p e s m args below meth c s₁ B hml hv
  obtain ⟨rfl, ⟨hP, hK, hN⟩, hkw⟩ := hv
  have hx := B.exec
  have hb := B.bytes
  have hr := B.returns
  have hlocks := B.notSynchronized
  have hts := fun (w : Cond) (h : w ∈ lw_g) => atoms_spec (ws := mW y_Ac_asWord b_Ac_asWord 2 (some .long)) B.pre w (List.mem_cons_of_mem _ h)
  have hown : s.vm.findClass R_Ac = some m.cls := findClass_of_methodNamed B.named
  have hZ := hkw.1
  have hT := hkw.2
  have hl := lv_entry ([.ref (ad 5)]) (n := 2) (Nat.le_of_ble_eq_true rfl)
  rw [lg_entry_eq]
  generalize (lg_sl ([.ref (ad 5)]) ++ List.replicate (2 - (lg_sl ([.ref (ad 5)])).length) Slot.unset).toArray = ls at hl ⊢
  have hl : lv_has ls 2 [(0, .ref (ad 5))] := hl
  refine lv_iconst (v := 2) hx hb d_Ac_asWord_0 (by decide) ?_
  refine lv_aload_n hx hb d_Ac_asWord_1 rfl (lv_at hl 0 rfl) ?_
  refine va_get (D := D) (ci := 0) (v := .int P.2.2.2.1.1) (C := R_Ac) (T := F_Ac) (N := 2) hx hb hts in_Ac hown hK hP 5 rfl rfl 0 (by decide) (hts _ wd_71) (fun _ h9 => h9) rfl d_Ac_asWord_2 ?_
  refine lv_icmp_gt (tgt := 20) hx hb d_Ac_asWord_5 (by decide) (fun h1 => ?_) (fun h1 => ?_)
  · refine lv_iconst (v := 0) hx hb d_Ac_asWord_20 (by decide) ?_
    refine lv_istore_n hx hb d_Ac_asWord_21 rfl hl (by decide) rfl (fun ls hl => ?_)
    have hl : lv_has ls 2 [(1, .int (0 : Int32)), (0, .ref (ad 5))] := hl
    refine va_gets hx hb hZ va_S.rf hown (hts _ wd_334) (fun _ h9 => h9) d_Ac_asWord_22 ?_
    refine lv_aload_n hx hb d_Ac_asWord_25 rfl (lv_at hl 1 rfl) ?_
    refine va_get (D := D) (ci := 0) (v := .int P.2.2.2.1.1) (C := R_Ac) (T := F_Ac) (N := 2) hx hb hts in_Ac hown hK hP 5 rfl rfl 0 (by decide) (hts _ wd_71) (fun _ h9 => h9) rfl d_Ac_asWord_26 ?_
    refine va_tl hx hb hT va_S.rf hk (v := .long (kwf P.2.2.2.1.1.toNatClampNeg)) rfl d_Ac_asWord_29 ?_
    refine lv_iload_n hx hb d_Ac_asWord_30 rfl (lv_at hl 0 rfl) ?_
    refine lv_if_eq (tgt := 41) hx hb d_Ac_asWord_31 (by decide) (fun _ => ?_) (fun h => absurd h (by decide))
    refine lv_iconst (v := 0) hx hb d_Ac_asWord_41 (by decide) ?_
    refine lv_i2l hx hb d_Ac_asWord_42 rfl ?_
    refine lv_ladd hx hb d_Ac_asWord_43 ?_
    exact W.lret hx hb hr (fun t ht hW => ⟨_, rfl, (by rw [m_Ac_asWord_f, if_pos h1]), ht⟩) (fun _ h => by cases h) d_Ac_asWord_44
  refine lv_aload_n hx hb d_Ac_asWord_8 rfl (lv_at hl 0 rfl) ?_
  refine va_get (D := D) (ci := 0) (v := .int P.2.2.2.1.1) (C := R_Ac) (T := F_Ac) (N := 2) hx hb hts in_Ac hown hK hP 5 rfl rfl 0 (by decide) (hts _ wd_71) (fun _ h9 => h9) rfl d_Ac_asWord_9 ?_
  refine lv_iconst (v := 4) hx hb d_Ac_asWord_12 (by decide) ?_
  refine lv_icmp_gt (tgt := 20) hx hb d_Ac_asWord_13 (by decide) (fun h2 => ?_) (fun h2 => ?_)
  · refine lv_iconst (v := 0) hx hb d_Ac_asWord_20 (by decide) ?_
    refine lv_istore_n hx hb d_Ac_asWord_21 rfl hl (by decide) rfl (fun ls hl => ?_)
    have hl : lv_has ls 2 [(1, .int (0 : Int32)), (0, .ref (ad 5))] := hl
    refine va_gets hx hb hZ va_S.rf hown (hts _ wd_334) (fun _ h9 => h9) d_Ac_asWord_22 ?_
    refine lv_aload_n hx hb d_Ac_asWord_25 rfl (lv_at hl 1 rfl) ?_
    refine va_get (D := D) (ci := 0) (v := .int P.2.2.2.1.1) (C := R_Ac) (T := F_Ac) (N := 2) hx hb hts in_Ac hown hK hP 5 rfl rfl 0 (by decide) (hts _ wd_71) (fun _ h9 => h9) rfl d_Ac_asWord_26 ?_
    refine va_tl hx hb hT va_S.rf hk (v := .long (kwf P.2.2.2.1.1.toNatClampNeg)) rfl d_Ac_asWord_29 ?_
    refine lv_iload_n hx hb d_Ac_asWord_30 rfl (lv_at hl 0 rfl) ?_
    refine lv_if_eq (tgt := 41) hx hb d_Ac_asWord_31 (by decide) (fun _ => ?_) (fun h => absurd h (by decide))
    refine lv_iconst (v := 0) hx hb d_Ac_asWord_41 (by decide) ?_
    refine lv_i2l hx hb d_Ac_asWord_42 rfl ?_
    refine lv_ladd hx hb d_Ac_asWord_43 ?_
    exact W.lret hx hb hr (fun t ht hW => ⟨_, rfl, (by rw [m_Ac_asWord_f, if_neg h1, if_pos h2]), ht⟩) (fun _ h => by cases h) d_Ac_asWord_44
  refine lv_iconst (v := 1) hx hb d_Ac_asWord_16 (by decide) ?_
  refine lv_goto (tgt := 21) hx hb d_Ac_asWord_17 (by decide) ?_
  refine lv_istore_n hx hb d_Ac_asWord_21 rfl hl (by decide) rfl (fun ls hl => ?_)
  have hl : lv_has ls 2 [(1, .int (1 : Int32)), (0, .ref (ad 5))] := hl
  refine va_gets hx hb hZ va_S.rf hown (hts _ wd_334) (fun _ h9 => h9) d_Ac_asWord_22 ?_
  refine lv_aload_n hx hb d_Ac_asWord_25 rfl (lv_at hl 1 rfl) ?_
  refine va_get (D := D) (ci := 0) (v := .int P.2.2.2.1.1) (C := R_Ac) (T := F_Ac) (N := 2) hx hb hts in_Ac hown hK hP 5 rfl rfl 0 (by decide) (hts _ wd_71) (fun _ h9 => h9) rfl d_Ac_asWord_26 ?_
  refine va_tl hx hb hT va_S.rf hk (v := .long (kwf P.2.2.2.1.1.toNatClampNeg)) rfl d_Ac_asWord_29 ?_
  refine lv_iload_n hx hb d_Ac_asWord_30 rfl (lv_at hl 0 rfl) ?_
  refine lv_if_eq (tgt := 41) hx hb d_Ac_asWord_31 (by decide) (fun h => absurd h (by decide)) (fun _ => ?_)
  refine lv_aload_n hx hb d_Ac_asWord_34 rfl (lv_at hl 1 rfl) ?_
  refine va_get (D := D) (ci := 0) (v := .int P.2.2.2.1.2) (C := R_Ac) (T := F_Ac) (N := 2) hx hb hts in_Ac hown hK hP 5 rfl rfl 1 (by decide) (hts _ wd_73) (fun _ h9 => h9) rfl d_Ac_asWord_35 ?_
  refine lv_goto (tgt := 42) hx hb d_Ac_asWord_38 (by decide) ?_
  refine lv_i2l hx hb d_Ac_asWord_42 rfl ?_
  refine lv_ladd hx hb d_Ac_asWord_43 ?_
  exact W.lret hx hb hr (fun t ht hW => ⟨_, rfl, (by rw [m_Ac_asWord_f, if_neg h1, if_neg h2]), ht⟩) (fun _ h => by cases h) d_Ac_asWord_44
def m_Ac_asWord_r (P : PT) (i : Nat) : Int64 := if ((P.2.2.2.2 i).2.2.2.1) < (2 : Int32) then (kwf ((P.2.2.2.2 i).2.2.2.1).toNatClampNeg) + ((0 : Int32).toInt64) else if (4 : Int32) < ((P.2.2.2.2 i).2.2.2.1) then (kwf ((P.2.2.2.2 i).2.2.2.1).toNatClampNeg) + ((0 : Int32).toInt64) else (kwf ((P.2.2.2.2 i).2.2.2.1).toNatClampNeg) + (((P.2.2.2.2 i).2.2.2.2.1).toInt64)
set_option maxHeartbeats 4000000 in
set_option maxRecDepth 100000 in
theorem c_Ac_asWord_r (l : Launch) (D : va_G) (dA : Nat → ClassId) (ad : Nat → Nat) (kt : Nat) (w : Nat → Int32) (P : PT) (g : GT) (ss : Nat → Int32) (M : MT) (i : Nat) (hi : i < 6) (hk : vp_in (P.2.2.2.2 i).2.2.2.1 7) : Met l y_Ac_asWord (mW y_Ac_asWord b_Ac_asWord 2 (some .long)) { frames := 0, cells := 0, slots := 0, locals := 0 } (va_Pc [.ref (ad (14 + 6 * i))] (fun U => CG D dA ad w P g ss M U ∧ KW kt U)) (vp_Sl (fun r => r = m_Ac_asWord_r P i)) 0 0 (fun _ => False) := by
  refine Met.ofW (cc := b_Ac_asWord) (maxL := 2) (ret := (some .long)) (by decide) rfl ?_
  intro p e s m args below meth c s₁ B hml hv
  obtain ⟨rfl, ⟨hP, hK, hN⟩, hkw⟩ := hv
  have hx := B.exec
  have hb := B.bytes
  have hr := B.returns
  have hlocks := B.notSynchronized
  have hts := fun (w : Cond) (h : w ∈ lw_g) => atoms_spec (ws := mW y_Ac_asWord b_Ac_asWord 2 (some .long)) B.pre w (List.mem_cons_of_mem _ h)
  have hown : s.vm.findClass R_Ac = some m.cls := findClass_of_methodNamed B.named
  have hZ := hkw.1
  have hT := hkw.2
  have hl := lv_entry ([.ref (ad (14 + 6 * i))]) (n := 2) (Nat.le_of_ble_eq_true rfl)
  rw [lg_entry_eq]
  generalize (lg_sl ([.ref (ad (14 + 6 * i))]) ++ List.replicate (2 - (lg_sl ([.ref (ad (14 + 6 * i))])).length) Slot.unset).toArray = ls at hl ⊢
  have hl : lv_has ls 2 [(0, .ref (ad (14 + 6 * i)))] := hl
  refine lv_iconst (v := 2) hx hb d_Ac_asWord_0 (by decide) ?_
  refine lv_aload_n hx hb d_Ac_asWord_1 rfl (lv_at hl 0 rfl) ?_
  refine va_get (D := D) (ci := 0) (v := .int ((P.2.2.2.2 i).2.2.2.1)) (C := R_Ac) (T := F_Ac) (N := 2) hx hb hts in_Ac hown hK hP (13 + 6 * i + 1) (wC_ra (by omega)) rfl 0 (by decide) (hts _ wd_71) (fun _ h9 => h9) rfl d_Ac_asWord_2 ?_
  refine lv_icmp_gt (tgt := 20) hx hb d_Ac_asWord_5 (by decide) (fun h1 => ?_) (fun h1 => ?_)
  · refine lv_iconst (v := 0) hx hb d_Ac_asWord_20 (by decide) ?_
    refine lv_istore_n hx hb d_Ac_asWord_21 rfl hl (by decide) rfl (fun ls hl => ?_)
    have hl : lv_has ls 2 [(1, .int (0 : Int32)), (0, .ref (ad (14 + 6 * i)))] := hl
    refine va_gets hx hb hZ va_S.rf hown (hts _ wd_334) (fun _ h9 => h9) d_Ac_asWord_22 ?_
    refine lv_aload_n hx hb d_Ac_asWord_25 rfl (lv_at hl 1 rfl) ?_
    refine va_get (D := D) (ci := 0) (v := .int ((P.2.2.2.2 i).2.2.2.1)) (C := R_Ac) (T := F_Ac) (N := 2) hx hb hts in_Ac hown hK hP (13 + 6 * i + 1) (wC_ra (by omega)) rfl 0 (by decide) (hts _ wd_71) (fun _ h9 => h9) rfl d_Ac_asWord_26 ?_
    refine va_tl hx hb hT va_S.rf hk (v := .long (kwf ((P.2.2.2.2 i).2.2.2.1).toNatClampNeg)) rfl d_Ac_asWord_29 ?_
    refine lv_iload_n hx hb d_Ac_asWord_30 rfl (lv_at hl 0 rfl) ?_
    refine lv_if_eq (tgt := 41) hx hb d_Ac_asWord_31 (by decide) (fun _ => ?_) (fun h => absurd h (by decide))
    refine lv_iconst (v := 0) hx hb d_Ac_asWord_41 (by decide) ?_
    refine lv_i2l hx hb d_Ac_asWord_42 rfl ?_
    refine lv_ladd hx hb d_Ac_asWord_43 ?_
    exact W.lret hx hb hr (fun t ht hW => ⟨_, rfl, (by rw [m_Ac_asWord_r, if_pos h1]), ht⟩) (fun _ h => by cases h) d_Ac_asWord_44
  refine lv_aload_n hx hb d_Ac_asWord_8 rfl (lv_at hl 0 rfl) ?_
  refine va_get (D := D) (ci := 0) (v := .int ((P.2.2.2.2 i).2.2.2.1)) (C := R_Ac) (T := F_Ac) (N := 2) hx hb hts in_Ac hown hK hP (13 + 6 * i + 1) (wC_ra (by omega)) rfl 0 (by decide) (hts _ wd_71) (fun _ h9 => h9) rfl d_Ac_asWord_9 ?_
  refine lv_iconst (v := 4) hx hb d_Ac_asWord_12 (by decide) ?_
  refine lv_icmp_gt (tgt := 20) hx hb d_Ac_asWord_13 (by decide) (fun h2 => ?_) (fun h2 => ?_)
  · refine lv_iconst (v := 0) hx hb d_Ac_asWord_20 (by decide) ?_
    refine lv_istore_n hx hb d_Ac_asWord_21 rfl hl (by decide) rfl (fun ls hl => ?_)
    have hl : lv_has ls 2 [(1, .int (0 : Int32)), (0, .ref (ad (14 + 6 * i)))] := hl
    refine va_gets hx hb hZ va_S.rf hown (hts _ wd_334) (fun _ h9 => h9) d_Ac_asWord_22 ?_
    refine lv_aload_n hx hb d_Ac_asWord_25 rfl (lv_at hl 1 rfl) ?_
    refine va_get (D := D) (ci := 0) (v := .int ((P.2.2.2.2 i).2.2.2.1)) (C := R_Ac) (T := F_Ac) (N := 2) hx hb hts in_Ac hown hK hP (13 + 6 * i + 1) (wC_ra (by omega)) rfl 0 (by decide) (hts _ wd_71) (fun _ h9 => h9) rfl d_Ac_asWord_26 ?_
    refine va_tl hx hb hT va_S.rf hk (v := .long (kwf ((P.2.2.2.2 i).2.2.2.1).toNatClampNeg)) rfl d_Ac_asWord_29 ?_
    refine lv_iload_n hx hb d_Ac_asWord_30 rfl (lv_at hl 0 rfl) ?_
    refine lv_if_eq (tgt := 41) hx hb d_Ac_asWord_31 (by decide) (fun _ => ?_) (fun h => absurd h (by decide))
    refine lv_iconst (v := 0) hx hb d_Ac_asWord_41 (by decide) ?_
    refine lv_i2l hx hb d_Ac_asWord_42 rfl ?_
    refine lv_ladd hx hb d_Ac_asWord_43 ?_
    exact W.lret hx hb hr (fun t ht hW => ⟨_, rfl, (by rw [m_Ac_asWord_r, if_neg h1, if_pos h2]), ht⟩) (fun _ h => by cases h) d_Ac_asWord_44
  refine lv_iconst (v := 1) hx hb d_Ac_asWord_16 (by decide) ?_
  refine lv_goto (tgt := 21) hx hb d_Ac_asWord_17 (by decide) ?_
  refine lv_istore_n hx hb d_Ac_asWord_21 rfl hl (by decide) rfl (fun ls hl => ?_)
  have hl : lv_has ls 2 [(1, .int (1 : Int32)), (0, .ref (ad (14 + 6 * i)))] := hl
  refine va_gets hx hb hZ va_S.rf hown (hts _ wd_334) (fun _ h9 => h9) d_Ac_asWord_22 ?_
  refine lv_aload_n hx hb d_Ac_asWord_25 rfl (lv_at hl 1 rfl) ?_
  refine va_get (D := D) (ci := 0) (v := .int ((P.2.2.2.2 i).2.2.2.1)) (C := R_Ac) (T := F_Ac) (N := 2) hx hb hts in_Ac hown hK hP (13 + 6 * i + 1) (wC_ra (by omega)) rfl 0 (by decide) (hts _ wd_71) (fun _ h9 => h9) rfl d_Ac_asWord_26 ?_
  refine va_tl hx hb hT va_S.rf hk (v := .long (kwf ((P.2.2.2.2 i).2.2.2.1).toNatClampNeg)) rfl d_Ac_asWord_29 ?_
  refine lv_iload_n hx hb d_Ac_asWord_30 rfl (lv_at hl 0 rfl) ?_
  refine lv_if_eq (tgt := 41) hx hb d_Ac_asWord_31 (by decide) (fun h => absurd h (by decide)) (fun _ => ?_)
  refine lv_aload_n hx hb d_Ac_asWord_34 rfl (lv_at hl 1 rfl) ?_
  refine va_get (D := D) (ci := 0) (v := .int ((P.2.2.2.2 i).2.2.2.2.1)) (C := R_Ac) (T := F_Ac) (N := 2) hx hb hts in_Ac hown hK hP (13 + 6 * i + 1) (wC_ra (by omega)) rfl 1 (by decide) (hts _ wd_73) (fun _ h9 => h9) rfl d_Ac_asWord_35 ?_
  refine lv_goto (tgt := 42) hx hb d_Ac_asWord_38 (by decide) ?_
  refine lv_i2l hx hb d_Ac_asWord_42 rfl ?_
  refine lv_ladd hx hb d_Ac_asWord_43 ?_
  exact W.lret hx hb hr (fun t ht hW => ⟨_, rfl, (by rw [m_Ac_asWord_r, if_neg h1, if_neg h2]), ht⟩) (fun _ h => by cases h) d_Ac_asWord_44
def m_Co_become (P : PT) (i : Nat) (j : Nat) (pl : Int32) (op : Int32) (va : Int64) (mk : Int64) : PT := (P.1, P.2.1, P.2.2.1, P.2.2.2.1, updR P.2.2.2.2 i ((P.2.2.2.2 i).1, (P.2.2.2.2 i).2.1, (P.2.2.2.2 i).2.2.1, (P.2.2.2.2 i).2.2.2.1, (P.2.2.2.2 i).2.2.2.2.1, updC ((P.2.2.2.2 i).2.2.2.2.2) j (pl, op, va, mk)))
set_option maxHeartbeats 4000000 in
set_option maxRecDepth 100000 in
theorem c_Co_become (l : Launch) (D : va_G) (dA : Nat → ClassId) (ad : Nat → Nat) (A : Nat → Prop) (hAd : AdOK 49 ad A) (w : Nat → Int32) (P : PT) (g : GT) (ss : Nat → Int32) (M : MT) (i : Nat) (j : Nat) (pl : Int32) (op : Int32) (va : Int64) (mk : Int64) (hi : i < 6) (hj : j < 3) : Met l y_Co_become (mW y_Co_become b_Co_become 7 none) { frames := 0, cells := 0, slots := 0, locals := 0 } (va_Pc [.ref (ad (16 + 6 * i + j)), .int pl, .int op, .long va, .long mk] (fun U => CG D dA ad w P g ss M U)) (va_Qv (fun u : PT => u = m_Co_become P i j pl op va mk) (fun u t => CG D dA ad w u g ss M t) A) 0 0 A := by
  refine Met.ofW (cc := b_Co_become) (maxL := 7) (ret := none) (by decide) rfl ?_
  intro p e s m args below meth c s₁ B hml hv
  obtain ⟨rfl, hP, hK, hN⟩ := hv
  have hx := B.exec
  have hb := B.bytes
  have hr := B.returns
  have hlocks := B.notSynchronized
  have hts := fun (w : Cond) (h : w ∈ lw_g) => atoms_spec (ws := mW y_Co_become b_Co_become 7 none) B.pre w (List.mem_cons_of_mem _ h)
  have hown : s.vm.findClass R_Co = some m.cls := findClass_of_methodNamed B.named
  have hS : va_S A s.heap s.heap [] := va_S.rf
  have hl := lv_entry ([.ref (ad (16 + 6 * i + j)), .int pl, .int op, .long va, .long mk]) (n := 7) (Nat.le_of_ble_eq_true rfl)
  rw [lg_entry_eq]
  generalize (lg_sl ([.ref (ad (16 + 6 * i + j)), .int pl, .int op, .long va, .long mk]) ++ List.replicate (7 - (lg_sl ([.ref (ad (16 + 6 * i + j)), .int pl, .int op, .long va, .long mk])).length) Slot.unset).toArray = ls at hl ⊢
  have hl : lv_has ls 7 [(0, .ref (ad (16 + 6 * i + j))), (1, .int pl), (2, .int op), (3, .long va), (5, .long mk)] := hl
  have hP : va_P D cls (wC ad dA w (P.1, P.2.1, P.2.2.1, P.2.2.2.1, updR P.2.2.2.2 i ((P.2.2.2.2 i).1, (P.2.2.2.2 i).2.1, (P.2.2.2.2 i).2.2.1, (P.2.2.2.2 i).2.2.2.1, (P.2.2.2.2 i).2.2.2.2.1, (P.2.2.2.2 i).2.2.2.2.2)) g ss M) s.heap := wF_in hP
  refine lv_aload_n hx hb d_Co_become_0 rfl (lv_at hl 0 rfl) ?_
  refine lv_iload_n hx hb d_Co_become_1 rfl (lv_at hl 1 rfl) ?_
  refine va_put (D := D) (ci := 3) (v := .int pl) (ty := .int) (C := R_Co) (T := F_Co) (N := 4) hx hb hts in_Co t_Co k_Co n_Co hown hK hP (wC_D hAd) hS (13 + 6 * i + (3 + j)) (wF_co (by omega) (by omega)) rfl 0 (by decide) (hts _ wd_95) (fun _ h9 => h9) rfl (by decide +kernel) rfl rfl (Nat.le_of_ble_eq_true rfl) d_Co_become_2 (fun H locs hP _ hS => ?_)
  have hP : va_P D cls (wC ad dA w (P.1, P.2.1, P.2.2.1, P.2.2.2.1, updR P.2.2.2.2 i ((P.2.2.2.2 i).1, (P.2.2.2.2 i).2.1, (P.2.2.2.2 i).2.2.1, (P.2.2.2.2 i).2.2.2.1, (P.2.2.2.2 i).2.2.2.2.1, updC ((P.2.2.2.2 i).2.2.2.2.2) j (pl, (((P.2.2.2.2 i).2.2.2.2.2) j).2.1, (((P.2.2.2.2 i).2.2.2.2.2) j).2.2.1, (((P.2.2.2.2 i).2.2.2.2.2) j).2.2.2))) g ss M) H := wF_put (r := ((P.2.2.2.2 i).1, (P.2.2.2.2 i).2.1, (P.2.2.2.2 i).2.2.1, (P.2.2.2.2 i).2.2.2.1, (P.2.2.2.2 i).2.2.2.2.1, updC ((P.2.2.2.2 i).2.2.2.2.2) j (pl, (((P.2.2.2.2 i).2.2.2.2.2) j).2.1, (((P.2.2.2.2 i).2.2.2.2.2) j).2.2.1, (((P.2.2.2.2 i).2.2.2.2.2) j).2.2.2))) (by omega) (3 + j) (by omega) (by exact wR_co (by omega) (fun k hk => by simp only [updC, if_neg hk]) (by simp [updC])) hP
  refine lv_aload_n hx hb d_Co_become_5 rfl (lv_at hl 0 rfl) ?_
  refine lv_iload_n hx hb d_Co_become_6 rfl (lv_at hl 2 rfl) ?_
  refine va_put (D := D) (ci := 3) (v := .int op) (ty := .int) (C := R_Co) (T := F_Co) (N := 4) hx hb hts in_Co t_Co k_Co n_Co hown hK hP (wC_D hAd) hS (13 + 6 * i + (3 + j)) (wF_co (by omega) (by omega)) rfl 1 (by decide) (hts _ wd_96) (fun _ h9 => h9) rfl (by decide +kernel) rfl rfl (Nat.le_of_ble_eq_true rfl) d_Co_become_7 (fun H locs hP _ hS => ?_)
  have hP : va_P D cls (wC ad dA w (P.1, P.2.1, P.2.2.1, P.2.2.2.1, updR P.2.2.2.2 i ((P.2.2.2.2 i).1, (P.2.2.2.2 i).2.1, (P.2.2.2.2 i).2.2.1, (P.2.2.2.2 i).2.2.2.1, (P.2.2.2.2 i).2.2.2.2.1, updC ((P.2.2.2.2 i).2.2.2.2.2) j (pl, op, (((P.2.2.2.2 i).2.2.2.2.2) j).2.2.1, (((P.2.2.2.2 i).2.2.2.2.2) j).2.2.2))) g ss M) H := wF_put (r := ((P.2.2.2.2 i).1, (P.2.2.2.2 i).2.1, (P.2.2.2.2 i).2.2.1, (P.2.2.2.2 i).2.2.2.1, (P.2.2.2.2 i).2.2.2.2.1, updC ((P.2.2.2.2 i).2.2.2.2.2) j (pl, op, (((P.2.2.2.2 i).2.2.2.2.2) j).2.2.1, (((P.2.2.2.2 i).2.2.2.2.2) j).2.2.2))) (by omega) (3 + j) (by omega) (by exact wR_co (by omega) (fun k hk => by simp only [updC, if_neg hk]) (by simp [updC])) hP
  refine lv_aload_n hx hb d_Co_become_10 rfl (lv_at hl 0 rfl) ?_
  refine lv_lload_n hx hb d_Co_become_11 rfl (lv_at hl 3 rfl) ?_
  refine va_put (D := D) (ci := 3) (v := .long va) (ty := .long) (C := R_Co) (T := F_Co) (N := 4) hx hb hts in_Co t_Co k_Co n_Co hown hK hP (wC_D hAd) hS (13 + 6 * i + (3 + j)) (wF_co (by omega) (by omega)) rfl 2 (by decide) (hts _ wd_97) (fun _ h9 => h9) rfl (by decide +kernel) rfl rfl (Nat.le_of_ble_eq_true rfl) d_Co_become_12 (fun H locs hP _ hS => ?_)
  have hP : va_P D cls (wC ad dA w (P.1, P.2.1, P.2.2.1, P.2.2.2.1, updR P.2.2.2.2 i ((P.2.2.2.2 i).1, (P.2.2.2.2 i).2.1, (P.2.2.2.2 i).2.2.1, (P.2.2.2.2 i).2.2.2.1, (P.2.2.2.2 i).2.2.2.2.1, updC ((P.2.2.2.2 i).2.2.2.2.2) j (pl, op, va, (((P.2.2.2.2 i).2.2.2.2.2) j).2.2.2))) g ss M) H := wF_put (r := ((P.2.2.2.2 i).1, (P.2.2.2.2 i).2.1, (P.2.2.2.2 i).2.2.1, (P.2.2.2.2 i).2.2.2.1, (P.2.2.2.2 i).2.2.2.2.1, updC ((P.2.2.2.2 i).2.2.2.2.2) j (pl, op, va, (((P.2.2.2.2 i).2.2.2.2.2) j).2.2.2))) (by omega) (3 + j) (by omega) (by exact wR_co (by omega) (fun k hk => by simp only [updC, if_neg hk]) (by simp [updC])) hP
  refine lv_aload_n hx hb d_Co_become_15 rfl (lv_at hl 0 rfl) ?_
  refine lv_lload hx hb d_Co_become_16 (lv_at hl 4 rfl) ?_
  refine va_put (D := D) (ci := 3) (v := .long mk) (ty := .long) (C := R_Co) (T := F_Co) (N := 4) hx hb hts in_Co t_Co k_Co n_Co hown hK hP (wC_D hAd) hS (13 + 6 * i + (3 + j)) (wF_co (by omega) (by omega)) rfl 3 (by decide) (hts _ wd_98) (fun _ h9 => h9) rfl (by decide +kernel) rfl rfl (Nat.le_of_ble_eq_true rfl) d_Co_become_18 (fun H locs hP _ hS => ?_)
  have hP : va_P D cls (wC ad dA w (P.1, P.2.1, P.2.2.1, P.2.2.2.1, updR P.2.2.2.2 i ((P.2.2.2.2 i).1, (P.2.2.2.2 i).2.1, (P.2.2.2.2 i).2.2.1, (P.2.2.2.2 i).2.2.2.1, (P.2.2.2.2 i).2.2.2.2.1, updC ((P.2.2.2.2 i).2.2.2.2.2) j (pl, op, va, mk))) g ss M) H := wF_put (r := ((P.2.2.2.2 i).1, (P.2.2.2.2 i).2.1, (P.2.2.2.2 i).2.2.1, (P.2.2.2.2 i).2.2.2.1, (P.2.2.2.2 i).2.2.2.2.1, updC ((P.2.2.2.2 i).2.2.2.2.2) j (pl, op, va, mk))) (by omega) (3 + j) (by omega) (by exact wR_co (by omega) (fun k hk => by simp only [updC, if_neg hk]) (by simp [updC])) hP
  exact W.vret hx hb hr (fun t ht hW => ⟨⟨_, rfl, (by rw [m_Co_become]), CG_at hP hK hN ht hW⟩, hS.F ht⟩) hS.2.2 d_Co_become_21
theorem co_foc {a b : Int32} {c d : Int32 × Int32} {R0 : Nat → RT} {i j : Nat} {r : RT} {pl op : Int32} {va mk : Int64} : m_Co_become (a, b, c, d, updR R0 i r) i j pl op va mk = (a, b, c, d, updR R0 i (r.1, r.2.1, r.2.2.1, r.2.2.2.1, r.2.2.2.2.1, updC r.2.2.2.2.2 j (pl, op, va, mk))) := by
  unfold m_Co_become
  dsimp only
  rw [updR_at, updR_two]
def m_Co_holdsFor (w : Nat → Int32) (P : PT) (i : Nat) (j : Nat) : Int32 := if (((P.2.2.2.2 i).2.2.2.2.2 j).2.1) = (0 : Int32) then if (lg_cmp (m_Ca_getArgument w (((P.2.2.2.2 i).2.2.2.2.2 j).1)) (((P.2.2.2.2 i).2.2.2.2.2 j).2.2.1)) = (0 : Int32) then (1 : Int32) else (0 : Int32) else if (((P.2.2.2.2 i).2.2.2.2.2 j).2.1) = (1 : Int32) then if (lg_cmp (m_Ca_getArgument w (((P.2.2.2.2 i).2.2.2.2.2 j).1)) (((P.2.2.2.2 i).2.2.2.2.2 j).2.2.1)) = (0 : Int32) then (0 : Int32) else (1 : Int32) else if (((P.2.2.2.2 i).2.2.2.2.2 j).2.1) = (2 : Int32) then m_Co_isBelow (m_Ca_getArgument w (((P.2.2.2.2 i).2.2.2.2.2 j).1)) (((P.2.2.2.2 i).2.2.2.2.2 j).2.2.1) else if (((P.2.2.2.2 i).2.2.2.2.2 j).2.1) = (3 : Int32) then if (m_Co_isBelow (((P.2.2.2.2 i).2.2.2.2.2 j).2.2.1) (m_Ca_getArgument w (((P.2.2.2.2 i).2.2.2.2.2 j).1))) = (0 : Int32) then (1 : Int32) else (0 : Int32) else if (((P.2.2.2.2 i).2.2.2.2.2 j).2.1) = (4 : Int32) then m_Co_isBelow (((P.2.2.2.2 i).2.2.2.2.2 j).2.2.1) (m_Ca_getArgument w (((P.2.2.2.2 i).2.2.2.2.2 j).1)) else if (((P.2.2.2.2 i).2.2.2.2.2 j).2.1) = (5 : Int32) then if (m_Co_isBelow (m_Ca_getArgument w (((P.2.2.2.2 i).2.2.2.2.2 j).1)) (((P.2.2.2.2 i).2.2.2.2.2 j).2.2.1)) = (0 : Int32) then (1 : Int32) else (0 : Int32) else if (lg_cmp ((m_Ca_getArgument w (((P.2.2.2.2 i).2.2.2.2.2 j).1)) &&& (((P.2.2.2.2 i).2.2.2.2.2 j).2.2.2)) (((P.2.2.2.2 i).2.2.2.2.2 j).2.2.1)) = (0 : Int32) then (1 : Int32) else (0 : Int32)
set_option maxHeartbeats 4000000 in
set_option maxRecDepth 100000 in
theorem c_Co_holdsFor (l : Launch) (D : va_G) (dA : Nat → ClassId) (ad : Nat → Nat) (w : Nat → Int32) (P : PT) (g : GT) (ss : Nat → Int32) (M : MT) (i : Nat) (j : Nat) (hi : i < 6) (hj : j < 3) (hp : vp_in ((P.2.2.2.2 i).2.2.2.2.2 j).1 6) : Met l y_Co_holdsFor (mW y_Co_holdsFor b_Co_holdsFor 4 (some .boolean)) { frames := 2, cells := 0, slots := 0, locals := 42 } (va_Pc [.ref (ad (16 + 6 * i + j)), .ref (ad 1)] (fun U => CG D dA ad w P g ss M U)) (vp_Si (fun r => r = m_Co_holdsFor w P i j)) 0 0 (fun _ => False) := by
  refine Met.ofW (cc := b_Co_holdsFor) (maxL := 4) (ret := (some .boolean)) (by decide) rfl ?_
  intro p e s m args below meth c s₁ B hml hv
  obtain ⟨rfl, hP, hK, hN⟩ := hv
  have hx := B.exec
  have hb := B.bytes
  have hr := B.returns
  have hlocks := B.notSynchronized
  have hts := fun (w : Cond) (h : w ∈ lw_g) => atoms_spec (ws := mW y_Co_holdsFor b_Co_holdsFor 4 (some .boolean)) B.pre w (List.mem_cons_of_mem _ h)
  have hown : s.vm.findClass R_Co = some m.cls := findClass_of_methodNamed B.named
  have hl := lv_entry ([.ref (ad (16 + 6 * i + j)), .ref (ad 1)]) (n := 4) (Nat.le_of_ble_eq_true rfl)
  rw [lg_entry_eq]
  generalize (lg_sl ([.ref (ad (16 + 6 * i + j)), .ref (ad 1)]) ++ List.replicate (4 - (lg_sl ([.ref (ad (16 + 6 * i + j)), .ref (ad 1)])).length) Slot.unset).toArray = ls at hl ⊢
  have hl : lv_has ls 4 [(0, .ref (ad (16 + 6 * i + j))), (1, .ref (ad 1))] := hl
  refine lv_aload_n hx hb d_Co_holdsFor_0 rfl (lv_at hl 1 rfl) ?_
  refine lv_aload_n hx hb d_Co_holdsFor_1 rfl (lv_at hl 0 rfl) ?_
  refine va_get (D := D) (ci := 3) (v := .int (((P.2.2.2.2 i).2.2.2.2.2 j).1)) (C := R_Co) (T := F_Co) (N := 4) hx hb hts in_Co hown hK hP (13 + 6 * i + (3 + j)) (wC_co (by omega) (by omega)) rfl 0 (by decide) (hts _ wd_95) (fun _ h9 => h9) rfl d_Co_holdsFor_2 ?_
  refine vp_callSl (va_Run.run (va_runV (As := [.int (((P.2.2.2.2 i).2.2.2.2.2 j).1)]) (rest := []) ⟨hx, hb, hml, hown, hts⟩ (c_Ca_getArgument l D dA ad w P g ss M (((P.2.2.2.2 i).2.2.2.2.2 j).1) hp) (cwV 1 hts (g_V wd_314 wd_315 wd_316 wd_27 wd_317) rfl rfl rfl (by decide +kernel) ⟨Nat.le_of_ble_eq_true rfl, Nat.le_of_ble_eq_true rfl⟩) ⟨CG_fb, (va_recv (ci := 1) (q := (R_Ca, F_Ca, 1)) (q0 := 1) hK hP rfl rfl), fun U hU hW => ⟨rfl, CG_at hP hK hN hU hW⟩⟩ rfl rfl hl.1 rfl (lv_room (Nat.le_of_ble_eq_true rfl)) d_Co_holdsFor_5 ⟨Nat.le_of_ble_eq_true rfl, Nat.le_of_ble_eq_true rfl⟩)) (fun r1 e1 => ?_)
  subst e1
  refine lv_lstore_n hx hb d_Co_holdsFor_8 rfl hl (by decide) rfl (fun ls hl => ?_)
  have hl : lv_has ls 4 [(2, .long (m_Ca_getArgument w (((P.2.2.2.2 i).2.2.2.2.2 j).1))), (0, .ref (ad (16 + 6 * i + j))), (1, .ref (ad 1))] := hl
  refine lv_aload_n hx hb d_Co_holdsFor_9 rfl (lv_at hl 1 rfl) ?_
  refine va_get (D := D) (ci := 3) (v := .int (((P.2.2.2.2 i).2.2.2.2.2 j).2.1)) (C := R_Co) (T := F_Co) (N := 4) hx hb hts in_Co hown hK hP (13 + 6 * i + (3 + j)) (wC_co (by omega) (by omega)) rfl 1 (by decide) (hts _ wd_96) (fun _ h9 => h9) rfl d_Co_holdsFor_10 ?_
  by_cases h1 : ((P.2.2.2.2 i).2.2.2.2.2 j).2.1 = (0 : Int32)
  · refine lv_tableIn (tgt := 52) (off := 39) hx hb d_Co_holdsFor_13 (by rw [h1]; decide) (by rw [h1]; decide) (by rw [h1] <;> rfl) (by decide) ?_
    refine lv_lload_n hx hb d_Co_holdsFor_52 rfl (lv_at hl 0 rfl) ?_
    refine lv_aload_n hx hb d_Co_holdsFor_53 rfl (lv_at hl 1 rfl) ?_
    refine va_get (D := D) (ci := 3) (v := .long (((P.2.2.2.2 i).2.2.2.2.2 j).2.2.1)) (C := R_Co) (T := F_Co) (N := 4) hx hb hts in_Co hown hK hP (13 + 6 * i + (3 + j)) (wC_co (by omega) (by omega)) rfl 2 (by decide) (hts _ wd_97) (fun _ h9 => h9) rfl d_Co_holdsFor_54 ?_
    refine W.lcmp hx hb d_Co_holdsFor_57 ?_
    refine lv_if_ne (tgt := 65) hx hb d_Co_holdsFor_58 (by decide) (fun h2 => ?_) (fun h2 => ?_)
    · refine lv_iconst (v := 0) hx hb d_Co_holdsFor_65 (by decide) ?_
      exact W.zret hx hb hr rfl (fun t ht hW => ⟨_, rfl, (by rw [m_Co_holdsFor, if_pos h1, if_neg h2]), ht⟩) (fun _ h => by cases h) d_Co_holdsFor_66
    refine lv_iconst (v := 1) hx hb d_Co_holdsFor_61 (by decide) ?_
    refine lv_goto (tgt := 66) hx hb d_Co_holdsFor_62 (by decide) ?_
    exact W.zret hx hb hr rfl (fun t ht hW => ⟨_, rfl, (by rw [m_Co_holdsFor, if_pos h1, if_pos h2]), ht⟩) (fun _ h => by cases h) d_Co_holdsFor_66
  by_cases h3 : ((P.2.2.2.2 i).2.2.2.2.2 j).2.1 = (1 : Int32)
  · refine lv_tableIn (tgt := 67) (off := 54) hx hb d_Co_holdsFor_13 (by rw [h3]; decide) (by rw [h3]; decide) (by rw [h3] <;> rfl) (by decide) ?_
    refine lv_lload_n hx hb d_Co_holdsFor_67 rfl (lv_at hl 0 rfl) ?_
    refine lv_aload_n hx hb d_Co_holdsFor_68 rfl (lv_at hl 1 rfl) ?_
    refine va_get (D := D) (ci := 3) (v := .long (((P.2.2.2.2 i).2.2.2.2.2 j).2.2.1)) (C := R_Co) (T := F_Co) (N := 4) hx hb hts in_Co hown hK hP (13 + 6 * i + (3 + j)) (wC_co (by omega) (by omega)) rfl 2 (by decide) (hts _ wd_97) (fun _ h9 => h9) rfl d_Co_holdsFor_69 ?_
    refine W.lcmp hx hb d_Co_holdsFor_72 ?_
    refine lv_if_eq (tgt := 80) hx hb d_Co_holdsFor_73 (by decide) (fun h4 => ?_) (fun h4 => ?_)
    · refine lv_iconst (v := 0) hx hb d_Co_holdsFor_80 (by decide) ?_
      exact W.zret hx hb hr rfl (fun t ht hW => ⟨_, rfl, (by rw [m_Co_holdsFor, if_neg h1, if_pos h3, if_pos h4]), ht⟩) (fun _ h => by cases h) d_Co_holdsFor_81
    refine lv_iconst (v := 1) hx hb d_Co_holdsFor_76 (by decide) ?_
    refine lv_goto (tgt := 81) hx hb d_Co_holdsFor_77 (by decide) ?_
    exact W.zret hx hb hr rfl (fun t ht hW => ⟨_, rfl, (by rw [m_Co_holdsFor, if_neg h1, if_pos h3, if_neg h4]), ht⟩) (fun _ h => by cases h) d_Co_holdsFor_81
  by_cases h5 : ((P.2.2.2.2 i).2.2.2.2.2 j).2.1 = (2 : Int32)
  · refine lv_tableIn (tgt := 82) (off := 69) hx hb d_Co_holdsFor_13 (by rw [h5]; decide) (by rw [h5]; decide) (by rw [h5] <;> rfl) (by decide) ?_
    refine lv_lload_n hx hb d_Co_holdsFor_82 rfl (lv_at hl 0 rfl) ?_
    refine lv_aload_n hx hb d_Co_holdsFor_83 rfl (lv_at hl 1 rfl) ?_
    refine va_get (D := D) (ci := 3) (v := .long (((P.2.2.2.2 i).2.2.2.2.2 j).2.2.1)) (C := R_Co) (T := F_Co) (N := 4) hx hb hts in_Co hown hK hP (13 + 6 * i + (3 + j)) (wC_co (by omega) (by omega)) rfl 2 (by decide) (hts _ wd_97) (fun _ h9 => h9) rfl d_Co_holdsFor_84 ?_
    refine vp_callSi (va_Run.run (va_runS (As := [.long (m_Ca_getArgument w (((P.2.2.2.2 i).2.2.2.2.2 j).1)), .long (((P.2.2.2.2 i).2.2.2.2.2 j).2.2.1)]) (rest := []) ⟨hx, hb, hml, hown, hts⟩ (c_Co_isBelow l (m_Ca_getArgument w (((P.2.2.2.2 i).2.2.2.2.2 j).1)) (((P.2.2.2.2 i).2.2.2.2.2 j).2.2.1)) (va_cwS 2 hts (g_S wd_318 wd_319 wd_31 wd_320) rfl rfl rfl (by decide +kernel) ⟨Nat.le_of_ble_eq_true rfl, Nat.le_of_ble_eq_true rfl⟩) ⟨fun _ _ _ _ q => q, fun _ _ _ => ⟨rfl, trivial⟩⟩ rfl rfl hl.1 rfl (lv_room (Nat.le_of_ble_eq_true rfl)) d_Co_holdsFor_87 ⟨Nat.le_of_ble_eq_true rfl, Nat.le_of_ble_eq_true rfl⟩)) (fun r2 e2 => ?_)
    subst e2
    exact W.zret hx hb hr (z_below _ _) (fun t ht hW => ⟨_, rfl, (by rw [m_Co_holdsFor, if_neg h1, if_neg h3, if_pos h5]), ht⟩) (fun _ h => by cases h) d_Co_holdsFor_90
  by_cases h6 : ((P.2.2.2.2 i).2.2.2.2.2 j).2.1 = (3 : Int32)
  · refine lv_tableIn (tgt := 91) (off := 78) hx hb d_Co_holdsFor_13 (by rw [h6]; decide) (by rw [h6]; decide) (by rw [h6] <;> rfl) (by decide) ?_
    refine lv_aload_n hx hb d_Co_holdsFor_91 rfl (lv_at hl 1 rfl) ?_
    refine va_get (D := D) (ci := 3) (v := .long (((P.2.2.2.2 i).2.2.2.2.2 j).2.2.1)) (C := R_Co) (T := F_Co) (N := 4) hx hb hts in_Co hown hK hP (13 + 6 * i + (3 + j)) (wC_co (by omega) (by omega)) rfl 2 (by decide) (hts _ wd_97) (fun _ h9 => h9) rfl d_Co_holdsFor_92 ?_
    refine lv_lload_n hx hb d_Co_holdsFor_95 rfl (lv_at hl 0 rfl) ?_
    refine vp_callSi (va_Run.run (va_runS (As := [.long (((P.2.2.2.2 i).2.2.2.2.2 j).2.2.1), .long (m_Ca_getArgument w (((P.2.2.2.2 i).2.2.2.2.2 j).1))]) (rest := []) ⟨hx, hb, hml, hown, hts⟩ (c_Co_isBelow l (((P.2.2.2.2 i).2.2.2.2.2 j).2.2.1) (m_Ca_getArgument w (((P.2.2.2.2 i).2.2.2.2.2 j).1))) (va_cwS 2 hts (g_S wd_318 wd_319 wd_31 wd_320) rfl rfl rfl (by decide +kernel) ⟨Nat.le_of_ble_eq_true rfl, Nat.le_of_ble_eq_true rfl⟩) ⟨fun _ _ _ _ q => q, fun _ _ _ => ⟨rfl, trivial⟩⟩ rfl rfl hl.1 rfl (lv_room (Nat.le_of_ble_eq_true rfl)) d_Co_holdsFor_96 ⟨Nat.le_of_ble_eq_true rfl, Nat.le_of_ble_eq_true rfl⟩)) (fun r3 e3 => ?_)
    subst e3
    refine lv_if_ne (tgt := 106) hx hb d_Co_holdsFor_99 (by decide) (fun h7 => ?_) (fun h7 => ?_)
    · refine lv_iconst (v := 0) hx hb d_Co_holdsFor_106 (by decide) ?_
      exact W.zret hx hb hr rfl (fun t ht hW => ⟨_, rfl, (by rw [m_Co_holdsFor, if_neg h1, if_neg h3, if_neg h5, if_pos h6, if_neg h7]), ht⟩) (fun _ h => by cases h) d_Co_holdsFor_107
    refine lv_iconst (v := 1) hx hb d_Co_holdsFor_102 (by decide) ?_
    refine lv_goto (tgt := 107) hx hb d_Co_holdsFor_103 (by decide) ?_
    exact W.zret hx hb hr rfl (fun t ht hW => ⟨_, rfl, (by rw [m_Co_holdsFor, if_neg h1, if_neg h3, if_neg h5, if_pos h6, if_pos h7]), ht⟩) (fun _ h => by cases h) d_Co_holdsFor_107
  by_cases h8 : ((P.2.2.2.2 i).2.2.2.2.2 j).2.1 = (4 : Int32)
  · refine lv_tableIn (tgt := 108) (off := 95) hx hb d_Co_holdsFor_13 (by rw [h8]; decide) (by rw [h8]; decide) (by rw [h8] <;> rfl) (by decide) ?_
    refine lv_aload_n hx hb d_Co_holdsFor_108 rfl (lv_at hl 1 rfl) ?_
    refine va_get (D := D) (ci := 3) (v := .long (((P.2.2.2.2 i).2.2.2.2.2 j).2.2.1)) (C := R_Co) (T := F_Co) (N := 4) hx hb hts in_Co hown hK hP (13 + 6 * i + (3 + j)) (wC_co (by omega) (by omega)) rfl 2 (by decide) (hts _ wd_97) (fun _ h9 => h9) rfl d_Co_holdsFor_109 ?_
    refine lv_lload_n hx hb d_Co_holdsFor_112 rfl (lv_at hl 0 rfl) ?_
    refine vp_callSi (va_Run.run (va_runS (As := [.long (((P.2.2.2.2 i).2.2.2.2.2 j).2.2.1), .long (m_Ca_getArgument w (((P.2.2.2.2 i).2.2.2.2.2 j).1))]) (rest := []) ⟨hx, hb, hml, hown, hts⟩ (c_Co_isBelow l (((P.2.2.2.2 i).2.2.2.2.2 j).2.2.1) (m_Ca_getArgument w (((P.2.2.2.2 i).2.2.2.2.2 j).1))) (va_cwS 2 hts (g_S wd_318 wd_319 wd_31 wd_320) rfl rfl rfl (by decide +kernel) ⟨Nat.le_of_ble_eq_true rfl, Nat.le_of_ble_eq_true rfl⟩) ⟨fun _ _ _ _ q => q, fun _ _ _ => ⟨rfl, trivial⟩⟩ rfl rfl hl.1 rfl (lv_room (Nat.le_of_ble_eq_true rfl)) d_Co_holdsFor_113 ⟨Nat.le_of_ble_eq_true rfl, Nat.le_of_ble_eq_true rfl⟩)) (fun r4 e4 => ?_)
    subst e4
    exact W.zret hx hb hr (z_below _ _) (fun t ht hW => ⟨_, rfl, (by rw [m_Co_holdsFor, if_neg h1, if_neg h3, if_neg h5, if_neg h6, if_pos h8]), ht⟩) (fun _ h => by cases h) d_Co_holdsFor_116
  by_cases h9 : ((P.2.2.2.2 i).2.2.2.2.2 j).2.1 = (5 : Int32)
  · refine lv_tableIn (tgt := 117) (off := 104) hx hb d_Co_holdsFor_13 (by rw [h9]; decide) (by rw [h9]; decide) (by rw [h9] <;> rfl) (by decide) ?_
    refine lv_lload_n hx hb d_Co_holdsFor_117 rfl (lv_at hl 0 rfl) ?_
    refine lv_aload_n hx hb d_Co_holdsFor_118 rfl (lv_at hl 1 rfl) ?_
    refine va_get (D := D) (ci := 3) (v := .long (((P.2.2.2.2 i).2.2.2.2.2 j).2.2.1)) (C := R_Co) (T := F_Co) (N := 4) hx hb hts in_Co hown hK hP (13 + 6 * i + (3 + j)) (wC_co (by omega) (by omega)) rfl 2 (by decide) (hts _ wd_97) (fun _ h9 => h9) rfl d_Co_holdsFor_119 ?_
    refine vp_callSi (va_Run.run (va_runS (As := [.long (m_Ca_getArgument w (((P.2.2.2.2 i).2.2.2.2.2 j).1)), .long (((P.2.2.2.2 i).2.2.2.2.2 j).2.2.1)]) (rest := []) ⟨hx, hb, hml, hown, hts⟩ (c_Co_isBelow l (m_Ca_getArgument w (((P.2.2.2.2 i).2.2.2.2.2 j).1)) (((P.2.2.2.2 i).2.2.2.2.2 j).2.2.1)) (va_cwS 2 hts (g_S wd_318 wd_319 wd_31 wd_320) rfl rfl rfl (by decide +kernel) ⟨Nat.le_of_ble_eq_true rfl, Nat.le_of_ble_eq_true rfl⟩) ⟨fun _ _ _ _ q => q, fun _ _ _ => ⟨rfl, trivial⟩⟩ rfl rfl hl.1 rfl (lv_room (Nat.le_of_ble_eq_true rfl)) d_Co_holdsFor_122 ⟨Nat.le_of_ble_eq_true rfl, Nat.le_of_ble_eq_true rfl⟩)) (fun r5 e5 => ?_)
    subst e5
    refine lv_if_ne (tgt := 132) hx hb d_Co_holdsFor_125 (by decide) (fun h10 => ?_) (fun h10 => ?_)
    · refine lv_iconst (v := 0) hx hb d_Co_holdsFor_132 (by decide) ?_
      exact W.zret hx hb hr rfl (fun t ht hW => ⟨_, rfl, (by rw [m_Co_holdsFor, if_neg h1, if_neg h3, if_neg h5, if_neg h6, if_neg h8, if_pos h9, if_neg h10]), ht⟩) (fun _ h => by cases h) d_Co_holdsFor_133
    refine lv_iconst (v := 1) hx hb d_Co_holdsFor_128 (by decide) ?_
    refine lv_goto (tgt := 133) hx hb d_Co_holdsFor_129 (by decide) ?_
    exact W.zret hx hb hr rfl (fun t ht hW => ⟨_, rfl, (by rw [m_Co_holdsFor, if_neg h1, if_neg h3, if_neg h5, if_neg h6, if_neg h8, if_pos h9, if_pos h10]), ht⟩) (fun _ h => by cases h) d_Co_holdsFor_133
  refine lv_tableOut (tgt := 134) hx hb d_Co_holdsFor_13 (by have z0 := lv_neT (a := 0) h1 (by decide); have z1 := lv_neT (a := 1) h3 (by decide); have z2 := lv_neT (a := 2) h5 (by decide); have z3 := lv_neT (a := 3) h6 (by decide); have z4 := lv_neT (a := 4) h8 (by decide); have z5 := lv_neT (a := 5) h9 (by decide); omega) (by decide) ?_
  refine lv_lload_n hx hb d_Co_holdsFor_134 rfl (lv_at hl 0 rfl) ?_
  refine lv_aload_n hx hb d_Co_holdsFor_135 rfl (lv_at hl 1 rfl) ?_
  refine va_get (D := D) (ci := 3) (v := .long (((P.2.2.2.2 i).2.2.2.2.2 j).2.2.2)) (C := R_Co) (T := F_Co) (N := 4) hx hb hts in_Co hown hK hP (13 + 6 * i + (3 + j)) (wC_co (by omega) (by omega)) rfl 3 (by decide) (hts _ wd_98) (fun _ h9 => h9) rfl d_Co_holdsFor_136 ?_
  refine lv_land hx hb d_Co_holdsFor_139 ?_
  refine lv_aload_n hx hb d_Co_holdsFor_140 rfl (lv_at hl 1 rfl) ?_
  refine va_get (D := D) (ci := 3) (v := .long (((P.2.2.2.2 i).2.2.2.2.2 j).2.2.1)) (C := R_Co) (T := F_Co) (N := 4) hx hb hts in_Co hown hK hP (13 + 6 * i + (3 + j)) (wC_co (by omega) (by omega)) rfl 2 (by decide) (hts _ wd_97) (fun _ h9 => h9) rfl d_Co_holdsFor_141 ?_
  refine W.lcmp hx hb d_Co_holdsFor_144 ?_
  refine lv_if_ne (tgt := 152) hx hb d_Co_holdsFor_145 (by decide) (fun h11 => ?_) (fun h11 => ?_)
  · refine lv_iconst (v := 0) hx hb d_Co_holdsFor_152 (by decide) ?_
    exact W.zret hx hb hr rfl (fun t ht hW => ⟨_, rfl, (by rw [m_Co_holdsFor, if_neg h1, if_neg h3, if_neg h5, if_neg h6, if_neg h8, if_neg h9, if_neg h11]), ht⟩) (fun _ h => by cases h) d_Co_holdsFor_153
  refine lv_iconst (v := 1) hx hb d_Co_holdsFor_148 (by decide) ?_
  refine lv_goto (tgt := 153) hx hb d_Co_holdsFor_149 (by decide) ?_
  exact W.zret hx hb hr rfl (fun t ht hW => ⟨_, rfl, (by rw [m_Co_holdsFor, if_neg h1, if_neg h3, if_neg h5, if_neg h6, if_neg h8, if_neg h9, if_pos h11]), ht⟩) (fun _ h => by cases h) d_Co_holdsFor_153
def m_Ru_become (P : PT) (i : Nat) (fr : Int32) (to : Int32) (kd : Int32) (dt : Int32) : PT := (P.1, P.2.1, P.2.2.1, P.2.2.2.1, updR P.2.2.2.2 i ((0 : Int32), fr, to, kd, dt, (P.2.2.2.2 i).2.2.2.2.2))
set_option maxHeartbeats 4000000 in
set_option maxRecDepth 100000 in
theorem c_Ru_become (l : Launch) (D : va_G) (dA : Nat → ClassId) (ad : Nat → Nat) (A : Nat → Prop) (hAd : AdOK 49 ad A) (w : Nat → Int32) (P : PT) (g : GT) (ss : Nat → Int32) (M : MT) (i : Nat) (fr : Int32) (to : Int32) (kd : Int32) (dt : Int32) (hi : i < 6) : Met l y_Ru_become (mW y_Ru_become b_Ru_become 5 none) { frames := 1, cells := 0, slots := 0, locals := 22 } (va_Pc [.ref (ad (13 + 6 * i)), .int fr, .int to, .int kd, .int dt] (fun U => CG D dA ad w P g ss M U)) (va_Qv (fun u : PT => u = m_Ru_become P i fr to kd dt) (fun u t => CG D dA ad w u g ss M t) A) 0 0 A := by
  refine Met.ofW (cc := b_Ru_become) (maxL := 5) (ret := none) (by decide) rfl ?_
  intro p e s m args below meth c s₁ B hml hv
  obtain ⟨rfl, hP, hK, hN⟩ := hv
  have hx := B.exec
  have hb := B.bytes
  have hr := B.returns
  have hlocks := B.notSynchronized
  have hts := fun (w : Cond) (h : w ∈ lw_g) => atoms_spec (ws := mW y_Ru_become b_Ru_become 5 none) B.pre w (List.mem_cons_of_mem _ h)
  have hown : s.vm.findClass R_Ru = some m.cls := findClass_of_methodNamed B.named
  have hS : va_S A s.heap s.heap [] := va_S.rf
  have hl := lv_entry ([.ref (ad (13 + 6 * i)), .int fr, .int to, .int kd, .int dt]) (n := 5) (Nat.le_of_ble_eq_true rfl)
  rw [lg_entry_eq]
  generalize (lg_sl ([.ref (ad (13 + 6 * i)), .int fr, .int to, .int kd, .int dt]) ++ List.replicate (5 - (lg_sl ([.ref (ad (13 + 6 * i)), .int fr, .int to, .int kd, .int dt])).length) Slot.unset).toArray = ls at hl ⊢
  have hl : lv_has ls 5 [(0, .ref (ad (13 + 6 * i))), (1, .int fr), (2, .int to), (3, .int kd), (4, .int dt)] := hl
  have hP : va_P D cls (wC ad dA w (P.1, P.2.1, P.2.2.1, P.2.2.2.1, updR P.2.2.2.2 i ((P.2.2.2.2 i).1, (P.2.2.2.2 i).2.1, (P.2.2.2.2 i).2.2.1, (P.2.2.2.2 i).2.2.2.1, (P.2.2.2.2 i).2.2.2.2.1, (P.2.2.2.2 i).2.2.2.2.2)) g ss M) s.heap := wF_in hP
  refine lv_aload_n hx hb d_Ru_become_0 rfl (lv_at hl 0 rfl) ?_
  refine lv_iload_n hx hb d_Ru_become_1 rfl (lv_at hl 1 rfl) ?_
  refine va_put (D := D) (ci := 7) (v := .int fr) (ty := .int) (C := R_Ru) (T := F_Ru) (N := 5) hx hb hts in_Ru t_Ru k_Ru n_Ru hown hK hP (wC_D hAd) hS (13 + 6 * i + 0) (wF_ru (by omega)) rfl 2 (by decide) (hts _ wd_112) (fun _ h9 => h9) rfl (by decide +kernel) rfl rfl (Nat.le_of_ble_eq_true rfl) d_Ru_become_2 (fun H locs hP _ hS => ?_)
  have hP : va_P D cls (wC ad dA w (P.1, P.2.1, P.2.2.1, P.2.2.2.1, updR P.2.2.2.2 i ((P.2.2.2.2 i).1, fr, (P.2.2.2.2 i).2.2.1, (P.2.2.2.2 i).2.2.2.1, (P.2.2.2.2 i).2.2.2.2.1, (P.2.2.2.2 i).2.2.2.2.2)) g ss M) H := wF_put (r := ((P.2.2.2.2 i).1, fr, (P.2.2.2.2 i).2.2.1, (P.2.2.2.2 i).2.2.2.1, (P.2.2.2.2 i).2.2.2.2.1, (P.2.2.2.2 i).2.2.2.2.2)) (by omega) 0 (by omega) (by rfl) hP
  refine lv_aload_n hx hb d_Ru_become_5 rfl (lv_at hl 0 rfl) ?_
  refine lv_iload_n hx hb d_Ru_become_6 rfl (lv_at hl 2 rfl) ?_
  refine va_put (D := D) (ci := 7) (v := .int to) (ty := .int) (C := R_Ru) (T := F_Ru) (N := 5) hx hb hts in_Ru t_Ru k_Ru n_Ru hown hK hP (wC_D hAd) hS (13 + 6 * i + 0) (wF_ru (by omega)) rfl 3 (by decide) (hts _ wd_113) (fun _ h9 => h9) rfl (by decide +kernel) rfl rfl (Nat.le_of_ble_eq_true rfl) d_Ru_become_7 (fun H locs hP _ hS => ?_)
  have hP : va_P D cls (wC ad dA w (P.1, P.2.1, P.2.2.1, P.2.2.2.1, updR P.2.2.2.2 i ((P.2.2.2.2 i).1, fr, to, (P.2.2.2.2 i).2.2.2.1, (P.2.2.2.2 i).2.2.2.2.1, (P.2.2.2.2 i).2.2.2.2.2)) g ss M) H := wF_put (r := ((P.2.2.2.2 i).1, fr, to, (P.2.2.2.2 i).2.2.2.1, (P.2.2.2.2 i).2.2.2.2.1, (P.2.2.2.2 i).2.2.2.2.2)) (by omega) 0 (by omega) (by rfl) hP
  refine lv_aload_n hx hb d_Ru_become_10 rfl (lv_at hl 0 rfl) ?_
  refine va_get (D := D) (ci := 7) (v := .ref (ad (14 + 6 * i))) (C := R_Ru) (T := F_Ru) (N := 5) hx hb hts in_Ru hown hK hP (13 + 6 * i + 0) (wF_ru (by omega)) rfl 0 (by decide) (hts _ wd_108) (fun _ h9 => h9) rfl d_Ru_become_11 ?_
  refine lv_iload_n hx hb d_Ru_become_14 rfl (lv_at hl 3 rfl) ?_
  refine lv_iload hx hb d_Ru_become_15 (lv_at hl 4 rfl) ?_
  refine va_callv (va_runV (As := [.int kd, .int dt]) (rest := []) ⟨hx, hb, hml, hown, hts⟩ (c_Ac_become_r l D dA ad A hAd w (P.1, P.2.1, P.2.2.1, P.2.2.2.1, updR P.2.2.2.2 i ((P.2.2.2.2 i).1, fr, to, (P.2.2.2.2 i).2.2.2.1, (P.2.2.2.2 i).2.2.2.2.1, (P.2.2.2.2 i).2.2.2.2.2)) g ss M i kd dt hi) (cwV 2 hts (g_V wd_256 wd_257 wd_258 wd_29 wd_259) rfl rfl rfl (by decide +kernel) ⟨Nat.le_of_ble_eq_true rfl, Nat.le_of_ble_eq_true rfl⟩) ⟨CG_fb, (va_recv (ci := 0) (q := (R_Ac, F_Ac, 2)) (q0 := (13 + 6 * i + 1)) hK hP rfl (wF_ra (by omega))), fun U hU hW => ⟨rfl, CG_at hP hK hN hU hW⟩⟩ rfl rfl hl.1 rfl (lv_room (Nat.le_of_ble_eq_true rfl)) d_Ru_become_17 ⟨Nat.le_of_ble_eq_true rfl, Nat.le_of_ble_eq_true rfl⟩) hS (fun _ _ h => h) (fun _ h => h) (fun u1 t H locs ht hvm hu hB hz hk hS => ?_)
  subst hu
  obtain ⟨hP, -⟩ := hB
  rw [ht] at hP
  have hP : va_P D cls (wC ad dA w (P.1, P.2.1, P.2.2.1, P.2.2.2.1, updR P.2.2.2.2 i ((P.2.2.2.2 i).1, fr, to, kd, dt, (P.2.2.2.2 i).2.2.2.2.2)) g ss M) H := (congrArg (fun z => va_P D cls (wC ad dA w z g ss M) H) ac_foc).mp hP
  refine lv_aload_n hx hb d_Ru_become_20 rfl (lv_at hl 0 rfl) ?_
  refine lv_iconst (v := 0) hx hb d_Ru_become_21 (by decide) ?_
  refine va_put (D := D) (ci := 7) (v := .int (0 : Int32)) (ty := .int) (C := R_Ru) (T := F_Ru) (N := 5) hx hb hts in_Ru t_Ru k_Ru n_Ru hown hK hP (wC_D hAd) hS (13 + 6 * i + 0) (wF_ru (by omega)) rfl 1 (by decide) (hts _ wd_110) (fun _ h9 => h9) rfl (by decide +kernel) rfl rfl (Nat.le_of_ble_eq_true rfl) d_Ru_become_22 (fun H locs hP _ hS => ?_)
  have hP : va_P D cls (wC ad dA w (P.1, P.2.1, P.2.2.1, P.2.2.2.1, updR P.2.2.2.2 i ((0 : Int32), fr, to, kd, dt, (P.2.2.2.2 i).2.2.2.2.2)) g ss M) H := wF_put (r := ((0 : Int32), fr, to, kd, dt, (P.2.2.2.2 i).2.2.2.2.2)) (by omega) 0 (by omega) (by rfl) hP
  exact W.vret hx hb hr (fun t ht hW => ⟨⟨_, rfl, (by rw [m_Ru_become]), CG_at hP hK hN ht hW⟩, hS.F ht⟩) hS.2.2 d_Ru_become_25
def m_Ru_add (P : PT) (i : Nat) (pl : Int32) (op : Int32) (va : Int64) (mk : Int64) : PT := (P.1, P.2.1, P.2.2.1, P.2.2.2.1, updR P.2.2.2.2 i (((P.2.2.2.2 i).1) + (1 : Int32), (P.2.2.2.2 i).2.1, (P.2.2.2.2 i).2.2.1, (P.2.2.2.2 i).2.2.2.1, (P.2.2.2.2 i).2.2.2.2.1, updC ((P.2.2.2.2 i).2.2.2.2.2) (((P.2.2.2.2 i).1).toNatClampNeg) (pl, op, va, mk)))
set_option maxHeartbeats 4000000 in
set_option maxRecDepth 100000 in
theorem c_Ru_add (l : Launch) (D : va_G) (dA : Nat → ClassId) (ad : Nat → Nat) (A : Nat → Prop) (hAd : AdOK 49 ad A) (w : Nat → Int32) (P : PT) (g : GT) (ss : Nat → Int32) (M : MT) (i : Nat) (pl : Int32) (op : Int32) (va : Int64) (mk : Int64) (hi : i < 6) (hv : vp_in (P.2.2.2.2 i).1 3) : Met l y_Ru_add (mW y_Ru_add b_Ru_add 7 none) { frames := 1, cells := 0, slots := 0, locals := 26 } (va_Pc [.ref (ad (13 + 6 * i)), .int pl, .int op, .long va, .long mk] (fun U => CG D dA ad w P g ss M U)) (va_Qv (fun u : PT => u = m_Ru_add P i pl op va mk) (fun u t => CG D dA ad w u g ss M t) A) 0 0 A := by
  refine Met.ofW (cc := b_Ru_add) (maxL := 7) (ret := none) (by decide) rfl ?_
  intro p e s m args below meth c s₁ B hml hv
  obtain ⟨rfl, hP, hK, hN⟩ := hv
  have hx := B.exec
  have hb := B.bytes
  have hr := B.returns
  have hlocks := B.notSynchronized
  have hts := fun (w : Cond) (h : w ∈ lw_g) => atoms_spec (ws := mW y_Ru_add b_Ru_add 7 none) B.pre w (List.mem_cons_of_mem _ h)
  have hown : s.vm.findClass R_Ru = some m.cls := findClass_of_methodNamed B.named
  have hS : va_S A s.heap s.heap [] := va_S.rf
  have hl := lv_entry ([.ref (ad (13 + 6 * i)), .int pl, .int op, .long va, .long mk]) (n := 7) (Nat.le_of_ble_eq_true rfl)
  rw [lg_entry_eq]
  generalize (lg_sl ([.ref (ad (13 + 6 * i)), .int pl, .int op, .long va, .long mk]) ++ List.replicate (7 - (lg_sl ([.ref (ad (13 + 6 * i)), .int pl, .int op, .long va, .long mk])).length) Slot.unset).toArray = ls at hl ⊢
  have hl : lv_has ls 7 [(0, .ref (ad (13 + 6 * i))), (1, .int pl), (2, .int op), (3, .long va), (5, .long mk)] := hl
  have hP : va_P D cls (wC ad dA w (P.1, P.2.1, P.2.2.1, P.2.2.2.1, updR P.2.2.2.2 i ((P.2.2.2.2 i).1, (P.2.2.2.2 i).2.1, (P.2.2.2.2 i).2.2.1, (P.2.2.2.2 i).2.2.2.1, (P.2.2.2.2 i).2.2.2.2.1, (P.2.2.2.2 i).2.2.2.2.2)) g ss M) s.heap := wF_in hP
  refine lv_aload_n hx hb d_Ru_add_0 rfl (lv_at hl 0 rfl) ?_
  refine va_get (D := D) (ci := 7) (v := .ref (ad (15 + 6 * i))) (C := R_Ru) (T := F_Ru) (N := 5) hx hb hts in_Ru hown hK hP (13 + 6 * i + 0) (wF_ru (by omega)) rfl 4 (by decide) (hts _ wd_114) (fun _ h9 => h9) rfl d_Ru_add_1 ?_
  refine lv_aload_n hx hb d_Ru_add_4 rfl (lv_at hl 0 rfl) ?_
  refine va_get (D := D) (ci := 7) (v := .int ((P.2.2.2.2 i).1)) (C := R_Ru) (T := F_Ru) (N := 5) hx hb hts in_Ru hown hK hP (13 + 6 * i + 0) (wF_ru (by omega)) rfl 1 (by decide) (hts _ wd_110) (fun _ h9 => h9) rfl d_Ru_add_5 ?_
  have hq1 : (((P.2.2.2.2 i).1).toNatClampNeg) < 3 := (vp_cl hv)
  refine va_aldq (n := 3) (f := rfs ad 3 (16 + 6 * i) 1) hx hb hK hP (13 + 6 * i + 2) 3 (wF_cs (by omega)) rfl hv d_Ru_add_8 ?_
  refine W.eq (g2 := F0 m 9 ls [.ref (ad (16 + 6 * i + (((P.2.2.2.2 i).1).toNatClampNeg)))]) (by rw [rf_at (vp_cl hv), Nat.one_mul]) ?_
  refine lv_iload_n hx hb d_Ru_add_9 rfl (lv_at hl 1 rfl) ?_
  refine lv_iload_n hx hb d_Ru_add_10 rfl (lv_at hl 2 rfl) ?_
  refine lv_lload_n hx hb d_Ru_add_11 rfl (lv_at hl 3 rfl) ?_
  refine lv_lload hx hb d_Ru_add_12 (lv_at hl 4 rfl) ?_
  refine va_callv (va_runV (As := [.int pl, .int op, .long va, .long mk]) (rest := []) ⟨hx, hb, hml, hown, hts⟩ (c_Co_become l D dA ad A hAd w (P.1, P.2.1, P.2.2.1, P.2.2.2.1, updR P.2.2.2.2 i ((P.2.2.2.2 i).1, (P.2.2.2.2 i).2.1, (P.2.2.2.2 i).2.2.1, (P.2.2.2.2 i).2.2.2.1, (P.2.2.2.2 i).2.2.2.2.1, (P.2.2.2.2 i).2.2.2.2.2)) g ss M i (((P.2.2.2.2 i).1).toNatClampNeg) pl op va mk hi (vp_cl hv)) (cwV 4 hts (g_V wd_271 wd_272 wd_273 wd_31 wd_274) rfl rfl rfl (by decide +kernel) ⟨Nat.le_of_ble_eq_true rfl, Nat.le_of_ble_eq_true rfl⟩) ⟨CG_fb, (va_recv (ci := 3) (q := (R_Co, F_Co, 4)) (q0 := (13 + 6 * i + (3 + (((P.2.2.2.2 i).1).toNatClampNeg)))) hK hP rfl (wF_co (by omega) (by omega))), fun U hU hW => ⟨rfl, CG_at hP hK hN hU hW⟩⟩ rfl rfl hl.1 rfl (lv_room (Nat.le_of_ble_eq_true rfl)) d_Ru_add_14 ⟨Nat.le_of_ble_eq_true rfl, Nat.le_of_ble_eq_true rfl⟩) hS (fun _ _ h => h) (fun _ h => h) (fun u1 t H locs ht hvm hu hB hz hk hS => ?_)
  subst hu
  obtain ⟨hP, -⟩ := hB
  rw [ht] at hP
  have hP : va_P D cls (wC ad dA w (P.1, P.2.1, P.2.2.1, P.2.2.2.1, updR P.2.2.2.2 i ((P.2.2.2.2 i).1, (P.2.2.2.2 i).2.1, (P.2.2.2.2 i).2.2.1, (P.2.2.2.2 i).2.2.2.1, (P.2.2.2.2 i).2.2.2.2.1, updC ((P.2.2.2.2 i).2.2.2.2.2) (((P.2.2.2.2 i).1).toNatClampNeg) (pl, op, va, mk))) g ss M) H := (congrArg (fun z => va_P D cls (wC ad dA w z g ss M) H) co_foc).mp hP
  refine lv_aload_n hx hb d_Ru_add_17 rfl (lv_at hl 0 rfl) ?_
  refine lv_dup hx hb d_Ru_add_18 rfl ?_
  refine va_get (D := D) (ci := 7) (v := .int ((P.2.2.2.2 i).1)) (C := R_Ru) (T := F_Ru) (N := 5) hx hb hts in_Ru hown hK hP (13 + 6 * i + 0) (wF_ru (by omega)) rfl 1 (by decide) (hts _ wd_110) (fun _ h9 => h9) rfl d_Ru_add_19 ?_
  refine lv_iconst (v := 1) hx hb d_Ru_add_22 (by decide) ?_
  refine lv_iadd hx hb d_Ru_add_23 ?_
  refine va_put (D := D) (ci := 7) (v := .int (((P.2.2.2.2 i).1) + (1 : Int32))) (ty := .int) (C := R_Ru) (T := F_Ru) (N := 5) hx hb hts in_Ru t_Ru k_Ru n_Ru hown hK hP (wC_D hAd) hS (13 + 6 * i + 0) (wF_ru (by omega)) rfl 1 (by decide) (hts _ wd_110) (fun _ h9 => h9) rfl (by decide +kernel) rfl rfl (Nat.le_of_ble_eq_true rfl) d_Ru_add_24 (fun H locs hP _ hS => ?_)
  have hP : va_P D cls (wC ad dA w (P.1, P.2.1, P.2.2.1, P.2.2.2.1, updR P.2.2.2.2 i (((P.2.2.2.2 i).1) + (1 : Int32), (P.2.2.2.2 i).2.1, (P.2.2.2.2 i).2.2.1, (P.2.2.2.2 i).2.2.2.1, (P.2.2.2.2 i).2.2.2.2.1, updC ((P.2.2.2.2 i).2.2.2.2.2) (((P.2.2.2.2 i).1).toNatClampNeg) (pl, op, va, mk))) g ss M) H := wF_put (r := (((P.2.2.2.2 i).1) + (1 : Int32), (P.2.2.2.2 i).2.1, (P.2.2.2.2 i).2.2.1, (P.2.2.2.2 i).2.2.2.1, (P.2.2.2.2 i).2.2.2.2.1, updC ((P.2.2.2.2 i).2.2.2.2.2) (((P.2.2.2.2 i).1).toNatClampNeg) (pl, op, va, mk))) (by omega) 0 (by omega) (by rfl) hP
  exact W.vret hx hb hr (fun t ht hW => ⟨⟨_, rfl, (by rw [m_Ru_add]), CG_at hP hK hN ht hW⟩, hS.F ht⟩) hS.2.2 d_Ru_add_27
def m_Ru_matches_l1 (w : Nat → Int32) (P : PT) (i : Nat) : Nat → Nat → Int32
  | 0, _ => 0
  | n1 + 1, j => if ((P.2.2.2.2 i).1) ≤ (nI j) then (1 : Int32) else if (m_Co_holdsFor w P i j) = (0 : Int32) then (0 : Int32) else m_Ru_matches_l1 w P i n1 (j + 1)
def m_Ru_matches (w : Nat → Int32) (P : PT) (i : Nat) : Int32 := if (m_Ca_number w) < ((P.2.2.2.2 i).2.1) then (0 : Int32) else if (m_Ca_number w) ≤ ((P.2.2.2.2 i).2.2.1) then m_Ru_matches_l1 w P i (4) 0 else (0 : Int32)
set_option maxHeartbeats 4000000 in
set_option maxRecDepth 100000 in
theorem c_Ru_matches (l : Launch) (D : va_G) (dA : Nat → ClassId) (ad : Nat → Nat) (w : Nat → Int32) (P : PT) (g : GT) (ss : Nat → Int32) (M : MT) (i : Nat) (hi : i < 6) (hc : iN (P.2.2.2.2 i).1 ≤ 3) (hp : ∀ j, j < 3 → vp_in ((P.2.2.2.2 i).2.2.2.2.2 j).1 6) : Met l y_Ru_matches (mW y_Ru_matches b_Ru_matches 3 (some .boolean)) { frames := 3, cells := 0, slots := 0, locals := 65 } (va_Pc [.ref (ad (13 + 6 * i)), .ref (ad 1)] (fun U => CG D dA ad w P g ss M U)) (vp_Si (fun r => r = m_Ru_matches w P i)) 0 0 (fun _ => False) := by
  refine Met.ofW (cc := b_Ru_matches) (maxL := 3) (ret := (some .boolean)) (by decide) rfl ?_
  intro p e s m args below meth c s₁ B hml hv
  obtain ⟨rfl, hP, hK, hN⟩ := hv
  have hx := B.exec
  have hb := B.bytes
  have hr := B.returns
  have hlocks := B.notSynchronized
  have hts := fun (w : Cond) (h : w ∈ lw_g) => atoms_spec (ws := mW y_Ru_matches b_Ru_matches 3 (some .boolean)) B.pre w (List.mem_cons_of_mem _ h)
  have hown : s.vm.findClass R_Ru = some m.cls := findClass_of_methodNamed B.named
  have hl := lv_entry ([.ref (ad (13 + 6 * i)), .ref (ad 1)]) (n := 3) (Nat.le_of_ble_eq_true rfl)
  rw [lg_entry_eq]
  generalize (lg_sl ([.ref (ad (13 + 6 * i)), .ref (ad 1)]) ++ List.replicate (3 - (lg_sl ([.ref (ad (13 + 6 * i)), .ref (ad 1)])).length) Slot.unset).toArray = ls at hl ⊢
  have hl : lv_has ls 3 [(0, .ref (ad (13 + 6 * i))), (1, .ref (ad 1))] := hl
  refine lv_aload_n hx hb d_Ru_matches_0 rfl (lv_at hl 1 rfl) ?_
  refine vp_callSi (va_Run.run (va_runV (As := []) (rest := []) ⟨hx, hb, hml, hown, hts⟩ (c_Ca_number l D dA ad w P g ss M) (cwV 0 hts (g_V wd_309 wd_297 wd_298 wd_27 wd_299) rfl rfl rfl (by decide +kernel) ⟨Nat.le_of_ble_eq_true rfl, Nat.le_of_ble_eq_true rfl⟩) ⟨CG_fb, (va_recv (ci := 1) (q := (R_Ca, F_Ca, 1)) (q0 := 1) hK hP rfl rfl), fun U hU hW => ⟨rfl, CG_at hP hK hN hU hW⟩⟩ rfl rfl hl.1 rfl (lv_room (Nat.le_of_ble_eq_true rfl)) d_Ru_matches_1 ⟨Nat.le_of_ble_eq_true rfl, Nat.le_of_ble_eq_true rfl⟩)) (fun r1 e1 => ?_)
  subst e1
  refine lv_aload_n hx hb d_Ru_matches_4 rfl (lv_at hl 0 rfl) ?_
  refine va_get (D := D) (ci := 7) (v := .int ((P.2.2.2.2 i).2.1)) (C := R_Ru) (T := F_Ru) (N := 5) hx hb hts in_Ru hown hK hP (13 + 6 * i + 0) (wC_ru (by omega)) rfl 2 (by decide) (hts _ wd_112) (fun _ h9 => h9) rfl d_Ru_matches_5 ?_
  refine lv_icmp_lt (tgt := 22) hx hb d_Ru_matches_8 (by decide) (fun h1 => ?_) (fun h1 => ?_)
  · refine lv_iconst (v := 0) hx hb d_Ru_matches_22 (by decide) ?_
    exact W.zret hx hb hr rfl (fun t ht hW => ⟨_, rfl, (by rw [m_Ru_matches, if_pos h1]), ht⟩) (fun _ h => by cases h) d_Ru_matches_23
  refine lv_aload_n hx hb d_Ru_matches_11 rfl (lv_at hl 1 rfl) ?_
  refine vp_callSi (va_Run.run (va_runV (As := []) (rest := []) ⟨hx, hb, hml, hown, hts⟩ (c_Ca_number l D dA ad w P g ss M) (cwV 0 hts (g_V wd_309 wd_297 wd_298 wd_27 wd_299) rfl rfl rfl (by decide +kernel) ⟨Nat.le_of_ble_eq_true rfl, Nat.le_of_ble_eq_true rfl⟩) ⟨CG_fb, (va_recv (ci := 1) (q := (R_Ca, F_Ca, 1)) (q0 := 1) hK hP rfl rfl), fun U hU hW => ⟨rfl, CG_at hP hK hN hU hW⟩⟩ rfl rfl hl.1 rfl (lv_room (Nat.le_of_ble_eq_true rfl)) d_Ru_matches_12 ⟨Nat.le_of_ble_eq_true rfl, Nat.le_of_ble_eq_true rfl⟩)) (fun r2 e2 => ?_)
  subst e2
  refine lv_aload_n hx hb d_Ru_matches_15 rfl (lv_at hl 0 rfl) ?_
  refine va_get (D := D) (ci := 7) (v := .int ((P.2.2.2.2 i).2.2.1)) (C := R_Ru) (T := F_Ru) (N := 5) hx hb hts in_Ru hown hK hP (13 + 6 * i + 0) (wC_ru (by omega)) rfl 3 (by decide) (hts _ wd_113) (fun _ h9 => h9) rfl d_Ru_matches_16 ?_
  refine lv_icmp_le (tgt := 24) hx hb d_Ru_matches_19 (by decide) (fun h2 => ?_) (fun h2 => ?_)
  · refine lv_iconst (v := 0) hx hb d_Ru_matches_24 (by decide) ?_
    refine lv_istore_n hx hb d_Ru_matches_25 rfl hl (by decide) rfl (fun ls hl => ?_)
    have hl : lv_has ls 3 [(2, .int (0 : Int32)), (0, .ref (ad (13 + 6 * i))), (1, .ref (ad 1))] := hl
    refine W_loopR1 (X := fun (n1 : Nat) (j : Nat) (ls : Array Slot) => 3 - j < n1 ∧ m_Ru_matches w P i = m_Ru_matches_l1 w P i n1 j ∧ lv_has ls 3 [(2, .int (nI j)), (0, .ref (ad (13 + 6 * i))), (1, .ref (ad 1))] ∧ j ≤ 3) (4) 0 ⟨(by decide), (by rw [m_Ru_matches, if_neg h1, if_pos h2]), (lv_sub hl [0, 1, 2] rfl), (by decide)⟩ (fun _ _ h => absurd h.1 (Nat.not_lt_zero _)) (fun n1 ih1 j ls h => ?_)
    obtain ⟨hn1, hm1, hl, hj⟩ := h
    refine lv_iload_n hx hb d_Ru_matches_26 rfl (lv_at hl 0 rfl) ?_
    refine lv_aload_n hx hb d_Ru_matches_27 rfl (lv_at hl 1 rfl) ?_
    refine va_get (D := D) (ci := 7) (v := .int ((P.2.2.2.2 i).1)) (C := R_Ru) (T := F_Ru) (N := 5) hx hb hts in_Ru hown hK hP (13 + 6 * i + 0) (wC_ru (by omega)) rfl 1 (by decide) (hts _ wd_110) (fun _ h9 => h9) rfl d_Ru_matches_28 ?_
    refine lv_icmp_ge (tgt := 55) hx hb d_Ru_matches_31 (by decide) (fun h3 => ?_) (fun h3 => ?_)
    · refine lv_iconst (v := 1) hx hb d_Ru_matches_55 (by decide) ?_
      exact W.zret hx hb hr rfl (fun t ht hW => ⟨_, rfl, (by rw [hm1, m_Ru_matches_l1, if_pos h3]), ht⟩) (fun _ h => by cases h) d_Ru_matches_56
    have hjl : j < 3 := Nat.lt_of_lt_of_le (nj_lt hc (by decide) hj h3) hc
    refine lv_aload_n hx hb d_Ru_matches_34 rfl (lv_at hl 1 rfl) ?_
    refine va_get (D := D) (ci := 7) (v := .ref (ad (15 + 6 * i))) (C := R_Ru) (T := F_Ru) (N := 5) hx hb hts in_Ru hown hK hP (13 + 6 * i + 0) (wC_ru (by omega)) rfl 4 (by decide) (hts _ wd_114) (fun _ h9 => h9) rfl d_Ru_matches_35 ?_
    refine lv_iload_n hx hb d_Ru_matches_38 rfl (lv_at hl 0 rfl) ?_
    have hq1 : j < 3 := (by omega)
    refine va_aldq (n := 3) (f := rfs ad 3 (16 + 6 * i) 1) hx hb hK hP (13 + 6 * i + 2) 3 (wC_cs (by omega)) rfl (vp_in_nI (by omega) (by decide)) d_Ru_matches_39 ?_
    refine W.eq (g2 := F0 m 40 ls [.ref (ad (16 + 6 * i + j))]) (by rw [nI_clamp (show j < 2 ^ 31 by omega), rf_at (by omega), Nat.one_mul]) ?_
    refine lv_aload_n hx hb d_Ru_matches_40 rfl (lv_at hl 2 rfl) ?_
    refine vp_callSi (va_Run.run (va_runV (As := [.ref (ad 1)]) (rest := []) ⟨hx, hb, hml, hown, hts⟩ (c_Co_holdsFor l D dA ad w P g ss M i j hi hjl (hp j hjl)) (cwV 1 hts (g_V wd_310 wd_311 wd_312 wd_31 wd_313) rfl rfl rfl (by decide +kernel) ⟨Nat.le_of_ble_eq_true rfl, Nat.le_of_ble_eq_true rfl⟩) ⟨CG_fb, (va_recv (ci := 3) (q := (R_Co, F_Co, 4)) (q0 := (13 + 6 * i + (3 + j))) hK hP rfl (wC_co (by omega) (by omega))), fun U hU hW => ⟨rfl, CG_at hP hK hN hU hW⟩⟩ rfl rfl hl.1 rfl (lv_room (Nat.le_of_ble_eq_true rfl)) d_Ru_matches_41 ⟨Nat.le_of_ble_eq_true rfl, Nat.le_of_ble_eq_true rfl⟩)) (fun r3 e3 => ?_)
    subst e3
    refine lv_if_ne (tgt := 49) hx hb d_Ru_matches_44 (by decide) (fun h4 => ?_) (fun h4 => ?_)
    · refine lv_iinc (v := (nI j) + 1) hx hb d_Ru_matches_49 hl (k := 0) rfl rfl (by decide) rfl (fun ls hl => ?_)
      have hl : lv_has ls 3 [(2, .int ((nI j) + 1)), (0, .ref (ad (13 + 6 * i))), (1, .ref (ad 1))] := hl
      refine lv_goto (tgt := 26) hx hb d_Ru_matches_52 (by decide) ?_
      exact ih1 (j + 1) _ ⟨(by omega), (by rw [hm1, m_Ru_matches_l1, if_neg h3, if_neg h4]), (by have h9 := lv_sub hl [0, 1, 2] rfl; rw [nI_1] at h9; exact h9), (by omega)⟩
    refine lv_iconst (v := 0) hx hb d_Ru_matches_47 (by decide) ?_
    exact W.zret hx hb hr rfl (fun t ht hW => ⟨_, rfl, (by rw [hm1, m_Ru_matches_l1, if_neg h3, if_pos h4]), ht⟩) (fun _ h => by cases h) d_Ru_matches_48
  refine lv_iconst (v := 0) hx hb d_Ru_matches_22 (by decide) ?_
  exact W.zret hx hb hr rfl (fun t ht hW => ⟨_, rfl, (by rw [m_Ru_matches, if_neg h1, if_neg h2]), ht⟩) (fun _ h => by cases h) d_Ru_matches_23
def m_Po_add (P : PT) (fr : Int32) (to : Int32) (kd : Int32) (dt : Int32) : Int32 × PT := ((((m_Ru_become P (P.2.1.toNatClampNeg) fr to kd dt).2.1) + (1 : Int32)) - (1 : Int32), ((m_Ru_become P (P.2.1.toNatClampNeg) fr to kd dt).1, ((m_Ru_become P (P.2.1.toNatClampNeg) fr to kd dt).2.1) + (1 : Int32), (m_Ru_become P (P.2.1.toNatClampNeg) fr to kd dt).2.2.1, (m_Ru_become P (P.2.1.toNatClampNeg) fr to kd dt).2.2.2.1, (m_Ru_become P (P.2.1.toNatClampNeg) fr to kd dt).2.2.2.2))
set_option maxHeartbeats 4000000 in
set_option maxRecDepth 100000 in
theorem c_Po_add (l : Launch) (D : va_G) (dA : Nat → ClassId) (ad : Nat → Nat) (A : Nat → Prop) (hAd : AdOK 49 ad A) (w : Nat → Int32) (P : PT) (g : GT) (ss : Nat → Int32) (M : MT) (fr : Int32) (to : Int32) (kd : Int32) (dt : Int32) (hv : vp_in P.2.1 6) : Met l y_Po_add (mW y_Po_add b_Po_add 5 (some .int)) { frames := 2, cells := 0, slots := 0, locals := 46 } (va_Pc [.ref (ad 3), .int fr, .int to, .int kd, .int dt] (fun U => CG D dA ad w P g ss M U)) (va_Qi (fun (r : Int32) (u : PT) => r = (m_Po_add P fr to kd dt).1 ∧ u = (m_Po_add P fr to kd dt).2) (fun u t => CG D dA ad w u g ss M t) A) 0 0 A := by
  refine Met.ofW (cc := b_Po_add) (maxL := 5) (ret := (some .int)) (by decide) rfl ?_
  intro p e s m args below meth c s₁ B hml hv
  obtain ⟨rfl, hP, hK, hN⟩ := hv
  have hx := B.exec
  have hb := B.bytes
  have hr := B.returns
  have hlocks := B.notSynchronized
  have hts := fun (w : Cond) (h : w ∈ lw_g) => atoms_spec (ws := mW y_Po_add b_Po_add 5 (some .int)) B.pre w (List.mem_cons_of_mem _ h)
  have hown : s.vm.findClass R_Po = some m.cls := findClass_of_methodNamed B.named
  have hS : va_S A s.heap s.heap [] := va_S.rf
  have hl := lv_entry ([.ref (ad 3), .int fr, .int to, .int kd, .int dt]) (n := 5) (Nat.le_of_ble_eq_true rfl)
  rw [lg_entry_eq]
  generalize (lg_sl ([.ref (ad 3), .int fr, .int to, .int kd, .int dt]) ++ List.replicate (5 - (lg_sl ([.ref (ad 3), .int fr, .int to, .int kd, .int dt])).length) Slot.unset).toArray = ls at hl ⊢
  have hl : lv_has ls 5 [(0, .ref (ad 3)), (1, .int fr), (2, .int to), (3, .int kd), (4, .int dt)] := hl
  refine lv_aload_n hx hb d_Po_add_0 rfl (lv_at hl 0 rfl) ?_
  refine va_get (D := D) (ci := 5) (v := .ref (ad 6)) (C := R_Po) (T := F_Po) (N := 5) hx hb hts in_Po hown hK hP 3 rfl rfl 2 (by decide) (hts _ wd_130) (fun _ h9 => h9) rfl d_Po_add_1 ?_
  refine lv_aload_n hx hb d_Po_add_4 rfl (lv_at hl 0 rfl) ?_
  refine va_get (D := D) (ci := 5) (v := .int P.2.1) (C := R_Po) (T := F_Po) (N := 5) hx hb hts in_Po hown hK hP 3 rfl rfl 3 (by decide) (hts _ wd_132) (fun _ h9 => h9) rfl d_Po_add_5 ?_
  have hq1 : (P.2.1.toNatClampNeg) < 6 := (vp_cl hv)
  refine va_aldq (n := 6) (f := rfs ad 6 13 6) hx hb hK hP 6 2 rfl rfl hv d_Po_add_8 ?_
  refine W.eq (g2 := F0 m 9 ls [.ref (ad (13 + 6 * (P.2.1.toNatClampNeg)))]) (by rw [rf_at (vp_cl hv)]) ?_
  refine lv_iload_n hx hb d_Po_add_9 rfl (lv_at hl 1 rfl) ?_
  refine lv_iload_n hx hb d_Po_add_10 rfl (lv_at hl 2 rfl) ?_
  refine lv_iload_n hx hb d_Po_add_11 rfl (lv_at hl 3 rfl) ?_
  refine lv_iload hx hb d_Po_add_12 (lv_at hl 4 rfl) ?_
  refine va_callv (va_runV (As := [.int fr, .int to, .int kd, .int dt]) (rest := []) ⟨hx, hb, hml, hown, hts⟩ (c_Ru_become l D dA ad A hAd w P g ss M (P.2.1.toNatClampNeg) fr to kd dt (vp_cl hv)) (cwV 4 hts (g_V wd_252 wd_253 wd_254 wd_30 wd_255) rfl rfl rfl (by decide +kernel) ⟨Nat.le_of_ble_eq_true rfl, Nat.le_of_ble_eq_true rfl⟩) ⟨CG_fb, (va_recv (ci := 7) (q := (R_Ru, F_Ru, 5)) (q0 := (13 + 6 * (P.2.1.toNatClampNeg) + 0)) hK hP rfl (wC_ru (by omega))), fun U hU hW => ⟨rfl, CG_at hP hK hN hU hW⟩⟩ rfl rfl hl.1 rfl (lv_room (Nat.le_of_ble_eq_true rfl)) d_Po_add_14 ⟨Nat.le_of_ble_eq_true rfl, Nat.le_of_ble_eq_true rfl⟩) hS (fun _ _ h => h) (fun _ h => h) (fun u1 t H locs ht hvm hu hB hz hk hS => ?_)
  subst hu
  obtain ⟨hP, -⟩ := hB
  rw [ht] at hP
  have hP : va_P D cls (wC ad dA w (m_Ru_become P (P.2.1.toNatClampNeg) fr to kd dt) g ss M) H := hP
  refine lv_aload_n hx hb d_Po_add_17 rfl (lv_at hl 0 rfl) ?_
  refine lv_dup hx hb d_Po_add_18 rfl ?_
  refine va_get (D := D) (ci := 5) (v := .int ((m_Ru_become P (P.2.1.toNatClampNeg) fr to kd dt).2.1)) (C := R_Po) (T := F_Po) (N := 5) hx hb hts in_Po hown hK hP 3 rfl rfl 3 (by decide) (hts _ wd_132) (fun _ h9 => h9) rfl d_Po_add_19 ?_
  refine lv_iconst (v := 1) hx hb d_Po_add_22 (by decide) ?_
  refine lv_iadd hx hb d_Po_add_23 ?_
  refine va_put (D := D) (ci := 5) (v := .int (((m_Ru_become P (P.2.1.toNatClampNeg) fr to kd dt).2.1) + (1 : Int32))) (ty := .int) (C := R_Po) (T := F_Po) (N := 5) hx hb hts in_Po t_Po k_Po n_Po hown hK hP (wC_D hAd) hS 3 rfl rfl 3 (by decide) (hts _ wd_132) (fun _ h9 => h9) rfl (by decide +kernel) rfl rfl (Nat.le_of_ble_eq_true rfl) d_Po_add_24 (fun H locs hP _ hS => ?_)
  have hP : va_P D cls (wC ad dA w ((m_Ru_become P (P.2.1.toNatClampNeg) fr to kd dt).1, ((m_Ru_become P (P.2.1.toNatClampNeg) fr to kd dt).2.1) + (1 : Int32), (m_Ru_become P (P.2.1.toNatClampNeg) fr to kd dt).2.2.1, (m_Ru_become P (P.2.1.toNatClampNeg) fr to kd dt).2.2.2.1, (m_Ru_become P (P.2.1.toNatClampNeg) fr to kd dt).2.2.2.2) g ss M) H := hP
  refine lv_aload_n hx hb d_Po_add_27 rfl (lv_at hl 0 rfl) ?_
  refine va_get (D := D) (ci := 5) (v := .int (((m_Ru_become P (P.2.1.toNatClampNeg) fr to kd dt).2.1) + (1 : Int32))) (C := R_Po) (T := F_Po) (N := 5) hx hb hts in_Po hown hK hP 3 rfl rfl 3 (by decide) (hts _ wd_132) (fun _ h9 => h9) rfl d_Po_add_28 ?_
  refine lv_iconst (v := 1) hx hb d_Po_add_31 (by decide) ?_
  refine lv_isub hx hb d_Po_add_32 ?_
  exact W.iret hx hb hr (fun t ht hW => ⟨⟨_, _, rfl, ⟨(by rw [m_Po_add]), (by rw [m_Po_add])⟩, CG_at hP hK hN ht hW⟩, hS.F ht⟩) hS.2.2 d_Po_add_33
def m_Po_isStricter (P : PT) (i : Nat) (ch : Int32) : Int32 := if ch = (-1 : Int32) then (1 : Int32) else if ((P.2.2.2.2 (ch.toNatClampNeg)).2.2.2.1) ≤ ((P.2.2.2.2 i).2.2.2.1) then (0 : Int32) else (1 : Int32)
set_option maxHeartbeats 4000000 in
set_option maxRecDepth 100000 in
theorem c_Po_isStricter (l : Launch) (D : va_G) (dA : Nat → ClassId) (ad : Nat → Nat) (w : Nat → Int32) (P : PT) (g : GT) (ss : Nat → Int32) (M : MT) (i : Nat) (ch : Int32) (hi : i < 6) (hch : ¬ ch = (-1 : Int32) → vp_in ch 6) : Met l y_Po_isStricter (mW y_Po_isStricter b_Po_isStricter 3 (some .boolean)) { frames := 0, cells := 0, slots := 0, locals := 0 } (va_Pc [.ref (ad 3), .int (nI i), .int ch] (fun U => CG D dA ad w P g ss M U)) (vp_Si (fun r => r = m_Po_isStricter P i ch)) 0 0 (fun _ => False) := by
  refine Met.ofW (cc := b_Po_isStricter) (maxL := 3) (ret := (some .boolean)) (by decide) rfl ?_
  intro p e s m args below meth c s₁ B hml hv
  obtain ⟨rfl, hP, hK, hN⟩ := hv
  have hx := B.exec
  have hb := B.bytes
  have hr := B.returns
  have hlocks := B.notSynchronized
  have hts := fun (w : Cond) (h : w ∈ lw_g) => atoms_spec (ws := mW y_Po_isStricter b_Po_isStricter 3 (some .boolean)) B.pre w (List.mem_cons_of_mem _ h)
  have hown : s.vm.findClass R_Po = some m.cls := findClass_of_methodNamed B.named
  have hl := lv_entry ([.ref (ad 3), .int (nI i), .int ch]) (n := 3) (Nat.le_of_ble_eq_true rfl)
  rw [lg_entry_eq]
  generalize (lg_sl ([.ref (ad 3), .int (nI i), .int ch]) ++ List.replicate (3 - (lg_sl ([.ref (ad 3), .int (nI i), .int ch])).length) Slot.unset).toArray = ls at hl ⊢
  have hl : lv_has ls 3 [(0, .ref (ad 3)), (1, .int (nI i)), (2, .int ch)] := hl
  refine lv_iload_n hx hb d_Po_isStricter_0 rfl (lv_at hl 2 rfl) ?_
  refine lv_iconst (v := -1) hx hb d_Po_isStricter_1 (by decide) ?_
  refine lv_icmp_eq (tgt := 32) hx hb d_Po_isStricter_2 (by decide) (fun h1 => ?_) (fun h1 => ?_)
  · refine lv_iconst (v := 1) hx hb d_Po_isStricter_32 (by decide) ?_
    refine lv_goto (tgt := 37) hx hb d_Po_isStricter_33 (by decide) ?_
    exact W.zret hx hb hr rfl (fun t ht hW => ⟨_, rfl, (by rw [m_Po_isStricter, if_pos h1]), ht⟩) (fun _ h => by cases h) d_Po_isStricter_37
  refine lv_aload_n hx hb d_Po_isStricter_5 rfl (lv_at hl 0 rfl) ?_
  refine va_get (D := D) (ci := 5) (v := .ref (ad 6)) (C := R_Po) (T := F_Po) (N := 5) hx hb hts in_Po hown hK hP 3 rfl rfl 2 (by decide) (hts _ wd_130) (fun _ h9 => h9) rfl d_Po_isStricter_6 ?_
  refine lv_iload_n hx hb d_Po_isStricter_9 rfl (lv_at hl 1 rfl) ?_
  have hq1 : i < 6 := (by omega)
  refine va_aldq (n := 6) (f := rfs ad 6 13 6) hx hb hK hP 6 2 rfl rfl (vp_in_nI (by omega) (by decide)) d_Po_isStricter_10 ?_
  refine W.eq (g2 := F0 m 11 ls [.ref (ad (13 + 6 * i))]) (by rw [nI_clamp (show i < 2 ^ 31 by omega), rf_at (by omega)]) ?_
  refine va_get (D := D) (ci := 7) (v := .ref (ad (14 + 6 * i))) (C := R_Ru) (T := F_Ru) (N := 5) hx hb hts in_Ru hown hK hP (13 + 6 * i + 0) (wC_ru (by omega)) rfl 0 (by decide) (hts _ wd_109) (fun _ h9 => h9) rfl d_Po_isStricter_11 ?_
  refine va_get (D := D) (ci := 0) (v := .int ((P.2.2.2.2 i).2.2.2.1)) (C := R_Ac) (T := F_Ac) (N := 2) hx hb hts in_Ac hown hK hP (13 + 6 * i + 1) (wC_ra (by omega)) rfl 0 (by decide) (hts _ wd_72) (fun _ h9 => h9) rfl d_Po_isStricter_14 ?_
  refine lv_aload_n hx hb d_Po_isStricter_17 rfl (lv_at hl 0 rfl) ?_
  refine va_get (D := D) (ci := 5) (v := .ref (ad 6)) (C := R_Po) (T := F_Po) (N := 5) hx hb hts in_Po hown hK hP 3 rfl rfl 2 (by decide) (hts _ wd_130) (fun _ h9 => h9) rfl d_Po_isStricter_18 ?_
  refine lv_iload_n hx hb d_Po_isStricter_21 rfl (lv_at hl 2 rfl) ?_
  have hq2 : (ch.toNatClampNeg) < 6 := (vp_cl (hch (by assumption)))
  refine va_aldq (n := 6) (f := rfs ad 6 13 6) hx hb hK hP 6 2 rfl rfl (hch (by assumption)) d_Po_isStricter_22 ?_
  refine W.eq (g2 := F0 m 23 ls [.ref (ad (13 + 6 * (ch.toNatClampNeg))), .int ((P.2.2.2.2 i).2.2.2.1)]) (by rw [rf_at (vp_cl (hch (by assumption)))]) ?_
  refine va_get (D := D) (ci := 7) (v := .ref (ad (14 + 6 * (ch.toNatClampNeg)))) (C := R_Ru) (T := F_Ru) (N := 5) hx hb hts in_Ru hown hK hP (13 + 6 * (ch.toNatClampNeg) + 0) (wC_ru (by omega)) rfl 0 (by decide) (hts _ wd_109) (fun _ h9 => h9) rfl d_Po_isStricter_23 ?_
  refine va_get (D := D) (ci := 0) (v := .int ((P.2.2.2.2 (ch.toNatClampNeg)).2.2.2.1)) (C := R_Ac) (T := F_Ac) (N := 2) hx hb hts in_Ac hown hK hP (13 + 6 * (ch.toNatClampNeg) + 1) (wC_ra (by omega)) rfl 0 (by decide) (hts _ wd_72) (fun _ h9 => h9) rfl d_Po_isStricter_26 ?_
  refine lv_icmp_ge (tgt := 36) hx hb d_Po_isStricter_29 (by decide) (fun h2 => ?_) (fun h2 => ?_)
  · refine lv_iconst (v := 0) hx hb d_Po_isStricter_36 (by decide) ?_
    exact W.zret hx hb hr rfl (fun t ht hW => ⟨_, rfl, (by rw [m_Po_isStricter, if_neg h1, if_pos h2]), ht⟩) (fun _ h => by cases h) d_Po_isStricter_37
  refine lv_iconst (v := 1) hx hb d_Po_isStricter_32 (by decide) ?_
  refine lv_goto (tgt := 37) hx hb d_Po_isStricter_33 (by decide) ?_
  exact W.zret hx hb hr rfl (fun t ht hW => ⟨_, rfl, (by rw [m_Po_isStricter, if_neg h1, if_neg h2]), ht⟩) (fun _ h => by cases h) d_Po_isStricter_37
def m_Po_actionOf (P : PT) (ch : Int32) : Nat := if ch = (-2 : Int32) then 5 else if ch = (-1 : Int32) then 4 else (14 + 6 * (ch.toNatClampNeg))
set_option maxHeartbeats 4000000 in
set_option maxRecDepth 100000 in
theorem c_Po_actionOf (l : Launch) (D : va_G) (dA : Nat → ClassId) (ad : Nat → Nat) (w : Nat → Int32) (P : PT) (g : GT) (ss : Nat → Int32) (M : MT) (ch : Int32) (hch : ¬ ch = (-2 : Int32) → ¬ ch = (-1 : Int32) → vp_in ch 6) : Met l y_Po_actionOf (mW y_Po_actionOf b_Po_actionOf 2 (some (.object "CallFilter$Action"))) { frames := 0, cells := 0, slots := 0, locals := 0 } (va_Pc [.ref (ad 3), .int ch] (fun U => CG D dA ad w P g ss M U)) (vp_Sr (fun r => r = ad (m_Po_actionOf P ch))) 0 0 (fun _ => False) := by
  refine Met.ofW (cc := b_Po_actionOf) (maxL := 2) (ret := (some (.object "CallFilter$Action"))) (by decide) rfl ?_
  intro p e s m args below meth c s₁ B hml hv
  obtain ⟨rfl, hP, hK, hN⟩ := hv
  have hx := B.exec
  have hb := B.bytes
  have hr := B.returns
  have hlocks := B.notSynchronized
  have hts := fun (w : Cond) (h : w ∈ lw_g) => atoms_spec (ws := mW y_Po_actionOf b_Po_actionOf 2 (some (.object "CallFilter$Action"))) B.pre w (List.mem_cons_of_mem _ h)
  have hown : s.vm.findClass R_Po = some m.cls := findClass_of_methodNamed B.named
  have hl := lv_entry ([.ref (ad 3), .int ch]) (n := 2) (Nat.le_of_ble_eq_true rfl)
  rw [lg_entry_eq]
  generalize (lg_sl ([.ref (ad 3), .int ch]) ++ List.replicate (2 - (lg_sl ([.ref (ad 3), .int ch])).length) Slot.unset).toArray = ls at hl ⊢
  have hl : lv_has ls 2 [(0, .ref (ad 3)), (1, .int ch)] := hl
  refine lv_iload_n hx hb d_Po_actionOf_0 rfl (lv_at hl 1 rfl) ?_
  refine lv_bipush (v := -2) hx hb d_Po_actionOf_1 (by decide) ?_
  refine lv_icmp_ne (tgt := 11) hx hb d_Po_actionOf_3 (by decide) (fun h1 => ?_) (fun h1 => ?_)
  · refine lv_iload_n hx hb d_Po_actionOf_11 rfl (lv_at hl 1 rfl) ?_
    refine lv_iconst (v := -1) hx hb d_Po_actionOf_12 (by decide) ?_
    refine lv_icmp_ne (tgt := 23) hx hb d_Po_actionOf_13 (by decide) (fun h2 => ?_) (fun h2 => ?_)
    · refine lv_aload_n hx hb d_Po_actionOf_23 rfl (lv_at hl 0 rfl) ?_
      refine va_get (D := D) (ci := 5) (v := .ref (ad 6)) (C := R_Po) (T := F_Po) (N := 5) hx hb hts in_Po hown hK hP 3 rfl rfl 2 (by decide) (hts _ wd_130) (fun _ h9 => h9) rfl d_Po_actionOf_24 ?_
      refine lv_iload_n hx hb d_Po_actionOf_27 rfl (lv_at hl 1 rfl) ?_
      have hq1 : (ch.toNatClampNeg) < 6 := (vp_cl (hch (by assumption) (by assumption)))
      refine va_aldq (n := 6) (f := rfs ad 6 13 6) hx hb hK hP 6 2 rfl rfl (hch (by assumption) (by assumption)) d_Po_actionOf_28 ?_
      refine W.eq (g2 := F0 m 29 ls [.ref (ad (13 + 6 * (ch.toNatClampNeg)))]) (by rw [rf_at (vp_cl (hch (by assumption) (by assumption)))]) ?_
      refine va_get (D := D) (ci := 7) (v := .ref (ad (14 + 6 * (ch.toNatClampNeg)))) (C := R_Ru) (T := F_Ru) (N := 5) hx hb hts in_Ru hown hK hP (13 + 6 * (ch.toNatClampNeg) + 0) (wC_ru (by omega)) rfl 0 (by decide) (hts _ wd_109) (fun _ h9 => h9) rfl d_Po_actionOf_29 ?_
      exact W.aret hx hb hr (Or.inl ⟨_, rfl⟩) (Or.inr ⟨_, rfl⟩) (fun t ht hW => ⟨_, rfl, (by rw [m_Po_actionOf, if_neg h1, if_neg h2]), ht⟩) (fun _ h => by cases h) d_Po_actionOf_32
    refine lv_aload_n hx hb d_Po_actionOf_16 rfl (lv_at hl 0 rfl) ?_
    refine va_get (D := D) (ci := 5) (v := .ref (ad 4)) (C := R_Po) (T := F_Po) (N := 5) hx hb hts in_Po hown hK hP 3 rfl rfl 0 (by decide) (hts _ wd_126) (fun _ h9 => h9) rfl d_Po_actionOf_17 ?_
    refine lv_goto (tgt := 32) hx hb d_Po_actionOf_20 (by decide) ?_
    exact W.aret hx hb hr (Or.inl ⟨_, rfl⟩) (Or.inr ⟨_, rfl⟩) (fun t ht hW => ⟨_, rfl, (by rw [m_Po_actionOf, if_neg h1, if_pos h2]), ht⟩) (fun _ h => by cases h) d_Po_actionOf_32
  refine lv_aload_n hx hb d_Po_actionOf_6 rfl (lv_at hl 0 rfl) ?_
  refine va_get (D := D) (ci := 5) (v := .ref (ad 5)) (C := R_Po) (T := F_Po) (N := 5) hx hb hts in_Po hown hK hP 3 rfl rfl 1 (by decide) (hts _ wd_128) (fun _ h9 => h9) rfl d_Po_actionOf_7 ?_
  exact W.aret hx hb hr (Or.inl ⟨_, rfl⟩) (Or.inr ⟨_, rfl⟩) (fun t ht hW => ⟨_, rfl, (by rw [m_Po_actionOf, if_pos h1]), ht⟩) (fun _ h => by cases h) d_Po_actionOf_10
def m_Po_chooseFor_l1 (w : Nat → Int32) (P : PT) : Nat → Int32 → Nat → Int32
  | 0, _, _ => 0
  | n1 + 1, ch, i => if P.2.1 ≤ (nI i) then ch else if (m_Ru_matches w P i) = (0 : Int32) then m_Po_chooseFor_l1 w P n1 ch (i + 1) else if (m_Po_isStricter P i ch) = (0 : Int32) then m_Po_chooseFor_l1 w P n1 ch (i + 1) else m_Po_chooseFor_l1 w P n1 (nI i) (i + 1)
def m_Po_chooseFor (w : Nat → Int32) (P : PT) : Int32 := if (m_Ca_isForeignTo w P.1) = (0 : Int32) then m_Po_chooseFor_l1 w P (7) (-1 : Int32) 0 else (-2 : Int32)
set_option maxHeartbeats 4000000 in
set_option maxRecDepth 100000 in
theorem c_Po_chooseFor (l : Launch) (D : va_G) (dA : Nat → ClassId) (ad : Nat → Nat) (w : Nat → Int32) (P : PT) (g : GT) (ss : Nat → Int32) (M : MT) (hn : iN P.2.1 ≤ 6) (hc : ∀ i, i < 6 → iN (P.2.2.2.2 i).1 ≤ 3) (hp : ∀ i, i < 6 → ∀ j, j < 3 → vp_in ((P.2.2.2.2 i).2.2.2.2.2 j).1 6) : Met l y_Po_chooseFor (mW y_Po_chooseFor b_Po_chooseFor 4 (some .int)) { frames := 4, cells := 0, slots := 0, locals := 87 } (va_Pc [.ref (ad 3), .ref (ad 1)] (fun U => CG D dA ad w P g ss M U)) (vp_Si (fun r => r = m_Po_chooseFor w P)) 0 0 (fun _ => False) := by
  refine Met.ofW (cc := b_Po_chooseFor) (maxL := 4) (ret := (some .int)) (by decide) rfl ?_
  intro p e s m args below meth c s₁ B hml hv
  obtain ⟨rfl, hP, hK, hN⟩ := hv
  have hx := B.exec
  have hb := B.bytes
  have hr := B.returns
  have hlocks := B.notSynchronized
  have hts := fun (w : Cond) (h : w ∈ lw_g) => atoms_spec (ws := mW y_Po_chooseFor b_Po_chooseFor 4 (some .int)) B.pre w (List.mem_cons_of_mem _ h)
  have hown : s.vm.findClass R_Po = some m.cls := findClass_of_methodNamed B.named
  have hl := lv_entry ([.ref (ad 3), .ref (ad 1)]) (n := 4) (Nat.le_of_ble_eq_true rfl)
  rw [lg_entry_eq]
  generalize (lg_sl ([.ref (ad 3), .ref (ad 1)]) ++ List.replicate (4 - (lg_sl ([.ref (ad 3), .ref (ad 1)])).length) Slot.unset).toArray = ls at hl ⊢
  have hl : lv_has ls 4 [(0, .ref (ad 3)), (1, .ref (ad 1))] := hl
  refine lv_aload_n hx hb d_Po_chooseFor_0 rfl (lv_at hl 1 rfl) ?_
  refine lv_aload_n hx hb d_Po_chooseFor_1 rfl (lv_at hl 0 rfl) ?_
  refine va_get (D := D) (ci := 5) (v := .int P.1) (C := R_Po) (T := F_Po) (N := 5) hx hb hts in_Po hown hK hP 3 rfl rfl 4 (by decide) (hts _ wd_134) (fun _ h9 => h9) rfl d_Po_chooseFor_2 ?_
  refine vp_callSi (va_Run.run (va_runV (As := [.int P.1]) (rest := []) ⟨hx, hb, hml, hown, hts⟩ (c_Ca_isForeignTo l D dA ad w P g ss M P.1) (cwV 1 hts (g_V wd_292 wd_293 wd_294 wd_27 wd_295) rfl rfl rfl (by decide +kernel) ⟨Nat.le_of_ble_eq_true rfl, Nat.le_of_ble_eq_true rfl⟩) ⟨CG_fb, (va_recv (ci := 1) (q := (R_Ca, F_Ca, 1)) (q0 := 1) hK hP rfl rfl), fun U hU hW => ⟨rfl, CG_at hP hK hN hU hW⟩⟩ rfl rfl hl.1 rfl (lv_room (Nat.le_of_ble_eq_true rfl)) d_Po_chooseFor_5 ⟨Nat.le_of_ble_eq_true rfl, Nat.le_of_ble_eq_true rfl⟩)) (fun r1 e1 => ?_)
  subst e1
  refine lv_if_eq (tgt := 14) hx hb d_Po_chooseFor_8 (by decide) (fun h1 => ?_) (fun h1 => ?_)
  · refine lv_iconst (v := -1) hx hb d_Po_chooseFor_14 (by decide) ?_
    refine lv_istore_n hx hb d_Po_chooseFor_15 rfl hl (by decide) rfl (fun ls hl => ?_)
    have hl : lv_has ls 4 [(2, .int (-1 : Int32)), (0, .ref (ad 3)), (1, .ref (ad 1))] := hl
    refine lv_iconst (v := 0) hx hb d_Po_chooseFor_16 (by decide) ?_
    refine lv_istore_n hx hb d_Po_chooseFor_17 rfl hl (by decide) rfl (fun ls hl => ?_)
    have hl : lv_has ls 4 [(3, .int (0 : Int32)), (2, .int (-1 : Int32)), (0, .ref (ad 3)), (1, .ref (ad 1))] := hl
    refine W_loopR2 (X := fun (n1 : Nat) (ch : Int32) (i : Nat) (ls : Array Slot) => 6 - i < n1 ∧ m_Po_chooseFor w P = m_Po_chooseFor_l1 w P n1 ch i ∧ lv_has ls 4 [(3, .int (nI i)), (2, .int ch), (0, .ref (ad 3)), (1, .ref (ad 1))] ∧ i ≤ 6 ∧ (¬ ch = (-1 : Int32) → vp_in ch 6)) (7) (-1 : Int32) 0 ⟨(by decide), (by rw [m_Po_chooseFor, if_pos h1]), (lv_sub hl [0, 1, 2, 3] rfl), (by decide), (fun h => absurd rfl h)⟩ (fun _ _ _ h => absurd h.1 (Nat.not_lt_zero _)) (fun n1 ih1 ch i ls h => ?_)
    obtain ⟨hn1, hm1, hl, hi, hch⟩ := h
    refine lv_iload_n hx hb d_Po_chooseFor_18 rfl (lv_at hl 0 rfl) ?_
    refine lv_aload_n hx hb d_Po_chooseFor_19 rfl (lv_at hl 2 rfl) ?_
    refine va_get (D := D) (ci := 5) (v := .int P.2.1) (C := R_Po) (T := F_Po) (N := 5) hx hb hts in_Po hown hK hP 3 rfl rfl 3 (by decide) (hts _ wd_132) (fun _ h9 => h9) rfl d_Po_chooseFor_20 ?_
    refine lv_icmp_ge (tgt := 56) hx hb d_Po_chooseFor_23 (by decide) (fun h2 => ?_) (fun h2 => ?_)
    · refine lv_iload_n hx hb d_Po_chooseFor_56 rfl (lv_at hl 1 rfl) ?_
      exact W.iret hx hb hr (fun t ht hW => ⟨_, rfl, (by rw [hm1, m_Po_chooseFor_l1, if_pos h2]), ht⟩) (fun _ h => by cases h) d_Po_chooseFor_57
    have hil : i < 6 := Nat.lt_of_lt_of_le (nj_lt hn (by decide) hi h2) hn
    refine lv_aload_n hx hb d_Po_chooseFor_26 rfl (lv_at hl 2 rfl) ?_
    refine va_get (D := D) (ci := 5) (v := .ref (ad 6)) (C := R_Po) (T := F_Po) (N := 5) hx hb hts in_Po hown hK hP 3 rfl rfl 2 (by decide) (hts _ wd_130) (fun _ h9 => h9) rfl d_Po_chooseFor_27 ?_
    refine lv_iload_n hx hb d_Po_chooseFor_30 rfl (lv_at hl 0 rfl) ?_
    have hq1 : i < 6 := (by omega)
    refine va_aldq (n := 6) (f := rfs ad 6 13 6) hx hb hK hP 6 2 rfl rfl (vp_in_nI (by omega) (by decide)) d_Po_chooseFor_31 ?_
    refine W.eq (g2 := F0 m 32 ls [.ref (ad (13 + 6 * i))]) (by rw [nI_clamp (show i < 2 ^ 31 by omega), rf_at (by omega)]) ?_
    refine lv_aload_n hx hb d_Po_chooseFor_32 rfl (lv_at hl 3 rfl) ?_
    refine vp_callSi (va_Run.run (va_runV (As := [.ref (ad 1)]) (rest := []) ⟨hx, hb, hml, hown, hts⟩ (c_Ru_matches l D dA ad w P g ss M i hil (hc i hil) (hp i hil)) (cwV 1 hts (g_V wd_305 wd_306 wd_307 wd_30 wd_308) rfl rfl rfl (by decide +kernel) ⟨Nat.le_of_ble_eq_true rfl, Nat.le_of_ble_eq_true rfl⟩) ⟨CG_fb, (va_recv (ci := 7) (q := (R_Ru, F_Ru, 5)) (q0 := (13 + 6 * i + 0)) hK hP rfl (wC_ru (by omega))), fun U hU hW => ⟨rfl, CG_at hP hK hN hU hW⟩⟩ rfl rfl hl.1 rfl (lv_room (Nat.le_of_ble_eq_true rfl)) d_Po_chooseFor_33 ⟨Nat.le_of_ble_eq_true rfl, Nat.le_of_ble_eq_true rfl⟩)) (fun r2 e2 => ?_)
    subst e2
    refine lv_if_eq (tgt := 50) hx hb d_Po_chooseFor_36 (by decide) (fun h3 => ?_) (fun h3 => ?_)
    · refine lv_iinc (v := (nI i) + 1) hx hb d_Po_chooseFor_50 hl (k := 0) rfl rfl (by decide) rfl (fun ls hl => ?_)
      have hl : lv_has ls 4 [(3, .int ((nI i) + 1)), (2, .int ch), (0, .ref (ad 3)), (1, .ref (ad 1))] := hl
      refine lv_goto (tgt := 18) hx hb d_Po_chooseFor_53 (by decide) ?_
      exact ih1 ch (i + 1) _ ⟨(by omega), (by rw [hm1, m_Po_chooseFor_l1, if_neg h2, if_pos h3]), (by have h9 := lv_sub hl [0, 1, 2, 3] rfl; rw [nI_1] at h9; exact h9), (by omega), hch⟩
    refine lv_aload_n hx hb d_Po_chooseFor_39 rfl (lv_at hl 2 rfl) ?_
    refine lv_iload_n hx hb d_Po_chooseFor_40 rfl (lv_at hl 0 rfl) ?_
    refine lv_iload_n hx hb d_Po_chooseFor_41 rfl (lv_at hl 1 rfl) ?_
    refine vp_callSi (va_Run.run (va_runV (As := [.int (nI i), .int ch]) (rest := []) ⟨hx, hb, hml, hown, hts⟩ (c_Po_isStricter l D dA ad w P g ss M i ch hil hch) (cwV 2 hts (g_V wd_322 wd_324 wd_0 wd_28 wd_325) rfl rfl rfl (by decide +kernel) ⟨Nat.le_of_ble_eq_true rfl, Nat.le_of_ble_eq_true rfl⟩) ⟨CG_fb, (va_recv (ci := 5) (q := (R_Po, F_Po, 5)) (q0 := 3) hK hP rfl rfl), fun U hU hW => ⟨rfl, CG_at hP hK hN hU hW⟩⟩ rfl rfl hl.1 rfl (lv_room (Nat.le_of_ble_eq_true rfl)) d_Po_chooseFor_42 ⟨Nat.le_of_ble_eq_true rfl, Nat.le_of_ble_eq_true rfl⟩)) (fun r3 e3 => ?_)
    subst e3
    refine lv_if_eq (tgt := 50) hx hb d_Po_chooseFor_45 (by decide) (fun h4 => ?_) (fun h4 => ?_)
    · refine lv_iinc (v := (nI i) + 1) hx hb d_Po_chooseFor_50 hl (k := 0) rfl rfl (by decide) rfl (fun ls hl => ?_)
      have hl : lv_has ls 4 [(3, .int ((nI i) + 1)), (2, .int ch), (0, .ref (ad 3)), (1, .ref (ad 1))] := hl
      refine lv_goto (tgt := 18) hx hb d_Po_chooseFor_53 (by decide) ?_
      exact ih1 ch (i + 1) _ ⟨(by omega), (by rw [hm1, m_Po_chooseFor_l1, if_neg h2, if_neg h3, if_pos h4]), (by have h9 := lv_sub hl [0, 1, 2, 3] rfl; rw [nI_1] at h9; exact h9), (by omega), hch⟩
    refine lv_iload_n hx hb d_Po_chooseFor_48 rfl (lv_at hl 0 rfl) ?_
    refine lv_istore_n hx hb d_Po_chooseFor_49 rfl hl (by decide) rfl (fun ls hl => ?_)
    have hl : lv_has ls 4 [(2, .int (nI i)), (3, .int (nI i)), (0, .ref (ad 3)), (1, .ref (ad 1))] := hl
    refine lv_iinc (v := (nI i) + 1) hx hb d_Po_chooseFor_50 hl (k := 1) rfl rfl (by decide) rfl (fun ls hl => ?_)
    have hl : lv_has ls 4 [(3, .int ((nI i) + 1)), (2, .int (nI i)), (0, .ref (ad 3)), (1, .ref (ad 1))] := hl
    refine lv_goto (tgt := 18) hx hb d_Po_chooseFor_53 (by decide) ?_
    exact ih1 (nI i) (i + 1) _ ⟨(by omega), (by rw [hm1, m_Po_chooseFor_l1, if_neg h2, if_neg h3, if_neg h4]), (by have h9 := lv_sub hl [0, 1, 2, 3] rfl; rw [nI_1] at h9; exact h9), (by omega), (fun _ => vp_in_nI hil (by decide))⟩
  refine lv_bipush (v := -2) hx hb d_Po_chooseFor_11 (by decide) ?_
  exact W.iret hx hb hr (fun t ht hW => ⟨_, rfl, (by rw [m_Po_chooseFor, if_neg h1]), ht⟩) (fun _ h => by cases h) d_Po_chooseFor_13
