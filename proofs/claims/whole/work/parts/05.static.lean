theorem wd_36 : Cond.initialized R_In ∈ lw_g := wd_in (i := 36) (by decide +kernel) (by decide +kernel)
theorem wd_37 : Cond.initialized "java/lang/Math" ∈ lw_g := wd_in (i := 37) (by decide +kernel) (by decide +kernel)
theorem wd_247 : Cond.constant R_Ac 13 65535 ∈ lw_g := wd_in (i := 247) (by decide +kernel) (by decide +kernel)
theorem wd_303 : Cond.constantLong R_F 142 4294967295 ∈ lw_g := wd_in (i := 303) (by decide +kernel) (by decide +kernel)
theorem wd_321 : Cond.constantLong R_Co 33 (-9223372036854775808) ∈ lw_g := wd_in (i := 321) (by decide +kernel) (by decide +kernel)
theorem wd_366 : Cond.constantLong R_In 7 65535 ∈ lw_g := wd_in (i := 366) (by decide +kernel) (by decide +kernel)
theorem wd_370 : Cond.methodLink R_In 11 y_In_isArithmetic ∈ lw_g := wd_in (i := 370) (by decide +kernel) (by decide +kernel)
theorem wd_371 : Cond.static y_In_isArithmetic ∈ lw_g := wd_in (i := 371) (by decide +kernel) (by decide +kernel)
theorem wd_372 : Cond.code y_In_isArithmetic prog_6_method_7_code 1 (Option.some Jvm.ClassFile.FieldType.boolean) ∈ lw_g := wd_in (i := 372) (by decide +kernel) (by decide +kernel)
theorem wd_373 : Cond.methodLink R_In 17 y_In_isConditional ∈ lw_g := wd_in (i := 373) (by decide +kernel) (by decide +kernel)
theorem wd_374 : Cond.static y_In_isConditional ∈ lw_g := wd_in (i := 374) (by decide +kernel) (by decide +kernel)
theorem wd_375 : Cond.code y_In_isConditional prog_6_method_8_code 1 (Option.some Jvm.ClassFile.FieldType.boolean) ∈ lw_g := wd_in (i := 375) (by decide +kernel) (by decide +kernel)
theorem wd_376 : Cond.methodLink R_In 20 y_In_endsRun ∈ lw_g := wd_in (i := 376) (by decide +kernel) (by decide +kernel)
theorem wd_377 : Cond.static y_In_endsRun ∈ lw_g := wd_in (i := 377) (by decide +kernel) (by decide +kernel)
theorem wd_378 : Cond.code y_In_endsRun prog_6_method_9_code 1 (Option.some Jvm.ClassFile.FieldType.boolean) ∈ lw_g := wd_in (i := 378) (by decide +kernel) (by decide +kernel)
theorem wd_379 : Cond.methodLink R_Ch 46 y_In_operandOf ∈ lw_g := wd_in (i := 379) (by decide +kernel) (by decide +kernel)
theorem wd_380 : Cond.static y_In_operandOf ∈ lw_g := wd_in (i := 380) (by decide +kernel) (by decide +kernel)
theorem wd_381 : Cond.code y_In_operandOf prog_6_method_5_code 2 (Option.some Jvm.ClassFile.FieldType.long) ∈ lw_g := wd_in (i := 381) (by decide +kernel) (by decide +kernel)
theorem wd_385 : Cond.methodLink R_Ch 58 y_In_loadsCell ∈ lw_g := wd_in (i := 385) (by decide +kernel) (by decide +kernel)
theorem wd_386 : Cond.static y_In_loadsCell ∈ lw_g := wd_in (i := 386) (by decide +kernel) (by decide +kernel)
theorem wd_387 : Cond.code y_In_loadsCell prog_6_method_10_code 1 (Option.some Jvm.ClassFile.FieldType.boolean) ∈ lw_g := wd_in (i := 387) (by decide +kernel) (by decide +kernel)
theorem wd_388 : Cond.methodLink R_Ch 61 y_In_storesCell ∈ lw_g := wd_in (i := 388) (by decide +kernel) (by decide +kernel)
theorem wd_389 : Cond.static y_In_storesCell ∈ lw_g := wd_in (i := 389) (by decide +kernel) (by decide +kernel)
theorem wd_390 : Cond.code y_In_storesCell prog_6_method_11_code 1 (Option.some Jvm.ClassFile.FieldType.boolean) ∈ lw_g := wd_in (i := 390) (by decide +kernel) (by decide +kernel)
theorem wd_391 : Cond.constantLong R_Ch 66 16 ∈ lw_g := wd_in (i := 391) (by decide +kernel) (by decide +kernel)
theorem wd_392 : Cond.constantLong R_Ch 68 4 ∈ lw_g := wd_in (i := 392) (by decide +kernel) (by decide +kernel)
theorem wd_393 : Cond.constantLong R_Ch 72 64 ∈ lw_g := wd_in (i := 393) (by decide +kernel) (by decide +kernel)
theorem wd_394 : Cond.constantLong R_Ch 74 32 ∈ lw_g := wd_in (i := 394) (by decide +kernel) (by decide +kernel)
theorem wd_398 : Cond.methodLink R_Ch 76 y_In_isConditional ∈ lw_g := wd_in (i := 398) (by decide +kernel) (by decide +kernel)
theorem wd_399 : Cond.methodLink R_Ch 79 y_In_distanceIfTrue ∈ lw_g := wd_in (i := 399) (by decide +kernel) (by decide +kernel)
theorem wd_400 : Cond.static y_In_distanceIfTrue ∈ lw_g := wd_in (i := 400) (by decide +kernel) (by decide +kernel)
theorem wd_401 : Cond.code y_In_distanceIfTrue prog_6_method_3_code 2 (Option.some Jvm.ClassFile.FieldType.int) ∈ lw_g := wd_in (i := 401) (by decide +kernel) (by decide +kernel)
theorem wd_402 : Cond.constantLong R_In 9 255 ∈ lw_g := wd_in (i := 402) (by decide +kernel) (by decide +kernel)
theorem wd_403 : Cond.methodLink R_Ch 82 y_In_distanceIfFalse ∈ lw_g := wd_in (i := 403) (by decide +kernel) (by decide +kernel)
theorem wd_404 : Cond.static y_In_distanceIfFalse ∈ lw_g := wd_in (i := 404) (by decide +kernel) (by decide +kernel)
theorem wd_405 : Cond.code y_In_distanceIfFalse prog_6_method_4_code 2 (Option.some Jvm.ClassFile.FieldType.int) ∈ lw_g := wd_in (i := 405) (by decide +kernel) (by decide +kernel)
theorem wd_406 : Cond.methodLink R_Ch 85 ⟨"java/lang/Math", "max", "(II)I"⟩ ∈ lw_g := wd_in (i := 406) (by decide +kernel) (by decide +kernel)
theorem wd_407 : Cond.static ⟨"java/lang/Math", "max", "(II)I"⟩ ∈ lw_g := wd_in (i := 407) (by decide +kernel) (by decide +kernel)
theorem wd_408 : Cond.code ⟨"java/lang/Math", "max", "(II)I"⟩ prog_13_method_65_code 2 (Option.some Jvm.ClassFile.FieldType.int) ∈ lw_g := wd_in (i := 408) (by decide +kernel) (by decide +kernel)
theorem d_F_unsigned_0 : decode b_F_unsigned 0 = .ok (.iload_n 0, 1) := by decide +kernel
theorem d_F_unsigned_1 : decode b_F_unsigned 1 = .ok (.i2l, 1) := by decide +kernel
theorem d_F_unsigned_2 : decode b_F_unsigned 2 = .ok (.ldc2_w 142, 3) := by decide +kernel
theorem d_F_unsigned_5 : decode b_F_unsigned 5 = .ok (.land, 1) := by decide +kernel
theorem d_F_unsigned_6 : decode b_F_unsigned 6 = .ok (.lreturn, 1) := by decide +kernel
theorem d_Ca_hasArgument_0 : decode b_Ca_hasArgument 0 = .ok (.iconst 0, 1) := by decide +kernel
theorem d_Ca_hasArgument_1 : decode b_Ca_hasArgument 1 = .ok (.iload_n 0, 1) := by decide +kernel
theorem d_Ca_hasArgument_2 : decode b_Ca_hasArgument 2 = .ok (.if_icmp .gt 13, 3) := by decide +kernel
theorem d_Ca_hasArgument_5 : decode b_Ca_hasArgument 5 = .ok (.iload_n 0, 1) := by decide +kernel
theorem d_Ca_hasArgument_6 : decode b_Ca_hasArgument 6 = .ok (.bipush 6, 2) := by decide +kernel
theorem d_Ca_hasArgument_8 : decode b_Ca_hasArgument 8 = .ok (.if_icmp .ge 7, 3) := by decide +kernel
theorem d_Ca_hasArgument_11 : decode b_Ca_hasArgument 11 = .ok (.iconst 1, 1) := by decide +kernel
theorem d_Ca_hasArgument_12 : decode b_Ca_hasArgument 12 = .ok (.goto 4, 3) := by decide +kernel
theorem d_Ca_hasArgument_15 : decode b_Ca_hasArgument 15 = .ok (.iconst 0, 1) := by decide +kernel
theorem d_Ca_hasArgument_16 : decode b_Ca_hasArgument 16 = .ok (.ireturn, 1) := by decide +kernel
theorem d_Ac_isPossible_0 : decode b_Ac_isPossible 0 = .ok (.iconst 0, 1) := by decide +kernel
theorem d_Ac_isPossible_1 : decode b_Ac_isPossible 1 = .ok (.iload_n 0, 1) := by decide +kernel
theorem d_Ac_isPossible_2 : decode b_Ac_isPossible 2 = .ok (.if_icmp .gt 24, 3) := by decide +kernel
theorem d_Ac_isPossible_5 : decode b_Ac_isPossible 5 = .ok (.iload_n 0, 1) := by decide +kernel
theorem d_Ac_isPossible_6 : decode b_Ac_isPossible 6 = .ok (.bipush 6, 2) := by decide +kernel
theorem d_Ac_isPossible_8 : decode b_Ac_isPossible 8 = .ok (.if_icmp .gt 18, 3) := by decide +kernel
theorem d_Ac_isPossible_11 : decode b_Ac_isPossible 11 = .ok (.iconst 0, 1) := by decide +kernel
theorem d_Ac_isPossible_12 : decode b_Ac_isPossible 12 = .ok (.iload_n 1, 1) := by decide +kernel
theorem d_Ac_isPossible_13 : decode b_Ac_isPossible 13 = .ok (.if_icmp .gt 13, 3) := by decide +kernel
theorem d_Ac_isPossible_16 : decode b_Ac_isPossible 16 = .ok (.iload_n 1, 1) := by decide +kernel
theorem d_Ac_isPossible_17 : decode b_Ac_isPossible 17 = .ok (.ldc 13, 2) := by decide +kernel
theorem d_Ac_isPossible_19 : decode b_Ac_isPossible 19 = .ok (.if_icmp .gt 7, 3) := by decide +kernel
theorem d_Ac_isPossible_22 : decode b_Ac_isPossible 22 = .ok (.iconst 1, 1) := by decide +kernel
theorem d_Ac_isPossible_23 : decode b_Ac_isPossible 23 = .ok (.goto 4, 3) := by decide +kernel
theorem d_Ac_isPossible_26 : decode b_Ac_isPossible 26 = .ok (.iconst 0, 1) := by decide +kernel
theorem d_Ac_isPossible_27 : decode b_Ac_isPossible 27 = .ok (.ireturn, 1) := by decide +kernel
theorem d_Co_isOperator_0 : decode b_Co_isOperator 0 = .ok (.iconst 0, 1) := by decide +kernel
theorem d_Co_isOperator_1 : decode b_Co_isOperator 1 = .ok (.iload_n 0, 1) := by decide +kernel
theorem d_Co_isOperator_2 : decode b_Co_isOperator 2 = .ok (.if_icmp .gt 13, 3) := by decide +kernel
theorem d_Co_isOperator_5 : decode b_Co_isOperator 5 = .ok (.iload_n 0, 1) := by decide +kernel
theorem d_Co_isOperator_6 : decode b_Co_isOperator 6 = .ok (.bipush 7, 2) := by decide +kernel
theorem d_Co_isOperator_8 : decode b_Co_isOperator 8 = .ok (.if_icmp .ge 7, 3) := by decide +kernel
theorem d_Co_isOperator_11 : decode b_Co_isOperator 11 = .ok (.iconst 1, 1) := by decide +kernel
theorem d_Co_isOperator_12 : decode b_Co_isOperator 12 = .ok (.goto 4, 3) := by decide +kernel
theorem d_Co_isOperator_15 : decode b_Co_isOperator 15 = .ok (.iconst 0, 1) := by decide +kernel
theorem d_Co_isOperator_16 : decode b_Co_isOperator 16 = .ok (.ireturn, 1) := by decide +kernel
theorem d_Co_isBelow_0 : decode b_Co_isBelow 0 = .ok (.ldc2_w 33, 3) := by decide +kernel
theorem d_Co_isBelow_3 : decode b_Co_isBelow 3 = .ok (.lstore 4, 2) := by decide +kernel
theorem d_Co_isBelow_5 : decode b_Co_isBelow 5 = .ok (.lload_n 0, 1) := by decide +kernel
theorem d_Co_isBelow_6 : decode b_Co_isBelow 6 = .ok (.lload 4, 2) := by decide +kernel
theorem d_Co_isBelow_8 : decode b_Co_isBelow 8 = .ok (.lxor, 1) := by decide +kernel
theorem d_Co_isBelow_9 : decode b_Co_isBelow 9 = .ok (.lload_n 2, 1) := by decide +kernel
theorem d_Co_isBelow_10 : decode b_Co_isBelow 10 = .ok (.lload 4, 2) := by decide +kernel
theorem d_Co_isBelow_12 : decode b_Co_isBelow 12 = .ok (.lxor, 1) := by decide +kernel
theorem d_Co_isBelow_13 : decode b_Co_isBelow 13 = .ok (.lcmp, 1) := by decide +kernel
theorem d_Co_isBelow_14 : decode b_Co_isBelow 14 = .ok (.ifCond .ge 7, 3) := by decide +kernel
theorem d_Co_isBelow_17 : decode b_Co_isBelow 17 = .ok (.iconst 1, 1) := by decide +kernel
theorem d_Co_isBelow_18 : decode b_Co_isBelow 18 = .ok (.goto 4, 3) := by decide +kernel
theorem d_Co_isBelow_21 : decode b_Co_isBelow 21 = .ok (.iconst 0, 1) := by decide +kernel
theorem d_Co_isBelow_22 : decode b_Co_isBelow 22 = .ok (.ireturn, 1) := by decide +kernel
theorem d_In_codeOf_0 : decode b_In_codeOf 0 = .ok (.lload_n 0, 1) := by decide +kernel
theorem d_In_codeOf_1 : decode b_In_codeOf 1 = .ok (.ldc2_w 7, 3) := by decide +kernel
theorem d_In_codeOf_4 : decode b_In_codeOf 4 = .ok (.land, 1) := by decide +kernel
theorem d_In_codeOf_5 : decode b_In_codeOf 5 = .ok (.l2i, 1) := by decide +kernel
theorem d_In_codeOf_6 : decode b_In_codeOf 6 = .ok (.ireturn, 1) := by decide +kernel
theorem d_In_distanceIfTrue_0 : decode b_In_distanceIfTrue 0 = .ok (.lload_n 0, 1) := by decide +kernel
theorem d_In_distanceIfTrue_1 : decode b_In_distanceIfTrue 1 = .ok (.bipush 16, 2) := by decide +kernel
theorem d_In_distanceIfTrue_3 : decode b_In_distanceIfTrue 3 = .ok (.lushr, 1) := by decide +kernel
theorem d_In_distanceIfTrue_4 : decode b_In_distanceIfTrue 4 = .ok (.ldc2_w 9, 3) := by decide +kernel
theorem d_In_distanceIfTrue_7 : decode b_In_distanceIfTrue 7 = .ok (.land, 1) := by decide +kernel
theorem d_In_distanceIfTrue_8 : decode b_In_distanceIfTrue 8 = .ok (.l2i, 1) := by decide +kernel
theorem d_In_distanceIfTrue_9 : decode b_In_distanceIfTrue 9 = .ok (.ireturn, 1) := by decide +kernel
theorem d_In_distanceIfFalse_0 : decode b_In_distanceIfFalse 0 = .ok (.lload_n 0, 1) := by decide +kernel
theorem d_In_distanceIfFalse_1 : decode b_In_distanceIfFalse 1 = .ok (.bipush 24, 2) := by decide +kernel
theorem d_In_distanceIfFalse_3 : decode b_In_distanceIfFalse 3 = .ok (.lushr, 1) := by decide +kernel
theorem d_In_distanceIfFalse_4 : decode b_In_distanceIfFalse 4 = .ok (.ldc2_w 9, 3) := by decide +kernel
theorem d_In_distanceIfFalse_7 : decode b_In_distanceIfFalse 7 = .ok (.land, 1) := by decide +kernel
theorem d_In_distanceIfFalse_8 : decode b_In_distanceIfFalse 8 = .ok (.l2i, 1) := by decide +kernel
theorem d_In_distanceIfFalse_9 : decode b_In_distanceIfFalse 9 = .ok (.ireturn, 1) := by decide +kernel
theorem d_In_operandOf_0 : decode b_In_operandOf 0 = .ok (.lload_n 0, 1) := by decide +kernel
theorem d_In_operandOf_1 : decode b_In_operandOf 1 = .ok (.bipush 32, 2) := by decide +kernel
theorem d_In_operandOf_3 : decode b_In_operandOf 3 = .ok (.lushr, 1) := by decide +kernel
theorem d_In_operandOf_4 : decode b_In_operandOf 4 = .ok (.lreturn, 1) := by decide +kernel
theorem d_In_isArithmetic_0 : decode b_In_isArithmetic 0 = .ok (.iload_n 0, 1) := by decide +kernel
theorem d_In_isArithmetic_1 : decode b_In_isArithmetic 1 = .ok (.lookupswitch 165 #[(4, 163), (12, 163), (20, 163), (28, 163), (36, 163), (44, 163), (52, 163), (60, 163), (68, 163), (76, 163), (84, 163), (92, 163), (100, 163), (108, 163), (116, 163), (124, 163), (132, 163), (164, 163), (172, 163)], 163) := by decide +kernel
theorem d_In_isArithmetic_164 : decode b_In_isArithmetic 164 = .ok (.iconst 1, 1) := by decide +kernel
theorem d_In_isArithmetic_165 : decode b_In_isArithmetic 165 = .ok (.ireturn, 1) := by decide +kernel
theorem d_In_isArithmetic_166 : decode b_In_isArithmetic 166 = .ok (.iconst 0, 1) := by decide +kernel
theorem d_In_isArithmetic_167 : decode b_In_isArithmetic 167 = .ok (.ireturn, 1) := by decide +kernel
theorem d_In_isConditional_0 : decode b_In_isConditional 0 = .ok (.iload_n 0, 1) := by decide +kernel
theorem d_In_isConditional_1 : decode b_In_isConditional 1 = .ok (.lookupswitch 77 #[(21, 75), (29, 75), (37, 75), (45, 75), (53, 75), (61, 75), (69, 75), (77, 75)], 75) := by decide +kernel
theorem d_In_isConditional_76 : decode b_In_isConditional 76 = .ok (.iconst 1, 1) := by decide +kernel
theorem d_In_isConditional_77 : decode b_In_isConditional 77 = .ok (.ireturn, 1) := by decide +kernel
theorem d_In_isConditional_78 : decode b_In_isConditional 78 = .ok (.iconst 0, 1) := by decide +kernel
theorem d_In_isConditional_79 : decode b_In_isConditional 79 = .ok (.ireturn, 1) := by decide +kernel
theorem d_In_endsRun_0 : decode b_In_endsRun 0 = .ok (.iload_n 0, 1) := by decide +kernel
theorem d_In_endsRun_1 : decode b_In_endsRun 1 = .ok (.bipush 6, 2) := by decide +kernel
theorem d_In_endsRun_3 : decode b_In_endsRun 3 = .ok (.if_icmp .eq 9, 3) := by decide +kernel
theorem d_In_endsRun_6 : decode b_In_endsRun 6 = .ok (.iload_n 0, 1) := by decide +kernel
theorem d_In_endsRun_7 : decode b_In_endsRun 7 = .ok (.bipush 22, 2) := by decide +kernel
theorem d_In_endsRun_9 : decode b_In_endsRun 9 = .ok (.if_icmp .ne 7, 3) := by decide +kernel
theorem d_In_endsRun_12 : decode b_In_endsRun 12 = .ok (.iconst 1, 1) := by decide +kernel
theorem d_In_endsRun_13 : decode b_In_endsRun 13 = .ok (.goto 4, 3) := by decide +kernel
theorem d_In_endsRun_16 : decode b_In_endsRun 16 = .ok (.iconst 0, 1) := by decide +kernel
theorem d_In_endsRun_17 : decode b_In_endsRun 17 = .ok (.ireturn, 1) := by decide +kernel
theorem d_In_loadsCell_0 : decode b_In_loadsCell 0 = .ok (.iload_n 0, 1) := by decide +kernel
theorem d_In_loadsCell_1 : decode b_In_loadsCell 1 = .ok (.bipush 96, 2) := by decide +kernel
theorem d_In_loadsCell_3 : decode b_In_loadsCell 3 = .ok (.if_icmp .eq 9, 3) := by decide +kernel
theorem d_In_loadsCell_6 : decode b_In_loadsCell 6 = .ok (.iload_n 0, 1) := by decide +kernel
theorem d_In_loadsCell_7 : decode b_In_loadsCell 7 = .ok (.bipush 97, 2) := by decide +kernel
theorem d_In_loadsCell_9 : decode b_In_loadsCell 9 = .ok (.if_icmp .ne 7, 3) := by decide +kernel
theorem d_In_loadsCell_12 : decode b_In_loadsCell 12 = .ok (.iconst 1, 1) := by decide +kernel
theorem d_In_loadsCell_13 : decode b_In_loadsCell 13 = .ok (.goto 4, 3) := by decide +kernel
theorem d_In_loadsCell_16 : decode b_In_loadsCell 16 = .ok (.iconst 0, 1) := by decide +kernel
theorem d_In_loadsCell_17 : decode b_In_loadsCell 17 = .ok (.ireturn, 1) := by decide +kernel
theorem d_In_storesCell_0 : decode b_In_storesCell 0 = .ok (.iload_n 0, 1) := by decide +kernel
theorem d_In_storesCell_1 : decode b_In_storesCell 1 = .ok (.iconst 2, 1) := by decide +kernel
theorem d_In_storesCell_2 : decode b_In_storesCell 2 = .ok (.if_icmp .eq 8, 3) := by decide +kernel
theorem d_In_storesCell_5 : decode b_In_storesCell 5 = .ok (.iload_n 0, 1) := by decide +kernel
theorem d_In_storesCell_6 : decode b_In_storesCell 6 = .ok (.iconst 3, 1) := by decide +kernel
theorem d_In_storesCell_7 : decode b_In_storesCell 7 = .ok (.if_icmp .ne 7, 3) := by decide +kernel
theorem d_In_storesCell_10 : decode b_In_storesCell 10 = .ok (.iconst 1, 1) := by decide +kernel
theorem d_In_storesCell_11 : decode b_In_storesCell 11 = .ok (.goto 4, 3) := by decide +kernel
theorem d_In_storesCell_14 : decode b_In_storesCell 14 = .ok (.iconst 0, 1) := by decide +kernel
theorem d_In_storesCell_15 : decode b_In_storesCell 15 = .ok (.ireturn, 1) := by decide +kernel
theorem d_In_isKnown_0 : decode b_In_isKnown 0 = .ok (.iload_n 0, 1) := by decide +kernel
theorem d_In_isKnown_1 : decode b_In_isKnown 1 = .ok (.lookupswitch 109 #[(0, 107), (1, 107), (2, 107), (3, 107), (5, 107), (7, 107), (32, 107), (96, 107), (97, 107), (128, 107), (129, 107), (135, 107)], 107) := by decide +kernel
theorem d_In_isKnown_108 : decode b_In_isKnown 108 = .ok (.iconst 1, 1) := by decide +kernel
theorem d_In_isKnown_109 : decode b_In_isKnown 109 = .ok (.ireturn, 1) := by decide +kernel
theorem d_In_isKnown_110 : decode b_In_isKnown 110 = .ok (.iload_n 0, 1) := by decide +kernel
theorem d_In_isKnown_111 : decode b_In_isKnown 111 = .ok (.invokestatic 11, 3) := by decide +kernel
theorem d_In_isKnown_114 : decode b_In_isKnown 114 = .ok (.ifCond .ne 17, 3) := by decide +kernel
theorem d_In_isKnown_117 : decode b_In_isKnown 117 = .ok (.iload_n 0, 1) := by decide +kernel
theorem d_In_isKnown_118 : decode b_In_isKnown 118 = .ok (.invokestatic 17, 3) := by decide +kernel
theorem d_In_isKnown_121 : decode b_In_isKnown 121 = .ok (.ifCond .ne 10, 3) := by decide +kernel
theorem d_In_isKnown_124 : decode b_In_isKnown 124 = .ok (.iload_n 0, 1) := by decide +kernel
theorem d_In_isKnown_125 : decode b_In_isKnown 125 = .ok (.invokestatic 20, 3) := by decide +kernel
theorem d_In_isKnown_128 : decode b_In_isKnown 128 = .ok (.ifCond .eq 7, 3) := by decide +kernel
theorem d_In_isKnown_131 : decode b_In_isKnown 131 = .ok (.iconst 1, 1) := by decide +kernel
theorem d_In_isKnown_132 : decode b_In_isKnown 132 = .ok (.goto 4, 3) := by decide +kernel
theorem d_In_isKnown_135 : decode b_In_isKnown 135 = .ok (.iconst 0, 1) := by decide +kernel
theorem d_In_isKnown_136 : decode b_In_isKnown 136 = .ok (.ireturn, 1) := by decide +kernel
theorem d_Ch_isOperandFit_0 : decode b_Ch_isOperandFit 0 = .ok (.iload_n 0, 1) := by decide +kernel
theorem d_Ch_isOperandFit_1 : decode b_Ch_isOperandFit 1 = .ok (.invokestatic 58, 3) := by decide +kernel
theorem d_Ch_isOperandFit_4 : decode b_Ch_isOperandFit 4 = .ok (.ifCond .ne 10, 3) := by decide +kernel
theorem d_Ch_isOperandFit_7 : decode b_Ch_isOperandFit 7 = .ok (.iload_n 0, 1) := by decide +kernel
theorem d_Ch_isOperandFit_8 : decode b_Ch_isOperandFit 8 = .ok (.invokestatic 61, 3) := by decide +kernel
theorem d_Ch_isOperandFit_11 : decode b_Ch_isOperandFit 11 = .ok (.ifCond .eq 17, 3) := by decide +kernel
theorem d_Ch_isOperandFit_14 : decode b_Ch_isOperandFit 14 = .ok (.lload_n 1, 1) := by decide +kernel
theorem d_Ch_isOperandFit_15 : decode b_Ch_isOperandFit 15 = .ok (.ldc2_w 66, 3) := by decide +kernel
theorem d_Ch_isOperandFit_18 : decode b_Ch_isOperandFit 18 = .ok (.lcmp, 1) := by decide +kernel
theorem d_Ch_isOperandFit_19 : decode b_Ch_isOperandFit 19 = .ok (.ifCond .ge 7, 3) := by decide +kernel
theorem d_Ch_isOperandFit_22 : decode b_Ch_isOperandFit 22 = .ok (.iconst 1, 1) := by decide +kernel
theorem d_Ch_isOperandFit_23 : decode b_Ch_isOperandFit 23 = .ok (.goto 4, 3) := by decide +kernel
theorem d_Ch_isOperandFit_26 : decode b_Ch_isOperandFit 26 = .ok (.iconst 0, 1) := by decide +kernel
theorem d_Ch_isOperandFit_27 : decode b_Ch_isOperandFit 27 = .ok (.ireturn, 1) := by decide +kernel
theorem d_Ch_isOperandFit_28 : decode b_Ch_isOperandFit 28 = .ok (.iload_n 0, 1) := by decide +kernel
theorem d_Ch_isOperandFit_29 : decode b_Ch_isOperandFit 29 = .ok (.lookupswitch 93 #[(32, 43), (52, 67), (100, 79), (116, 79)], 43) := by decide +kernel
theorem d_Ch_isOperandFit_72 : decode b_Ch_isOperandFit 72 = .ok (.lload_n 1, 1) := by decide +kernel
theorem d_Ch_isOperandFit_73 : decode b_Ch_isOperandFit 73 = .ok (.ldc2_w 68, 3) := by decide +kernel
theorem d_Ch_isOperandFit_76 : decode b_Ch_isOperandFit 76 = .ok (.lrem, 1) := by decide +kernel
theorem d_Ch_isOperandFit_77 : decode b_Ch_isOperandFit 77 = .ok (.lconst 0, 1) := by decide +kernel
theorem d_Ch_isOperandFit_78 : decode b_Ch_isOperandFit 78 = .ok (.lcmp, 1) := by decide +kernel
theorem d_Ch_isOperandFit_79 : decode b_Ch_isOperandFit 79 = .ok (.ifCond .ne 15, 3) := by decide +kernel
theorem d_Ch_isOperandFit_82 : decode b_Ch_isOperandFit 82 = .ok (.lload_n 1, 1) := by decide +kernel
theorem d_Ch_isOperandFit_83 : decode b_Ch_isOperandFit 83 = .ok (.ldc2_w 72, 3) := by decide +kernel
theorem d_Ch_isOperandFit_86 : decode b_Ch_isOperandFit 86 = .ok (.lcmp, 1) := by decide +kernel
theorem d_Ch_isOperandFit_87 : decode b_Ch_isOperandFit 87 = .ok (.ifCond .ge 7, 3) := by decide +kernel
theorem d_Ch_isOperandFit_90 : decode b_Ch_isOperandFit 90 = .ok (.iconst 1, 1) := by decide +kernel
theorem d_Ch_isOperandFit_91 : decode b_Ch_isOperandFit 91 = .ok (.goto 4, 3) := by decide +kernel
theorem d_Ch_isOperandFit_94 : decode b_Ch_isOperandFit 94 = .ok (.iconst 0, 1) := by decide +kernel
theorem d_Ch_isOperandFit_95 : decode b_Ch_isOperandFit 95 = .ok (.ireturn, 1) := by decide +kernel
theorem d_Ch_isOperandFit_96 : decode b_Ch_isOperandFit 96 = .ok (.lload_n 1, 1) := by decide +kernel
theorem d_Ch_isOperandFit_97 : decode b_Ch_isOperandFit 97 = .ok (.lconst 0, 1) := by decide +kernel
theorem d_Ch_isOperandFit_98 : decode b_Ch_isOperandFit 98 = .ok (.lcmp, 1) := by decide +kernel
theorem d_Ch_isOperandFit_99 : decode b_Ch_isOperandFit 99 = .ok (.ifCond .eq 7, 3) := by decide +kernel
theorem d_Ch_isOperandFit_102 : decode b_Ch_isOperandFit 102 = .ok (.iconst 1, 1) := by decide +kernel
theorem d_Ch_isOperandFit_103 : decode b_Ch_isOperandFit 103 = .ok (.goto 4, 3) := by decide +kernel
theorem d_Ch_isOperandFit_106 : decode b_Ch_isOperandFit 106 = .ok (.iconst 0, 1) := by decide +kernel
theorem d_Ch_isOperandFit_107 : decode b_Ch_isOperandFit 107 = .ok (.ireturn, 1) := by decide +kernel
theorem d_Ch_isOperandFit_108 : decode b_Ch_isOperandFit 108 = .ok (.lload_n 1, 1) := by decide +kernel
theorem d_Ch_isOperandFit_109 : decode b_Ch_isOperandFit 109 = .ok (.ldc2_w 74, 3) := by decide +kernel
theorem d_Ch_isOperandFit_112 : decode b_Ch_isOperandFit 112 = .ok (.lcmp, 1) := by decide +kernel
theorem d_Ch_isOperandFit_113 : decode b_Ch_isOperandFit 113 = .ok (.ifCond .ge 7, 3) := by decide +kernel
theorem d_Ch_isOperandFit_116 : decode b_Ch_isOperandFit 116 = .ok (.iconst 1, 1) := by decide +kernel
theorem d_Ch_isOperandFit_117 : decode b_Ch_isOperandFit 117 = .ok (.goto 4, 3) := by decide +kernel
theorem d_Ch_isOperandFit_120 : decode b_Ch_isOperandFit 120 = .ok (.iconst 0, 1) := by decide +kernel
theorem d_Ch_isOperandFit_121 : decode b_Ch_isOperandFit 121 = .ok (.ireturn, 1) := by decide +kernel
theorem d_Ch_isOperandFit_122 : decode b_Ch_isOperandFit 122 = .ok (.iconst 1, 1) := by decide +kernel
theorem d_Ch_isOperandFit_123 : decode b_Ch_isOperandFit 123 = .ok (.ireturn, 1) := by decide +kernel
theorem d_Ch_longestSkip_0 : decode b_Ch_longestSkip 0 = .ok (.iload_n 0, 1) := by decide +kernel
theorem d_Ch_longestSkip_1 : decode b_Ch_longestSkip 1 = .ok (.iconst 5, 1) := by decide +kernel
theorem d_Ch_longestSkip_2 : decode b_Ch_longestSkip 2 = .ok (.if_icmp .ne 10, 3) := by decide +kernel
theorem d_Ch_longestSkip_5 : decode b_Ch_longestSkip 5 = .ok (.lconst 1, 1) := by decide +kernel
theorem d_Ch_longestSkip_6 : decode b_Ch_longestSkip 6 = .ok (.lload_n 1, 1) := by decide +kernel
theorem d_Ch_longestSkip_7 : decode b_Ch_longestSkip 7 = .ok (.invokestatic 46, 3) := by decide +kernel
theorem d_Ch_longestSkip_10 : decode b_Ch_longestSkip 10 = .ok (.ladd, 1) := by decide +kernel
theorem d_Ch_longestSkip_11 : decode b_Ch_longestSkip 11 = .ok (.lreturn, 1) := by decide +kernel
theorem d_Ch_longestSkip_12 : decode b_Ch_longestSkip 12 = .ok (.iload_n 0, 1) := by decide +kernel
theorem d_Ch_longestSkip_13 : decode b_Ch_longestSkip 13 = .ok (.invokestatic 76, 3) := by decide +kernel
theorem d_Ch_longestSkip_16 : decode b_Ch_longestSkip 16 = .ok (.ifCond .ne 5, 3) := by decide +kernel
theorem d_Ch_longestSkip_19 : decode b_Ch_longestSkip 19 = .ok (.lconst 0, 1) := by decide +kernel
theorem d_Ch_longestSkip_20 : decode b_Ch_longestSkip 20 = .ok (.lreturn, 1) := by decide +kernel
theorem d_Ch_longestSkip_21 : decode b_Ch_longestSkip 21 = .ok (.lload_n 1, 1) := by decide +kernel
theorem d_Ch_longestSkip_22 : decode b_Ch_longestSkip 22 = .ok (.invokestatic 79, 3) := by decide +kernel
theorem d_Ch_longestSkip_25 : decode b_Ch_longestSkip 25 = .ok (.istore_n 3, 1) := by decide +kernel
theorem d_Ch_longestSkip_26 : decode b_Ch_longestSkip 26 = .ok (.lload_n 1, 1) := by decide +kernel
theorem d_Ch_longestSkip_27 : decode b_Ch_longestSkip 27 = .ok (.invokestatic 82, 3) := by decide +kernel
theorem d_Ch_longestSkip_30 : decode b_Ch_longestSkip 30 = .ok (.istore 4, 2) := by decide +kernel
theorem d_Ch_longestSkip_32 : decode b_Ch_longestSkip 32 = .ok (.iconst 1, 1) := by decide +kernel
theorem d_Ch_longestSkip_33 : decode b_Ch_longestSkip 33 = .ok (.iload_n 3, 1) := by decide +kernel
theorem d_Ch_longestSkip_34 : decode b_Ch_longestSkip 34 = .ok (.iload 4, 2) := by decide +kernel
theorem d_Ch_longestSkip_36 : decode b_Ch_longestSkip 36 = .ok (.invokestatic 85, 3) := by decide +kernel
theorem d_Ch_longestSkip_39 : decode b_Ch_longestSkip 39 = .ok (.iadd, 1) := by decide +kernel
theorem d_Ch_longestSkip_40 : decode b_Ch_longestSkip 40 = .ok (.i2l, 1) := by decide +kernel
theorem d_Ch_longestSkip_41 : decode b_Ch_longestSkip 41 = .ok (.lreturn, 1) := by decide +kernel
def m_F_unsigned (v : Int32) : Int64 := v.toInt64 &&& (4294967295 : Int64)
set_option maxHeartbeats 4000000 in
set_option maxRecDepth 100000 in
theorem c_F_unsigned (l : Launch) (v : Int32) : Met l y_F_unsigned (mW y_F_unsigned b_F_unsigned 1 (some .long)) { frames := 0, cells := 0, slots := 0, locals := 0 } (va_Pc [.int v] (fun _ => True)) (vp_Sl (fun r => r = m_F_unsigned v)) 0 0 (fun _ => False) := by
  refine Met.ofW (cc := b_F_unsigned) (maxL := 1) (ret := (some .long)) (by decide) rfl ?_
  intro p e s m args below meth c s₁ B hml hv
  obtain ⟨rfl, -⟩ := hv
  have hx := B.exec
  have hb := B.bytes
  have hr := B.returns
  have hlocks := B.notSynchronized
  have hts := fun (w : Cond) (h : w ∈ lw_g) => atoms_spec (ws := mW y_F_unsigned b_F_unsigned 1 (some .long)) B.pre w (List.mem_cons_of_mem _ h)
  have hown : s.vm.findClass R_F = some m.cls := findClass_of_methodNamed B.named
  have hl := lv_entry ([.int v]) (n := 1) (Nat.le_of_ble_eq_true rfl)
  rw [lg_entry_eq]
  generalize (lg_sl ([.int v]) ++ List.replicate (1 - (lg_sl ([.int v])).length) Slot.unset).toArray = ls at hl ⊢
  have hl : lv_has ls 1 [(0, .int v)] := hl
  refine lv_iload_n hx hb d_F_unsigned_0 rfl (lv_at hl 0 rfl) ?_
  refine lv_i2l hx hb d_F_unsigned_1 rfl ?_
  refine lv_ldc2 (v := 4294967295) hx hb hown (hts _ wd_303) d_F_unsigned_2 ?_
  refine lv_land hx hb d_F_unsigned_5 ?_
  exact W.lret hx hb hr (fun t ht hW => ⟨_, rfl, (by rw [m_F_unsigned]), ht⟩) (fun _ h => by cases h) d_F_unsigned_6
def m_Ca_hasArgument (i : Int32) : Int32 := if i < (0 : Int32) then (0 : Int32) else if (6 : Int32) ≤ i then (0 : Int32) else (1 : Int32)
set_option maxHeartbeats 4000000 in
set_option maxRecDepth 100000 in
theorem c_Ca_hasArgument (l : Launch) (i : Int32) : Met l y_Ca_hasArgument (mW y_Ca_hasArgument b_Ca_hasArgument 1 (some .boolean)) { frames := 0, cells := 0, slots := 0, locals := 0 } (va_Pc [.int i] (fun _ => True)) (vp_Si (fun r => r = m_Ca_hasArgument i)) 0 0 (fun _ => False) := by
  refine Met.ofW (cc := b_Ca_hasArgument) (maxL := 1) (ret := (some .boolean)) (by decide) rfl ?_
  intro p e s m args below meth c s₁ B hml hv
  obtain ⟨rfl, -⟩ := hv
  have hx := B.exec
  have hb := B.bytes
  have hr := B.returns
  have hlocks := B.notSynchronized
  have hts := fun (w : Cond) (h : w ∈ lw_g) => atoms_spec (ws := mW y_Ca_hasArgument b_Ca_hasArgument 1 (some .boolean)) B.pre w (List.mem_cons_of_mem _ h)
  have hown : s.vm.findClass R_Ca = some m.cls := findClass_of_methodNamed B.named
  have hl := lv_entry ([.int i]) (n := 1) (Nat.le_of_ble_eq_true rfl)
  rw [lg_entry_eq]
  generalize (lg_sl ([.int i]) ++ List.replicate (1 - (lg_sl ([.int i])).length) Slot.unset).toArray = ls at hl ⊢
  have hl : lv_has ls 1 [(0, .int i)] := hl
  refine lv_iconst (v := 0) hx hb d_Ca_hasArgument_0 (by decide) ?_
  refine lv_iload_n hx hb d_Ca_hasArgument_1 rfl (lv_at hl 0 rfl) ?_
  refine lv_icmp_gt (tgt := 15) hx hb d_Ca_hasArgument_2 (by decide) (fun h1 => ?_) (fun h1 => ?_)
  · refine lv_iconst (v := 0) hx hb d_Ca_hasArgument_15 (by decide) ?_
    exact W.zret hx hb hr rfl (fun t ht hW => ⟨_, rfl, (by rw [m_Ca_hasArgument, if_pos h1]), ht⟩) (fun _ h => by cases h) d_Ca_hasArgument_16
  refine lv_iload_n hx hb d_Ca_hasArgument_5 rfl (lv_at hl 0 rfl) ?_
  refine lv_bipush (v := 6) hx hb d_Ca_hasArgument_6 (by decide) ?_
  refine lv_icmp_ge (tgt := 15) hx hb d_Ca_hasArgument_8 (by decide) (fun h2 => ?_) (fun h2 => ?_)
  · refine lv_iconst (v := 0) hx hb d_Ca_hasArgument_15 (by decide) ?_
    exact W.zret hx hb hr rfl (fun t ht hW => ⟨_, rfl, (by rw [m_Ca_hasArgument, if_neg h1, if_pos h2]), ht⟩) (fun _ h => by cases h) d_Ca_hasArgument_16
  refine lv_iconst (v := 1) hx hb d_Ca_hasArgument_11 (by decide) ?_
  refine lv_goto (tgt := 16) hx hb d_Ca_hasArgument_12 (by decide) ?_
  exact W.zret hx hb hr rfl (fun t ht hW => ⟨_, rfl, (by rw [m_Ca_hasArgument, if_neg h1, if_neg h2]), ht⟩) (fun _ h => by cases h) d_Ca_hasArgument_16
def m_Ac_isPossible (kd : Int32) (dt : Int32) : Int32 := if kd < (0 : Int32) then (0 : Int32) else if (6 : Int32) < kd then (0 : Int32) else if dt < (0 : Int32) then (0 : Int32) else if (65535 : Int32) < dt then (0 : Int32) else (1 : Int32)
set_option maxHeartbeats 4000000 in
set_option maxRecDepth 100000 in
theorem c_Ac_isPossible (l : Launch) (kd : Int32) (dt : Int32) : Met l y_Ac_isPossible (mW y_Ac_isPossible b_Ac_isPossible 2 (some .boolean)) { frames := 0, cells := 0, slots := 0, locals := 0 } (va_Pc [.int kd, .int dt] (fun _ => True)) (vp_Si (fun r => r = m_Ac_isPossible kd dt)) 0 0 (fun _ => False) := by
  refine Met.ofW (cc := b_Ac_isPossible) (maxL := 2) (ret := (some .boolean)) (by decide) rfl ?_
  intro p e s m args below meth c s₁ B hml hv
  obtain ⟨rfl, -⟩ := hv
  have hx := B.exec
  have hb := B.bytes
  have hr := B.returns
  have hlocks := B.notSynchronized
  have hts := fun (w : Cond) (h : w ∈ lw_g) => atoms_spec (ws := mW y_Ac_isPossible b_Ac_isPossible 2 (some .boolean)) B.pre w (List.mem_cons_of_mem _ h)
  have hown : s.vm.findClass R_Ac = some m.cls := findClass_of_methodNamed B.named
  have hl := lv_entry ([.int kd, .int dt]) (n := 2) (Nat.le_of_ble_eq_true rfl)
  rw [lg_entry_eq]
  generalize (lg_sl ([.int kd, .int dt]) ++ List.replicate (2 - (lg_sl ([.int kd, .int dt])).length) Slot.unset).toArray = ls at hl ⊢
  have hl : lv_has ls 2 [(0, .int kd), (1, .int dt)] := hl
  refine lv_iconst (v := 0) hx hb d_Ac_isPossible_0 (by decide) ?_
  refine lv_iload_n hx hb d_Ac_isPossible_1 rfl (lv_at hl 0 rfl) ?_
  refine lv_icmp_gt (tgt := 26) hx hb d_Ac_isPossible_2 (by decide) (fun h1 => ?_) (fun h1 => ?_)
  · refine lv_iconst (v := 0) hx hb d_Ac_isPossible_26 (by decide) ?_
    exact W.zret hx hb hr rfl (fun t ht hW => ⟨_, rfl, (by rw [m_Ac_isPossible, if_pos h1]), ht⟩) (fun _ h => by cases h) d_Ac_isPossible_27
  refine lv_iload_n hx hb d_Ac_isPossible_5 rfl (lv_at hl 0 rfl) ?_
  refine lv_bipush (v := 6) hx hb d_Ac_isPossible_6 (by decide) ?_
  refine lv_icmp_gt (tgt := 26) hx hb d_Ac_isPossible_8 (by decide) (fun h2 => ?_) (fun h2 => ?_)
  · refine lv_iconst (v := 0) hx hb d_Ac_isPossible_26 (by decide) ?_
    exact W.zret hx hb hr rfl (fun t ht hW => ⟨_, rfl, (by rw [m_Ac_isPossible, if_neg h1, if_pos h2]), ht⟩) (fun _ h => by cases h) d_Ac_isPossible_27
  refine lv_iconst (v := 0) hx hb d_Ac_isPossible_11 (by decide) ?_
  refine lv_iload_n hx hb d_Ac_isPossible_12 rfl (lv_at hl 1 rfl) ?_
  refine lv_icmp_gt (tgt := 26) hx hb d_Ac_isPossible_13 (by decide) (fun h3 => ?_) (fun h3 => ?_)
  · refine lv_iconst (v := 0) hx hb d_Ac_isPossible_26 (by decide) ?_
    exact W.zret hx hb hr rfl (fun t ht hW => ⟨_, rfl, (by rw [m_Ac_isPossible, if_neg h1, if_neg h2, if_pos h3]), ht⟩) (fun _ h => by cases h) d_Ac_isPossible_27
  refine lv_iload_n hx hb d_Ac_isPossible_16 rfl (lv_at hl 1 rfl) ?_
  refine lv_ldc (v := 65535) hx hb hown (hts _ wd_247) d_Ac_isPossible_17 ?_
  refine lv_icmp_gt (tgt := 26) hx hb d_Ac_isPossible_19 (by decide) (fun h4 => ?_) (fun h4 => ?_)
  · refine lv_iconst (v := 0) hx hb d_Ac_isPossible_26 (by decide) ?_
    exact W.zret hx hb hr rfl (fun t ht hW => ⟨_, rfl, (by rw [m_Ac_isPossible, if_neg h1, if_neg h2, if_neg h3, if_pos h4]), ht⟩) (fun _ h => by cases h) d_Ac_isPossible_27
  refine lv_iconst (v := 1) hx hb d_Ac_isPossible_22 (by decide) ?_
  refine lv_goto (tgt := 27) hx hb d_Ac_isPossible_23 (by decide) ?_
  exact W.zret hx hb hr rfl (fun t ht hW => ⟨_, rfl, (by rw [m_Ac_isPossible, if_neg h1, if_neg h2, if_neg h3, if_neg h4]), ht⟩) (fun _ h => by cases h) d_Ac_isPossible_27
def m_Co_isOperator (op : Int32) : Int32 := if op < (0 : Int32) then (0 : Int32) else if (7 : Int32) ≤ op then (0 : Int32) else (1 : Int32)
set_option maxHeartbeats 4000000 in
set_option maxRecDepth 100000 in
theorem c_Co_isOperator (l : Launch) (op : Int32) : Met l y_Co_isOperator (mW y_Co_isOperator b_Co_isOperator 1 (some .boolean)) { frames := 0, cells := 0, slots := 0, locals := 0 } (va_Pc [.int op] (fun _ => True)) (vp_Si (fun r => r = m_Co_isOperator op)) 0 0 (fun _ => False) := by
  refine Met.ofW (cc := b_Co_isOperator) (maxL := 1) (ret := (some .boolean)) (by decide) rfl ?_
  intro p e s m args below meth c s₁ B hml hv
  obtain ⟨rfl, -⟩ := hv
  have hx := B.exec
  have hb := B.bytes
  have hr := B.returns
  have hlocks := B.notSynchronized
  have hts := fun (w : Cond) (h : w ∈ lw_g) => atoms_spec (ws := mW y_Co_isOperator b_Co_isOperator 1 (some .boolean)) B.pre w (List.mem_cons_of_mem _ h)
  have hown : s.vm.findClass R_Co = some m.cls := findClass_of_methodNamed B.named
  have hl := lv_entry ([.int op]) (n := 1) (Nat.le_of_ble_eq_true rfl)
  rw [lg_entry_eq]
  generalize (lg_sl ([.int op]) ++ List.replicate (1 - (lg_sl ([.int op])).length) Slot.unset).toArray = ls at hl ⊢
  have hl : lv_has ls 1 [(0, .int op)] := hl
  refine lv_iconst (v := 0) hx hb d_Co_isOperator_0 (by decide) ?_
  refine lv_iload_n hx hb d_Co_isOperator_1 rfl (lv_at hl 0 rfl) ?_
  refine lv_icmp_gt (tgt := 15) hx hb d_Co_isOperator_2 (by decide) (fun h1 => ?_) (fun h1 => ?_)
  · refine lv_iconst (v := 0) hx hb d_Co_isOperator_15 (by decide) ?_
    exact W.zret hx hb hr rfl (fun t ht hW => ⟨_, rfl, (by rw [m_Co_isOperator, if_pos h1]), ht⟩) (fun _ h => by cases h) d_Co_isOperator_16
  refine lv_iload_n hx hb d_Co_isOperator_5 rfl (lv_at hl 0 rfl) ?_
  refine lv_bipush (v := 7) hx hb d_Co_isOperator_6 (by decide) ?_
  refine lv_icmp_ge (tgt := 15) hx hb d_Co_isOperator_8 (by decide) (fun h2 => ?_) (fun h2 => ?_)
  · refine lv_iconst (v := 0) hx hb d_Co_isOperator_15 (by decide) ?_
    exact W.zret hx hb hr rfl (fun t ht hW => ⟨_, rfl, (by rw [m_Co_isOperator, if_neg h1, if_pos h2]), ht⟩) (fun _ h => by cases h) d_Co_isOperator_16
  refine lv_iconst (v := 1) hx hb d_Co_isOperator_11 (by decide) ?_
  refine lv_goto (tgt := 16) hx hb d_Co_isOperator_12 (by decide) ?_
  exact W.zret hx hb hr rfl (fun t ht hW => ⟨_, rfl, (by rw [m_Co_isOperator, if_neg h1, if_neg h2]), ht⟩) (fun _ h => by cases h) d_Co_isOperator_16
def m_Co_isBelow (u : Int64) (v : Int64) : Int32 := if (0 : Int32) ≤ (lg_cmp (u ^^^ (-9223372036854775808 : Int64)) (v ^^^ (-9223372036854775808 : Int64))) then (0 : Int32) else (1 : Int32)
set_option maxHeartbeats 4000000 in
set_option maxRecDepth 100000 in
theorem c_Co_isBelow (l : Launch) (u : Int64) (v : Int64) : Met l y_Co_isBelow (mW y_Co_isBelow b_Co_isBelow 6 (some .boolean)) { frames := 0, cells := 0, slots := 0, locals := 0 } (va_Pc [.long u, .long v] (fun _ => True)) (vp_Si (fun r => r = m_Co_isBelow u v)) 0 0 (fun _ => False) := by
  refine Met.ofW (cc := b_Co_isBelow) (maxL := 6) (ret := (some .boolean)) (by decide) rfl ?_
  intro p e s m args below meth c s₁ B hml hv
  obtain ⟨rfl, -⟩ := hv
  have hx := B.exec
  have hb := B.bytes
  have hr := B.returns
  have hlocks := B.notSynchronized
  have hts := fun (w : Cond) (h : w ∈ lw_g) => atoms_spec (ws := mW y_Co_isBelow b_Co_isBelow 6 (some .boolean)) B.pre w (List.mem_cons_of_mem _ h)
  have hown : s.vm.findClass R_Co = some m.cls := findClass_of_methodNamed B.named
  have hl := lv_entry ([.long u, .long v]) (n := 6) (Nat.le_of_ble_eq_true rfl)
  rw [lg_entry_eq]
  generalize (lg_sl ([.long u, .long v]) ++ List.replicate (6 - (lg_sl ([.long u, .long v])).length) Slot.unset).toArray = ls at hl ⊢
  have hl : lv_has ls 6 [(0, .long u), (2, .long v)] := hl
  refine lv_ldc2 (v := -9223372036854775808) hx hb hown (hts _ wd_321) d_Co_isBelow_0 ?_
  refine lv_lstore hx hb d_Co_isBelow_3 hl (by decide) rfl (fun ls hl => ?_)
  have hl : lv_has ls 6 [(4, .long (-9223372036854775808 : Int64)), (0, .long u), (2, .long v)] := hl
  refine lv_lload_n hx hb d_Co_isBelow_5 rfl (lv_at hl 1 rfl) ?_
  refine lv_lload hx hb d_Co_isBelow_6 (lv_at hl 0 rfl) ?_
  refine lv_lxor hx hb d_Co_isBelow_8 ?_
  refine lv_lload_n hx hb d_Co_isBelow_9 rfl (lv_at hl 2 rfl) ?_
  refine lv_lload hx hb d_Co_isBelow_10 (lv_at hl 0 rfl) ?_
  refine lv_lxor hx hb d_Co_isBelow_12 ?_
  refine W.lcmp hx hb d_Co_isBelow_13 ?_
  refine lv_if_ge (tgt := 21) hx hb d_Co_isBelow_14 (by decide) (fun h1 => ?_) (fun h1 => ?_)
  · refine lv_iconst (v := 0) hx hb d_Co_isBelow_21 (by decide) ?_
    exact W.zret hx hb hr rfl (fun t ht hW => ⟨_, rfl, (by rw [m_Co_isBelow, if_pos h1]), ht⟩) (fun _ h => by cases h) d_Co_isBelow_22
  refine lv_iconst (v := 1) hx hb d_Co_isBelow_17 (by decide) ?_
  refine lv_goto (tgt := 22) hx hb d_Co_isBelow_18 (by decide) ?_
  exact W.zret hx hb hr rfl (fun t ht hW => ⟨_, rfl, (by rw [m_Co_isBelow, if_neg h1]), ht⟩) (fun _ h => by cases h) d_Co_isBelow_22
def m_In_codeOf (z : Int64) : Int32 := (z &&& (65535 : Int64)).toInt32
set_option maxHeartbeats 4000000 in
set_option maxRecDepth 100000 in
theorem c_In_codeOf (l : Launch) (z : Int64) : Met l y_In_codeOf (mW y_In_codeOf b_In_codeOf 2 (some .int)) { frames := 0, cells := 0, slots := 0, locals := 0 } (va_Pc [.long z] (fun _ => True)) (vp_Si (fun r => r = m_In_codeOf z)) 0 0 (fun _ => False) := by
  refine Met.ofW (cc := b_In_codeOf) (maxL := 2) (ret := (some .int)) (by decide) rfl ?_
  intro p e s m args below meth c s₁ B hml hv
  obtain ⟨rfl, -⟩ := hv
  have hx := B.exec
  have hb := B.bytes
  have hr := B.returns
  have hlocks := B.notSynchronized
  have hts := fun (w : Cond) (h : w ∈ lw_g) => atoms_spec (ws := mW y_In_codeOf b_In_codeOf 2 (some .int)) B.pre w (List.mem_cons_of_mem _ h)
  have hown : s.vm.findClass R_In = some m.cls := findClass_of_methodNamed B.named
  have hl := lv_entry ([.long z]) (n := 2) (Nat.le_of_ble_eq_true rfl)
  rw [lg_entry_eq]
  generalize (lg_sl ([.long z]) ++ List.replicate (2 - (lg_sl ([.long z])).length) Slot.unset).toArray = ls at hl ⊢
  have hl : lv_has ls 2 [(0, .long z)] := hl
  refine lv_lload_n hx hb d_In_codeOf_0 rfl (lv_at hl 0 rfl) ?_
  refine lv_ldc2 (v := 65535) hx hb hown (hts _ wd_366) d_In_codeOf_1 ?_
  refine lv_land hx hb d_In_codeOf_4 ?_
  refine lv_l2i hx hb d_In_codeOf_5 rfl ?_
  exact W.iret hx hb hr (fun t ht hW => ⟨_, rfl, (by rw [m_In_codeOf]), ht⟩) (fun _ h => by cases h) d_In_codeOf_6
def m_In_distanceIfTrue (z : Int64) : Int32 := (((z.toUInt64 >>> ((16 : Int32).toInt64.toUInt64 &&& Int64.toUInt64 63)).toInt64) &&& (255 : Int64)).toInt32
set_option maxHeartbeats 4000000 in
set_option maxRecDepth 100000 in
theorem c_In_distanceIfTrue (l : Launch) (z : Int64) : Met l y_In_distanceIfTrue (mW y_In_distanceIfTrue b_In_distanceIfTrue 2 (some .int)) { frames := 0, cells := 0, slots := 0, locals := 0 } (va_Pc [.long z] (fun _ => True)) (vp_Si (fun r => r = m_In_distanceIfTrue z)) 0 0 (fun _ => False) := by
  refine Met.ofW (cc := b_In_distanceIfTrue) (maxL := 2) (ret := (some .int)) (by decide) rfl ?_
  intro p e s m args below meth c s₁ B hml hv
  obtain ⟨rfl, -⟩ := hv
  have hx := B.exec
  have hb := B.bytes
  have hr := B.returns
  have hlocks := B.notSynchronized
  have hts := fun (w : Cond) (h : w ∈ lw_g) => atoms_spec (ws := mW y_In_distanceIfTrue b_In_distanceIfTrue 2 (some .int)) B.pre w (List.mem_cons_of_mem _ h)
  have hown : s.vm.findClass R_In = some m.cls := findClass_of_methodNamed B.named
  have hl := lv_entry ([.long z]) (n := 2) (Nat.le_of_ble_eq_true rfl)
  rw [lg_entry_eq]
  generalize (lg_sl ([.long z]) ++ List.replicate (2 - (lg_sl ([.long z])).length) Slot.unset).toArray = ls at hl ⊢
  have hl : lv_has ls 2 [(0, .long z)] := hl
  refine lv_lload_n hx hb d_In_distanceIfTrue_0 rfl (lv_at hl 0 rfl) ?_
  refine lv_bipush (v := 16) hx hb d_In_distanceIfTrue_1 (by decide) ?_
  refine lv_lushr hx hb d_In_distanceIfTrue_3 rfl ?_
  refine lv_ldc2 (v := 255) hx hb hown (hts _ wd_402) d_In_distanceIfTrue_4 ?_
  refine lv_land hx hb d_In_distanceIfTrue_7 ?_
  refine lv_l2i hx hb d_In_distanceIfTrue_8 rfl ?_
  exact W.iret hx hb hr (fun t ht hW => ⟨_, rfl, (by rw [m_In_distanceIfTrue]), ht⟩) (fun _ h => by cases h) d_In_distanceIfTrue_9
def m_In_distanceIfFalse (z : Int64) : Int32 := (((z.toUInt64 >>> ((24 : Int32).toInt64.toUInt64 &&& Int64.toUInt64 63)).toInt64) &&& (255 : Int64)).toInt32
set_option maxHeartbeats 4000000 in
set_option maxRecDepth 100000 in
theorem c_In_distanceIfFalse (l : Launch) (z : Int64) : Met l y_In_distanceIfFalse (mW y_In_distanceIfFalse b_In_distanceIfFalse 2 (some .int)) { frames := 0, cells := 0, slots := 0, locals := 0 } (va_Pc [.long z] (fun _ => True)) (vp_Si (fun r => r = m_In_distanceIfFalse z)) 0 0 (fun _ => False) := by
  refine Met.ofW (cc := b_In_distanceIfFalse) (maxL := 2) (ret := (some .int)) (by decide) rfl ?_
  intro p e s m args below meth c s₁ B hml hv
  obtain ⟨rfl, -⟩ := hv
  have hx := B.exec
  have hb := B.bytes
  have hr := B.returns
  have hlocks := B.notSynchronized
  have hts := fun (w : Cond) (h : w ∈ lw_g) => atoms_spec (ws := mW y_In_distanceIfFalse b_In_distanceIfFalse 2 (some .int)) B.pre w (List.mem_cons_of_mem _ h)
  have hown : s.vm.findClass R_In = some m.cls := findClass_of_methodNamed B.named
  have hl := lv_entry ([.long z]) (n := 2) (Nat.le_of_ble_eq_true rfl)
  rw [lg_entry_eq]
  generalize (lg_sl ([.long z]) ++ List.replicate (2 - (lg_sl ([.long z])).length) Slot.unset).toArray = ls at hl ⊢
  have hl : lv_has ls 2 [(0, .long z)] := hl
  refine lv_lload_n hx hb d_In_distanceIfFalse_0 rfl (lv_at hl 0 rfl) ?_
  refine lv_bipush (v := 24) hx hb d_In_distanceIfFalse_1 (by decide) ?_
  refine lv_lushr hx hb d_In_distanceIfFalse_3 rfl ?_
  refine lv_ldc2 (v := 255) hx hb hown (hts _ wd_402) d_In_distanceIfFalse_4 ?_
  refine lv_land hx hb d_In_distanceIfFalse_7 ?_
  refine lv_l2i hx hb d_In_distanceIfFalse_8 rfl ?_
  exact W.iret hx hb hr (fun t ht hW => ⟨_, rfl, (by rw [m_In_distanceIfFalse]), ht⟩) (fun _ h => by cases h) d_In_distanceIfFalse_9
def m_In_operandOf (z : Int64) : Int64 := (z.toUInt64 >>> ((32 : Int32).toInt64.toUInt64 &&& Int64.toUInt64 63)).toInt64
set_option maxHeartbeats 4000000 in
set_option maxRecDepth 100000 in
theorem c_In_operandOf (l : Launch) (z : Int64) : Met l y_In_operandOf (mW y_In_operandOf b_In_operandOf 2 (some .long)) { frames := 0, cells := 0, slots := 0, locals := 0 } (va_Pc [.long z] (fun _ => True)) (vp_Sl (fun r => r = m_In_operandOf z)) 0 0 (fun _ => False) := by
  refine Met.ofW (cc := b_In_operandOf) (maxL := 2) (ret := (some .long)) (by decide) rfl ?_
  intro p e s m args below meth c s₁ B hml hv
  obtain ⟨rfl, -⟩ := hv
  have hx := B.exec
  have hb := B.bytes
  have hr := B.returns
  have hlocks := B.notSynchronized
  have hts := fun (w : Cond) (h : w ∈ lw_g) => atoms_spec (ws := mW y_In_operandOf b_In_operandOf 2 (some .long)) B.pre w (List.mem_cons_of_mem _ h)
  have hown : s.vm.findClass R_In = some m.cls := findClass_of_methodNamed B.named
  have hl := lv_entry ([.long z]) (n := 2) (Nat.le_of_ble_eq_true rfl)
  rw [lg_entry_eq]
  generalize (lg_sl ([.long z]) ++ List.replicate (2 - (lg_sl ([.long z])).length) Slot.unset).toArray = ls at hl ⊢
  have hl : lv_has ls 2 [(0, .long z)] := hl
  refine lv_lload_n hx hb d_In_operandOf_0 rfl (lv_at hl 0 rfl) ?_
  refine lv_bipush (v := 32) hx hb d_In_operandOf_1 (by decide) ?_
  refine lv_lushr hx hb d_In_operandOf_3 rfl ?_
  exact W.lret hx hb hr (fun t ht hW => ⟨_, rfl, (by rw [m_In_operandOf]), ht⟩) (fun _ h => by cases h) d_In_operandOf_4
def m_In_isArithmetic (cd : Int32) : Int32 := if cd = (4 : Int32) then (1 : Int32) else if cd = (12 : Int32) then (1 : Int32) else if cd = (20 : Int32) then (1 : Int32) else if cd = (28 : Int32) then (1 : Int32) else if cd = (36 : Int32) then (1 : Int32) else if cd = (44 : Int32) then (1 : Int32) else if cd = (52 : Int32) then (1 : Int32) else if cd = (60 : Int32) then (1 : Int32) else if cd = (68 : Int32) then (1 : Int32) else if cd = (76 : Int32) then (1 : Int32) else if cd = (84 : Int32) then (1 : Int32) else if cd = (92 : Int32) then (1 : Int32) else if cd = (100 : Int32) then (1 : Int32) else if cd = (108 : Int32) then (1 : Int32) else if cd = (116 : Int32) then (1 : Int32) else if cd = (124 : Int32) then (1 : Int32) else if cd = (132 : Int32) then (1 : Int32) else if cd = (164 : Int32) then (1 : Int32) else if cd = (172 : Int32) then (1 : Int32) else (0 : Int32)
set_option maxHeartbeats 4000000 in
set_option maxRecDepth 100000 in
theorem c_In_isArithmetic (l : Launch) (cd : Int32) : Met l y_In_isArithmetic (mW y_In_isArithmetic b_In_isArithmetic 1 (some .boolean)) { frames := 0, cells := 0, slots := 0, locals := 0 } (va_Pc [.int cd] (fun _ => True)) (vp_Si (fun r => r = m_In_isArithmetic cd)) 0 0 (fun _ => False) := by
  refine Met.ofW (cc := b_In_isArithmetic) (maxL := 1) (ret := (some .boolean)) (by decide) rfl ?_
  intro p e s m args below meth c s₁ B hml hv
  obtain ⟨rfl, -⟩ := hv
  have hx := B.exec
  have hb := B.bytes
  have hr := B.returns
  have hlocks := B.notSynchronized
  have hts := fun (w : Cond) (h : w ∈ lw_g) => atoms_spec (ws := mW y_In_isArithmetic b_In_isArithmetic 1 (some .boolean)) B.pre w (List.mem_cons_of_mem _ h)
  have hown : s.vm.findClass R_In = some m.cls := findClass_of_methodNamed B.named
  have hl := lv_entry ([.int cd]) (n := 1) (Nat.le_of_ble_eq_true rfl)
  rw [lg_entry_eq]
  generalize (lg_sl ([.int cd]) ++ List.replicate (1 - (lg_sl ([.int cd])).length) Slot.unset).toArray = ls at hl ⊢
  have hl : lv_has ls 1 [(0, .int cd)] := hl
  refine lv_iload_n hx hb d_In_isArithmetic_0 rfl (lv_at hl 0 rfl) ?_
  by_cases h1 : cd = (4 : Int32)
  · refine lv_lookup (tgt := 164) (off := 163) hx hb d_In_isArithmetic_1 (by decide) (by rw [h1] <;> rfl) (by decide) ?_
    refine lv_iconst (v := 1) hx hb d_In_isArithmetic_164 (by decide) ?_
    exact W.zret hx hb hr rfl (fun t ht hW => ⟨_, rfl, (by rw [m_In_isArithmetic, if_pos h1]), ht⟩) (fun _ h => by cases h) d_In_isArithmetic_165
  by_cases h2 : cd = (12 : Int32)
  · refine lv_lookup (tgt := 164) (off := 163) hx hb d_In_isArithmetic_1 (by decide) (by rw [h2] <;> rfl) (by decide) ?_
    refine lv_iconst (v := 1) hx hb d_In_isArithmetic_164 (by decide) ?_
    exact W.zret hx hb hr rfl (fun t ht hW => ⟨_, rfl, (by rw [m_In_isArithmetic, if_neg h1, if_pos h2]), ht⟩) (fun _ h => by cases h) d_In_isArithmetic_165
  by_cases h3 : cd = (20 : Int32)
  · refine lv_lookup (tgt := 164) (off := 163) hx hb d_In_isArithmetic_1 (by decide) (by rw [h3] <;> rfl) (by decide) ?_
    refine lv_iconst (v := 1) hx hb d_In_isArithmetic_164 (by decide) ?_
    exact W.zret hx hb hr rfl (fun t ht hW => ⟨_, rfl, (by rw [m_In_isArithmetic, if_neg h1, if_neg h2, if_pos h3]), ht⟩) (fun _ h => by cases h) d_In_isArithmetic_165
  by_cases h4 : cd = (28 : Int32)
  · refine lv_lookup (tgt := 164) (off := 163) hx hb d_In_isArithmetic_1 (by decide) (by rw [h4] <;> rfl) (by decide) ?_
    refine lv_iconst (v := 1) hx hb d_In_isArithmetic_164 (by decide) ?_
    exact W.zret hx hb hr rfl (fun t ht hW => ⟨_, rfl, (by rw [m_In_isArithmetic, if_neg h1, if_neg h2, if_neg h3, if_pos h4]), ht⟩) (fun _ h => by cases h) d_In_isArithmetic_165
  by_cases h5 : cd = (36 : Int32)
  · refine lv_lookup (tgt := 164) (off := 163) hx hb d_In_isArithmetic_1 (by decide) (by rw [h5] <;> rfl) (by decide) ?_
    refine lv_iconst (v := 1) hx hb d_In_isArithmetic_164 (by decide) ?_
    exact W.zret hx hb hr rfl (fun t ht hW => ⟨_, rfl, (by rw [m_In_isArithmetic, if_neg h1, if_neg h2, if_neg h3, if_neg h4, if_pos h5]), ht⟩) (fun _ h => by cases h) d_In_isArithmetic_165
  by_cases h6 : cd = (44 : Int32)
  · refine lv_lookup (tgt := 164) (off := 163) hx hb d_In_isArithmetic_1 (by decide) (by rw [h6] <;> rfl) (by decide) ?_
    refine lv_iconst (v := 1) hx hb d_In_isArithmetic_164 (by decide) ?_
    exact W.zret hx hb hr rfl (fun t ht hW => ⟨_, rfl, (by rw [m_In_isArithmetic, if_neg h1, if_neg h2, if_neg h3, if_neg h4, if_neg h5, if_pos h6]), ht⟩) (fun _ h => by cases h) d_In_isArithmetic_165
  by_cases h7 : cd = (52 : Int32)
  · refine lv_lookup (tgt := 164) (off := 163) hx hb d_In_isArithmetic_1 (by decide) (by rw [h7] <;> rfl) (by decide) ?_
    refine lv_iconst (v := 1) hx hb d_In_isArithmetic_164 (by decide) ?_
    exact W.zret hx hb hr rfl (fun t ht hW => ⟨_, rfl, (by rw [m_In_isArithmetic, if_neg h1, if_neg h2, if_neg h3, if_neg h4, if_neg h5, if_neg h6, if_pos h7]), ht⟩) (fun _ h => by cases h) d_In_isArithmetic_165
  by_cases h8 : cd = (60 : Int32)
  · refine lv_lookup (tgt := 164) (off := 163) hx hb d_In_isArithmetic_1 (by decide) (by rw [h8] <;> rfl) (by decide) ?_
    refine lv_iconst (v := 1) hx hb d_In_isArithmetic_164 (by decide) ?_
    exact W.zret hx hb hr rfl (fun t ht hW => ⟨_, rfl, (by rw [m_In_isArithmetic, if_neg h1, if_neg h2, if_neg h3, if_neg h4, if_neg h5, if_neg h6, if_neg h7, if_pos h8]), ht⟩) (fun _ h => by cases h) d_In_isArithmetic_165
  by_cases h9 : cd = (68 : Int32)
  · refine lv_lookup (tgt := 164) (off := 163) hx hb d_In_isArithmetic_1 (by decide) (by rw [h9] <;> rfl) (by decide) ?_
    refine lv_iconst (v := 1) hx hb d_In_isArithmetic_164 (by decide) ?_
    exact W.zret hx hb hr rfl (fun t ht hW => ⟨_, rfl, (by rw [m_In_isArithmetic, if_neg h1, if_neg h2, if_neg h3, if_neg h4, if_neg h5, if_neg h6, if_neg h7, if_neg h8, if_pos h9]), ht⟩) (fun _ h => by cases h) d_In_isArithmetic_165
  by_cases h10 : cd = (76 : Int32)
  · refine lv_lookup (tgt := 164) (off := 163) hx hb d_In_isArithmetic_1 (by decide) (by rw [h10] <;> rfl) (by decide) ?_
    refine lv_iconst (v := 1) hx hb d_In_isArithmetic_164 (by decide) ?_
    exact W.zret hx hb hr rfl (fun t ht hW => ⟨_, rfl, (by rw [m_In_isArithmetic, if_neg h1, if_neg h2, if_neg h3, if_neg h4, if_neg h5, if_neg h6, if_neg h7, if_neg h8, if_neg h9, if_pos h10]), ht⟩) (fun _ h => by cases h) d_In_isArithmetic_165
  by_cases h11 : cd = (84 : Int32)
  · refine lv_lookup (tgt := 164) (off := 163) hx hb d_In_isArithmetic_1 (by decide) (by rw [h11] <;> rfl) (by decide) ?_
    refine lv_iconst (v := 1) hx hb d_In_isArithmetic_164 (by decide) ?_
    exact W.zret hx hb hr rfl (fun t ht hW => ⟨_, rfl, (by rw [m_In_isArithmetic, if_neg h1, if_neg h2, if_neg h3, if_neg h4, if_neg h5, if_neg h6, if_neg h7, if_neg h8, if_neg h9, if_neg h10, if_pos h11]), ht⟩) (fun _ h => by cases h) d_In_isArithmetic_165
  by_cases h12 : cd = (92 : Int32)
  · refine lv_lookup (tgt := 164) (off := 163) hx hb d_In_isArithmetic_1 (by decide) (by rw [h12] <;> rfl) (by decide) ?_
    refine lv_iconst (v := 1) hx hb d_In_isArithmetic_164 (by decide) ?_
    exact W.zret hx hb hr rfl (fun t ht hW => ⟨_, rfl, (by rw [m_In_isArithmetic, if_neg h1, if_neg h2, if_neg h3, if_neg h4, if_neg h5, if_neg h6, if_neg h7, if_neg h8, if_neg h9, if_neg h10, if_neg h11, if_pos h12]), ht⟩) (fun _ h => by cases h) d_In_isArithmetic_165
  by_cases h13 : cd = (100 : Int32)
  · refine lv_lookup (tgt := 164) (off := 163) hx hb d_In_isArithmetic_1 (by decide) (by rw [h13] <;> rfl) (by decide) ?_
    refine lv_iconst (v := 1) hx hb d_In_isArithmetic_164 (by decide) ?_
    exact W.zret hx hb hr rfl (fun t ht hW => ⟨_, rfl, (by rw [m_In_isArithmetic, if_neg h1, if_neg h2, if_neg h3, if_neg h4, if_neg h5, if_neg h6, if_neg h7, if_neg h8, if_neg h9, if_neg h10, if_neg h11, if_neg h12, if_pos h13]), ht⟩) (fun _ h => by cases h) d_In_isArithmetic_165
  by_cases h14 : cd = (108 : Int32)
  · refine lv_lookup (tgt := 164) (off := 163) hx hb d_In_isArithmetic_1 (by decide) (by rw [h14] <;> rfl) (by decide) ?_
    refine lv_iconst (v := 1) hx hb d_In_isArithmetic_164 (by decide) ?_
    exact W.zret hx hb hr rfl (fun t ht hW => ⟨_, rfl, (by rw [m_In_isArithmetic, if_neg h1, if_neg h2, if_neg h3, if_neg h4, if_neg h5, if_neg h6, if_neg h7, if_neg h8, if_neg h9, if_neg h10, if_neg h11, if_neg h12, if_neg h13, if_pos h14]), ht⟩) (fun _ h => by cases h) d_In_isArithmetic_165
  by_cases h15 : cd = (116 : Int32)
  · refine lv_lookup (tgt := 164) (off := 163) hx hb d_In_isArithmetic_1 (by decide) (by rw [h15] <;> rfl) (by decide) ?_
    refine lv_iconst (v := 1) hx hb d_In_isArithmetic_164 (by decide) ?_
    exact W.zret hx hb hr rfl (fun t ht hW => ⟨_, rfl, (by rw [m_In_isArithmetic, if_neg h1, if_neg h2, if_neg h3, if_neg h4, if_neg h5, if_neg h6, if_neg h7, if_neg h8, if_neg h9, if_neg h10, if_neg h11, if_neg h12, if_neg h13, if_neg h14, if_pos h15]), ht⟩) (fun _ h => by cases h) d_In_isArithmetic_165
  by_cases h16 : cd = (124 : Int32)
  · refine lv_lookup (tgt := 164) (off := 163) hx hb d_In_isArithmetic_1 (by decide) (by rw [h16] <;> rfl) (by decide) ?_
    refine lv_iconst (v := 1) hx hb d_In_isArithmetic_164 (by decide) ?_
    exact W.zret hx hb hr rfl (fun t ht hW => ⟨_, rfl, (by rw [m_In_isArithmetic, if_neg h1, if_neg h2, if_neg h3, if_neg h4, if_neg h5, if_neg h6, if_neg h7, if_neg h8, if_neg h9, if_neg h10, if_neg h11, if_neg h12, if_neg h13, if_neg h14, if_neg h15, if_pos h16]), ht⟩) (fun _ h => by cases h) d_In_isArithmetic_165
  by_cases h17 : cd = (132 : Int32)
  · refine lv_lookup (tgt := 164) (off := 163) hx hb d_In_isArithmetic_1 (by decide) (by rw [h17] <;> rfl) (by decide) ?_
    refine lv_iconst (v := 1) hx hb d_In_isArithmetic_164 (by decide) ?_
    exact W.zret hx hb hr rfl (fun t ht hW => ⟨_, rfl, (by rw [m_In_isArithmetic, if_neg h1, if_neg h2, if_neg h3, if_neg h4, if_neg h5, if_neg h6, if_neg h7, if_neg h8, if_neg h9, if_neg h10, if_neg h11, if_neg h12, if_neg h13, if_neg h14, if_neg h15, if_neg h16, if_pos h17]), ht⟩) (fun _ h => by cases h) d_In_isArithmetic_165
  by_cases h18 : cd = (164 : Int32)
  · refine lv_lookup (tgt := 164) (off := 163) hx hb d_In_isArithmetic_1 (by decide) (by rw [h18] <;> rfl) (by decide) ?_
    refine lv_iconst (v := 1) hx hb d_In_isArithmetic_164 (by decide) ?_
    exact W.zret hx hb hr rfl (fun t ht hW => ⟨_, rfl, (by rw [m_In_isArithmetic, if_neg h1, if_neg h2, if_neg h3, if_neg h4, if_neg h5, if_neg h6, if_neg h7, if_neg h8, if_neg h9, if_neg h10, if_neg h11, if_neg h12, if_neg h13, if_neg h14, if_neg h15, if_neg h16, if_neg h17, if_pos h18]), ht⟩) (fun _ h => by cases h) d_In_isArithmetic_165
  by_cases h19 : cd = (172 : Int32)
  · refine lv_lookup (tgt := 164) (off := 163) hx hb d_In_isArithmetic_1 (by decide) (by rw [h19] <;> rfl) (by decide) ?_
    refine lv_iconst (v := 1) hx hb d_In_isArithmetic_164 (by decide) ?_
    exact W.zret hx hb hr rfl (fun t ht hW => ⟨_, rfl, (by rw [m_In_isArithmetic, if_neg h1, if_neg h2, if_neg h3, if_neg h4, if_neg h5, if_neg h6, if_neg h7, if_neg h8, if_neg h9, if_neg h10, if_neg h11, if_neg h12, if_neg h13, if_neg h14, if_neg h15, if_neg h16, if_neg h17, if_neg h18, if_pos h19]), ht⟩) (fun _ h => by cases h) d_In_isArithmetic_165
  refine lv_lookup (tgt := 166) (off := 165) hx hb d_In_isArithmetic_1 (by decide) ((lv_osw h1 (by decide)).trans ((lv_osw h2 (by decide)).trans ((lv_osw h3 (by decide)).trans ((lv_osw h4 (by decide)).trans ((lv_osw h5 (by decide)).trans ((lv_osw h6 (by decide)).trans ((lv_osw h7 (by decide)).trans ((lv_osw h8 (by decide)).trans ((lv_osw h9 (by decide)).trans ((lv_osw h10 (by decide)).trans ((lv_osw h11 (by decide)).trans ((lv_osw h12 (by decide)).trans ((lv_osw h13 (by decide)).trans ((lv_osw h14 (by decide)).trans ((lv_osw h15 (by decide)).trans ((lv_osw h16 (by decide)).trans ((lv_osw h17 (by decide)).trans ((lv_osw h18 (by decide)).trans ((lv_osw h19 (by decide)).trans rfl))))))))))))))))))) (by decide) ?_
  refine lv_iconst (v := 0) hx hb d_In_isArithmetic_166 (by decide) ?_
  exact W.zret hx hb hr rfl (fun t ht hW => ⟨_, rfl, (by rw [m_In_isArithmetic, if_neg h1, if_neg h2, if_neg h3, if_neg h4, if_neg h5, if_neg h6, if_neg h7, if_neg h8, if_neg h9, if_neg h10, if_neg h11, if_neg h12, if_neg h13, if_neg h14, if_neg h15, if_neg h16, if_neg h17, if_neg h18, if_neg h19]), ht⟩) (fun _ h => by cases h) d_In_isArithmetic_167
def m_In_isConditional (cd : Int32) : Int32 := if cd = (21 : Int32) then (1 : Int32) else if cd = (29 : Int32) then (1 : Int32) else if cd = (37 : Int32) then (1 : Int32) else if cd = (45 : Int32) then (1 : Int32) else if cd = (53 : Int32) then (1 : Int32) else if cd = (61 : Int32) then (1 : Int32) else if cd = (69 : Int32) then (1 : Int32) else if cd = (77 : Int32) then (1 : Int32) else (0 : Int32)
set_option maxHeartbeats 4000000 in
set_option maxRecDepth 100000 in
theorem c_In_isConditional (l : Launch) (cd : Int32) : Met l y_In_isConditional (mW y_In_isConditional b_In_isConditional 1 (some .boolean)) { frames := 0, cells := 0, slots := 0, locals := 0 } (va_Pc [.int cd] (fun _ => True)) (vp_Si (fun r => r = m_In_isConditional cd)) 0 0 (fun _ => False) := by
  refine Met.ofW (cc := b_In_isConditional) (maxL := 1) (ret := (some .boolean)) (by decide) rfl ?_
  intro p e s m args below meth c s₁ B hml hv
  obtain ⟨rfl, -⟩ := hv
  have hx := B.exec
  have hb := B.bytes
  have hr := B.returns
  have hlocks := B.notSynchronized
  have hts := fun (w : Cond) (h : w ∈ lw_g) => atoms_spec (ws := mW y_In_isConditional b_In_isConditional 1 (some .boolean)) B.pre w (List.mem_cons_of_mem _ h)
  have hown : s.vm.findClass R_In = some m.cls := findClass_of_methodNamed B.named
  have hl := lv_entry ([.int cd]) (n := 1) (Nat.le_of_ble_eq_true rfl)
  rw [lg_entry_eq]
  generalize (lg_sl ([.int cd]) ++ List.replicate (1 - (lg_sl ([.int cd])).length) Slot.unset).toArray = ls at hl ⊢
  have hl : lv_has ls 1 [(0, .int cd)] := hl
  refine lv_iload_n hx hb d_In_isConditional_0 rfl (lv_at hl 0 rfl) ?_
  by_cases h1 : cd = (21 : Int32)
  · refine lv_lookup (tgt := 76) (off := 75) hx hb d_In_isConditional_1 (by decide) (by rw [h1] <;> rfl) (by decide) ?_
    refine lv_iconst (v := 1) hx hb d_In_isConditional_76 (by decide) ?_
    exact W.zret hx hb hr rfl (fun t ht hW => ⟨_, rfl, (by rw [m_In_isConditional, if_pos h1]), ht⟩) (fun _ h => by cases h) d_In_isConditional_77
  by_cases h2 : cd = (29 : Int32)
  · refine lv_lookup (tgt := 76) (off := 75) hx hb d_In_isConditional_1 (by decide) (by rw [h2] <;> rfl) (by decide) ?_
    refine lv_iconst (v := 1) hx hb d_In_isConditional_76 (by decide) ?_
    exact W.zret hx hb hr rfl (fun t ht hW => ⟨_, rfl, (by rw [m_In_isConditional, if_neg h1, if_pos h2]), ht⟩) (fun _ h => by cases h) d_In_isConditional_77
  by_cases h3 : cd = (37 : Int32)
  · refine lv_lookup (tgt := 76) (off := 75) hx hb d_In_isConditional_1 (by decide) (by rw [h3] <;> rfl) (by decide) ?_
    refine lv_iconst (v := 1) hx hb d_In_isConditional_76 (by decide) ?_
    exact W.zret hx hb hr rfl (fun t ht hW => ⟨_, rfl, (by rw [m_In_isConditional, if_neg h1, if_neg h2, if_pos h3]), ht⟩) (fun _ h => by cases h) d_In_isConditional_77
  by_cases h4 : cd = (45 : Int32)
  · refine lv_lookup (tgt := 76) (off := 75) hx hb d_In_isConditional_1 (by decide) (by rw [h4] <;> rfl) (by decide) ?_
    refine lv_iconst (v := 1) hx hb d_In_isConditional_76 (by decide) ?_
    exact W.zret hx hb hr rfl (fun t ht hW => ⟨_, rfl, (by rw [m_In_isConditional, if_neg h1, if_neg h2, if_neg h3, if_pos h4]), ht⟩) (fun _ h => by cases h) d_In_isConditional_77
  by_cases h5 : cd = (53 : Int32)
  · refine lv_lookup (tgt := 76) (off := 75) hx hb d_In_isConditional_1 (by decide) (by rw [h5] <;> rfl) (by decide) ?_
    refine lv_iconst (v := 1) hx hb d_In_isConditional_76 (by decide) ?_
    exact W.zret hx hb hr rfl (fun t ht hW => ⟨_, rfl, (by rw [m_In_isConditional, if_neg h1, if_neg h2, if_neg h3, if_neg h4, if_pos h5]), ht⟩) (fun _ h => by cases h) d_In_isConditional_77
  by_cases h6 : cd = (61 : Int32)
  · refine lv_lookup (tgt := 76) (off := 75) hx hb d_In_isConditional_1 (by decide) (by rw [h6] <;> rfl) (by decide) ?_
    refine lv_iconst (v := 1) hx hb d_In_isConditional_76 (by decide) ?_
    exact W.zret hx hb hr rfl (fun t ht hW => ⟨_, rfl, (by rw [m_In_isConditional, if_neg h1, if_neg h2, if_neg h3, if_neg h4, if_neg h5, if_pos h6]), ht⟩) (fun _ h => by cases h) d_In_isConditional_77
  by_cases h7 : cd = (69 : Int32)
  · refine lv_lookup (tgt := 76) (off := 75) hx hb d_In_isConditional_1 (by decide) (by rw [h7] <;> rfl) (by decide) ?_
    refine lv_iconst (v := 1) hx hb d_In_isConditional_76 (by decide) ?_
    exact W.zret hx hb hr rfl (fun t ht hW => ⟨_, rfl, (by rw [m_In_isConditional, if_neg h1, if_neg h2, if_neg h3, if_neg h4, if_neg h5, if_neg h6, if_pos h7]), ht⟩) (fun _ h => by cases h) d_In_isConditional_77
  by_cases h8 : cd = (77 : Int32)
  · refine lv_lookup (tgt := 76) (off := 75) hx hb d_In_isConditional_1 (by decide) (by rw [h8] <;> rfl) (by decide) ?_
    refine lv_iconst (v := 1) hx hb d_In_isConditional_76 (by decide) ?_
    exact W.zret hx hb hr rfl (fun t ht hW => ⟨_, rfl, (by rw [m_In_isConditional, if_neg h1, if_neg h2, if_neg h3, if_neg h4, if_neg h5, if_neg h6, if_neg h7, if_pos h8]), ht⟩) (fun _ h => by cases h) d_In_isConditional_77
  refine lv_lookup (tgt := 78) (off := 77) hx hb d_In_isConditional_1 (by decide) ((lv_osw h1 (by decide)).trans ((lv_osw h2 (by decide)).trans ((lv_osw h3 (by decide)).trans ((lv_osw h4 (by decide)).trans ((lv_osw h5 (by decide)).trans ((lv_osw h6 (by decide)).trans ((lv_osw h7 (by decide)).trans ((lv_osw h8 (by decide)).trans rfl)))))))) (by decide) ?_
  refine lv_iconst (v := 0) hx hb d_In_isConditional_78 (by decide) ?_
  exact W.zret hx hb hr rfl (fun t ht hW => ⟨_, rfl, (by rw [m_In_isConditional, if_neg h1, if_neg h2, if_neg h3, if_neg h4, if_neg h5, if_neg h6, if_neg h7, if_neg h8]), ht⟩) (fun _ h => by cases h) d_In_isConditional_79
def m_In_endsRun (cd : Int32) : Int32 := if cd = (6 : Int32) then (1 : Int32) else if cd = (22 : Int32) then (1 : Int32) else (0 : Int32)
set_option maxHeartbeats 4000000 in
set_option maxRecDepth 100000 in
theorem c_In_endsRun (l : Launch) (cd : Int32) : Met l y_In_endsRun (mW y_In_endsRun b_In_endsRun 1 (some .boolean)) { frames := 0, cells := 0, slots := 0, locals := 0 } (va_Pc [.int cd] (fun _ => True)) (vp_Si (fun r => r = m_In_endsRun cd)) 0 0 (fun _ => False) := by
  refine Met.ofW (cc := b_In_endsRun) (maxL := 1) (ret := (some .boolean)) (by decide) rfl ?_
  intro p e s m args below meth c s₁ B hml hv
  obtain ⟨rfl, -⟩ := hv
  have hx := B.exec
  have hb := B.bytes
  have hr := B.returns
  have hlocks := B.notSynchronized
  have hts := fun (w : Cond) (h : w ∈ lw_g) => atoms_spec (ws := mW y_In_endsRun b_In_endsRun 1 (some .boolean)) B.pre w (List.mem_cons_of_mem _ h)
  have hown : s.vm.findClass R_In = some m.cls := findClass_of_methodNamed B.named
  have hl := lv_entry ([.int cd]) (n := 1) (Nat.le_of_ble_eq_true rfl)
  rw [lg_entry_eq]
  generalize (lg_sl ([.int cd]) ++ List.replicate (1 - (lg_sl ([.int cd])).length) Slot.unset).toArray = ls at hl ⊢
  have hl : lv_has ls 1 [(0, .int cd)] := hl
  refine lv_iload_n hx hb d_In_endsRun_0 rfl (lv_at hl 0 rfl) ?_
  refine lv_bipush (v := 6) hx hb d_In_endsRun_1 (by decide) ?_
  refine lv_icmp_eq (tgt := 12) hx hb d_In_endsRun_3 (by decide) (fun h1 => ?_) (fun h1 => ?_)
  · refine lv_iconst (v := 1) hx hb d_In_endsRun_12 (by decide) ?_
    refine lv_goto (tgt := 17) hx hb d_In_endsRun_13 (by decide) ?_
    exact W.zret hx hb hr rfl (fun t ht hW => ⟨_, rfl, (by rw [m_In_endsRun, if_pos h1]), ht⟩) (fun _ h => by cases h) d_In_endsRun_17
  refine lv_iload_n hx hb d_In_endsRun_6 rfl (lv_at hl 0 rfl) ?_
  refine lv_bipush (v := 22) hx hb d_In_endsRun_7 (by decide) ?_
  refine lv_icmp_ne (tgt := 16) hx hb d_In_endsRun_9 (by decide) (fun h2 => ?_) (fun h2 => ?_)
  · refine lv_iconst (v := 0) hx hb d_In_endsRun_16 (by decide) ?_
    exact W.zret hx hb hr rfl (fun t ht hW => ⟨_, rfl, (by rw [m_In_endsRun, if_neg h1, if_neg h2]), ht⟩) (fun _ h => by cases h) d_In_endsRun_17
  refine lv_iconst (v := 1) hx hb d_In_endsRun_12 (by decide) ?_
  refine lv_goto (tgt := 17) hx hb d_In_endsRun_13 (by decide) ?_
  exact W.zret hx hb hr rfl (fun t ht hW => ⟨_, rfl, (by rw [m_In_endsRun, if_neg h1, if_pos h2]), ht⟩) (fun _ h => by cases h) d_In_endsRun_17
def m_In_loadsCell (cd : Int32) : Int32 := if cd = (96 : Int32) then (1 : Int32) else if cd = (97 : Int32) then (1 : Int32) else (0 : Int32)
set_option maxHeartbeats 4000000 in
set_option maxRecDepth 100000 in
theorem c_In_loadsCell (l : Launch) (cd : Int32) : Met l y_In_loadsCell (mW y_In_loadsCell b_In_loadsCell 1 (some .boolean)) { frames := 0, cells := 0, slots := 0, locals := 0 } (va_Pc [.int cd] (fun _ => True)) (vp_Si (fun r => r = m_In_loadsCell cd)) 0 0 (fun _ => False) := by
  refine Met.ofW (cc := b_In_loadsCell) (maxL := 1) (ret := (some .boolean)) (by decide) rfl ?_
  intro p e s m args below meth c s₁ B hml hv
  obtain ⟨rfl, -⟩ := hv
  have hx := B.exec
  have hb := B.bytes
  have hr := B.returns
  have hlocks := B.notSynchronized
  have hts := fun (w : Cond) (h : w ∈ lw_g) => atoms_spec (ws := mW y_In_loadsCell b_In_loadsCell 1 (some .boolean)) B.pre w (List.mem_cons_of_mem _ h)
  have hown : s.vm.findClass R_In = some m.cls := findClass_of_methodNamed B.named
  have hl := lv_entry ([.int cd]) (n := 1) (Nat.le_of_ble_eq_true rfl)
  rw [lg_entry_eq]
  generalize (lg_sl ([.int cd]) ++ List.replicate (1 - (lg_sl ([.int cd])).length) Slot.unset).toArray = ls at hl ⊢
  have hl : lv_has ls 1 [(0, .int cd)] := hl
  refine lv_iload_n hx hb d_In_loadsCell_0 rfl (lv_at hl 0 rfl) ?_
  refine lv_bipush (v := 96) hx hb d_In_loadsCell_1 (by decide) ?_
  refine lv_icmp_eq (tgt := 12) hx hb d_In_loadsCell_3 (by decide) (fun h1 => ?_) (fun h1 => ?_)
  · refine lv_iconst (v := 1) hx hb d_In_loadsCell_12 (by decide) ?_
    refine lv_goto (tgt := 17) hx hb d_In_loadsCell_13 (by decide) ?_
    exact W.zret hx hb hr rfl (fun t ht hW => ⟨_, rfl, (by rw [m_In_loadsCell, if_pos h1]), ht⟩) (fun _ h => by cases h) d_In_loadsCell_17
  refine lv_iload_n hx hb d_In_loadsCell_6 rfl (lv_at hl 0 rfl) ?_
  refine lv_bipush (v := 97) hx hb d_In_loadsCell_7 (by decide) ?_
  refine lv_icmp_ne (tgt := 16) hx hb d_In_loadsCell_9 (by decide) (fun h2 => ?_) (fun h2 => ?_)
  · refine lv_iconst (v := 0) hx hb d_In_loadsCell_16 (by decide) ?_
    exact W.zret hx hb hr rfl (fun t ht hW => ⟨_, rfl, (by rw [m_In_loadsCell, if_neg h1, if_neg h2]), ht⟩) (fun _ h => by cases h) d_In_loadsCell_17
  refine lv_iconst (v := 1) hx hb d_In_loadsCell_12 (by decide) ?_
  refine lv_goto (tgt := 17) hx hb d_In_loadsCell_13 (by decide) ?_
  exact W.zret hx hb hr rfl (fun t ht hW => ⟨_, rfl, (by rw [m_In_loadsCell, if_neg h1, if_pos h2]), ht⟩) (fun _ h => by cases h) d_In_loadsCell_17
def m_In_storesCell (cd : Int32) : Int32 := if cd = (2 : Int32) then (1 : Int32) else if cd = (3 : Int32) then (1 : Int32) else (0 : Int32)
set_option maxHeartbeats 4000000 in
set_option maxRecDepth 100000 in
theorem c_In_storesCell (l : Launch) (cd : Int32) : Met l y_In_storesCell (mW y_In_storesCell b_In_storesCell 1 (some .boolean)) { frames := 0, cells := 0, slots := 0, locals := 0 } (va_Pc [.int cd] (fun _ => True)) (vp_Si (fun r => r = m_In_storesCell cd)) 0 0 (fun _ => False) := by
  refine Met.ofW (cc := b_In_storesCell) (maxL := 1) (ret := (some .boolean)) (by decide) rfl ?_
  intro p e s m args below meth c s₁ B hml hv
  obtain ⟨rfl, -⟩ := hv
  have hx := B.exec
  have hb := B.bytes
  have hr := B.returns
  have hlocks := B.notSynchronized
  have hts := fun (w : Cond) (h : w ∈ lw_g) => atoms_spec (ws := mW y_In_storesCell b_In_storesCell 1 (some .boolean)) B.pre w (List.mem_cons_of_mem _ h)
  have hown : s.vm.findClass R_In = some m.cls := findClass_of_methodNamed B.named
  have hl := lv_entry ([.int cd]) (n := 1) (Nat.le_of_ble_eq_true rfl)
  rw [lg_entry_eq]
  generalize (lg_sl ([.int cd]) ++ List.replicate (1 - (lg_sl ([.int cd])).length) Slot.unset).toArray = ls at hl ⊢
  have hl : lv_has ls 1 [(0, .int cd)] := hl
  refine lv_iload_n hx hb d_In_storesCell_0 rfl (lv_at hl 0 rfl) ?_
  refine lv_iconst (v := 2) hx hb d_In_storesCell_1 (by decide) ?_
  refine lv_icmp_eq (tgt := 10) hx hb d_In_storesCell_2 (by decide) (fun h1 => ?_) (fun h1 => ?_)
  · refine lv_iconst (v := 1) hx hb d_In_storesCell_10 (by decide) ?_
    refine lv_goto (tgt := 15) hx hb d_In_storesCell_11 (by decide) ?_
    exact W.zret hx hb hr rfl (fun t ht hW => ⟨_, rfl, (by rw [m_In_storesCell, if_pos h1]), ht⟩) (fun _ h => by cases h) d_In_storesCell_15
  refine lv_iload_n hx hb d_In_storesCell_5 rfl (lv_at hl 0 rfl) ?_
  refine lv_iconst (v := 3) hx hb d_In_storesCell_6 (by decide) ?_
  refine lv_icmp_ne (tgt := 14) hx hb d_In_storesCell_7 (by decide) (fun h2 => ?_) (fun h2 => ?_)
  · refine lv_iconst (v := 0) hx hb d_In_storesCell_14 (by decide) ?_
    exact W.zret hx hb hr rfl (fun t ht hW => ⟨_, rfl, (by rw [m_In_storesCell, if_neg h1, if_neg h2]), ht⟩) (fun _ h => by cases h) d_In_storesCell_15
  refine lv_iconst (v := 1) hx hb d_In_storesCell_10 (by decide) ?_
  refine lv_goto (tgt := 15) hx hb d_In_storesCell_11 (by decide) ?_
  exact W.zret hx hb hr rfl (fun t ht hW => ⟨_, rfl, (by rw [m_In_storesCell, if_neg h1, if_pos h2]), ht⟩) (fun _ h => by cases h) d_In_storesCell_15
def m_In_isKnown (cd : Int32) : Int32 := if cd = (0 : Int32) then (1 : Int32) else if cd = (1 : Int32) then (1 : Int32) else if cd = (2 : Int32) then (1 : Int32) else if cd = (3 : Int32) then (1 : Int32) else if cd = (5 : Int32) then (1 : Int32) else if cd = (7 : Int32) then (1 : Int32) else if cd = (32 : Int32) then (1 : Int32) else if cd = (96 : Int32) then (1 : Int32) else if cd = (97 : Int32) then (1 : Int32) else if cd = (128 : Int32) then (1 : Int32) else if cd = (129 : Int32) then (1 : Int32) else if cd = (135 : Int32) then (1 : Int32) else if (m_In_isArithmetic cd) = (0 : Int32) then if (m_In_isConditional cd) = (0 : Int32) then if (m_In_endsRun cd) = (0 : Int32) then (0 : Int32) else (1 : Int32) else (1 : Int32) else (1 : Int32)
set_option maxHeartbeats 4000000 in
set_option maxRecDepth 100000 in
theorem c_In_isKnown (l : Launch) (cd : Int32) : Met l y_In_isKnown (mW y_In_isKnown b_In_isKnown 1 (some .boolean)) { frames := 1, cells := 0, slots := 0, locals := 20 } (va_Pc [.int cd] (fun _ => True)) (vp_Si (fun r => r = m_In_isKnown cd)) 0 0 (fun _ => False) := by
  refine Met.ofW (cc := b_In_isKnown) (maxL := 1) (ret := (some .boolean)) (by decide) rfl ?_
  intro p e s m args below meth c s₁ B hml hv
  obtain ⟨rfl, -⟩ := hv
  have hx := B.exec
  have hb := B.bytes
  have hr := B.returns
  have hlocks := B.notSynchronized
  have hts := fun (w : Cond) (h : w ∈ lw_g) => atoms_spec (ws := mW y_In_isKnown b_In_isKnown 1 (some .boolean)) B.pre w (List.mem_cons_of_mem _ h)
  have hown : s.vm.findClass R_In = some m.cls := findClass_of_methodNamed B.named
  have hl := lv_entry ([.int cd]) (n := 1) (Nat.le_of_ble_eq_true rfl)
  rw [lg_entry_eq]
  generalize (lg_sl ([.int cd]) ++ List.replicate (1 - (lg_sl ([.int cd])).length) Slot.unset).toArray = ls at hl ⊢
  have hl : lv_has ls 1 [(0, .int cd)] := hl
  refine lv_iload_n hx hb d_In_isKnown_0 rfl (lv_at hl 0 rfl) ?_
  by_cases h1 : cd = (0 : Int32)
  · refine lv_lookup (tgt := 108) (off := 107) hx hb d_In_isKnown_1 (by decide) (by rw [h1] <;> rfl) (by decide) ?_
    refine lv_iconst (v := 1) hx hb d_In_isKnown_108 (by decide) ?_
    exact W.zret hx hb hr rfl (fun t ht hW => ⟨_, rfl, (by rw [m_In_isKnown, if_pos h1]), ht⟩) (fun _ h => by cases h) d_In_isKnown_109
  by_cases h2 : cd = (1 : Int32)
  · refine lv_lookup (tgt := 108) (off := 107) hx hb d_In_isKnown_1 (by decide) (by rw [h2] <;> rfl) (by decide) ?_
    refine lv_iconst (v := 1) hx hb d_In_isKnown_108 (by decide) ?_
    exact W.zret hx hb hr rfl (fun t ht hW => ⟨_, rfl, (by rw [m_In_isKnown, if_neg h1, if_pos h2]), ht⟩) (fun _ h => by cases h) d_In_isKnown_109
  by_cases h3 : cd = (2 : Int32)
  · refine lv_lookup (tgt := 108) (off := 107) hx hb d_In_isKnown_1 (by decide) (by rw [h3] <;> rfl) (by decide) ?_
    refine lv_iconst (v := 1) hx hb d_In_isKnown_108 (by decide) ?_
    exact W.zret hx hb hr rfl (fun t ht hW => ⟨_, rfl, (by rw [m_In_isKnown, if_neg h1, if_neg h2, if_pos h3]), ht⟩) (fun _ h => by cases h) d_In_isKnown_109
  by_cases h4 : cd = (3 : Int32)
  · refine lv_lookup (tgt := 108) (off := 107) hx hb d_In_isKnown_1 (by decide) (by rw [h4] <;> rfl) (by decide) ?_
    refine lv_iconst (v := 1) hx hb d_In_isKnown_108 (by decide) ?_
    exact W.zret hx hb hr rfl (fun t ht hW => ⟨_, rfl, (by rw [m_In_isKnown, if_neg h1, if_neg h2, if_neg h3, if_pos h4]), ht⟩) (fun _ h => by cases h) d_In_isKnown_109
  by_cases h5 : cd = (5 : Int32)
  · refine lv_lookup (tgt := 108) (off := 107) hx hb d_In_isKnown_1 (by decide) (by rw [h5] <;> rfl) (by decide) ?_
    refine lv_iconst (v := 1) hx hb d_In_isKnown_108 (by decide) ?_
    exact W.zret hx hb hr rfl (fun t ht hW => ⟨_, rfl, (by rw [m_In_isKnown, if_neg h1, if_neg h2, if_neg h3, if_neg h4, if_pos h5]), ht⟩) (fun _ h => by cases h) d_In_isKnown_109
  by_cases h6 : cd = (7 : Int32)
  · refine lv_lookup (tgt := 108) (off := 107) hx hb d_In_isKnown_1 (by decide) (by rw [h6] <;> rfl) (by decide) ?_
    refine lv_iconst (v := 1) hx hb d_In_isKnown_108 (by decide) ?_
    exact W.zret hx hb hr rfl (fun t ht hW => ⟨_, rfl, (by rw [m_In_isKnown, if_neg h1, if_neg h2, if_neg h3, if_neg h4, if_neg h5, if_pos h6]), ht⟩) (fun _ h => by cases h) d_In_isKnown_109
  by_cases h7 : cd = (32 : Int32)
  · refine lv_lookup (tgt := 108) (off := 107) hx hb d_In_isKnown_1 (by decide) (by rw [h7] <;> rfl) (by decide) ?_
    refine lv_iconst (v := 1) hx hb d_In_isKnown_108 (by decide) ?_
    exact W.zret hx hb hr rfl (fun t ht hW => ⟨_, rfl, (by rw [m_In_isKnown, if_neg h1, if_neg h2, if_neg h3, if_neg h4, if_neg h5, if_neg h6, if_pos h7]), ht⟩) (fun _ h => by cases h) d_In_isKnown_109
  by_cases h8 : cd = (96 : Int32)
  · refine lv_lookup (tgt := 108) (off := 107) hx hb d_In_isKnown_1 (by decide) (by rw [h8] <;> rfl) (by decide) ?_
    refine lv_iconst (v := 1) hx hb d_In_isKnown_108 (by decide) ?_
    exact W.zret hx hb hr rfl (fun t ht hW => ⟨_, rfl, (by rw [m_In_isKnown, if_neg h1, if_neg h2, if_neg h3, if_neg h4, if_neg h5, if_neg h6, if_neg h7, if_pos h8]), ht⟩) (fun _ h => by cases h) d_In_isKnown_109
  by_cases h9 : cd = (97 : Int32)
  · refine lv_lookup (tgt := 108) (off := 107) hx hb d_In_isKnown_1 (by decide) (by rw [h9] <;> rfl) (by decide) ?_
    refine lv_iconst (v := 1) hx hb d_In_isKnown_108 (by decide) ?_
    exact W.zret hx hb hr rfl (fun t ht hW => ⟨_, rfl, (by rw [m_In_isKnown, if_neg h1, if_neg h2, if_neg h3, if_neg h4, if_neg h5, if_neg h6, if_neg h7, if_neg h8, if_pos h9]), ht⟩) (fun _ h => by cases h) d_In_isKnown_109
  by_cases h10 : cd = (128 : Int32)
  · refine lv_lookup (tgt := 108) (off := 107) hx hb d_In_isKnown_1 (by decide) (by rw [h10] <;> rfl) (by decide) ?_
    refine lv_iconst (v := 1) hx hb d_In_isKnown_108 (by decide) ?_
    exact W.zret hx hb hr rfl (fun t ht hW => ⟨_, rfl, (by rw [m_In_isKnown, if_neg h1, if_neg h2, if_neg h3, if_neg h4, if_neg h5, if_neg h6, if_neg h7, if_neg h8, if_neg h9, if_pos h10]), ht⟩) (fun _ h => by cases h) d_In_isKnown_109
  by_cases h11 : cd = (129 : Int32)
  · refine lv_lookup (tgt := 108) (off := 107) hx hb d_In_isKnown_1 (by decide) (by rw [h11] <;> rfl) (by decide) ?_
    refine lv_iconst (v := 1) hx hb d_In_isKnown_108 (by decide) ?_
    exact W.zret hx hb hr rfl (fun t ht hW => ⟨_, rfl, (by rw [m_In_isKnown, if_neg h1, if_neg h2, if_neg h3, if_neg h4, if_neg h5, if_neg h6, if_neg h7, if_neg h8, if_neg h9, if_neg h10, if_pos h11]), ht⟩) (fun _ h => by cases h) d_In_isKnown_109
  by_cases h12 : cd = (135 : Int32)
  · refine lv_lookup (tgt := 108) (off := 107) hx hb d_In_isKnown_1 (by decide) (by rw [h12] <;> rfl) (by decide) ?_
    refine lv_iconst (v := 1) hx hb d_In_isKnown_108 (by decide) ?_
    exact W.zret hx hb hr rfl (fun t ht hW => ⟨_, rfl, (by rw [m_In_isKnown, if_neg h1, if_neg h2, if_neg h3, if_neg h4, if_neg h5, if_neg h6, if_neg h7, if_neg h8, if_neg h9, if_neg h10, if_neg h11, if_pos h12]), ht⟩) (fun _ h => by cases h) d_In_isKnown_109
  refine lv_lookup (tgt := 110) (off := 109) hx hb d_In_isKnown_1 (by decide) ((lv_osw h1 (by decide)).trans ((lv_osw h2 (by decide)).trans ((lv_osw h3 (by decide)).trans ((lv_osw h4 (by decide)).trans ((lv_osw h5 (by decide)).trans ((lv_osw h6 (by decide)).trans ((lv_osw h7 (by decide)).trans ((lv_osw h8 (by decide)).trans ((lv_osw h9 (by decide)).trans ((lv_osw h10 (by decide)).trans ((lv_osw h11 (by decide)).trans ((lv_osw h12 (by decide)).trans rfl)))))))))))) (by decide) ?_
  refine lv_iload_n hx hb d_In_isKnown_110 rfl (lv_at hl 0 rfl) ?_
  refine vp_callSi (va_Run.run (va_runS (As := [.int cd]) (rest := []) ⟨hx, hb, hml, hown, hts⟩ (c_In_isArithmetic l cd) (va_cwS 1 hts (g_S wd_370 wd_371 wd_36 wd_372) rfl rfl rfl (by decide +kernel) ⟨Nat.le_of_ble_eq_true rfl, Nat.le_of_ble_eq_true rfl⟩) ⟨fun _ _ _ _ q => q, fun _ _ _ => ⟨rfl, trivial⟩⟩ rfl rfl hl.1 rfl (lv_room (Nat.le_of_ble_eq_true rfl)) d_In_isKnown_111 ⟨Nat.le_of_ble_eq_true rfl, Nat.le_of_ble_eq_true rfl⟩)) (fun r1 e1 => ?_)
  subst e1
  refine lv_if_ne (tgt := 131) hx hb d_In_isKnown_114 (by decide) (fun h13 => ?_) (fun h13 => ?_)
  · refine lv_iconst (v := 1) hx hb d_In_isKnown_131 (by decide) ?_
    refine lv_goto (tgt := 136) hx hb d_In_isKnown_132 (by decide) ?_
    exact W.zret hx hb hr rfl (fun t ht hW => ⟨_, rfl, (by rw [m_In_isKnown, if_neg h1, if_neg h2, if_neg h3, if_neg h4, if_neg h5, if_neg h6, if_neg h7, if_neg h8, if_neg h9, if_neg h10, if_neg h11, if_neg h12, if_neg h13]), ht⟩) (fun _ h => by cases h) d_In_isKnown_136
  refine lv_iload_n hx hb d_In_isKnown_117 rfl (lv_at hl 0 rfl) ?_
  refine vp_callSi (va_Run.run (va_runS (As := [.int cd]) (rest := []) ⟨hx, hb, hml, hown, hts⟩ (c_In_isConditional l cd) (va_cwS 1 hts (g_S wd_373 wd_374 wd_36 wd_375) rfl rfl rfl (by decide +kernel) ⟨Nat.le_of_ble_eq_true rfl, Nat.le_of_ble_eq_true rfl⟩) ⟨fun _ _ _ _ q => q, fun _ _ _ => ⟨rfl, trivial⟩⟩ rfl rfl hl.1 rfl (lv_room (Nat.le_of_ble_eq_true rfl)) d_In_isKnown_118 ⟨Nat.le_of_ble_eq_true rfl, Nat.le_of_ble_eq_true rfl⟩)) (fun r2 e2 => ?_)
  subst e2
  refine lv_if_ne (tgt := 131) hx hb d_In_isKnown_121 (by decide) (fun h14 => ?_) (fun h14 => ?_)
  · refine lv_iconst (v := 1) hx hb d_In_isKnown_131 (by decide) ?_
    refine lv_goto (tgt := 136) hx hb d_In_isKnown_132 (by decide) ?_
    exact W.zret hx hb hr rfl (fun t ht hW => ⟨_, rfl, (by rw [m_In_isKnown, if_neg h1, if_neg h2, if_neg h3, if_neg h4, if_neg h5, if_neg h6, if_neg h7, if_neg h8, if_neg h9, if_neg h10, if_neg h11, if_neg h12, if_pos h13, if_neg h14]), ht⟩) (fun _ h => by cases h) d_In_isKnown_136
  refine lv_iload_n hx hb d_In_isKnown_124 rfl (lv_at hl 0 rfl) ?_
  refine vp_callSi (va_Run.run (va_runS (As := [.int cd]) (rest := []) ⟨hx, hb, hml, hown, hts⟩ (c_In_endsRun l cd) (va_cwS 1 hts (g_S wd_376 wd_377 wd_36 wd_378) rfl rfl rfl (by decide +kernel) ⟨Nat.le_of_ble_eq_true rfl, Nat.le_of_ble_eq_true rfl⟩) ⟨fun _ _ _ _ q => q, fun _ _ _ => ⟨rfl, trivial⟩⟩ rfl rfl hl.1 rfl (lv_room (Nat.le_of_ble_eq_true rfl)) d_In_isKnown_125 ⟨Nat.le_of_ble_eq_true rfl, Nat.le_of_ble_eq_true rfl⟩)) (fun r3 e3 => ?_)
  subst e3
  refine lv_if_eq (tgt := 135) hx hb d_In_isKnown_128 (by decide) (fun h15 => ?_) (fun h15 => ?_)
  · refine lv_iconst (v := 0) hx hb d_In_isKnown_135 (by decide) ?_
    exact W.zret hx hb hr rfl (fun t ht hW => ⟨_, rfl, (by rw [m_In_isKnown, if_neg h1, if_neg h2, if_neg h3, if_neg h4, if_neg h5, if_neg h6, if_neg h7, if_neg h8, if_neg h9, if_neg h10, if_neg h11, if_neg h12, if_pos h13, if_pos h14, if_pos h15]), ht⟩) (fun _ h => by cases h) d_In_isKnown_136
  refine lv_iconst (v := 1) hx hb d_In_isKnown_131 (by decide) ?_
  refine lv_goto (tgt := 136) hx hb d_In_isKnown_132 (by decide) ?_
  exact W.zret hx hb hr rfl (fun t ht hW => ⟨_, rfl, (by rw [m_In_isKnown, if_neg h1, if_neg h2, if_neg h3, if_neg h4, if_neg h5, if_neg h6, if_neg h7, if_neg h8, if_neg h9, if_neg h10, if_neg h11, if_neg h12, if_pos h13, if_pos h14, if_neg h15]), ht⟩) (fun _ h => by cases h) d_In_isKnown_136
def m_Ch_isOperandFit (cd : Int32) (k : Int64) : Int32 := if (m_In_loadsCell cd) = (0 : Int32) then if (m_In_storesCell cd) = (0 : Int32) then if cd = (32 : Int32) then if (lg_cmp (k - k / (4 : Int64) * (4 : Int64)) (0 : Int64)) = (0 : Int32) then if (0 : Int32) ≤ (lg_cmp k (64 : Int64)) then (0 : Int32) else (1 : Int32) else (0 : Int32) else if cd = (52 : Int32) then if (lg_cmp k (0 : Int64)) = (0 : Int32) then (0 : Int32) else (1 : Int32) else if cd = (100 : Int32) then if (0 : Int32) ≤ (lg_cmp k (32 : Int64)) then (0 : Int32) else (1 : Int32) else if cd = (116 : Int32) then if (0 : Int32) ≤ (lg_cmp k (32 : Int64)) then (0 : Int32) else (1 : Int32) else (1 : Int32) else if (0 : Int32) ≤ (lg_cmp k (16 : Int64)) then (0 : Int32) else (1 : Int32) else if (0 : Int32) ≤ (lg_cmp k (16 : Int64)) then (0 : Int32) else (1 : Int32)
set_option maxHeartbeats 4000000 in
set_option maxRecDepth 100000 in
theorem c_Ch_isOperandFit (l : Launch) (cd : Int32) (k : Int64) : Met l y_Ch_isOperandFit (mW y_Ch_isOperandFit b_Ch_isOperandFit 3 (some .boolean)) { frames := 1, cells := 0, slots := 0, locals := 20 } (va_Pc [.int cd, .long k] (fun _ => True)) (vp_Si (fun r => r = m_Ch_isOperandFit cd k)) 0 0 (fun _ => False) := by
  refine Met.ofW (cc := b_Ch_isOperandFit) (maxL := 3) (ret := (some .boolean)) (by decide) rfl ?_
  intro p e s m args below meth c s₁ B hml hv
  obtain ⟨rfl, -⟩ := hv
  have hx := B.exec
  have hb := B.bytes
  have hr := B.returns
  have hlocks := B.notSynchronized
  have hts := fun (w : Cond) (h : w ∈ lw_g) => atoms_spec (ws := mW y_Ch_isOperandFit b_Ch_isOperandFit 3 (some .boolean)) B.pre w (List.mem_cons_of_mem _ h)
  have hown : s.vm.findClass R_Ch = some m.cls := findClass_of_methodNamed B.named
  have hl := lv_entry ([.int cd, .long k]) (n := 3) (Nat.le_of_ble_eq_true rfl)
  rw [lg_entry_eq]
  generalize (lg_sl ([.int cd, .long k]) ++ List.replicate (3 - (lg_sl ([.int cd, .long k])).length) Slot.unset).toArray = ls at hl ⊢
  have hl : lv_has ls 3 [(0, .int cd), (1, .long k)] := hl
  refine lv_iload_n hx hb d_Ch_isOperandFit_0 rfl (lv_at hl 0 rfl) ?_
  refine vp_callSi (va_Run.run (va_runS (As := [.int cd]) (rest := []) ⟨hx, hb, hml, hown, hts⟩ (c_In_loadsCell l cd) (va_cwS 1 hts (g_S wd_385 wd_386 wd_36 wd_387) rfl rfl rfl (by decide +kernel) ⟨Nat.le_of_ble_eq_true rfl, Nat.le_of_ble_eq_true rfl⟩) ⟨fun _ _ _ _ q => q, fun _ _ _ => ⟨rfl, trivial⟩⟩ rfl rfl hl.1 rfl (lv_room (Nat.le_of_ble_eq_true rfl)) d_Ch_isOperandFit_1 ⟨Nat.le_of_ble_eq_true rfl, Nat.le_of_ble_eq_true rfl⟩)) (fun r1 e1 => ?_)
  subst e1
  refine lv_if_ne (tgt := 14) hx hb d_Ch_isOperandFit_4 (by decide) (fun h1 => ?_) (fun h1 => ?_)
  · refine lv_lload_n hx hb d_Ch_isOperandFit_14 rfl (lv_at hl 1 rfl) ?_
    refine lv_ldc2 (v := 16) hx hb hown (hts _ wd_391) d_Ch_isOperandFit_15 ?_
    refine W.lcmp hx hb d_Ch_isOperandFit_18 ?_
    refine lv_if_ge (tgt := 26) hx hb d_Ch_isOperandFit_19 (by decide) (fun h2 => ?_) (fun h2 => ?_)
    · refine lv_iconst (v := 0) hx hb d_Ch_isOperandFit_26 (by decide) ?_
      exact W.zret hx hb hr rfl (fun t ht hW => ⟨_, rfl, (by rw [m_Ch_isOperandFit, if_neg h1, if_pos h2]), ht⟩) (fun _ h => by cases h) d_Ch_isOperandFit_27
    refine lv_iconst (v := 1) hx hb d_Ch_isOperandFit_22 (by decide) ?_
    refine lv_goto (tgt := 27) hx hb d_Ch_isOperandFit_23 (by decide) ?_
    exact W.zret hx hb hr rfl (fun t ht hW => ⟨_, rfl, (by rw [m_Ch_isOperandFit, if_neg h1, if_neg h2]), ht⟩) (fun _ h => by cases h) d_Ch_isOperandFit_27
  refine lv_iload_n hx hb d_Ch_isOperandFit_7 rfl (lv_at hl 0 rfl) ?_
  refine vp_callSi (va_Run.run (va_runS (As := [.int cd]) (rest := []) ⟨hx, hb, hml, hown, hts⟩ (c_In_storesCell l cd) (va_cwS 1 hts (g_S wd_388 wd_389 wd_36 wd_390) rfl rfl rfl (by decide +kernel) ⟨Nat.le_of_ble_eq_true rfl, Nat.le_of_ble_eq_true rfl⟩) ⟨fun _ _ _ _ q => q, fun _ _ _ => ⟨rfl, trivial⟩⟩ rfl rfl hl.1 rfl (lv_room (Nat.le_of_ble_eq_true rfl)) d_Ch_isOperandFit_8 ⟨Nat.le_of_ble_eq_true rfl, Nat.le_of_ble_eq_true rfl⟩)) (fun r2 e2 => ?_)
  subst e2
  refine lv_if_eq (tgt := 28) hx hb d_Ch_isOperandFit_11 (by decide) (fun h3 => ?_) (fun h3 => ?_)
  · refine lv_iload_n hx hb d_Ch_isOperandFit_28 rfl (lv_at hl 0 rfl) ?_
    by_cases h4 : cd = (32 : Int32)
    · refine lv_lookup (tgt := 72) (off := 43) hx hb d_Ch_isOperandFit_29 (by decide) (by rw [h4] <;> rfl) (by decide) ?_
      refine lv_lload_n hx hb d_Ch_isOperandFit_72 rfl (lv_at hl 1 rfl) ?_
      refine lv_ldc2 (v := 4) hx hb hown (hts _ wd_392) d_Ch_isOperandFit_73 ?_
      refine lv_lrem hx hb d_Ch_isOperandFit_76 (by decide) ?_
      refine lv_lconst (v := 0) hx hb d_Ch_isOperandFit_77 (by decide) ?_
      refine W.lcmp hx hb d_Ch_isOperandFit_78 ?_
      refine lv_if_ne (tgt := 94) hx hb d_Ch_isOperandFit_79 (by decide) (fun h5 => ?_) (fun h5 => ?_)
      · refine lv_iconst (v := 0) hx hb d_Ch_isOperandFit_94 (by decide) ?_
        exact W.zret hx hb hr rfl (fun t ht hW => ⟨_, rfl, (by rw [m_Ch_isOperandFit, if_pos h1, if_pos h3, if_pos h4, if_neg h5]), ht⟩) (fun _ h => by cases h) d_Ch_isOperandFit_95
      refine lv_lload_n hx hb d_Ch_isOperandFit_82 rfl (lv_at hl 1 rfl) ?_
      refine lv_ldc2 (v := 64) hx hb hown (hts _ wd_393) d_Ch_isOperandFit_83 ?_
      refine W.lcmp hx hb d_Ch_isOperandFit_86 ?_
      refine lv_if_ge (tgt := 94) hx hb d_Ch_isOperandFit_87 (by decide) (fun h6 => ?_) (fun h6 => ?_)
      · refine lv_iconst (v := 0) hx hb d_Ch_isOperandFit_94 (by decide) ?_
        exact W.zret hx hb hr rfl (fun t ht hW => ⟨_, rfl, (by rw [m_Ch_isOperandFit, if_pos h1, if_pos h3, if_pos h4, if_pos h5, if_pos h6]), ht⟩) (fun _ h => by cases h) d_Ch_isOperandFit_95
      refine lv_iconst (v := 1) hx hb d_Ch_isOperandFit_90 (by decide) ?_
      refine lv_goto (tgt := 95) hx hb d_Ch_isOperandFit_91 (by decide) ?_
      exact W.zret hx hb hr rfl (fun t ht hW => ⟨_, rfl, (by rw [m_Ch_isOperandFit, if_pos h1, if_pos h3, if_pos h4, if_pos h5, if_neg h6]), ht⟩) (fun _ h => by cases h) d_Ch_isOperandFit_95
    by_cases h7 : cd = (52 : Int32)
    · refine lv_lookup (tgt := 96) (off := 67) hx hb d_Ch_isOperandFit_29 (by decide) (by rw [h7] <;> rfl) (by decide) ?_
      refine lv_lload_n hx hb d_Ch_isOperandFit_96 rfl (lv_at hl 1 rfl) ?_
      refine lv_lconst (v := 0) hx hb d_Ch_isOperandFit_97 (by decide) ?_
      refine W.lcmp hx hb d_Ch_isOperandFit_98 ?_
      refine lv_if_eq (tgt := 106) hx hb d_Ch_isOperandFit_99 (by decide) (fun h8 => ?_) (fun h8 => ?_)
      · refine lv_iconst (v := 0) hx hb d_Ch_isOperandFit_106 (by decide) ?_
        exact W.zret hx hb hr rfl (fun t ht hW => ⟨_, rfl, (by rw [m_Ch_isOperandFit, if_pos h1, if_pos h3, if_neg h4, if_pos h7, if_pos h8]), ht⟩) (fun _ h => by cases h) d_Ch_isOperandFit_107
      refine lv_iconst (v := 1) hx hb d_Ch_isOperandFit_102 (by decide) ?_
      refine lv_goto (tgt := 107) hx hb d_Ch_isOperandFit_103 (by decide) ?_
      exact W.zret hx hb hr rfl (fun t ht hW => ⟨_, rfl, (by rw [m_Ch_isOperandFit, if_pos h1, if_pos h3, if_neg h4, if_pos h7, if_neg h8]), ht⟩) (fun _ h => by cases h) d_Ch_isOperandFit_107
    by_cases h9 : cd = (100 : Int32)
    · refine lv_lookup (tgt := 108) (off := 79) hx hb d_Ch_isOperandFit_29 (by decide) (by rw [h9] <;> rfl) (by decide) ?_
      refine lv_lload_n hx hb d_Ch_isOperandFit_108 rfl (lv_at hl 1 rfl) ?_
      refine lv_ldc2 (v := 32) hx hb hown (hts _ wd_394) d_Ch_isOperandFit_109 ?_
      refine W.lcmp hx hb d_Ch_isOperandFit_112 ?_
      refine lv_if_ge (tgt := 120) hx hb d_Ch_isOperandFit_113 (by decide) (fun h10 => ?_) (fun h10 => ?_)
      · refine lv_iconst (v := 0) hx hb d_Ch_isOperandFit_120 (by decide) ?_
        exact W.zret hx hb hr rfl (fun t ht hW => ⟨_, rfl, (by rw [m_Ch_isOperandFit, if_pos h1, if_pos h3, if_neg h4, if_neg h7, if_pos h9, if_pos h10]), ht⟩) (fun _ h => by cases h) d_Ch_isOperandFit_121
      refine lv_iconst (v := 1) hx hb d_Ch_isOperandFit_116 (by decide) ?_
      refine lv_goto (tgt := 121) hx hb d_Ch_isOperandFit_117 (by decide) ?_
      exact W.zret hx hb hr rfl (fun t ht hW => ⟨_, rfl, (by rw [m_Ch_isOperandFit, if_pos h1, if_pos h3, if_neg h4, if_neg h7, if_pos h9, if_neg h10]), ht⟩) (fun _ h => by cases h) d_Ch_isOperandFit_121
    by_cases h11 : cd = (116 : Int32)
    · refine lv_lookup (tgt := 108) (off := 79) hx hb d_Ch_isOperandFit_29 (by decide) (by rw [h11] <;> rfl) (by decide) ?_
      refine lv_lload_n hx hb d_Ch_isOperandFit_108 rfl (lv_at hl 1 rfl) ?_
      refine lv_ldc2 (v := 32) hx hb hown (hts _ wd_394) d_Ch_isOperandFit_109 ?_
      refine W.lcmp hx hb d_Ch_isOperandFit_112 ?_
      refine lv_if_ge (tgt := 120) hx hb d_Ch_isOperandFit_113 (by decide) (fun h12 => ?_) (fun h12 => ?_)
      · refine lv_iconst (v := 0) hx hb d_Ch_isOperandFit_120 (by decide) ?_
        exact W.zret hx hb hr rfl (fun t ht hW => ⟨_, rfl, (by rw [m_Ch_isOperandFit, if_pos h1, if_pos h3, if_neg h4, if_neg h7, if_neg h9, if_pos h11, if_pos h12]), ht⟩) (fun _ h => by cases h) d_Ch_isOperandFit_121
      refine lv_iconst (v := 1) hx hb d_Ch_isOperandFit_116 (by decide) ?_
      refine lv_goto (tgt := 121) hx hb d_Ch_isOperandFit_117 (by decide) ?_
      exact W.zret hx hb hr rfl (fun t ht hW => ⟨_, rfl, (by rw [m_Ch_isOperandFit, if_pos h1, if_pos h3, if_neg h4, if_neg h7, if_neg h9, if_pos h11, if_neg h12]), ht⟩) (fun _ h => by cases h) d_Ch_isOperandFit_121
    refine lv_lookup (tgt := 122) (off := 93) hx hb d_Ch_isOperandFit_29 (by decide) ((lv_osw h4 (by decide)).trans ((lv_osw h7 (by decide)).trans ((lv_osw h9 (by decide)).trans ((lv_osw h11 (by decide)).trans rfl)))) (by decide) ?_
    refine lv_iconst (v := 1) hx hb d_Ch_isOperandFit_122 (by decide) ?_
    exact W.zret hx hb hr rfl (fun t ht hW => ⟨_, rfl, (by rw [m_Ch_isOperandFit, if_pos h1, if_pos h3, if_neg h4, if_neg h7, if_neg h9, if_neg h11]), ht⟩) (fun _ h => by cases h) d_Ch_isOperandFit_123
  refine lv_lload_n hx hb d_Ch_isOperandFit_14 rfl (lv_at hl 1 rfl) ?_
  refine lv_ldc2 (v := 16) hx hb hown (hts _ wd_391) d_Ch_isOperandFit_15 ?_
  refine W.lcmp hx hb d_Ch_isOperandFit_18 ?_
  refine lv_if_ge (tgt := 26) hx hb d_Ch_isOperandFit_19 (by decide) (fun h13 => ?_) (fun h13 => ?_)
  · refine lv_iconst (v := 0) hx hb d_Ch_isOperandFit_26 (by decide) ?_
    exact W.zret hx hb hr rfl (fun t ht hW => ⟨_, rfl, (by rw [m_Ch_isOperandFit, if_pos h1, if_neg h3, if_pos h13]), ht⟩) (fun _ h => by cases h) d_Ch_isOperandFit_27
  refine lv_iconst (v := 1) hx hb d_Ch_isOperandFit_22 (by decide) ?_
  refine lv_goto (tgt := 27) hx hb d_Ch_isOperandFit_23 (by decide) ?_
  exact W.zret hx hb hr rfl (fun t ht hW => ⟨_, rfl, (by rw [m_Ch_isOperandFit, if_pos h1, if_neg h3, if_neg h13]), ht⟩) (fun _ h => by cases h) d_Ch_isOperandFit_27
def m_Ch_longestSkip (cd : Int32) (z : Int64) : Int64 := if cd = (5 : Int32) then (1 : Int64) + (m_In_operandOf z) else if (m_In_isConditional cd) = (0 : Int32) then (0 : Int64) else ((1 : Int32) + (if (m_In_distanceIfTrue z) < (m_In_distanceIfFalse z) then m_In_distanceIfFalse z else m_In_distanceIfTrue z)).toInt64
set_option maxHeartbeats 4000000 in
set_option maxRecDepth 100000 in
theorem c_Ch_longestSkip (l : Launch) (cd : Int32) (z : Int64) : Met l y_Ch_longestSkip (mW y_Ch_longestSkip b_Ch_longestSkip 5 (some .long)) { frames := 1, cells := 0, slots := 0, locals := 21 } (va_Pc [.int cd, .long z] (fun _ => True)) (vp_Sl (fun r => r = m_Ch_longestSkip cd z)) 0 0 (fun _ => False) := by
  refine Met.ofW (cc := b_Ch_longestSkip) (maxL := 5) (ret := (some .long)) (by decide) rfl ?_
  intro p e s m args below meth c s₁ B hml hv
  obtain ⟨rfl, -⟩ := hv
  have hx := B.exec
  have hb := B.bytes
  have hr := B.returns
  have hlocks := B.notSynchronized
  have hts := fun (w : Cond) (h : w ∈ lw_g) => atoms_spec (ws := mW y_Ch_longestSkip b_Ch_longestSkip 5 (some .long)) B.pre w (List.mem_cons_of_mem _ h)
  have hown : s.vm.findClass R_Ch = some m.cls := findClass_of_methodNamed B.named
  have hl := lv_entry ([.int cd, .long z]) (n := 5) (Nat.le_of_ble_eq_true rfl)
  rw [lg_entry_eq]
  generalize (lg_sl ([.int cd, .long z]) ++ List.replicate (5 - (lg_sl ([.int cd, .long z])).length) Slot.unset).toArray = ls at hl ⊢
  have hl : lv_has ls 5 [(0, .int cd), (1, .long z)] := hl
  refine lv_iload_n hx hb d_Ch_longestSkip_0 rfl (lv_at hl 0 rfl) ?_
  refine lv_iconst (v := 5) hx hb d_Ch_longestSkip_1 (by decide) ?_
  refine lv_icmp_ne (tgt := 12) hx hb d_Ch_longestSkip_2 (by decide) (fun h1 => ?_) (fun h1 => ?_)
  · refine lv_iload_n hx hb d_Ch_longestSkip_12 rfl (lv_at hl 0 rfl) ?_
    refine vp_callSi (va_Run.run (va_runS (As := [.int cd]) (rest := []) ⟨hx, hb, hml, hown, hts⟩ (c_In_isConditional l cd) (va_cwS 1 hts (g_S wd_398 wd_374 wd_36 wd_375) rfl rfl rfl (by decide +kernel) ⟨Nat.le_of_ble_eq_true rfl, Nat.le_of_ble_eq_true rfl⟩) ⟨fun _ _ _ _ q => q, fun _ _ _ => ⟨rfl, trivial⟩⟩ rfl rfl hl.1 rfl (lv_room (Nat.le_of_ble_eq_true rfl)) d_Ch_longestSkip_13 ⟨Nat.le_of_ble_eq_true rfl, Nat.le_of_ble_eq_true rfl⟩)) (fun r1 e1 => ?_)
    subst e1
    refine lv_if_ne (tgt := 21) hx hb d_Ch_longestSkip_16 (by decide) (fun h2 => ?_) (fun h2 => ?_)
    · refine lv_lload_n hx hb d_Ch_longestSkip_21 rfl (lv_at hl 1 rfl) ?_
      refine vp_callSi (va_Run.run (va_runS (As := [.long z]) (rest := []) ⟨hx, hb, hml, hown, hts⟩ (c_In_distanceIfTrue l z) (va_cwS 1 hts (g_S wd_399 wd_400 wd_36 wd_401) rfl rfl rfl (by decide +kernel) ⟨Nat.le_of_ble_eq_true rfl, Nat.le_of_ble_eq_true rfl⟩) ⟨fun _ _ _ _ q => q, fun _ _ _ => ⟨rfl, trivial⟩⟩ rfl rfl hl.1 rfl (lv_room (Nat.le_of_ble_eq_true rfl)) d_Ch_longestSkip_22 ⟨Nat.le_of_ble_eq_true rfl, Nat.le_of_ble_eq_true rfl⟩)) (fun r2 e2 => ?_)
      subst e2
      refine lv_istore_n hx hb d_Ch_longestSkip_25 rfl hl (by decide) rfl (fun ls hl => ?_)
      have hl : lv_has ls 5 [(3, .int (m_In_distanceIfTrue z)), (0, .int cd), (1, .long z)] := hl
      refine lv_lload_n hx hb d_Ch_longestSkip_26 rfl (lv_at hl 2 rfl) ?_
      refine vp_callSi (va_Run.run (va_runS (As := [.long z]) (rest := []) ⟨hx, hb, hml, hown, hts⟩ (c_In_distanceIfFalse l z) (va_cwS 1 hts (g_S wd_403 wd_404 wd_36 wd_405) rfl rfl rfl (by decide +kernel) ⟨Nat.le_of_ble_eq_true rfl, Nat.le_of_ble_eq_true rfl⟩) ⟨fun _ _ _ _ q => q, fun _ _ _ => ⟨rfl, trivial⟩⟩ rfl rfl hl.1 rfl (lv_room (Nat.le_of_ble_eq_true rfl)) d_Ch_longestSkip_27 ⟨Nat.le_of_ble_eq_true rfl, Nat.le_of_ble_eq_true rfl⟩)) (fun r3 e3 => ?_)
      subst e3
      refine lv_istore hx hb d_Ch_longestSkip_30 hl (by decide) rfl (fun ls hl => ?_)
      have hl : lv_has ls 5 [(4, .int (m_In_distanceIfFalse z)), (3, .int (m_In_distanceIfTrue z)), (0, .int cd), (1, .long z)] := hl
      refine lv_iconst (v := 1) hx hb d_Ch_longestSkip_32 (by decide) ?_
      refine lv_iload_n hx hb d_Ch_longestSkip_33 rfl (lv_at hl 1 rfl) ?_
      refine lv_iload hx hb d_Ch_longestSkip_34 (lv_at hl 0 rfl) ?_
      refine va_mmax hx hb (hml.trans hl.1.symm) hown (hts _ wd_406) (hts _ wd_407) (hts _ wd_37) (hts _ wd_408) (Nat.le_of_ble_eq_true rfl) (Nat.le_of_ble_eq_true rfl) (Nat.le_refl _) (Nat.le_refl _) d_Ch_longestSkip_36 ?_
      refine lv_iadd hx hb d_Ch_longestSkip_39 ?_
      refine lv_i2l hx hb d_Ch_longestSkip_40 rfl ?_
      exact W.lret hx hb hr (fun t ht hW => ⟨_, rfl, (by rw [m_Ch_longestSkip, if_neg h1, if_neg h2]), ht⟩) (fun _ h => by cases h) d_Ch_longestSkip_41
    refine lv_lconst (v := 0) hx hb d_Ch_longestSkip_19 (by decide) ?_
    exact W.lret hx hb hr (fun t ht hW => ⟨_, rfl, (by rw [m_Ch_longestSkip, if_neg h1, if_pos h2]), ht⟩) (fun _ h => by cases h) d_Ch_longestSkip_20
  refine lv_lconst (v := 1) hx hb d_Ch_longestSkip_5 (by decide) ?_
  refine lv_lload_n hx hb d_Ch_longestSkip_6 rfl (lv_at hl 1 rfl) ?_
  refine vp_callSl (va_Run.run (va_runS (As := [.long z]) (rest := [.long (1 : Int64)]) ⟨hx, hb, hml, hown, hts⟩ (c_In_operandOf l z) (va_cwS 1 hts (g_S wd_379 wd_380 wd_36 wd_381) rfl rfl rfl (by decide +kernel) ⟨Nat.le_of_ble_eq_true rfl, Nat.le_of_ble_eq_true rfl⟩) ⟨fun _ _ _ _ q => q, fun _ _ _ => ⟨rfl, trivial⟩⟩ rfl rfl hl.1 rfl (lv_room (Nat.le_of_ble_eq_true rfl)) d_Ch_longestSkip_7 ⟨Nat.le_of_ble_eq_true rfl, Nat.le_of_ble_eq_true rfl⟩)) (fun r4 e4 => ?_)
  subst e4
  refine lv_ladd hx hb d_Ch_longestSkip_10 ?_
  exact W.lret hx hb hr (fun t ht hW => ⟨_, rfl, (by rw [m_Ch_longestSkip, if_pos h1]), ht⟩) (fun _ h => by cases h) d_Ch_longestSkip_11
theorem z_below (u v : Int64) : narrow .boolean (.int (m_Co_isBelow u v)) = .int (m_Co_isBelow u v) := by
  unfold m_Co_isBelow
  split <;> rfl
/-! What the helpers answer, as numbers -/
theorem uN_s16 (x : Int64) : uN (x.toUInt64 >>> ((16 : Int32).toInt64.toUInt64 &&& Int64.toUInt64 63)).toInt64 = uN x / 65536 := by
  have h : ((16 : Int32).toInt64.toUInt64 &&& Int64.toUInt64 63).toNat % 64 = 16 := by decide
  rw [uN_shr, h]
theorem uN_s24 (x : Int64) : uN (x.toUInt64 >>> ((24 : Int32).toInt64.toUInt64 &&& Int64.toUInt64 63)).toInt64 = uN x / 16777216 := by
  have h : ((24 : Int32).toInt64.toUInt64 &&& Int64.toUInt64 63).toNat % 64 = 24 := by decide
  rw [uN_shr, h]
theorem un_n (v : Int32) : uN (m_F_unsigned v) = iN v := by
  unfold m_F_unsigned
  exact uN_ext v
theorem code_n (z : Int64) : iN (m_In_codeOf z) = uN z % 65536 := by
  unfold m_In_codeOf
  rw [iN_tr, uN_m16]
  omega
theorem opnd_n (z : Int64) : uN (m_In_operandOf z) = uN z / 4294967296 := by
  unfold m_In_operandOf
  exact uN_s32 z
theorem dT_n (z : Int64) : iN (m_In_distanceIfTrue z) = uN z / 65536 % 256 := by
  unfold m_In_distanceIfTrue
  rw [iN_tr, uN_m8, uN_s16]
  omega
theorem dF_n (z : Int64) : iN (m_In_distanceIfFalse z) = uN z / 16777216 % 256 := by
  unfold m_In_distanceIfFalse
  rw [iN_tr, uN_m8, uN_s24]
  omega
/-! The known codes -/
def KL : List Int32 := [0, 32, 96, 128, 1, 97, 129, 2, 3, 7, 135, 5, 4, 20, 36, 52, 68, 84, 100, 116, 132, 164, 12, 28, 44, 60, 76, 92, 108, 124, 172, 21, 37, 53, 69, 29, 45, 61, 77, 6, 22]
theorem kl_not {cd : Int32} (h : ¬ cd ∈ KL) {x : Int32} (hx : x ∈ KL) : ¬ cd = x := fun q => h (by rw [q]; exact hx)
theorem ar_in (cd : Int32) : m_In_isArithmetic cd = 0 ∨ cd ∈ KL := by
  by_cases h : cd ∈ KL
  · exact Or.inr h
  · left
    simp only [KL, List.mem_cons, List.not_mem_nil, or_false, not_or] at h
    simp [m_In_isArithmetic, h]
theorem co_in (cd : Int32) : m_In_isConditional cd = 0 ∨ cd ∈ KL := by
  by_cases h : cd ∈ KL
  · exact Or.inr h
  · left
    simp only [KL, List.mem_cons, List.not_mem_nil, or_false, not_or] at h
    simp [m_In_isConditional, h]
theorem en_in (cd : Int32) : m_In_endsRun cd = 0 ∨ cd ∈ KL := by
  by_cases h : cd ∈ KL
  · exact Or.inr h
  · left
    simp only [KL, List.mem_cons, List.not_mem_nil, or_false, not_or] at h
    simp [m_In_endsRun, h]
theorem known_in {cd : Int32} (h0 : ¬ m_In_isKnown cd = 0) : cd ∈ KL := by
  by_cases h : cd ∈ KL
  · exact h
  · exfalso
    apply h0
    have ha := (ar_in cd).resolve_right h
    have hc := (co_in cd).resolve_right h
    have he := (en_in cd).resolve_right h
    simp only [KL, List.mem_cons, List.not_mem_nil, or_false, not_or] at h
    simp [m_In_isKnown, h, ha, hc, he]
/-! What an instruction's operand must be, for the machine and for the checker's row -/
def OKz (z : Int64) : Prop :=
  ((m_In_codeOf z &&& (7 : Int32) = (0 : Int32) ∨ m_In_codeOf z &&& (7 : Int32) = (1 : Int32)) → m_In_codeOf z &&& (240 : Int32) = (32 : Int32) → vp_in ((m_In_operandOf z).toInt32 / (4 : Int32)) 16) ∧
  ((m_In_codeOf z &&& (7 : Int32) = (0 : Int32) ∨ m_In_codeOf z &&& (7 : Int32) = (1 : Int32)) → m_In_codeOf z &&& (240 : Int32) = (96 : Int32) → vp_in (m_In_operandOf z).toInt32 16) ∧
  ((m_In_codeOf z &&& (7 : Int32) = (2 : Int32) ∨ m_In_codeOf z &&& (7 : Int32) = (3 : Int32)) → vp_in (m_In_operandOf z).toInt32 16)
theorem okz_w {z : Int64} (h : OKz z) (h1 : m_In_codeOf z &&& (7 : Int32) = (0 : Int32) ∨ m_In_codeOf z &&& (7 : Int32) = (1 : Int32)) : m_In_codeOf z &&& (240 : Int32) = (32 : Int32) → vp_in ((m_In_operandOf z).toInt32 / (4 : Int32)) 16 := h.1 h1
theorem okz_c {z : Int64} (h : OKz z) (h1 : m_In_codeOf z &&& (7 : Int32) = (0 : Int32) ∨ m_In_codeOf z &&& (7 : Int32) = (1 : Int32)) : m_In_codeOf z &&& (240 : Int32) = (96 : Int32) → vp_in (m_In_operandOf z).toInt32 16 := h.2.1 h1
theorem okz_s {z : Int64} (h : OKz z) (h1 : m_In_codeOf z &&& (7 : Int32) = (2 : Int32) ∨ m_In_codeOf z &&& (7 : Int32) = (3 : Int32)) : vp_in (m_In_operandOf z).toInt32 16 := h.2.2 h1
def OKp (z : Int64) (nx : Int32) : Prop :=
  (m_In_codeOf z = (5 : Int32) → vp_in (nx + (m_In_operandOf z).toInt32) 64) ∧
  (¬ m_In_codeOf z = (5 : Int32) → ¬ m_In_isConditional (m_In_codeOf z) = (0 : Int32) → vp_in (nx + m_In_distanceIfTrue z) 64 ∧ vp_in (nx + m_In_distanceIfFalse z) 64) ∧
  (¬ m_In_codeOf z = (5 : Int32) → m_In_isConditional (m_In_codeOf z) = (0 : Int32) → m_In_endsRun (m_In_codeOf z) = (0 : Int32) → vp_in nx 64)
theorem okp_k {z : Int64} {nx : Int32} (h : OKp z nx) (h1 : m_In_codeOf z = (5 : Int32)) : vp_in (nx + (m_In_operandOf z).toInt32) 64 := h.1 h1
theorem okp_t {z : Int64} {nx : Int32} (h : OKp z nx) (h1 : ¬ m_In_codeOf z = (5 : Int32)) (h2 : ¬ m_In_isConditional (m_In_codeOf z) = (0 : Int32)) : vp_in (nx + m_In_distanceIfTrue z) 64 := (h.2.1 h1 h2).1
theorem okp_f {z : Int64} {nx : Int32} (h : OKp z nx) (h1 : ¬ m_In_codeOf z = (5 : Int32)) (h2 : ¬ m_In_isConditional (m_In_codeOf z) = (0 : Int32)) : vp_in (nx + m_In_distanceIfFalse z) 64 := (h.2.1 h1 h2).2
theorem okp_n {z : Int64} {nx : Int32} (h : OKp z nx) (h1 : ¬ m_In_codeOf z = (5 : Int32)) (h2 : m_In_isConditional (m_In_codeOf z) = (0 : Int32)) (h3 : m_In_endsRun (m_In_codeOf z) = (0 : Int32)) : vp_in nx 64 := h.2.2 h1 h2 h3
/-! Bounds of loops -/
theorem nj_lt {x : Int32} {j K : Nat} (hx : iN x ≤ K) (hK : K < 2147483648) (hj : j ≤ K) (h : ¬ x ≤ nI j) : j < iN x := by
  have e : iN (nI j) = j := by rw [iN_nI]; omega
  rw [le_n (by omega) (by omega), e] at h
  omega
theorem ix_arg {i : Int32} (h : ¬ m_Ca_hasArgument i = (0 : Int32)) : vp_in i 6 := by
  unfold m_Ca_hasArgument at h
  revert h
  repeat' split
  all_goals intro h
  all_goals first | exact absurd rfl h | (refine ix_b (M := 6) rfl ?_ ?_ <;> assumption)
theorem ix_rules {x : Int32} (hn : iN x ≤ 6) (h : x < (6 : Int32)) : vp_in x 6 := by
  rw [lt_n (by omega) (by decide)] at h
  have e : iN (6 : Int32) = 6 := rfl
  rw [vp_in_iff, iN_int]
  omega
theorem ix_last {x : Int32} (hn : iN x ≤ 6) (h : ¬ x = (0 : Int32)) : vp_in (x - (1 : Int32)) 6 := by
  have h0 : ¬ iN x = 0 := fun q => h (iN_inj q)
  have e : iN (x - (1 : Int32)) = iN x - 1 := by
    rw [iN_sub, show iN (1 : Int32) = 1 from rfl]
    omega
  rw [vp_in_iff, iN_int, e]
  omega
theorem ix_conds {x : Int32} (hn : iN x ≤ 3) (h : x < (3 : Int32)) : vp_in x 3 := by
  rw [lt_n (by omega) (by decide)] at h
  have e : iN (3 : Int32) = 3 := rfl
  rw [vp_in_iff, iN_int]
  omega
theorem ix_lastI {x : Int32} (hn : iN x ≤ 64) (h : ¬ x = (0 : Int32)) : vp_in (x - (1 : Int32)) 64 := by
  have h0 : ¬ iN x = 0 := fun q => h (iN_inj q)
  have e : iN (x - (1 : Int32)) = iN x - 1 := by
    rw [iN_sub, show iN (1 : Int32) = 1 from rfl]
    omega
  rw [vp_in_iff, iN_int, e]
  omega
theorem n_pos {x : Int32} (h : ¬ x = (0 : Int32)) : 0 < iN x := Nat.pos_of_ne_zero (fun q => h (iN_inj q))
theorem un_ne {v : Int32} (h : ¬ v = (0 : Int32)) : ¬ m_F_unsigned v = 0 := by
  intro q
  have h1 := un_n v
  rw [q] at h1
  exact h (iN_inj (h1.symm.trans rfl))
