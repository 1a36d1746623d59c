theorem wd_5 : Cond.selects R_Ma y_Ma_load y_Ma_load ∈ lw_g := wd_in (i := 5) (by decide +kernel) (by decide +kernel)
theorem wd_6 : Cond.selects R_Ma y_Ma_store y_Ma_store ∈ lw_g := wd_in (i := 6) (by decide +kernel) (by decide +kernel)
theorem wd_7 : Cond.selects R_Ma y_Ma_compute y_Ma_compute ∈ lw_g := wd_in (i := 7) (by decide +kernel) (by decide +kernel)
theorem wd_8 : Cond.selects R_Ma y_Ma_divide y_Ma_divide ∈ lw_g := wd_in (i := 8) (by decide +kernel) (by decide +kernel)
theorem wd_9 : Cond.selects R_Ma y_Ma_end y_Ma_end ∈ lw_g := wd_in (i := 9) (by decide +kernel) (by decide +kernel)
theorem wd_10 : Cond.selects R_Ma y_Ma_jump y_Ma_jump ∈ lw_g := wd_in (i := 10) (by decide +kernel) (by decide +kernel)
theorem wd_11 : Cond.selects R_Ma y_Ma_passes y_Ma_passes ∈ lw_g := wd_in (i := 11) (by decide +kernel) (by decide +kernel)
theorem wd_12 : Cond.selects R_Ma y_Ma_copy y_Ma_copy ∈ lw_g := wd_in (i := 12) (by decide +kernel) (by decide +kernel)
theorem wd_34 : Cond.initialized R_Ma ∈ lw_g := wd_in (i := 34) (by decide +kernel) (by decide +kernel)
theorem wd_54 : Cond.fieldLink R_Ma 93 R_Ca "words" "[I" ∈ lw_g := wd_in (i := 54) (by decide +kernel) (by decide +kernel)
theorem wd_181 : Cond.fieldLink R_Ma 9 R_Ma "cells" "[I" ∈ lw_g := wd_in (i := 181) (by decide +kernel) (by decide +kernel)
theorem wd_182 : Cond.fieldLink R_F 135 R_Ma "cells" "[I" ∈ lw_g := wd_in (i := 182) (by decide +kernel) (by decide +kernel)
theorem wd_183 : Cond.fieldLink R_Ma 13 R_Ma "done" "I" ∈ lw_g := wd_in (i := 183) (by decide +kernel) (by decide +kernel)
theorem wd_185 : Cond.fieldLink R_Ma 17 R_Ma "storedCells" "I" ∈ lw_g := wd_in (i := 185) (by decide +kernel) (by decide +kernel)
theorem wd_186 : Cond.fieldLink R_Ma 55 R_Ma "a" "I" ∈ lw_g := wd_in (i := 186) (by decide +kernel) (by decide +kernel)
theorem wd_187 : Cond.fieldLink R_Ma 58 R_Ma "x" "I" ∈ lw_g := wd_in (i := 187) (by decide +kernel) (by decide +kernel)
theorem wd_188 : Cond.fieldLink R_Ma 32 R_Ma "next" "I" ∈ lw_g := wd_in (i := 188) (by decide +kernel) (by decide +kernel)
theorem wd_189 : Cond.fieldLink R_Ma 23 R_Ma "ended" "Z" ∈ lw_g := wd_in (i := 189) (by decide +kernel) (by decide +kernel)
theorem wd_190 : Cond.fieldLink R_Ma 43 R_Ma "result" "I" ∈ lw_g := wd_in (i := 190) (by decide +kernel) (by decide +kernel)
theorem wd_364 : Cond.static y_In_codeOf ∈ lw_g := wd_in (i := 364) (by decide +kernel) (by decide +kernel)
theorem wd_365 : Cond.code y_In_codeOf prog_6_method_2_code 2 (Option.some Jvm.ClassFile.FieldType.int) ∈ lw_g := wd_in (i := 365) (by decide +kernel) (by decide +kernel)
theorem wd_424 : Cond.instanceMethod y_Ma_forget ∈ lw_g := wd_in (i := 424) (by decide +kernel) (by decide +kernel)
theorem wd_425 : Cond.selects R_Ma y_Ma_forget y_Ma_forget ∈ lw_g := wd_in (i := 425) (by decide +kernel) (by decide +kernel)
theorem wd_426 : Cond.code y_Ma_forget prog_7_method_2_code 1 (Option.none : Option Jvm.ClassFile.FieldType) ∈ lw_g := wd_in (i := 426) (by decide +kernel) (by decide +kernel)
theorem wd_427 : Cond.constantLong R_F 123 (-1) ∈ lw_g := wd_in (i := 427) (by decide +kernel) (by decide +kernel)
theorem wd_436 : Cond.methodLink R_Ma 52 y_Ma_forget ∈ lw_g := wd_in (i := 436) (by decide +kernel) (by decide +kernel)
theorem wd_441 : Cond.methodLink R_Ma 61 y_In_codeOf ∈ lw_g := wd_in (i := 441) (by decide +kernel) (by decide +kernel)
theorem wd_442 : Cond.methodLink R_Ma 67 y_In_operandOf ∈ lw_g := wd_in (i := 442) (by decide +kernel) (by decide +kernel)
theorem wd_443 : Cond.methodLink R_Ma 71 y_Ma_load ∈ lw_g := wd_in (i := 443) (by decide +kernel) (by decide +kernel)
theorem wd_445 : Cond.instanceMethod y_Ma_load ∈ lw_g := wd_in (i := 445) (by decide +kernel) (by decide +kernel)
theorem wd_446 : Cond.code y_Ma_load prog_7_method_7_code 4 (Option.some Jvm.ClassFile.FieldType.int) ∈ lw_g := wd_in (i := 446) (by decide +kernel) (by decide +kernel)
theorem wd_447 : Cond.methodLink R_Ma 75 y_Ma_store ∈ lw_g := wd_in (i := 447) (by decide +kernel) (by decide +kernel)
theorem wd_449 : Cond.instanceMethod y_Ma_store ∈ lw_g := wd_in (i := 449) (by decide +kernel) (by decide +kernel)
theorem wd_450 : Cond.code y_Ma_store prog_7_method_8_code 3 (Option.none : Option Jvm.ClassFile.FieldType) ∈ lw_g := wd_in (i := 450) (by decide +kernel) (by decide +kernel)
theorem wd_451 : Cond.methodLink R_Ma 79 y_Ma_compute ∈ lw_g := wd_in (i := 451) (by decide +kernel) (by decide +kernel)
theorem wd_453 : Cond.instanceMethod y_Ma_compute ∈ lw_g := wd_in (i := 453) (by decide +kernel) (by decide +kernel)
theorem wd_454 : Cond.code y_Ma_compute prog_7_method_10_code 3 (Option.none : Option Jvm.ClassFile.FieldType) ∈ lw_g := wd_in (i := 454) (by decide +kernel) (by decide +kernel)
theorem wd_455 : Cond.methodLink R_Ma 98 y_Ma_divide ∈ lw_g := wd_in (i := 455) (by decide +kernel) (by decide +kernel)
theorem wd_457 : Cond.instanceMethod y_Ma_divide ∈ lw_g := wd_in (i := 457) (by decide +kernel) (by decide +kernel)
theorem wd_458 : Cond.code y_Ma_divide prog_7_method_11_code 2 (Option.none : Option Jvm.ClassFile.FieldType) ∈ lw_g := wd_in (i := 458) (by decide +kernel) (by decide +kernel)
theorem wd_459 : Cond.methodLink R_Ma 86 y_Ma_end ∈ lw_g := wd_in (i := 459) (by decide +kernel) (by decide +kernel)
theorem wd_461 : Cond.instanceMethod y_Ma_end ∈ lw_g := wd_in (i := 461) (by decide +kernel) (by decide +kernel)
theorem wd_462 : Cond.code y_Ma_end prog_7_method_14_code 2 (Option.none : Option Jvm.ClassFile.FieldType) ∈ lw_g := wd_in (i := 462) (by decide +kernel) (by decide +kernel)
theorem wd_464 : Cond.methodLink R_Ma 82 y_Ma_jump ∈ lw_g := wd_in (i := 464) (by decide +kernel) (by decide +kernel)
theorem wd_466 : Cond.instanceMethod y_Ma_jump ∈ lw_g := wd_in (i := 466) (by decide +kernel) (by decide +kernel)
theorem wd_467 : Cond.code y_Ma_jump prog_7_method_12_code 5 (Option.none : Option Jvm.ClassFile.FieldType) ∈ lw_g := wd_in (i := 467) (by decide +kernel) (by decide +kernel)
theorem wd_468 : Cond.methodLink R_Ma 101 y_Ma_passes ∈ lw_g := wd_in (i := 468) (by decide +kernel) (by decide +kernel)
theorem wd_470 : Cond.instanceMethod y_Ma_passes ∈ lw_g := wd_in (i := 470) (by decide +kernel) (by decide +kernel)
theorem wd_471 : Cond.code y_Ma_passes prog_7_method_13_code 3 (Option.some Jvm.ClassFile.FieldType.boolean) ∈ lw_g := wd_in (i := 471) (by decide +kernel) (by decide +kernel)
theorem wd_472 : Cond.methodLink R_Ma 105 y_In_distanceIfTrue ∈ lw_g := wd_in (i := 472) (by decide +kernel) (by decide +kernel)
theorem wd_473 : Cond.methodLink R_Ma 108 y_In_distanceIfFalse ∈ lw_g := wd_in (i := 473) (by decide +kernel) (by decide +kernel)
theorem wd_474 : Cond.methodLink R_Ma 90 y_Ma_copy ∈ lw_g := wd_in (i := 474) (by decide +kernel) (by decide +kernel)
theorem wd_476 : Cond.instanceMethod y_Ma_copy ∈ lw_g := wd_in (i := 476) (by decide +kernel) (by decide +kernel)
theorem wd_477 : Cond.code y_Ma_copy prog_7_method_9_code 2 (Option.none : Option Jvm.ClassFile.FieldType) ∈ lw_g := wd_in (i := 477) (by decide +kernel) (by decide +kernel)
theorem wd_486 : Cond.methodLink R_F 132 y_Ma_hasStored ∈ lw_g := wd_in (i := 486) (by decide +kernel) (by decide +kernel)
theorem wd_487 : Cond.instanceMethod y_Ma_hasStored ∈ lw_g := wd_in (i := 487) (by decide +kernel) (by decide +kernel)
theorem wd_488 : Cond.selects R_Ma y_Ma_hasStored y_Ma_hasStored ∈ lw_g := wd_in (i := 488) (by decide +kernel) (by decide +kernel)
theorem wd_489 : Cond.code y_Ma_hasStored prog_7_method_3_code 2 (Option.some Jvm.ClassFile.FieldType.boolean) ∈ lw_g := wd_in (i := 489) (by decide +kernel) (by decide +kernel)
theorem wd_490 : Cond.methodLink R_F 138 y_F_unsigned ∈ lw_g := wd_in (i := 490) (by decide +kernel) (by decide +kernel)
theorem d_Ma_forget_0 : decode b_Ma_forget 0 = .ok (.aload_n 0, 1) := by decide +kernel
theorem d_Ma_forget_1 : decode b_Ma_forget 1 = .ok (.iconst 0, 1) := by decide +kernel
theorem d_Ma_forget_2 : decode b_Ma_forget 2 = .ok (.putfield 13, 3) := by decide +kernel
theorem d_Ma_forget_5 : decode b_Ma_forget 5 = .ok (.aload_n 0, 1) := by decide +kernel
theorem d_Ma_forget_6 : decode b_Ma_forget 6 = .ok (.iconst 0, 1) := by decide +kernel
theorem d_Ma_forget_7 : decode b_Ma_forget 7 = .ok (.putfield 17, 3) := by decide +kernel
theorem d_Ma_forget_10 : decode b_Ma_forget 10 = .ok (.return_, 1) := by decide +kernel
theorem d_Ma_hasStored_0 : decode b_Ma_hasStored 0 = .ok (.aload_n 0, 1) := by decide +kernel
theorem d_Ma_hasStored_1 : decode b_Ma_hasStored 1 = .ok (.getfield 17, 3) := by decide +kernel
theorem d_Ma_hasStored_4 : decode b_Ma_hasStored 4 = .ok (.iload_n 1, 1) := by decide +kernel
theorem d_Ma_hasStored_5 : decode b_Ma_hasStored 5 = .ok (.iushr, 1) := by decide +kernel
theorem d_Ma_hasStored_6 : decode b_Ma_hasStored 6 = .ok (.iconst 1, 1) := by decide +kernel
theorem d_Ma_hasStored_7 : decode b_Ma_hasStored 7 = .ok (.iand, 1) := by decide +kernel
theorem d_Ma_hasStored_8 : decode b_Ma_hasStored 8 = .ok (.ifCond .eq 7, 3) := by decide +kernel
theorem d_Ma_hasStored_11 : decode b_Ma_hasStored 11 = .ok (.iconst 1, 1) := by decide +kernel
theorem d_Ma_hasStored_12 : decode b_Ma_hasStored 12 = .ok (.goto 4, 3) := by decide +kernel
theorem d_Ma_hasStored_15 : decode b_Ma_hasStored 15 = .ok (.iconst 0, 1) := by decide +kernel
theorem d_Ma_hasStored_16 : decode b_Ma_hasStored 16 = .ok (.ireturn, 1) := by decide +kernel
theorem d_Ma_begin_0 : decode b_Ma_begin 0 = .ok (.aload_n 0, 1) := by decide +kernel
theorem d_Ma_begin_1 : decode b_Ma_begin 1 = .ok (.invokevirtual 52, 3) := by decide +kernel
theorem d_Ma_begin_4 : decode b_Ma_begin 4 = .ok (.aload_n 0, 1) := by decide +kernel
theorem d_Ma_begin_5 : decode b_Ma_begin 5 = .ok (.iconst 0, 1) := by decide +kernel
theorem d_Ma_begin_6 : decode b_Ma_begin 6 = .ok (.putfield 55, 3) := by decide +kernel
theorem d_Ma_begin_9 : decode b_Ma_begin 9 = .ok (.aload_n 0, 1) := by decide +kernel
theorem d_Ma_begin_10 : decode b_Ma_begin 10 = .ok (.iconst 0, 1) := by decide +kernel
theorem d_Ma_begin_11 : decode b_Ma_begin 11 = .ok (.putfield 58, 3) := by decide +kernel
theorem d_Ma_begin_14 : decode b_Ma_begin 14 = .ok (.aload_n 0, 1) := by decide +kernel
theorem d_Ma_begin_15 : decode b_Ma_begin 15 = .ok (.iconst 0, 1) := by decide +kernel
theorem d_Ma_begin_16 : decode b_Ma_begin 16 = .ok (.putfield 32, 3) := by decide +kernel
theorem d_Ma_begin_19 : decode b_Ma_begin 19 = .ok (.aload_n 0, 1) := by decide +kernel
theorem d_Ma_begin_20 : decode b_Ma_begin 20 = .ok (.iconst 0, 1) := by decide +kernel
theorem d_Ma_begin_21 : decode b_Ma_begin 21 = .ok (.putfield 23, 3) := by decide +kernel
theorem d_Ma_begin_24 : decode b_Ma_begin 24 = .ok (.aload_n 0, 1) := by decide +kernel
theorem d_Ma_begin_25 : decode b_Ma_begin 25 = .ok (.iconst 0, 1) := by decide +kernel
theorem d_Ma_begin_26 : decode b_Ma_begin 26 = .ok (.putfield 43, 3) := by decide +kernel
theorem d_Ma_begin_29 : decode b_Ma_begin 29 = .ok (.return_, 1) := by decide +kernel
theorem d_Ma_load_0 : decode b_Ma_load 0 = .ok (.iload_n 1, 1) := by decide +kernel
theorem d_Ma_load_1 : decode b_Ma_load 1 = .ok (.sipush 240, 3) := by decide +kernel
theorem d_Ma_load_4 : decode b_Ma_load 4 = .ok (.iand, 1) := by decide +kernel
theorem d_Ma_load_5 : decode b_Ma_load 5 = .ok (.lookupswitch 53 #[(0, 35), (32, 37), (96, 46)], 35) := by decide +kernel
theorem d_Ma_load_40 : decode b_Ma_load 40 = .ok (.iload_n 2, 1) := by decide +kernel
theorem d_Ma_load_41 : decode b_Ma_load 41 = .ok (.ireturn, 1) := by decide +kernel
theorem d_Ma_load_42 : decode b_Ma_load 42 = .ok (.aload_n 3, 1) := by decide +kernel
theorem d_Ma_load_43 : decode b_Ma_load 43 = .ok (.getfield 93, 3) := by decide +kernel
theorem d_Ma_load_46 : decode b_Ma_load 46 = .ok (.iload_n 2, 1) := by decide +kernel
theorem d_Ma_load_47 : decode b_Ma_load 47 = .ok (.iconst 4, 1) := by decide +kernel
theorem d_Ma_load_48 : decode b_Ma_load 48 = .ok (.idiv, 1) := by decide +kernel
theorem d_Ma_load_49 : decode b_Ma_load 49 = .ok (.iaload, 1) := by decide +kernel
theorem d_Ma_load_50 : decode b_Ma_load 50 = .ok (.ireturn, 1) := by decide +kernel
theorem d_Ma_load_51 : decode b_Ma_load 51 = .ok (.aload_n 0, 1) := by decide +kernel
theorem d_Ma_load_52 : decode b_Ma_load 52 = .ok (.getfield 9, 3) := by decide +kernel
theorem d_Ma_load_55 : decode b_Ma_load 55 = .ok (.iload_n 2, 1) := by decide +kernel
theorem d_Ma_load_56 : decode b_Ma_load 56 = .ok (.iaload, 1) := by decide +kernel
theorem d_Ma_load_57 : decode b_Ma_load 57 = .ok (.ireturn, 1) := by decide +kernel
theorem d_Ma_load_58 : decode b_Ma_load 58 = .ok (.bipush 64, 2) := by decide +kernel
theorem d_Ma_load_60 : decode b_Ma_load 60 = .ok (.ireturn, 1) := by decide +kernel
theorem d_Ma_store_0 : decode b_Ma_store 0 = .ok (.aload_n 0, 1) := by decide +kernel
theorem d_Ma_store_1 : decode b_Ma_store 1 = .ok (.getfield 9, 3) := by decide +kernel
theorem d_Ma_store_4 : decode b_Ma_store 4 = .ok (.iload_n 1, 1) := by decide +kernel
theorem d_Ma_store_5 : decode b_Ma_store 5 = .ok (.iload_n 2, 1) := by decide +kernel
theorem d_Ma_store_6 : decode b_Ma_store 6 = .ok (.iastore, 1) := by decide +kernel
theorem d_Ma_store_7 : decode b_Ma_store 7 = .ok (.aload_n 0, 1) := by decide +kernel
theorem d_Ma_store_8 : decode b_Ma_store 8 = .ok (.dup, 1) := by decide +kernel
theorem d_Ma_store_9 : decode b_Ma_store 9 = .ok (.getfield 17, 3) := by decide +kernel
theorem d_Ma_store_12 : decode b_Ma_store 12 = .ok (.iconst 1, 1) := by decide +kernel
theorem d_Ma_store_13 : decode b_Ma_store 13 = .ok (.iload_n 1, 1) := by decide +kernel
theorem d_Ma_store_14 : decode b_Ma_store 14 = .ok (.ishl, 1) := by decide +kernel
theorem d_Ma_store_15 : decode b_Ma_store 15 = .ok (.ior, 1) := by decide +kernel
theorem d_Ma_store_16 : decode b_Ma_store 16 = .ok (.putfield 17, 3) := by decide +kernel
theorem d_Ma_store_19 : decode b_Ma_store 19 = .ok (.return_, 1) := by decide +kernel
theorem d_Ma_copy_0 : decode b_Ma_copy 0 = .ok (.iload_n 1, 1) := by decide +kernel
theorem d_Ma_copy_1 : decode b_Ma_copy 1 = .ok (.bipush 7, 2) := by decide +kernel
theorem d_Ma_copy_3 : decode b_Ma_copy 3 = .ok (.if_icmp .ne 14, 3) := by decide +kernel
theorem d_Ma_copy_6 : decode b_Ma_copy 6 = .ok (.aload_n 0, 1) := by decide +kernel
theorem d_Ma_copy_7 : decode b_Ma_copy 7 = .ok (.aload_n 0, 1) := by decide +kernel
theorem d_Ma_copy_8 : decode b_Ma_copy 8 = .ok (.getfield 55, 3) := by decide +kernel
theorem d_Ma_copy_11 : decode b_Ma_copy 11 = .ok (.putfield 58, 3) := by decide +kernel
theorem d_Ma_copy_14 : decode b_Ma_copy 14 = .ok (.goto 11, 3) := by decide +kernel
theorem d_Ma_copy_17 : decode b_Ma_copy 17 = .ok (.aload_n 0, 1) := by decide +kernel
theorem d_Ma_copy_18 : decode b_Ma_copy 18 = .ok (.aload_n 0, 1) := by decide +kernel
theorem d_Ma_copy_19 : decode b_Ma_copy 19 = .ok (.getfield 58, 3) := by decide +kernel
theorem d_Ma_copy_22 : decode b_Ma_copy 22 = .ok (.putfield 55, 3) := by decide +kernel
theorem d_Ma_copy_25 : decode b_Ma_copy 25 = .ok (.return_, 1) := by decide +kernel
theorem d_Ma_end_0 : decode b_Ma_end 0 = .ok (.aload_n 0, 1) := by decide +kernel
theorem d_Ma_end_1 : decode b_Ma_end 1 = .ok (.iconst 1, 1) := by decide +kernel
theorem d_Ma_end_2 : decode b_Ma_end 2 = .ok (.putfield 23, 3) := by decide +kernel
theorem d_Ma_end_5 : decode b_Ma_end 5 = .ok (.aload_n 0, 1) := by decide +kernel
theorem d_Ma_end_6 : decode b_Ma_end 6 = .ok (.iload_n 1, 1) := by decide +kernel
theorem d_Ma_end_7 : decode b_Ma_end 7 = .ok (.putfield 43, 3) := by decide +kernel
theorem d_Ma_end_10 : decode b_Ma_end 10 = .ok (.return_, 1) := by decide +kernel
theorem d_Ma_divide_0 : decode b_Ma_divide 0 = .ok (.iload_n 1, 1) := by decide +kernel
theorem d_Ma_divide_1 : decode b_Ma_divide 1 = .ok (.ifCond .ne 11, 3) := by decide +kernel
theorem d_Ma_divide_4 : decode b_Ma_divide 4 = .ok (.aload_n 0, 1) := by decide +kernel
theorem d_Ma_divide_5 : decode b_Ma_divide 5 = .ok (.iconst 0, 1) := by decide +kernel
theorem d_Ma_divide_6 : decode b_Ma_divide 6 = .ok (.invokevirtual 86, 3) := by decide +kernel
theorem d_Ma_divide_9 : decode b_Ma_divide 9 = .ok (.goto 20, 3) := by decide +kernel
theorem d_Ma_divide_12 : decode b_Ma_divide 12 = .ok (.aload_n 0, 1) := by decide +kernel
theorem d_Ma_divide_13 : decode b_Ma_divide 13 = .ok (.aload_n 0, 1) := by decide +kernel
theorem d_Ma_divide_14 : decode b_Ma_divide 14 = .ok (.getfield 55, 3) := by decide +kernel
theorem d_Ma_divide_17 : decode b_Ma_divide 17 = .ok (.invokestatic 46, 3) := by decide +kernel
theorem d_Ma_divide_20 : decode b_Ma_divide 20 = .ok (.iload_n 1, 1) := by decide +kernel
theorem d_Ma_divide_21 : decode b_Ma_divide 21 = .ok (.invokestatic 46, 3) := by decide +kernel
theorem d_Ma_divide_24 : decode b_Ma_divide 24 = .ok (.ldiv, 1) := by decide +kernel
theorem d_Ma_divide_25 : decode b_Ma_divide 25 = .ok (.l2i, 1) := by decide +kernel
theorem d_Ma_divide_26 : decode b_Ma_divide 26 = .ok (.putfield 55, 3) := by decide +kernel
theorem d_Ma_divide_29 : decode b_Ma_divide 29 = .ok (.return_, 1) := by decide +kernel
theorem d_Ma_compute_0 : decode b_Ma_compute 0 = .ok (.iload_n 1, 1) := by decide +kernel
theorem d_Ma_compute_1 : decode b_Ma_compute 1 = .ok (.lookupswitch 200 #[(0, 83), (16, 96), (32, 109), (48, 122), (64, 130), (80, 143), (96, 156), (112, 172), (128, 188)], 83) := by decide +kernel
theorem d_Ma_compute_84 : decode b_Ma_compute 84 = .ok (.aload_n 0, 1) := by decide +kernel
theorem d_Ma_compute_85 : decode b_Ma_compute 85 = .ok (.aload_n 0, 1) := by decide +kernel
theorem d_Ma_compute_86 : decode b_Ma_compute 86 = .ok (.getfield 55, 3) := by decide +kernel
theorem d_Ma_compute_89 : decode b_Ma_compute 89 = .ok (.iload_n 2, 1) := by decide +kernel
theorem d_Ma_compute_90 : decode b_Ma_compute 90 = .ok (.iadd, 1) := by decide +kernel
theorem d_Ma_compute_91 : decode b_Ma_compute 91 = .ok (.putfield 55, 3) := by decide +kernel
theorem d_Ma_compute_94 : decode b_Ma_compute 94 = .ok (.goto 117, 3) := by decide +kernel
theorem d_Ma_compute_97 : decode b_Ma_compute 97 = .ok (.aload_n 0, 1) := by decide +kernel
theorem d_Ma_compute_98 : decode b_Ma_compute 98 = .ok (.aload_n 0, 1) := by decide +kernel
theorem d_Ma_compute_99 : decode b_Ma_compute 99 = .ok (.getfield 55, 3) := by decide +kernel
theorem d_Ma_compute_102 : decode b_Ma_compute 102 = .ok (.iload_n 2, 1) := by decide +kernel
theorem d_Ma_compute_103 : decode b_Ma_compute 103 = .ok (.isub, 1) := by decide +kernel
theorem d_Ma_compute_104 : decode b_Ma_compute 104 = .ok (.putfield 55, 3) := by decide +kernel
theorem d_Ma_compute_107 : decode b_Ma_compute 107 = .ok (.goto 104, 3) := by decide +kernel
theorem d_Ma_compute_110 : decode b_Ma_compute 110 = .ok (.aload_n 0, 1) := by decide +kernel
theorem d_Ma_compute_111 : decode b_Ma_compute 111 = .ok (.aload_n 0, 1) := by decide +kernel
theorem d_Ma_compute_112 : decode b_Ma_compute 112 = .ok (.getfield 55, 3) := by decide +kernel
theorem d_Ma_compute_115 : decode b_Ma_compute 115 = .ok (.iload_n 2, 1) := by decide +kernel
theorem d_Ma_compute_116 : decode b_Ma_compute 116 = .ok (.imul, 1) := by decide +kernel
theorem d_Ma_compute_117 : decode b_Ma_compute 117 = .ok (.putfield 55, 3) := by decide +kernel
theorem d_Ma_compute_120 : decode b_Ma_compute 120 = .ok (.goto 91, 3) := by decide +kernel
theorem d_Ma_compute_123 : decode b_Ma_compute 123 = .ok (.aload_n 0, 1) := by decide +kernel
theorem d_Ma_compute_124 : decode b_Ma_compute 124 = .ok (.iload_n 2, 1) := by decide +kernel
theorem d_Ma_compute_125 : decode b_Ma_compute 125 = .ok (.invokevirtual 98, 3) := by decide +kernel
theorem d_Ma_compute_128 : decode b_Ma_compute 128 = .ok (.goto 83, 3) := by decide +kernel
theorem d_Ma_compute_131 : decode b_Ma_compute 131 = .ok (.aload_n 0, 1) := by decide +kernel
theorem d_Ma_compute_132 : decode b_Ma_compute 132 = .ok (.aload_n 0, 1) := by decide +kernel
theorem d_Ma_compute_133 : decode b_Ma_compute 133 = .ok (.getfield 55, 3) := by decide +kernel
theorem d_Ma_compute_136 : decode b_Ma_compute 136 = .ok (.iload_n 2, 1) := by decide +kernel
theorem d_Ma_compute_137 : decode b_Ma_compute 137 = .ok (.ior, 1) := by decide +kernel
theorem d_Ma_compute_138 : decode b_Ma_compute 138 = .ok (.putfield 55, 3) := by decide +kernel
theorem d_Ma_compute_141 : decode b_Ma_compute 141 = .ok (.goto 70, 3) := by decide +kernel
theorem d_Ma_compute_144 : decode b_Ma_compute 144 = .ok (.aload_n 0, 1) := by decide +kernel
theorem d_Ma_compute_145 : decode b_Ma_compute 145 = .ok (.aload_n 0, 1) := by decide +kernel
theorem d_Ma_compute_146 : decode b_Ma_compute 146 = .ok (.getfield 55, 3) := by decide +kernel
theorem d_Ma_compute_149 : decode b_Ma_compute 149 = .ok (.iload_n 2, 1) := by decide +kernel
theorem d_Ma_compute_150 : decode b_Ma_compute 150 = .ok (.iand, 1) := by decide +kernel
theorem d_Ma_compute_151 : decode b_Ma_compute 151 = .ok (.putfield 55, 3) := by decide +kernel
theorem d_Ma_compute_154 : decode b_Ma_compute 154 = .ok (.goto 57, 3) := by decide +kernel
theorem d_Ma_compute_157 : decode b_Ma_compute 157 = .ok (.aload_n 0, 1) := by decide +kernel
theorem d_Ma_compute_158 : decode b_Ma_compute 158 = .ok (.aload_n 0, 1) := by decide +kernel
theorem d_Ma_compute_159 : decode b_Ma_compute 159 = .ok (.getfield 55, 3) := by decide +kernel
theorem d_Ma_compute_162 : decode b_Ma_compute 162 = .ok (.iload_n 2, 1) := by decide +kernel
theorem d_Ma_compute_163 : decode b_Ma_compute 163 = .ok (.bipush 31, 2) := by decide +kernel
theorem d_Ma_compute_165 : decode b_Ma_compute 165 = .ok (.iand, 1) := by decide +kernel
theorem d_Ma_compute_166 : decode b_Ma_compute 166 = .ok (.ishl, 1) := by decide +kernel
theorem d_Ma_compute_167 : decode b_Ma_compute 167 = .ok (.putfield 55, 3) := by decide +kernel
theorem d_Ma_compute_170 : decode b_Ma_compute 170 = .ok (.goto 41, 3) := by decide +kernel
theorem d_Ma_compute_173 : decode b_Ma_compute 173 = .ok (.aload_n 0, 1) := by decide +kernel
theorem d_Ma_compute_174 : decode b_Ma_compute 174 = .ok (.aload_n 0, 1) := by decide +kernel
theorem d_Ma_compute_175 : decode b_Ma_compute 175 = .ok (.getfield 55, 3) := by decide +kernel
theorem d_Ma_compute_178 : decode b_Ma_compute 178 = .ok (.iload_n 2, 1) := by decide +kernel
theorem d_Ma_compute_179 : decode b_Ma_compute 179 = .ok (.bipush 31, 2) := by decide +kernel
theorem d_Ma_compute_181 : decode b_Ma_compute 181 = .ok (.iand, 1) := by decide +kernel
theorem d_Ma_compute_182 : decode b_Ma_compute 182 = .ok (.iushr, 1) := by decide +kernel
theorem d_Ma_compute_183 : decode b_Ma_compute 183 = .ok (.putfield 55, 3) := by decide +kernel
theorem d_Ma_compute_186 : decode b_Ma_compute 186 = .ok (.goto 25, 3) := by decide +kernel
theorem d_Ma_compute_189 : decode b_Ma_compute 189 = .ok (.aload_n 0, 1) := by decide +kernel
theorem d_Ma_compute_190 : decode b_Ma_compute 190 = .ok (.aload_n 0, 1) := by decide +kernel
theorem d_Ma_compute_191 : decode b_Ma_compute 191 = .ok (.getfield 55, 3) := by decide +kernel
theorem d_Ma_compute_194 : decode b_Ma_compute 194 = .ok (.ineg, 1) := by decide +kernel
theorem d_Ma_compute_195 : decode b_Ma_compute 195 = .ok (.putfield 55, 3) := by decide +kernel
theorem d_Ma_compute_198 : decode b_Ma_compute 198 = .ok (.goto 13, 3) := by decide +kernel
theorem d_Ma_compute_201 : decode b_Ma_compute 201 = .ok (.aload_n 0, 1) := by decide +kernel
theorem d_Ma_compute_202 : decode b_Ma_compute 202 = .ok (.aload_n 0, 1) := by decide +kernel
theorem d_Ma_compute_203 : decode b_Ma_compute 203 = .ok (.getfield 55, 3) := by decide +kernel
theorem d_Ma_compute_206 : decode b_Ma_compute 206 = .ok (.iload_n 2, 1) := by decide +kernel
theorem d_Ma_compute_207 : decode b_Ma_compute 207 = .ok (.ixor, 1) := by decide +kernel
theorem d_Ma_compute_208 : decode b_Ma_compute 208 = .ok (.putfield 55, 3) := by decide +kernel
theorem d_Ma_compute_211 : decode b_Ma_compute 211 = .ok (.return_, 1) := by decide +kernel
theorem d_Ma_passes_0 : decode b_Ma_passes 0 = .ok (.iload_n 1, 1) := by decide +kernel
theorem d_Ma_passes_1 : decode b_Ma_passes 1 = .ok (.lookupswitch 91 #[(16, 35), (32, 49), (48, 70)], 35) := by decide +kernel
theorem d_Ma_passes_36 : decode b_Ma_passes 36 = .ok (.aload_n 0, 1) := by decide +kernel
theorem d_Ma_passes_37 : decode b_Ma_passes 37 = .ok (.getfield 55, 3) := by decide +kernel
theorem d_Ma_passes_40 : decode b_Ma_passes 40 = .ok (.iload_n 2, 1) := by decide +kernel
theorem d_Ma_passes_41 : decode b_Ma_passes 41 = .ok (.if_icmp .ne 7, 3) := by decide +kernel
theorem d_Ma_passes_44 : decode b_Ma_passes 44 = .ok (.iconst 1, 1) := by decide +kernel
theorem d_Ma_passes_45 : decode b_Ma_passes 45 = .ok (.goto 4, 3) := by decide +kernel
theorem d_Ma_passes_48 : decode b_Ma_passes 48 = .ok (.iconst 0, 1) := by decide +kernel
theorem d_Ma_passes_49 : decode b_Ma_passes 49 = .ok (.ireturn, 1) := by decide +kernel
theorem d_Ma_passes_50 : decode b_Ma_passes 50 = .ok (.aload_n 0, 1) := by decide +kernel
theorem d_Ma_passes_51 : decode b_Ma_passes 51 = .ok (.getfield 55, 3) := by decide +kernel
theorem d_Ma_passes_54 : decode b_Ma_passes 54 = .ok (.invokestatic 46, 3) := by decide +kernel
theorem d_Ma_passes_57 : decode b_Ma_passes 57 = .ok (.iload_n 2, 1) := by decide +kernel
theorem d_Ma_passes_58 : decode b_Ma_passes 58 = .ok (.invokestatic 46, 3) := by decide +kernel
theorem d_Ma_passes_61 : decode b_Ma_passes 61 = .ok (.lcmp, 1) := by decide +kernel
theorem d_Ma_passes_62 : decode b_Ma_passes 62 = .ok (.ifCond .le 7, 3) := by decide +kernel
theorem d_Ma_passes_65 : decode b_Ma_passes 65 = .ok (.iconst 1, 1) := by decide +kernel
theorem d_Ma_passes_66 : decode b_Ma_passes 66 = .ok (.goto 4, 3) := by decide +kernel
theorem d_Ma_passes_69 : decode b_Ma_passes 69 = .ok (.iconst 0, 1) := by decide +kernel
theorem d_Ma_passes_70 : decode b_Ma_passes 70 = .ok (.ireturn, 1) := by decide +kernel
theorem d_Ma_passes_71 : decode b_Ma_passes 71 = .ok (.aload_n 0, 1) := by decide +kernel
theorem d_Ma_passes_72 : decode b_Ma_passes 72 = .ok (.getfield 55, 3) := by decide +kernel
theorem d_Ma_passes_75 : decode b_Ma_passes 75 = .ok (.invokestatic 46, 3) := by decide +kernel
theorem d_Ma_passes_78 : decode b_Ma_passes 78 = .ok (.iload_n 2, 1) := by decide +kernel
theorem d_Ma_passes_79 : decode b_Ma_passes 79 = .ok (.invokestatic 46, 3) := by decide +kernel
theorem d_Ma_passes_82 : decode b_Ma_passes 82 = .ok (.lcmp, 1) := by decide +kernel
theorem d_Ma_passes_83 : decode b_Ma_passes 83 = .ok (.ifCond .lt 7, 3) := by decide +kernel
theorem d_Ma_passes_86 : decode b_Ma_passes 86 = .ok (.iconst 1, 1) := by decide +kernel
theorem d_Ma_passes_87 : decode b_Ma_passes 87 = .ok (.goto 4, 3) := by decide +kernel
theorem d_Ma_passes_90 : decode b_Ma_passes 90 = .ok (.iconst 0, 1) := by decide +kernel
theorem d_Ma_passes_91 : decode b_Ma_passes 91 = .ok (.ireturn, 1) := by decide +kernel
theorem d_Ma_passes_92 : decode b_Ma_passes 92 = .ok (.aload_n 0, 1) := by decide +kernel
theorem d_Ma_passes_93 : decode b_Ma_passes 93 = .ok (.getfield 55, 3) := by decide +kernel
theorem d_Ma_passes_96 : decode b_Ma_passes 96 = .ok (.iload_n 2, 1) := by decide +kernel
theorem d_Ma_passes_97 : decode b_Ma_passes 97 = .ok (.iand, 1) := by decide +kernel
theorem d_Ma_passes_98 : decode b_Ma_passes 98 = .ok (.ifCond .eq 7, 3) := by decide +kernel
theorem d_Ma_passes_101 : decode b_Ma_passes 101 = .ok (.iconst 1, 1) := by decide +kernel
theorem d_Ma_passes_102 : decode b_Ma_passes 102 = .ok (.goto 4, 3) := by decide +kernel
theorem d_Ma_passes_105 : decode b_Ma_passes 105 = .ok (.iconst 0, 1) := by decide +kernel
theorem d_Ma_passes_106 : decode b_Ma_passes 106 = .ok (.ireturn, 1) := by decide +kernel
theorem d_Ma_jump_0 : decode b_Ma_jump 0 = .ok (.iload_n 3, 1) := by decide +kernel
theorem d_Ma_jump_1 : decode b_Ma_jump 1 = .ok (.iconst 5, 1) := by decide +kernel
theorem d_Ma_jump_2 : decode b_Ma_jump 2 = .ok (.if_icmp .ne 17, 3) := by decide +kernel
theorem d_Ma_jump_5 : decode b_Ma_jump 5 = .ok (.aload_n 0, 1) := by decide +kernel
theorem d_Ma_jump_6 : decode b_Ma_jump 6 = .ok (.dup, 1) := by decide +kernel
theorem d_Ma_jump_7 : decode b_Ma_jump 7 = .ok (.getfield 32, 3) := by decide +kernel
theorem d_Ma_jump_10 : decode b_Ma_jump 10 = .ok (.iload 4, 2) := by decide +kernel
theorem d_Ma_jump_12 : decode b_Ma_jump 12 = .ok (.iadd, 1) := by decide +kernel
theorem d_Ma_jump_13 : decode b_Ma_jump 13 = .ok (.putfield 32, 3) := by decide +kernel
theorem d_Ma_jump_16 : decode b_Ma_jump 16 = .ok (.goto 46, 3) := by decide +kernel
theorem d_Ma_jump_19 : decode b_Ma_jump 19 = .ok (.aload_n 0, 1) := by decide +kernel
theorem d_Ma_jump_20 : decode b_Ma_jump 20 = .ok (.iload_n 3, 1) := by decide +kernel
theorem d_Ma_jump_21 : decode b_Ma_jump 21 = .ok (.sipush 240, 3) := by decide +kernel
theorem d_Ma_jump_24 : decode b_Ma_jump 24 = .ok (.iand, 1) := by decide +kernel
theorem d_Ma_jump_25 : decode b_Ma_jump 25 = .ok (.iload 4, 2) := by decide +kernel
theorem d_Ma_jump_27 : decode b_Ma_jump 27 = .ok (.invokevirtual 101, 3) := by decide +kernel
theorem d_Ma_jump_30 : decode b_Ma_jump 30 = .ok (.ifCond .eq 19, 3) := by decide +kernel
theorem d_Ma_jump_33 : decode b_Ma_jump 33 = .ok (.aload_n 0, 1) := by decide +kernel
theorem d_Ma_jump_34 : decode b_Ma_jump 34 = .ok (.dup, 1) := by decide +kernel
theorem d_Ma_jump_35 : decode b_Ma_jump 35 = .ok (.getfield 32, 3) := by decide +kernel
theorem d_Ma_jump_38 : decode b_Ma_jump 38 = .ok (.lload_n 1, 1) := by decide +kernel
theorem d_Ma_jump_39 : decode b_Ma_jump 39 = .ok (.invokestatic 105, 3) := by decide +kernel
theorem d_Ma_jump_42 : decode b_Ma_jump 42 = .ok (.iadd, 1) := by decide +kernel
theorem d_Ma_jump_43 : decode b_Ma_jump 43 = .ok (.putfield 32, 3) := by decide +kernel
theorem d_Ma_jump_46 : decode b_Ma_jump 46 = .ok (.goto 16, 3) := by decide +kernel
theorem d_Ma_jump_49 : decode b_Ma_jump 49 = .ok (.aload_n 0, 1) := by decide +kernel
theorem d_Ma_jump_50 : decode b_Ma_jump 50 = .ok (.dup, 1) := by decide +kernel
theorem d_Ma_jump_51 : decode b_Ma_jump 51 = .ok (.getfield 32, 3) := by decide +kernel
theorem d_Ma_jump_54 : decode b_Ma_jump 54 = .ok (.lload_n 1, 1) := by decide +kernel
theorem d_Ma_jump_55 : decode b_Ma_jump 55 = .ok (.invokestatic 108, 3) := by decide +kernel
theorem d_Ma_jump_58 : decode b_Ma_jump 58 = .ok (.iadd, 1) := by decide +kernel
theorem d_Ma_jump_59 : decode b_Ma_jump 59 = .ok (.putfield 32, 3) := by decide +kernel
theorem d_Ma_jump_62 : decode b_Ma_jump 62 = .ok (.return_, 1) := by decide +kernel
theorem d_Ma_perform_0 : decode b_Ma_perform 0 = .ok (.lload_n 1, 1) := by decide +kernel
theorem d_Ma_perform_1 : decode b_Ma_perform 1 = .ok (.invokestatic 61, 3) := by decide +kernel
theorem d_Ma_perform_4 : decode b_Ma_perform 4 = .ok (.istore 4, 2) := by decide +kernel
theorem d_Ma_perform_6 : decode b_Ma_perform 6 = .ok (.lload_n 1, 1) := by decide +kernel
theorem d_Ma_perform_7 : decode b_Ma_perform 7 = .ok (.invokestatic 67, 3) := by decide +kernel
theorem d_Ma_perform_10 : decode b_Ma_perform 10 = .ok (.l2i, 1) := by decide +kernel
theorem d_Ma_perform_11 : decode b_Ma_perform 11 = .ok (.istore 5, 2) := by decide +kernel
theorem d_Ma_perform_13 : decode b_Ma_perform 13 = .ok (.iload 4, 2) := by decide +kernel
theorem d_Ma_perform_15 : decode b_Ma_perform 15 = .ok (.bipush 8, 2) := by decide +kernel
theorem d_Ma_perform_17 : decode b_Ma_perform 17 = .ok (.iand, 1) := by decide +kernel
theorem d_Ma_perform_18 : decode b_Ma_perform 18 = .ok (.ifCond .eq 10, 3) := by decide +kernel
theorem d_Ma_perform_21 : decode b_Ma_perform 21 = .ok (.aload_n 0, 1) := by decide +kernel
theorem d_Ma_perform_22 : decode b_Ma_perform 22 = .ok (.getfield 58, 3) := by decide +kernel
theorem d_Ma_perform_25 : decode b_Ma_perform 25 = .ok (.goto 5, 3) := by decide +kernel
theorem d_Ma_perform_28 : decode b_Ma_perform 28 = .ok (.iload 5, 2) := by decide +kernel
theorem d_Ma_perform_30 : decode b_Ma_perform 30 = .ok (.istore 6, 2) := by decide +kernel
theorem d_Ma_perform_32 : decode b_Ma_perform 32 = .ok (.iload 4, 2) := by decide +kernel
theorem d_Ma_perform_34 : decode b_Ma_perform 34 = .ok (.bipush 7, 2) := by decide +kernel
theorem d_Ma_perform_36 : decode b_Ma_perform 36 = .ok (.iand, 1) := by decide +kernel
theorem d_Ma_perform_37 : decode b_Ma_perform 37 = .ok (.tableswitch 151 0 6 #[43, 59, 75, 88, 101, 116, 128], 43) := by decide +kernel
theorem d_Ma_perform_80 : decode b_Ma_perform 80 = .ok (.aload_n 0, 1) := by decide +kernel
theorem d_Ma_perform_81 : decode b_Ma_perform 81 = .ok (.aload_n 0, 1) := by decide +kernel
theorem d_Ma_perform_82 : decode b_Ma_perform 82 = .ok (.iload 4, 2) := by decide +kernel
theorem d_Ma_perform_84 : decode b_Ma_perform 84 = .ok (.iload 5, 2) := by decide +kernel
theorem d_Ma_perform_86 : decode b_Ma_perform 86 = .ok (.aload_n 3, 1) := by decide +kernel
theorem d_Ma_perform_87 : decode b_Ma_perform 87 = .ok (.invokevirtual 71, 3) := by decide +kernel
theorem d_Ma_perform_90 : decode b_Ma_perform 90 = .ok (.putfield 55, 3) := by decide +kernel
theorem d_Ma_perform_93 : decode b_Ma_perform 93 = .ok (.goto 101, 3) := by decide +kernel
theorem d_Ma_perform_96 : decode b_Ma_perform 96 = .ok (.aload_n 0, 1) := by decide +kernel
theorem d_Ma_perform_97 : decode b_Ma_perform 97 = .ok (.aload_n 0, 1) := by decide +kernel
theorem d_Ma_perform_98 : decode b_Ma_perform 98 = .ok (.iload 4, 2) := by decide +kernel
theorem d_Ma_perform_100 : decode b_Ma_perform 100 = .ok (.iload 5, 2) := by decide +kernel
theorem d_Ma_perform_102 : decode b_Ma_perform 102 = .ok (.aload_n 3, 1) := by decide +kernel
theorem d_Ma_perform_103 : decode b_Ma_perform 103 = .ok (.invokevirtual 71, 3) := by decide +kernel
theorem d_Ma_perform_106 : decode b_Ma_perform 106 = .ok (.putfield 58, 3) := by decide +kernel
theorem d_Ma_perform_109 : decode b_Ma_perform 109 = .ok (.goto 85, 3) := by decide +kernel
theorem d_Ma_perform_112 : decode b_Ma_perform 112 = .ok (.aload_n 0, 1) := by decide +kernel
theorem d_Ma_perform_113 : decode b_Ma_perform 113 = .ok (.iload 5, 2) := by decide +kernel
theorem d_Ma_perform_115 : decode b_Ma_perform 115 = .ok (.aload_n 0, 1) := by decide +kernel
theorem d_Ma_perform_116 : decode b_Ma_perform 116 = .ok (.getfield 55, 3) := by decide +kernel
theorem d_Ma_perform_119 : decode b_Ma_perform 119 = .ok (.invokevirtual 75, 3) := by decide +kernel
theorem d_Ma_perform_122 : decode b_Ma_perform 122 = .ok (.goto 72, 3) := by decide +kernel
theorem d_Ma_perform_125 : decode b_Ma_perform 125 = .ok (.aload_n 0, 1) := by decide +kernel
theorem d_Ma_perform_126 : decode b_Ma_perform 126 = .ok (.iload 5, 2) := by decide +kernel
theorem d_Ma_perform_128 : decode b_Ma_perform 128 = .ok (.aload_n 0, 1) := by decide +kernel
theorem d_Ma_perform_129 : decode b_Ma_perform 129 = .ok (.getfield 58, 3) := by decide +kernel
theorem d_Ma_perform_132 : decode b_Ma_perform 132 = .ok (.invokevirtual 75, 3) := by decide +kernel
theorem d_Ma_perform_135 : decode b_Ma_perform 135 = .ok (.goto 59, 3) := by decide +kernel
theorem d_Ma_perform_138 : decode b_Ma_perform 138 = .ok (.aload_n 0, 1) := by decide +kernel
theorem d_Ma_perform_139 : decode b_Ma_perform 139 = .ok (.iload 4, 2) := by decide +kernel
theorem d_Ma_perform_141 : decode b_Ma_perform 141 = .ok (.sipush 240, 3) := by decide +kernel
theorem d_Ma_perform_144 : decode b_Ma_perform 144 = .ok (.iand, 1) := by decide +kernel
theorem d_Ma_perform_145 : decode b_Ma_perform 145 = .ok (.iload 6, 2) := by decide +kernel
theorem d_Ma_perform_147 : decode b_Ma_perform 147 = .ok (.invokevirtual 79, 3) := by decide +kernel
theorem d_Ma_perform_150 : decode b_Ma_perform 150 = .ok (.goto 44, 3) := by decide +kernel
theorem d_Ma_perform_153 : decode b_Ma_perform 153 = .ok (.aload_n 0, 1) := by decide +kernel
theorem d_Ma_perform_154 : decode b_Ma_perform 154 = .ok (.lload_n 1, 1) := by decide +kernel
theorem d_Ma_perform_155 : decode b_Ma_perform 155 = .ok (.iload 4, 2) := by decide +kernel
theorem d_Ma_perform_157 : decode b_Ma_perform 157 = .ok (.iload 6, 2) := by decide +kernel
theorem d_Ma_perform_159 : decode b_Ma_perform 159 = .ok (.invokevirtual 82, 3) := by decide +kernel
theorem d_Ma_perform_162 : decode b_Ma_perform 162 = .ok (.goto 32, 3) := by decide +kernel
theorem d_Ma_perform_165 : decode b_Ma_perform 165 = .ok (.aload_n 0, 1) := by decide +kernel
theorem d_Ma_perform_166 : decode b_Ma_perform 166 = .ok (.iload 4, 2) := by decide +kernel
theorem d_Ma_perform_168 : decode b_Ma_perform 168 = .ok (.bipush 6, 2) := by decide +kernel
theorem d_Ma_perform_170 : decode b_Ma_perform 170 = .ok (.if_icmp .ne 8, 3) := by decide +kernel
theorem d_Ma_perform_173 : decode b_Ma_perform 173 = .ok (.iload 5, 2) := by decide +kernel
theorem d_Ma_perform_175 : decode b_Ma_perform 175 = .ok (.goto 7, 3) := by decide +kernel
theorem d_Ma_perform_178 : decode b_Ma_perform 178 = .ok (.aload_n 0, 1) := by decide +kernel
theorem d_Ma_perform_179 : decode b_Ma_perform 179 = .ok (.getfield 55, 3) := by decide +kernel
theorem d_Ma_perform_182 : decode b_Ma_perform 182 = .ok (.invokevirtual 86, 3) := by decide +kernel
theorem d_Ma_perform_185 : decode b_Ma_perform 185 = .ok (.goto 9, 3) := by decide +kernel
theorem d_Ma_perform_188 : decode b_Ma_perform 188 = .ok (.aload_n 0, 1) := by decide +kernel
theorem d_Ma_perform_189 : decode b_Ma_perform 189 = .ok (.iload 4, 2) := by decide +kernel
theorem d_Ma_perform_191 : decode b_Ma_perform 191 = .ok (.invokevirtual 90, 3) := by decide +kernel
theorem d_Ma_perform_194 : decode b_Ma_perform 194 = .ok (.return_, 1) := by decide +kernel
theorem d_F_scratch_0 : decode b_F_scratch 0 = .ok (.iload_n 1, 1) := by decide +kernel
theorem d_F_scratch_1 : decode b_F_scratch 1 = .ok (.ifCond .lt 20, 3) := by decide +kernel
theorem d_F_scratch_4 : decode b_F_scratch 4 = .ok (.iload_n 1, 1) := by decide +kernel
theorem d_F_scratch_5 : decode b_F_scratch 5 = .ok (.bipush 16, 2) := by decide +kernel
theorem d_F_scratch_7 : decode b_F_scratch 7 = .ok (.if_icmp .ge 14, 3) := by decide +kernel
theorem d_F_scratch_10 : decode b_F_scratch 10 = .ok (.aload_n 0, 1) := by decide +kernel
theorem d_F_scratch_11 : decode b_F_scratch 11 = .ok (.getfield 42, 3) := by decide +kernel
theorem d_F_scratch_14 : decode b_F_scratch 14 = .ok (.iload_n 1, 1) := by decide +kernel
theorem d_F_scratch_15 : decode b_F_scratch 15 = .ok (.invokevirtual 132, 3) := by decide +kernel
theorem d_F_scratch_18 : decode b_F_scratch 18 = .ok (.ifCond .ne 7, 3) := by decide +kernel
theorem d_F_scratch_21 : decode b_F_scratch 21 = .ok (.ldc2_w 123, 3) := by decide +kernel
theorem d_F_scratch_24 : decode b_F_scratch 24 = .ok (.lreturn, 1) := by decide +kernel
theorem d_F_scratch_25 : decode b_F_scratch 25 = .ok (.aload_n 0, 1) := by decide +kernel
theorem d_F_scratch_26 : decode b_F_scratch 26 = .ok (.getfield 42, 3) := by decide +kernel
theorem d_F_scratch_29 : decode b_F_scratch 29 = .ok (.getfield 135, 3) := by decide +kernel
theorem d_F_scratch_32 : decode b_F_scratch 32 = .ok (.iload_n 1, 1) := by decide +kernel
theorem d_F_scratch_33 : decode b_F_scratch 33 = .ok (.iaload, 1) := by decide +kernel
theorem d_F_scratch_34 : decode b_F_scratch 34 = .ok (.invokestatic 138, 3) := by decide +kernel
theorem d_F_scratch_37 : decode b_F_scratch 37 = .ok (.lreturn, 1) := by decide +kernel
def m_Ma_forget (M : MT) : MT := (M.1, (0 : Int32), (0 : Int32), M.2.2.2.1, M.2.2.2.2.1, M.2.2.2.2.2.1, M.2.2.2.2.2.2.1, M.2.2.2.2.2.2.2)
set_option maxHeartbeats 4000000 in
set_option maxRecDepth 100000 in
theorem c_Ma_forget (l : Launch) (D : va_G) (dA : Nat → ClassId) (ad : Nat → Nat) (A : Nat → Prop) (hAd : AdOK 49 ad A) (w : Nat → Int32) (P : PT) (g : GT) (ss : Nat → Int32) (M : MT) : Met l y_Ma_forget (mW y_Ma_forget b_Ma_forget 1 none) { frames := 0, cells := 0, slots := 0, locals := 0 } (va_Pc [.ref (ad 11)] (fun U => CG D dA ad w P g ss M U)) (va_Qv (fun u : MT => u = m_Ma_forget M) (fun u t => CG D dA ad w P g ss u t) A) 0 0 A := by
  refine Met.ofW (cc := b_Ma_forget) (maxL := 1) (ret := none) (by decide) rfl ?_
  intro p e s m args below meth c s₁ B hml hv
  obtain ⟨rfl, hP, hK, hN⟩ := hv
  have hx := B.exec
  have hb := B.bytes
  have hr := B.returns
  have hlocks := B.notSynchronized
  have hts := fun (w : Cond) (h : w ∈ lw_g) => atoms_spec (ws := mW y_Ma_forget b_Ma_forget 1 none) B.pre w (List.mem_cons_of_mem _ h)
  have hown : s.vm.findClass R_Ma = some m.cls := findClass_of_methodNamed B.named
  have hS : va_S A s.heap s.heap [] := va_S.rf
  have hl := lv_entry ([.ref (ad 11)]) (n := 1) (Nat.le_of_ble_eq_true rfl)
  rw [lg_entry_eq]
  generalize (lg_sl ([.ref (ad 11)]) ++ List.replicate (1 - (lg_sl ([.ref (ad 11)])).length) Slot.unset).toArray = ls at hl ⊢
  have hl : lv_has ls 1 [(0, .ref (ad 11))] := hl
  refine lv_aload_n hx hb d_Ma_forget_0 rfl (lv_at hl 0 rfl) ?_
  refine lv_iconst (v := 0) hx hb d_Ma_forget_1 (by decide) ?_
  refine va_put (D := D) (ci := 4) (v := .int (0 : Int32)) (ty := .int) (C := R_Ma) (T := F_Ma) (N := 8) hx hb hts in_Ma t_Ma k_Ma n_Ma hown hK hP (wC_D hAd) hS 11 rfl rfl 1 (by decide) (hts _ wd_183) (fun _ h9 => h9) rfl (by decide +kernel) rfl rfl (Nat.le_of_ble_eq_true rfl) d_Ma_forget_2 (fun H locs hP _ hS => ?_)
  have hP : va_P D cls (wC ad dA w P g ss (M.1, (0 : Int32), M.2.2.1, M.2.2.2.1, M.2.2.2.2.1, M.2.2.2.2.2.1, M.2.2.2.2.2.2.1, M.2.2.2.2.2.2.2)) H := hP
  refine lv_aload_n hx hb d_Ma_forget_5 rfl (lv_at hl 0 rfl) ?_
  refine lv_iconst (v := 0) hx hb d_Ma_forget_6 (by decide) ?_
  refine va_put (D := D) (ci := 4) (v := .int (0 : Int32)) (ty := .int) (C := R_Ma) (T := F_Ma) (N := 8) hx hb hts in_Ma t_Ma k_Ma n_Ma hown hK hP (wC_D hAd) hS 11 rfl rfl 2 (by decide) (hts _ wd_185) (fun _ h9 => h9) rfl (by decide +kernel) rfl rfl (Nat.le_of_ble_eq_true rfl) d_Ma_forget_7 (fun H locs hP _ hS => ?_)
  have hP : va_P D cls (wC ad dA w P g ss (M.1, (0 : Int32), (0 : Int32), M.2.2.2.1, M.2.2.2.2.1, M.2.2.2.2.2.1, M.2.2.2.2.2.2.1, M.2.2.2.2.2.2.2)) H := hP
  exact W.vret hx hb hr (fun t ht hW => ⟨⟨_, rfl, (by rw [m_Ma_forget]), CG_at hP hK hN ht hW⟩, hS.F ht⟩) hS.2.2 d_Ma_forget_10
def m_Ma_hasStored (M : MT) (i : Int32) : Int32 := if (((M.2.2.1.toUInt32 >>> (i.toUInt32 &&& Int32.toUInt32 31)).toInt32) &&& (1 : Int32)) = (0 : Int32) then (0 : Int32) else (1 : Int32)
set_option maxHeartbeats 4000000 in
set_option maxRecDepth 100000 in
theorem c_Ma_hasStored (l : Launch) (D : va_G) (dA : Nat → ClassId) (ad : Nat → Nat) (w : Nat → Int32) (P : PT) (g : GT) (ss : Nat → Int32) (M : MT) (i : Int32) : Met l y_Ma_hasStored (mW y_Ma_hasStored b_Ma_hasStored 2 (some .boolean)) { frames := 0, cells := 0, slots := 0, locals := 0 } (va_Pc [.ref (ad 11), .int i] (fun U => CG D dA ad w P g ss M U)) (vp_Si (fun r => r = m_Ma_hasStored M i)) 0 0 (fun _ => False) := by
  refine Met.ofW (cc := b_Ma_hasStored) (maxL := 2) (ret := (some .boolean)) (by decide) rfl ?_
  intro p e s m args below meth c s₁ B hml hv
  obtain ⟨rfl, hP, hK, hN⟩ := hv
  have hx := B.exec
  have hb := B.bytes
  have hr := B.returns
  have hlocks := B.notSynchronized
  have hts := fun (w : Cond) (h : w ∈ lw_g) => atoms_spec (ws := mW y_Ma_hasStored b_Ma_hasStored 2 (some .boolean)) B.pre w (List.mem_cons_of_mem _ h)
  have hown : s.vm.findClass R_Ma = some m.cls := findClass_of_methodNamed B.named
  have hl := lv_entry ([.ref (ad 11), .int i]) (n := 2) (Nat.le_of_ble_eq_true rfl)
  rw [lg_entry_eq]
  generalize (lg_sl ([.ref (ad 11), .int i]) ++ List.replicate (2 - (lg_sl ([.ref (ad 11), .int i])).length) Slot.unset).toArray = ls at hl ⊢
  have hl : lv_has ls 2 [(0, .ref (ad 11)), (1, .int i)] := hl
  refine lv_aload_n hx hb d_Ma_hasStored_0 rfl (lv_at hl 0 rfl) ?_
  refine va_get (D := D) (ci := 4) (v := .int M.2.2.1) (C := R_Ma) (T := F_Ma) (N := 8) hx hb hts in_Ma hown hK hP 11 rfl rfl 2 (by decide) (hts _ wd_185) (fun _ h9 => h9) rfl d_Ma_hasStored_1 ?_
  refine lv_iload_n hx hb d_Ma_hasStored_4 rfl (lv_at hl 1 rfl) ?_
  refine lv_iushr hx hb d_Ma_hasStored_5 rfl ?_
  refine lv_iconst (v := 1) hx hb d_Ma_hasStored_6 (by decide) ?_
  refine lv_iand hx hb d_Ma_hasStored_7 ?_
  refine lv_if_eq (tgt := 15) hx hb d_Ma_hasStored_8 (by decide) (fun h1 => ?_) (fun h1 => ?_)
  · refine lv_iconst (v := 0) hx hb d_Ma_hasStored_15 (by decide) ?_
    exact W.zret hx hb hr rfl (fun t ht hW => ⟨_, rfl, (by rw [m_Ma_hasStored, if_pos h1]), ht⟩) (fun _ h => by cases h) d_Ma_hasStored_16
  refine lv_iconst (v := 1) hx hb d_Ma_hasStored_11 (by decide) ?_
  refine lv_goto (tgt := 16) hx hb d_Ma_hasStored_12 (by decide) ?_
  exact W.zret hx hb hr rfl (fun t ht hW => ⟨_, rfl, (by rw [m_Ma_hasStored, if_neg h1]), ht⟩) (fun _ h => by cases h) d_Ma_hasStored_16
def m_Ma_begin (M : MT) : MT := ((m_Ma_forget M).1, (m_Ma_forget M).2.1, (m_Ma_forget M).2.2.1, (0 : Int32), (0 : Int32), (0 : Int32), (0 : Int32), (0 : Int32))
set_option maxHeartbeats 4000000 in
set_option maxRecDepth 100000 in
theorem c_Ma_begin (l : Launch) (D : va_G) (dA : Nat → ClassId) (ad : Nat → Nat) (A : Nat → Prop) (hAd : AdOK 49 ad A) (w : Nat → Int32) (P : PT) (g : GT) (ss : Nat → Int32) (M : MT) : Met l y_Ma_begin (mW y_Ma_begin b_Ma_begin 1 none) { frames := 1, cells := 0, slots := 0, locals := 20 } (va_Pc [.ref (ad 11)] (fun U => CG D dA ad w P g ss M U)) (va_Qv (fun u : MT => u = m_Ma_begin M) (fun u t => CG D dA ad w P g ss u t) A) 0 0 A := by
  refine Met.ofW (cc := b_Ma_begin) (maxL := 1) (ret := none) (by decide) rfl ?_
  intro p e s m args below meth c s₁ B hml hv
  obtain ⟨rfl, hP, hK, hN⟩ := hv
  have hx := B.exec
  have hb := B.bytes
  have hr := B.returns
  have hlocks := B.notSynchronized
  have hts := fun (w : Cond) (h : w ∈ lw_g) => atoms_spec (ws := mW y_Ma_begin b_Ma_begin 1 none) B.pre w (List.mem_cons_of_mem _ h)
  have hown : s.vm.findClass R_Ma = some m.cls := findClass_of_methodNamed B.named
  have hS : va_S A s.heap s.heap [] := va_S.rf
  have hl := lv_entry ([.ref (ad 11)]) (n := 1) (Nat.le_of_ble_eq_true rfl)
  rw [lg_entry_eq]
  generalize (lg_sl ([.ref (ad 11)]) ++ List.replicate (1 - (lg_sl ([.ref (ad 11)])).length) Slot.unset).toArray = ls at hl ⊢
  have hl : lv_has ls 1 [(0, .ref (ad 11))] := hl
  refine lv_aload_n hx hb d_Ma_begin_0 rfl (lv_at hl 0 rfl) ?_
  refine va_callv (va_runV (As := []) (rest := []) ⟨hx, hb, hml, hown, hts⟩ (c_Ma_forget l D dA ad A hAd w P g ss M) (cwV 0 hts (g_V wd_436 wd_424 wd_425 wd_34 wd_426) rfl rfl rfl (by decide +kernel) ⟨Nat.le_of_ble_eq_true rfl, Nat.le_of_ble_eq_true rfl⟩) ⟨CG_fb, (va_recv (ci := 4) (q := (R_Ma, F_Ma, 8)) (q0 := 11) hK hP rfl rfl), fun U hU hW => ⟨rfl, CG_at hP hK hN hU hW⟩⟩ rfl rfl hl.1 rfl (lv_room (Nat.le_of_ble_eq_true rfl)) d_Ma_begin_1 ⟨Nat.le_of_ble_eq_true rfl, Nat.le_of_ble_eq_true rfl⟩) hS (fun _ _ h => h) (fun _ h => h) (fun u1 t H locs ht hvm hu hB hz hk hS => ?_)
  subst hu
  obtain ⟨hP, -⟩ := hB
  rw [ht] at hP
  have hP : va_P D cls (wC ad dA w P g ss (m_Ma_forget M)) H := hP
  refine lv_aload_n hx hb d_Ma_begin_4 rfl (lv_at hl 0 rfl) ?_
  refine lv_iconst (v := 0) hx hb d_Ma_begin_5 (by decide) ?_
  refine va_put (D := D) (ci := 4) (v := .int (0 : Int32)) (ty := .int) (C := R_Ma) (T := F_Ma) (N := 8) hx hb hts in_Ma t_Ma k_Ma n_Ma hown hK hP (wC_D hAd) hS 11 rfl rfl 3 (by decide) (hts _ wd_186) (fun _ h9 => h9) rfl (by decide +kernel) rfl rfl (Nat.le_of_ble_eq_true rfl) d_Ma_begin_6 (fun H locs hP _ hS => ?_)
  have hP : va_P D cls (wC ad dA w P g ss ((m_Ma_forget M).1, (m_Ma_forget M).2.1, (m_Ma_forget M).2.2.1, (0 : Int32), (m_Ma_forget M).2.2.2.2.1, (m_Ma_forget M).2.2.2.2.2.1, (m_Ma_forget M).2.2.2.2.2.2.1, (m_Ma_forget M).2.2.2.2.2.2.2)) H := hP
  refine lv_aload_n hx hb d_Ma_begin_9 rfl (lv_at hl 0 rfl) ?_
  refine lv_iconst (v := 0) hx hb d_Ma_begin_10 (by decide) ?_
  refine va_put (D := D) (ci := 4) (v := .int (0 : Int32)) (ty := .int) (C := R_Ma) (T := F_Ma) (N := 8) hx hb hts in_Ma t_Ma k_Ma n_Ma hown hK hP (wC_D hAd) hS 11 rfl rfl 4 (by decide) (hts _ wd_187) (fun _ h9 => h9) rfl (by decide +kernel) rfl rfl (Nat.le_of_ble_eq_true rfl) d_Ma_begin_11 (fun H locs hP _ hS => ?_)
  have hP : va_P D cls (wC ad dA w P g ss ((m_Ma_forget M).1, (m_Ma_forget M).2.1, (m_Ma_forget M).2.2.1, (0 : Int32), (0 : Int32), (m_Ma_forget M).2.2.2.2.2.1, (m_Ma_forget M).2.2.2.2.2.2.1, (m_Ma_forget M).2.2.2.2.2.2.2)) H := hP
  refine lv_aload_n hx hb d_Ma_begin_14 rfl (lv_at hl 0 rfl) ?_
  refine lv_iconst (v := 0) hx hb d_Ma_begin_15 (by decide) ?_
  refine va_put (D := D) (ci := 4) (v := .int (0 : Int32)) (ty := .int) (C := R_Ma) (T := F_Ma) (N := 8) hx hb hts in_Ma t_Ma k_Ma n_Ma hown hK hP (wC_D hAd) hS 11 rfl rfl 5 (by decide) (hts _ wd_188) (fun _ h9 => h9) rfl (by decide +kernel) rfl rfl (Nat.le_of_ble_eq_true rfl) d_Ma_begin_16 (fun H locs hP _ hS => ?_)
  have hP : va_P D cls (wC ad dA w P g ss ((m_Ma_forget M).1, (m_Ma_forget M).2.1, (m_Ma_forget M).2.2.1, (0 : Int32), (0 : Int32), (0 : Int32), (m_Ma_forget M).2.2.2.2.2.2.1, (m_Ma_forget M).2.2.2.2.2.2.2)) H := hP
  refine lv_aload_n hx hb d_Ma_begin_19 rfl (lv_at hl 0 rfl) ?_
  refine lv_iconst (v := 0) hx hb d_Ma_begin_20 (by decide) ?_
  refine va_put (D := D) (ci := 4) (v := .int (0 : Int32)) (ty := .boolean) (C := R_Ma) (T := F_Ma) (N := 8) hx hb hts in_Ma t_Ma k_Ma n_Ma hown hK hP (wC_D hAd) hS 11 rfl rfl 6 (by decide) (hts _ wd_189) (fun _ h9 => h9) rfl (by decide +kernel) rfl rfl (Nat.le_of_ble_eq_true rfl) d_Ma_begin_21 (fun H locs hP _ hS => ?_)
  have hP : va_P D cls (wC ad dA w P g ss ((m_Ma_forget M).1, (m_Ma_forget M).2.1, (m_Ma_forget M).2.2.1, (0 : Int32), (0 : Int32), (0 : Int32), (0 : Int32), (m_Ma_forget M).2.2.2.2.2.2.2)) H := hP
  refine lv_aload_n hx hb d_Ma_begin_24 rfl (lv_at hl 0 rfl) ?_
  refine lv_iconst (v := 0) hx hb d_Ma_begin_25 (by decide) ?_
  refine va_put (D := D) (ci := 4) (v := .int (0 : Int32)) (ty := .int) (C := R_Ma) (T := F_Ma) (N := 8) hx hb hts in_Ma t_Ma k_Ma n_Ma hown hK hP (wC_D hAd) hS 11 rfl rfl 7 (by decide) (hts _ wd_190) (fun _ h9 => h9) rfl (by decide +kernel) rfl rfl (Nat.le_of_ble_eq_true rfl) d_Ma_begin_26 (fun H locs hP _ hS => ?_)
  have hP : va_P D cls (wC ad dA w P g ss ((m_Ma_forget M).1, (m_Ma_forget M).2.1, (m_Ma_forget M).2.2.1, (0 : Int32), (0 : Int32), (0 : Int32), (0 : Int32), (0 : Int32))) H := hP
  exact W.vret hx hb hr (fun t ht hW => ⟨⟨_, rfl, (by rw [m_Ma_begin]), CG_at hP hK hN ht hW⟩, hS.F ht⟩) hS.2.2 d_Ma_begin_29
def m_Ma_load (w : Nat → Int32) (M : MT) (cd : Int32) (k : Int32) : Int32 := if (cd &&& (240 : Int32)) = (0 : Int32) then k else if (cd &&& (240 : Int32)) = (32 : Int32) then w (k / (4 : Int32)).toNatClampNeg else if (cd &&& (240 : Int32)) = (96 : Int32) then M.1 k.toNatClampNeg else (64 : Int32)
set_option maxHeartbeats 4000000 in
set_option maxRecDepth 100000 in
theorem c_Ma_load (l : Launch) (D : va_G) (dA : Nat → ClassId) (ad : Nat → Nat) (w : Nat → Int32) (P : PT) (g : GT) (ss : Nat → Int32) (M : MT) (cd : Int32) (k : Int32) (hw : cd &&& (240 : Int32) = (32 : Int32) → vp_in (k / (4 : Int32)) 16) (hc : cd &&& (240 : Int32) = (96 : Int32) → vp_in k 16) : Met l y_Ma_load (mW y_Ma_load b_Ma_load 4 (some .int)) { frames := 0, cells := 0, slots := 0, locals := 0 } (va_Pc [.ref (ad 11), .int cd, .int k, .ref (ad 1)] (fun U => CG D dA ad w P g ss M U)) (vp_Si (fun r => r = m_Ma_load w M cd k)) 0 0 (fun _ => False) := by
  refine Met.ofW (cc := b_Ma_load) (maxL := 4) (ret := (some .int)) (by decide) rfl ?_
  intro p e s m args below meth c s₁ B hml hv
  obtain ⟨rfl, hP, hK, hN⟩ := hv
  have hx := B.exec
  have hb := B.bytes
  have hr := B.returns
  have hlocks := B.notSynchronized
  have hts := fun (w : Cond) (h : w ∈ lw_g) => atoms_spec (ws := mW y_Ma_load b_Ma_load 4 (some .int)) B.pre w (List.mem_cons_of_mem _ h)
  have hown : s.vm.findClass R_Ma = some m.cls := findClass_of_methodNamed B.named
  have hl := lv_entry ([.ref (ad 11), .int cd, .int k, .ref (ad 1)]) (n := 4) (Nat.le_of_ble_eq_true rfl)
  rw [lg_entry_eq]
  generalize (lg_sl ([.ref (ad 11), .int cd, .int k, .ref (ad 1)]) ++ List.replicate (4 - (lg_sl ([.ref (ad 11), .int cd, .int k, .ref (ad 1)])).length) Slot.unset).toArray = ls at hl ⊢
  have hl : lv_has ls 4 [(0, .ref (ad 11)), (1, .int cd), (2, .int k), (3, .ref (ad 1))] := hl
  refine lv_iload_n hx hb d_Ma_load_0 rfl (lv_at hl 1 rfl) ?_
  refine lv_sipush (v := 240) hx hb d_Ma_load_1 (by decide) ?_
  refine lv_iand hx hb d_Ma_load_4 ?_
  by_cases h1 : cd &&& (240 : Int32) = (0 : Int32)
  · refine lv_lookup (tgt := 40) (off := 35) hx hb d_Ma_load_5 (by decide) (by rw [h1] <;> rfl) (by decide) ?_
    refine lv_iload_n hx hb d_Ma_load_40 rfl (lv_at hl 2 rfl) ?_
    exact W.iret hx hb hr (fun t ht hW => ⟨_, rfl, (by rw [m_Ma_load, if_pos h1]), ht⟩) (fun _ h => by cases h) d_Ma_load_41
  by_cases h2 : cd &&& (240 : Int32) = (32 : Int32)
  · refine lv_lookup (tgt := 42) (off := 37) hx hb d_Ma_load_5 (by decide) (by rw [h2] <;> rfl) (by decide) ?_
    refine lv_aload_n hx hb d_Ma_load_42 rfl (lv_at hl 3 rfl) ?_
    refine va_get (D := D) (ci := 1) (v := .ref (ad 2)) (C := R_Ca) (T := F_Ca) (N := 1) hx hb hts in_Ca hown hK hP 1 rfl rfl 0 (by decide) (hts _ wd_54) (fun _ h9 => h9) rfl d_Ma_load_43 ?_
    refine lv_iload_n hx hb d_Ma_load_46 rfl (lv_at hl 2 rfl) ?_
    refine lv_iconst (v := 4) hx hb d_Ma_load_47 (by decide) ?_
    refine lv_idiv hx hb d_Ma_load_48 (by decide) ?_
    refine va_iald (n := 16) (f := w) hx hb hK hP 2 0 rfl rfl (hw (by assumption)) d_Ma_load_49 ?_
    exact W.iret hx hb hr (fun t ht hW => ⟨_, rfl, (by rw [m_Ma_load, if_neg h1, if_pos h2]), ht⟩) (fun _ h => by cases h) d_Ma_load_50
  by_cases h3 : cd &&& (240 : Int32) = (96 : Int32)
  · refine lv_lookup (tgt := 51) (off := 46) hx hb d_Ma_load_5 (by decide) (by rw [h3] <;> rfl) (by decide) ?_
    refine lv_aload_n hx hb d_Ma_load_51 rfl (lv_at hl 0 rfl) ?_
    refine va_get (D := D) (ci := 4) (v := .ref (ad 12)) (C := R_Ma) (T := F_Ma) (N := 8) hx hb hts in_Ma hown hK hP 11 rfl rfl 0 (by decide) (hts _ wd_181) (fun _ h9 => h9) rfl d_Ma_load_52 ?_
    refine lv_iload_n hx hb d_Ma_load_55 rfl (lv_at hl 2 rfl) ?_
    refine va_iald (n := 16) (f := M.1) hx hb hK hP 12 0 rfl rfl (hc (by assumption)) d_Ma_load_56 ?_
    exact W.iret hx hb hr (fun t ht hW => ⟨_, rfl, (by rw [m_Ma_load, if_neg h1, if_neg h2, if_pos h3]), ht⟩) (fun _ h => by cases h) d_Ma_load_57
  refine lv_lookup (tgt := 58) (off := 53) hx hb d_Ma_load_5 (by decide) ((lv_osw h1 (by decide)).trans ((lv_osw h2 (by decide)).trans ((lv_osw h3 (by decide)).trans rfl))) (by decide) ?_
  refine lv_bipush (v := 64) hx hb d_Ma_load_58 (by decide) ?_
  exact W.iret hx hb hr (fun t ht hW => ⟨_, rfl, (by rw [m_Ma_load, if_neg h1, if_neg h2, if_neg h3]), ht⟩) (fun _ h => by cases h) d_Ma_load_60
def m_Ma_store (M : MT) (k : Int32) (v : Int32) : MT := (upd M.1 k.toNatClampNeg v, M.2.1, M.2.2.1 ||| ((1 : Int32) <<< (k &&& 31)), M.2.2.2.1, M.2.2.2.2.1, M.2.2.2.2.2.1, M.2.2.2.2.2.2.1, M.2.2.2.2.2.2.2)
set_option maxHeartbeats 4000000 in
set_option maxRecDepth 100000 in
theorem c_Ma_store (l : Launch) (D : va_G) (dA : Nat → ClassId) (ad : Nat → Nat) (A : Nat → Prop) (hAd : AdOK 49 ad A) (w : Nat → Int32) (P : PT) (g : GT) (ss : Nat → Int32) (M : MT) (k : Int32) (v : Int32) (hk : vp_in k 16) : Met l y_Ma_store (mW y_Ma_store b_Ma_store 3 none) { frames := 0, cells := 0, slots := 0, locals := 0 } (va_Pc [.ref (ad 11), .int k, .int v] (fun U => CG D dA ad w P g ss M U)) (va_Qv (fun u : MT => u = m_Ma_store M k v) (fun u t => CG D dA ad w P g ss u t) A) 0 0 A := by
  refine Met.ofW (cc := b_Ma_store) (maxL := 3) (ret := none) (by decide) rfl ?_
  intro p e s m args below meth c s₁ B hml hv
  obtain ⟨rfl, hP, hK, hN⟩ := hv
  have hx := B.exec
  have hb := B.bytes
  have hr := B.returns
  have hlocks := B.notSynchronized
  have hts := fun (w : Cond) (h : w ∈ lw_g) => atoms_spec (ws := mW y_Ma_store b_Ma_store 3 none) B.pre w (List.mem_cons_of_mem _ h)
  have hown : s.vm.findClass R_Ma = some m.cls := findClass_of_methodNamed B.named
  have hS : va_S A s.heap s.heap [] := va_S.rf
  have hl := lv_entry ([.ref (ad 11), .int k, .int v]) (n := 3) (Nat.le_of_ble_eq_true rfl)
  rw [lg_entry_eq]
  generalize (lg_sl ([.ref (ad 11), .int k, .int v]) ++ List.replicate (3 - (lg_sl ([.ref (ad 11), .int k, .int v])).length) Slot.unset).toArray = ls at hl ⊢
  have hl : lv_has ls 3 [(0, .ref (ad 11)), (1, .int k), (2, .int v)] := hl
  refine lv_aload_n hx hb d_Ma_store_0 rfl (lv_at hl 0 rfl) ?_
  refine va_get (D := D) (ci := 4) (v := .ref (ad 12)) (C := R_Ma) (T := F_Ma) (N := 8) hx hb hts in_Ma hown hK hP 11 rfl rfl 0 (by decide) (hts _ wd_181) (fun _ h9 => h9) rfl d_Ma_store_1 ?_
  refine lv_iload_n hx hb d_Ma_store_4 rfl (lv_at hl 1 rfl) ?_
  refine lv_iload_n hx hb d_Ma_store_5 rfl (lv_at hl 2 rfl) ?_
  refine va_iast (n := 16) (f := M.1) hx hb hK hP (wC_D hAd) hS 12 0 rfl rfl hk d_Ma_store_6 (fun H locs hP _ hS => ?_)
  have hP : va_P D cls (wC ad dA w P g ss (upd M.1 k.toNatClampNeg v, M.2.1, M.2.2.1, M.2.2.2.1, M.2.2.2.2.1, M.2.2.2.2.2.1, M.2.2.2.2.2.2.1, M.2.2.2.2.2.2.2)) H := hP
  refine lv_aload_n hx hb d_Ma_store_7 rfl (lv_at hl 0 rfl) ?_
  refine lv_dup hx hb d_Ma_store_8 rfl ?_
  refine va_get (D := D) (ci := 4) (v := .int M.2.2.1) (C := R_Ma) (T := F_Ma) (N := 8) hx hb hts in_Ma hown hK hP 11 rfl rfl 2 (by decide) (hts _ wd_185) (fun _ h9 => h9) rfl d_Ma_store_9 ?_
  refine lv_iconst (v := 1) hx hb d_Ma_store_12 (by decide) ?_
  refine lv_iload_n hx hb d_Ma_store_13 rfl (lv_at hl 1 rfl) ?_
  refine lv_ishl hx hb d_Ma_store_14 ?_
  refine lv_ior hx hb d_Ma_store_15 ?_
  refine va_put (D := D) (ci := 4) (v := .int (M.2.2.1 ||| ((1 : Int32) <<< (k &&& 31)))) (ty := .int) (C := R_Ma) (T := F_Ma) (N := 8) hx hb hts in_Ma t_Ma k_Ma n_Ma hown hK hP (wC_D hAd) hS 11 rfl rfl 2 (by decide) (hts _ wd_185) (fun _ h9 => h9) rfl (by decide +kernel) rfl rfl (Nat.le_of_ble_eq_true rfl) d_Ma_store_16 (fun H locs hP _ hS => ?_)
  have hP : va_P D cls (wC ad dA w P g ss (upd M.1 k.toNatClampNeg v, M.2.1, M.2.2.1 ||| ((1 : Int32) <<< (k &&& 31)), M.2.2.2.1, M.2.2.2.2.1, M.2.2.2.2.2.1, M.2.2.2.2.2.2.1, M.2.2.2.2.2.2.2)) H := hP
  exact W.vret hx hb hr (fun t ht hW => ⟨⟨_, rfl, (by rw [m_Ma_store]), CG_at hP hK hN ht hW⟩, hS.F ht⟩) hS.2.2 d_Ma_store_19
def m_Ma_copy (M : MT) (cd : Int32) : MT := if cd = (7 : Int32) then (M.1, M.2.1, M.2.2.1, M.2.2.2.1, M.2.2.2.1, M.2.2.2.2.2.1, M.2.2.2.2.2.2.1, M.2.2.2.2.2.2.2) else (M.1, M.2.1, M.2.2.1, M.2.2.2.2.1, M.2.2.2.2.1, M.2.2.2.2.2.1, M.2.2.2.2.2.2.1, M.2.2.2.2.2.2.2)
set_option maxHeartbeats 4000000 in
set_option maxRecDepth 100000 in
theorem c_Ma_copy (l : Launch) (D : va_G) (dA : Nat → ClassId) (ad : Nat → Nat) (A : Nat → Prop) (hAd : AdOK 49 ad A) (w : Nat → Int32) (P : PT) (g : GT) (ss : Nat → Int32) (M : MT) (cd : Int32) : Met l y_Ma_copy (mW y_Ma_copy b_Ma_copy 2 none) { frames := 0, cells := 0, slots := 0, locals := 0 } (va_Pc [.ref (ad 11), .int cd] (fun U => CG D dA ad w P g ss M U)) (va_Qv (fun u : MT => u = m_Ma_copy M cd) (fun u t => CG D dA ad w P g ss u t) A) 0 0 A := by
  refine Met.ofW (cc := b_Ma_copy) (maxL := 2) (ret := none) (by decide) rfl ?_
  intro p e s m args below meth c s₁ B hml hv
  obtain ⟨rfl, hP, hK, hN⟩ := hv
  have hx := B.exec
  have hb := B.bytes
  have hr := B.returns
  have hlocks := B.notSynchronized
  have hts := fun (w : Cond) (h : w ∈ lw_g) => atoms_spec (ws := mW y_Ma_copy b_Ma_copy 2 none) B.pre w (List.mem_cons_of_mem _ h)
  have hown : s.vm.findClass R_Ma = some m.cls := findClass_of_methodNamed B.named
  have hS : va_S A s.heap s.heap [] := va_S.rf
  have hl := lv_entry ([.ref (ad 11), .int cd]) (n := 2) (Nat.le_of_ble_eq_true rfl)
  rw [lg_entry_eq]
  generalize (lg_sl ([.ref (ad 11), .int cd]) ++ List.replicate (2 - (lg_sl ([.ref (ad 11), .int cd])).length) Slot.unset).toArray = ls at hl ⊢
  have hl : lv_has ls 2 [(0, .ref (ad 11)), (1, .int cd)] := hl
  refine lv_iload_n hx hb d_Ma_copy_0 rfl (lv_at hl 1 rfl) ?_
  refine lv_bipush (v := 7) hx hb d_Ma_copy_1 (by decide) ?_
  refine lv_icmp_ne (tgt := 17) hx hb d_Ma_copy_3 (by decide) (fun h1 => ?_) (fun h1 => ?_)
  · refine lv_aload_n hx hb d_Ma_copy_17 rfl (lv_at hl 0 rfl) ?_
    refine lv_aload_n hx hb d_Ma_copy_18 rfl (lv_at hl 0 rfl) ?_
    refine va_get (D := D) (ci := 4) (v := .int M.2.2.2.2.1) (C := R_Ma) (T := F_Ma) (N := 8) hx hb hts in_Ma hown hK hP 11 rfl rfl 4 (by decide) (hts _ wd_187) (fun _ h9 => h9) rfl d_Ma_copy_19 ?_
    refine va_put (D := D) (ci := 4) (v := .int M.2.2.2.2.1) (ty := .int) (C := R_Ma) (T := F_Ma) (N := 8) hx hb hts in_Ma t_Ma k_Ma n_Ma hown hK hP (wC_D hAd) hS 11 rfl rfl 3 (by decide) (hts _ wd_186) (fun _ h9 => h9) rfl (by decide +kernel) rfl rfl (Nat.le_of_ble_eq_true rfl) d_Ma_copy_22 (fun H locs hP _ hS => ?_)
    have hP : va_P D cls (wC ad dA w P g ss (M.1, M.2.1, M.2.2.1, M.2.2.2.2.1, M.2.2.2.2.1, M.2.2.2.2.2.1, M.2.2.2.2.2.2.1, M.2.2.2.2.2.2.2)) H := hP
    exact W.vret hx hb hr (fun t ht hW => ⟨⟨_, rfl, (by rw [m_Ma_copy, if_neg h1]), CG_at hP hK hN ht hW⟩, hS.F ht⟩) hS.2.2 d_Ma_copy_25
  refine lv_aload_n hx hb d_Ma_copy_6 rfl (lv_at hl 0 rfl) ?_
  refine lv_aload_n hx hb d_Ma_copy_7 rfl (lv_at hl 0 rfl) ?_
  refine va_get (D := D) (ci := 4) (v := .int M.2.2.2.1) (C := R_Ma) (T := F_Ma) (N := 8) hx hb hts in_Ma hown hK hP 11 rfl rfl 3 (by decide) (hts _ wd_186) (fun _ h9 => h9) rfl d_Ma_copy_8 ?_
  refine va_put (D := D) (ci := 4) (v := .int M.2.2.2.1) (ty := .int) (C := R_Ma) (T := F_Ma) (N := 8) hx hb hts in_Ma t_Ma k_Ma n_Ma hown hK hP (wC_D hAd) hS 11 rfl rfl 4 (by decide) (hts _ wd_187) (fun _ h9 => h9) rfl (by decide +kernel) rfl rfl (Nat.le_of_ble_eq_true rfl) d_Ma_copy_11 (fun H locs hP _ hS => ?_)
  have hP : va_P D cls (wC ad dA w P g ss (M.1, M.2.1, M.2.2.1, M.2.2.2.1, M.2.2.2.1, M.2.2.2.2.2.1, M.2.2.2.2.2.2.1, M.2.2.2.2.2.2.2)) H := hP
  refine lv_goto (tgt := 25) hx hb d_Ma_copy_14 (by decide) ?_
  exact W.vret hx hb hr (fun t ht hW => ⟨⟨_, rfl, (by rw [m_Ma_copy, if_pos h1]), CG_at hP hK hN ht hW⟩, hS.F ht⟩) hS.2.2 d_Ma_copy_25
def m_Ma_end (M : MT) (v : Int32) : MT := (M.1, M.2.1, M.2.2.1, M.2.2.2.1, M.2.2.2.2.1, M.2.2.2.2.2.1, (1 : Int32), v)
set_option maxHeartbeats 4000000 in
set_option maxRecDepth 100000 in
theorem c_Ma_end (l : Launch) (D : va_G) (dA : Nat → ClassId) (ad : Nat → Nat) (A : Nat → Prop) (hAd : AdOK 49 ad A) (w : Nat → Int32) (P : PT) (g : GT) (ss : Nat → Int32) (M : MT) (v : Int32) : Met l y_Ma_end (mW y_Ma_end b_Ma_end 2 none) { frames := 0, cells := 0, slots := 0, locals := 0 } (va_Pc [.ref (ad 11), .int v] (fun U => CG D dA ad w P g ss M U)) (va_Qv (fun u : MT => u = m_Ma_end M v) (fun u t => CG D dA ad w P g ss u t) A) 0 0 A := by
  refine Met.ofW (cc := b_Ma_end) (maxL := 2) (ret := none) (by decide) rfl ?_
  intro p e s m args below meth c s₁ B hml hv
  obtain ⟨rfl, hP, hK, hN⟩ := hv
  have hx := B.exec
  have hb := B.bytes
  have hr := B.returns
  have hlocks := B.notSynchronized
  have hts := fun (w : Cond) (h : w ∈ lw_g) => atoms_spec (ws := mW y_Ma_end b_Ma_end 2 none) B.pre w (List.mem_cons_of_mem _ h)
  have hown : s.vm.findClass R_Ma = some m.cls := findClass_of_methodNamed B.named
  have hS : va_S A s.heap s.heap [] := va_S.rf
  have hl := lv_entry ([.ref (ad 11), .int v]) (n := 2) (Nat.le_of_ble_eq_true rfl)
  rw [lg_entry_eq]
  generalize (lg_sl ([.ref (ad 11), .int v]) ++ List.replicate (2 - (lg_sl ([.ref (ad 11), .int v])).length) Slot.unset).toArray = ls at hl ⊢
  have hl : lv_has ls 2 [(0, .ref (ad 11)), (1, .int v)] := hl
  refine lv_aload_n hx hb d_Ma_end_0 rfl (lv_at hl 0 rfl) ?_
  refine lv_iconst (v := 1) hx hb d_Ma_end_1 (by decide) ?_
  refine va_put (D := D) (ci := 4) (v := .int (1 : Int32)) (ty := .boolean) (C := R_Ma) (T := F_Ma) (N := 8) hx hb hts in_Ma t_Ma k_Ma n_Ma hown hK hP (wC_D hAd) hS 11 rfl rfl 6 (by decide) (hts _ wd_189) (fun _ h9 => h9) rfl (by decide +kernel) rfl rfl (Nat.le_of_ble_eq_true rfl) d_Ma_end_2 (fun H locs hP _ hS => ?_)
  have hP : va_P D cls (wC ad dA w P g ss (M.1, M.2.1, M.2.2.1, M.2.2.2.1, M.2.2.2.2.1, M.2.2.2.2.2.1, (1 : Int32), M.2.2.2.2.2.2.2)) H := hP
  refine lv_aload_n hx hb d_Ma_end_5 rfl (lv_at hl 0 rfl) ?_
  refine lv_iload_n hx hb d_Ma_end_6 rfl (lv_at hl 1 rfl) ?_
  refine va_put (D := D) (ci := 4) (v := .int v) (ty := .int) (C := R_Ma) (T := F_Ma) (N := 8) hx hb hts in_Ma t_Ma k_Ma n_Ma hown hK hP (wC_D hAd) hS 11 rfl rfl 7 (by decide) (hts _ wd_190) (fun _ h9 => h9) rfl (by decide +kernel) rfl rfl (Nat.le_of_ble_eq_true rfl) d_Ma_end_7 (fun H locs hP _ hS => ?_)
  have hP : va_P D cls (wC ad dA w P g ss (M.1, M.2.1, M.2.2.1, M.2.2.2.1, M.2.2.2.2.1, M.2.2.2.2.2.1, (1 : Int32), v)) H := hP
  exact W.vret hx hb hr (fun t ht hW => ⟨⟨_, rfl, (by rw [m_Ma_end]), CG_at hP hK hN ht hW⟩, hS.F ht⟩) hS.2.2 d_Ma_end_10
def m_Ma_divide (M : MT) (v : Int32) : MT := if v = (0 : Int32) then (m_Ma_end M (0 : Int32)) else (M.1, M.2.1, M.2.2.1, ((m_F_unsigned M.2.2.2.1) / (m_F_unsigned v)).toInt32, M.2.2.2.2.1, M.2.2.2.2.2.1, M.2.2.2.2.2.2.1, M.2.2.2.2.2.2.2)
set_option maxHeartbeats 4000000 in
set_option maxRecDepth 100000 in
theorem c_Ma_divide (l : Launch) (D : va_G) (dA : Nat → ClassId) (ad : Nat → Nat) (A : Nat → Prop) (hAd : AdOK 49 ad A) (w : Nat → Int32) (P : PT) (g : GT) (ss : Nat → Int32) (M : MT) (v : Int32) : Met l y_Ma_divide (mW y_Ma_divide b_Ma_divide 2 none) { frames := 1, cells := 0, slots := 0, locals := 21 } (va_Pc [.ref (ad 11), .int v] (fun U => CG D dA ad w P g ss M U)) (va_Qv (fun u : MT => u = m_Ma_divide M v) (fun u t => CG D dA ad w P g ss u t) A) 0 0 A := by
  refine Met.ofW (cc := b_Ma_divide) (maxL := 2) (ret := none) (by decide) rfl ?_
  intro p e s m args below meth c s₁ B hml hv
  obtain ⟨rfl, hP, hK, hN⟩ := hv
  have hx := B.exec
  have hb := B.bytes
  have hr := B.returns
  have hlocks := B.notSynchronized
  have hts := fun (w : Cond) (h : w ∈ lw_g) => atoms_spec (ws := mW y_Ma_divide b_Ma_divide 2 none) B.pre w (List.mem_cons_of_mem _ h)
  have hown : s.vm.findClass R_Ma = some m.cls := findClass_of_methodNamed B.named
  have hS : va_S A s.heap s.heap [] := va_S.rf
  have hl := lv_entry ([.ref (ad 11), .int v]) (n := 2) (Nat.le_of_ble_eq_true rfl)
  rw [lg_entry_eq]
  generalize (lg_sl ([.ref (ad 11), .int v]) ++ List.replicate (2 - (lg_sl ([.ref (ad 11), .int v])).length) Slot.unset).toArray = ls at hl ⊢
  have hl : lv_has ls 2 [(0, .ref (ad 11)), (1, .int v)] := hl
  refine lv_iload_n hx hb d_Ma_divide_0 rfl (lv_at hl 1 rfl) ?_
  refine lv_if_ne (tgt := 12) hx hb d_Ma_divide_1 (by decide) (fun h1 => ?_) (fun h1 => ?_)
  · refine lv_aload_n hx hb d_Ma_divide_12 rfl (lv_at hl 0 rfl) ?_
    refine lv_aload_n hx hb d_Ma_divide_13 rfl (lv_at hl 0 rfl) ?_
    refine va_get (D := D) (ci := 4) (v := .int M.2.2.2.1) (C := R_Ma) (T := F_Ma) (N := 8) hx hb hts in_Ma hown hK hP 11 rfl rfl 3 (by decide) (hts _ wd_186) (fun _ h9 => h9) rfl d_Ma_divide_14 ?_
    refine vp_callSl (va_Run.run (va_runSN (As := [.int M.2.2.2.1]) (rest := [.ref (ad 11)]) ⟨hx, hb, hml, hown, hts⟩ (c_F_unsigned l M.2.2.2.1) ⟨va_cnB 1 hts (g_in wd_302) rfl rfl rfl hN.2.2.2.2.2.2.1 (hts _ wd_26) (by decide +kernel) ⟨Nat.le_of_ble_eq_true rfl, Nat.le_of_ble_eq_true rfl⟩, hts _ wd_301, trivial⟩ ⟨fun _ _ _ _ q => q, fun _ _ _ => ⟨rfl, trivial⟩⟩ rfl rfl hl.1 rfl (lv_room (Nat.le_of_ble_eq_true rfl)) d_Ma_divide_17 ⟨Nat.le_of_ble_eq_true rfl, Nat.le_of_ble_eq_true rfl⟩)) (fun r1 e1 => ?_)
    subst e1
    refine lv_iload_n hx hb d_Ma_divide_20 rfl (lv_at hl 1 rfl) ?_
    refine vp_callSl (va_Run.run (va_runSN (As := [.int v]) (rest := [.long (m_F_unsigned M.2.2.2.1), .ref (ad 11)]) ⟨hx, hb, hml, hown, hts⟩ (c_F_unsigned l v) ⟨va_cnB 1 hts (g_in wd_302) rfl rfl rfl hN.2.2.2.2.2.2.1 (hts _ wd_26) (by decide +kernel) ⟨Nat.le_of_ble_eq_true rfl, Nat.le_of_ble_eq_true rfl⟩, hts _ wd_301, trivial⟩ ⟨fun _ _ _ _ q => q, fun _ _ _ => ⟨rfl, trivial⟩⟩ rfl rfl hl.1 rfl (lv_room (Nat.le_of_ble_eq_true rfl)) d_Ma_divide_21 ⟨Nat.le_of_ble_eq_true rfl, Nat.le_of_ble_eq_true rfl⟩)) (fun r2 e2 => ?_)
    subst e2
    refine lv_ldiv hx hb d_Ma_divide_24 (un_ne (by assumption)) ?_
    refine lv_l2i hx hb d_Ma_divide_25 rfl ?_
    refine va_put (D := D) (ci := 4) (v := .int (((m_F_unsigned M.2.2.2.1) / (m_F_unsigned v)).toInt32)) (ty := .int) (C := R_Ma) (T := F_Ma) (N := 8) hx hb hts in_Ma t_Ma k_Ma n_Ma hown hK hP (wC_D hAd) hS 11 rfl rfl 3 (by decide) (hts _ wd_186) (fun _ h9 => h9) rfl (by decide +kernel) rfl rfl (Nat.le_of_ble_eq_true rfl) d_Ma_divide_26 (fun H locs hP _ hS => ?_)
    have hP : va_P D cls (wC ad dA w P g ss (M.1, M.2.1, M.2.2.1, ((m_F_unsigned M.2.2.2.1) / (m_F_unsigned v)).toInt32, M.2.2.2.2.1, M.2.2.2.2.2.1, M.2.2.2.2.2.2.1, M.2.2.2.2.2.2.2)) H := hP
    exact W.vret hx hb hr (fun t ht hW => ⟨⟨_, rfl, (by rw [m_Ma_divide, if_neg h1]), CG_at hP hK hN ht hW⟩, hS.F ht⟩) hS.2.2 d_Ma_divide_29
  refine lv_aload_n hx hb d_Ma_divide_4 rfl (lv_at hl 0 rfl) ?_
  refine lv_iconst (v := 0) hx hb d_Ma_divide_5 (by decide) ?_
  refine va_callv (va_runV (As := [.int (0 : Int32)]) (rest := []) ⟨hx, hb, hml, hown, hts⟩ (c_Ma_end l D dA ad A hAd w P g ss M (0 : Int32)) (cwV 1 hts (g_V wd_459 wd_461 wd_9 wd_34 wd_462) rfl rfl rfl (by decide +kernel) ⟨Nat.le_of_ble_eq_true rfl, Nat.le_of_ble_eq_true rfl⟩) ⟨CG_fb, (va_recv (ci := 4) (q := (R_Ma, F_Ma, 8)) (q0 := 11) hK hP rfl rfl), fun U hU hW => ⟨rfl, CG_at hP hK hN hU hW⟩⟩ rfl rfl hl.1 rfl (lv_room (Nat.le_of_ble_eq_true rfl)) d_Ma_divide_6 ⟨Nat.le_of_ble_eq_true rfl, Nat.le_of_ble_eq_true rfl⟩) hS (fun _ _ h => h) (fun _ h => h) (fun u1 t H locs ht hvm hu hB hz hk hS => ?_)
  subst hu
  obtain ⟨hP, -⟩ := hB
  rw [ht] at hP
  have hP : va_P D cls (wC ad dA w P g ss (m_Ma_end M (0 : Int32))) H := hP
  refine lv_goto (tgt := 29) hx hb d_Ma_divide_9 (by decide) ?_
  exact W.vret hx hb hr (fun t ht hW => ⟨⟨_, rfl, (by rw [m_Ma_divide, if_pos h1]), CG_at hP hK hN ht hW⟩, hS.F ht⟩) hS.2.2 d_Ma_divide_29
def m_Ma_compute (M : MT) (op : Int32) (v : Int32) : MT := if op = (0 : Int32) then (M.1, M.2.1, M.2.2.1, M.2.2.2.1 + v, M.2.2.2.2.1, M.2.2.2.2.2.1, M.2.2.2.2.2.2.1, M.2.2.2.2.2.2.2) else if op = (16 : Int32) then (M.1, M.2.1, M.2.2.1, M.2.2.2.1 - v, M.2.2.2.2.1, M.2.2.2.2.2.1, M.2.2.2.2.2.2.1, M.2.2.2.2.2.2.2) else if op = (32 : Int32) then (M.1, M.2.1, M.2.2.1, M.2.2.2.1 * v, M.2.2.2.2.1, M.2.2.2.2.2.1, M.2.2.2.2.2.2.1, M.2.2.2.2.2.2.2) else if op = (48 : Int32) then (m_Ma_divide M v) else if op = (64 : Int32) then (M.1, M.2.1, M.2.2.1, M.2.2.2.1 ||| v, M.2.2.2.2.1, M.2.2.2.2.2.1, M.2.2.2.2.2.2.1, M.2.2.2.2.2.2.2) else if op = (80 : Int32) then (M.1, M.2.1, M.2.2.1, M.2.2.2.1 &&& v, M.2.2.2.2.1, M.2.2.2.2.2.1, M.2.2.2.2.2.2.1, M.2.2.2.2.2.2.2) else if op = (96 : Int32) then (M.1, M.2.1, M.2.2.1, M.2.2.2.1 <<< ((v &&& (31 : Int32)) &&& 31), M.2.2.2.2.1, M.2.2.2.2.2.1, M.2.2.2.2.2.2.1, M.2.2.2.2.2.2.2) else if op = (112 : Int32) then (M.1, M.2.1, M.2.2.1, (M.2.2.2.1.toUInt32 >>> ((v &&& (31 : Int32)).toUInt32 &&& Int32.toUInt32 31)).toInt32, M.2.2.2.2.1, M.2.2.2.2.2.1, M.2.2.2.2.2.2.1, M.2.2.2.2.2.2.2) else if op = (128 : Int32) then (M.1, M.2.1, M.2.2.1, -M.2.2.2.1, M.2.2.2.2.1, M.2.2.2.2.2.1, M.2.2.2.2.2.2.1, M.2.2.2.2.2.2.2) else (M.1, M.2.1, M.2.2.1, M.2.2.2.1 ^^^ v, M.2.2.2.2.1, M.2.2.2.2.2.1, M.2.2.2.2.2.2.1, M.2.2.2.2.2.2.2)
set_option maxHeartbeats 4000000 in
set_option maxRecDepth 100000 in
theorem c_Ma_compute (l : Launch) (D : va_G) (dA : Nat → ClassId) (ad : Nat → Nat) (A : Nat → Prop) (hAd : AdOK 49 ad A) (w : Nat → Int32) (P : PT) (g : GT) (ss : Nat → Int32) (M : MT) (op : Int32) (v : Int32) : Met l y_Ma_compute (mW y_Ma_compute b_Ma_compute 3 none) { frames := 2, cells := 0, slots := 0, locals := 42 } (va_Pc [.ref (ad 11), .int op, .int v] (fun U => CG D dA ad w P g ss M U)) (va_Qv (fun u : MT => u = m_Ma_compute M op v) (fun u t => CG D dA ad w P g ss u t) A) 0 0 A := by
  refine Met.ofW (cc := b_Ma_compute) (maxL := 3) (ret := none) (by decide) rfl ?_
  intro p e s m args below meth c s₁ B hml hv
  obtain ⟨rfl, hP, hK, hN⟩ := hv
  have hx := B.exec
  have hb := B.bytes
  have hr := B.returns
  have hlocks := B.notSynchronized
  have hts := fun (w : Cond) (h : w ∈ lw_g) => atoms_spec (ws := mW y_Ma_compute b_Ma_compute 3 none) B.pre w (List.mem_cons_of_mem _ h)
  have hown : s.vm.findClass R_Ma = some m.cls := findClass_of_methodNamed B.named
  have hS : va_S A s.heap s.heap [] := va_S.rf
  have hl := lv_entry ([.ref (ad 11), .int op, .int v]) (n := 3) (Nat.le_of_ble_eq_true rfl)
  rw [lg_entry_eq]
  generalize (lg_sl ([.ref (ad 11), .int op, .int v]) ++ List.replicate (3 - (lg_sl ([.ref (ad 11), .int op, .int v])).length) Slot.unset).toArray = ls at hl ⊢
  have hl : lv_has ls 3 [(0, .ref (ad 11)), (1, .int op), (2, .int v)] := hl
  refine lv_iload_n hx hb d_Ma_compute_0 rfl (lv_at hl 1 rfl) ?_
  by_cases h1 : op = (0 : Int32)
  · refine lv_lookup (tgt := 84) (off := 83) hx hb d_Ma_compute_1 (by decide) (by rw [h1] <;> rfl) (by decide) ?_
    refine lv_aload_n hx hb d_Ma_compute_84 rfl (lv_at hl 0 rfl) ?_
    refine lv_aload_n hx hb d_Ma_compute_85 rfl (lv_at hl 0 rfl) ?_
    refine va_get (D := D) (ci := 4) (v := .int M.2.2.2.1) (C := R_Ma) (T := F_Ma) (N := 8) hx hb hts in_Ma hown hK hP 11 rfl rfl 3 (by decide) (hts _ wd_186) (fun _ h9 => h9) rfl d_Ma_compute_86 ?_
    refine lv_iload_n hx hb d_Ma_compute_89 rfl (lv_at hl 2 rfl) ?_
    refine lv_iadd hx hb d_Ma_compute_90 ?_
    refine va_put (D := D) (ci := 4) (v := .int (M.2.2.2.1 + v)) (ty := .int) (C := R_Ma) (T := F_Ma) (N := 8) hx hb hts in_Ma t_Ma k_Ma n_Ma hown hK hP (wC_D hAd) hS 11 rfl rfl 3 (by decide) (hts _ wd_186) (fun _ h9 => h9) rfl (by decide +kernel) rfl rfl (Nat.le_of_ble_eq_true rfl) d_Ma_compute_91 (fun H locs hP _ hS => ?_)
    have hP : va_P D cls (wC ad dA w P g ss (M.1, M.2.1, M.2.2.1, M.2.2.2.1 + v, M.2.2.2.2.1, M.2.2.2.2.2.1, M.2.2.2.2.2.2.1, M.2.2.2.2.2.2.2)) H := hP
    refine lv_goto (tgt := 211) hx hb d_Ma_compute_94 (by decide) ?_
    exact W.vret hx hb hr (fun t ht hW => ⟨⟨_, rfl, (by rw [m_Ma_compute, if_pos h1]), CG_at hP hK hN ht hW⟩, hS.F ht⟩) hS.2.2 d_Ma_compute_211
  by_cases h2 : op = (16 : Int32)
  · refine lv_lookup (tgt := 97) (off := 96) hx hb d_Ma_compute_1 (by decide) (by rw [h2] <;> rfl) (by decide) ?_
    refine lv_aload_n hx hb d_Ma_compute_97 rfl (lv_at hl 0 rfl) ?_
    refine lv_aload_n hx hb d_Ma_compute_98 rfl (lv_at hl 0 rfl) ?_
    refine va_get (D := D) (ci := 4) (v := .int M.2.2.2.1) (C := R_Ma) (T := F_Ma) (N := 8) hx hb hts in_Ma hown hK hP 11 rfl rfl 3 (by decide) (hts _ wd_186) (fun _ h9 => h9) rfl d_Ma_compute_99 ?_
    refine lv_iload_n hx hb d_Ma_compute_102 rfl (lv_at hl 2 rfl) ?_
    refine lv_isub hx hb d_Ma_compute_103 ?_
    refine va_put (D := D) (ci := 4) (v := .int (M.2.2.2.1 - v)) (ty := .int) (C := R_Ma) (T := F_Ma) (N := 8) hx hb hts in_Ma t_Ma k_Ma n_Ma hown hK hP (wC_D hAd) hS 11 rfl rfl 3 (by decide) (hts _ wd_186) (fun _ h9 => h9) rfl (by decide +kernel) rfl rfl (Nat.le_of_ble_eq_true rfl) d_Ma_compute_104 (fun H locs hP _ hS => ?_)
    have hP : va_P D cls (wC ad dA w P g ss (M.1, M.2.1, M.2.2.1, M.2.2.2.1 - v, M.2.2.2.2.1, M.2.2.2.2.2.1, M.2.2.2.2.2.2.1, M.2.2.2.2.2.2.2)) H := hP
    refine lv_goto (tgt := 211) hx hb d_Ma_compute_107 (by decide) ?_
    exact W.vret hx hb hr (fun t ht hW => ⟨⟨_, rfl, (by rw [m_Ma_compute, if_neg h1, if_pos h2]), CG_at hP hK hN ht hW⟩, hS.F ht⟩) hS.2.2 d_Ma_compute_211
  by_cases h3 : op = (32 : Int32)
  · refine lv_lookup (tgt := 110) (off := 109) hx hb d_Ma_compute_1 (by decide) (by rw [h3] <;> rfl) (by decide) ?_
    refine lv_aload_n hx hb d_Ma_compute_110 rfl (lv_at hl 0 rfl) ?_
    refine lv_aload_n hx hb d_Ma_compute_111 rfl (lv_at hl 0 rfl) ?_
    refine va_get (D := D) (ci := 4) (v := .int M.2.2.2.1) (C := R_Ma) (T := F_Ma) (N := 8) hx hb hts in_Ma hown hK hP 11 rfl rfl 3 (by decide) (hts _ wd_186) (fun _ h9 => h9) rfl d_Ma_compute_112 ?_
    refine lv_iload_n hx hb d_Ma_compute_115 rfl (lv_at hl 2 rfl) ?_
    refine lv_imul hx hb d_Ma_compute_116 ?_
    refine va_put (D := D) (ci := 4) (v := .int (M.2.2.2.1 * v)) (ty := .int) (C := R_Ma) (T := F_Ma) (N := 8) hx hb hts in_Ma t_Ma k_Ma n_Ma hown hK hP (wC_D hAd) hS 11 rfl rfl 3 (by decide) (hts _ wd_186) (fun _ h9 => h9) rfl (by decide +kernel) rfl rfl (Nat.le_of_ble_eq_true rfl) d_Ma_compute_117 (fun H locs hP _ hS => ?_)
    have hP : va_P D cls (wC ad dA w P g ss (M.1, M.2.1, M.2.2.1, M.2.2.2.1 * v, M.2.2.2.2.1, M.2.2.2.2.2.1, M.2.2.2.2.2.2.1, M.2.2.2.2.2.2.2)) H := hP
    refine lv_goto (tgt := 211) hx hb d_Ma_compute_120 (by decide) ?_
    exact W.vret hx hb hr (fun t ht hW => ⟨⟨_, rfl, (by rw [m_Ma_compute, if_neg h1, if_neg h2, if_pos h3]), CG_at hP hK hN ht hW⟩, hS.F ht⟩) hS.2.2 d_Ma_compute_211
  by_cases h4 : op = (48 : Int32)
  · refine lv_lookup (tgt := 123) (off := 122) hx hb d_Ma_compute_1 (by decide) (by rw [h4] <;> rfl) (by decide) ?_
    refine lv_aload_n hx hb d_Ma_compute_123 rfl (lv_at hl 0 rfl) ?_
    refine lv_iload_n hx hb d_Ma_compute_124 rfl (lv_at hl 2 rfl) ?_
    refine va_callv (va_runV (As := [.int v]) (rest := []) ⟨hx, hb, hml, hown, hts⟩ (c_Ma_divide l D dA ad A hAd w P g ss M v) (cwV 1 hts (g_V wd_455 wd_457 wd_8 wd_34 wd_458) rfl rfl rfl (by decide +kernel) ⟨Nat.le_of_ble_eq_true rfl, Nat.le_of_ble_eq_true rfl⟩) ⟨CG_fb, (va_recv (ci := 4) (q := (R_Ma, F_Ma, 8)) (q0 := 11) hK hP rfl rfl), fun U hU hW => ⟨rfl, CG_at hP hK hN hU hW⟩⟩ rfl rfl hl.1 rfl (lv_room (Nat.le_of_ble_eq_true rfl)) d_Ma_compute_125 ⟨Nat.le_of_ble_eq_true rfl, Nat.le_of_ble_eq_true rfl⟩) hS (fun _ _ h => h) (fun _ h => h) (fun u1 t H locs ht hvm hu hB hz hk hS => ?_)
    subst hu
    obtain ⟨hP, -⟩ := hB
    rw [ht] at hP
    have hP : va_P D cls (wC ad dA w P g ss (m_Ma_divide M v)) H := hP
    refine lv_goto (tgt := 211) hx hb d_Ma_compute_128 (by decide) ?_
    exact W.vret hx hb hr (fun t ht hW => ⟨⟨_, rfl, (by rw [m_Ma_compute, if_neg h1, if_neg h2, if_neg h3, if_pos h4]), CG_at hP hK hN ht hW⟩, hS.F ht⟩) hS.2.2 d_Ma_compute_211
  by_cases h5 : op = (64 : Int32)
  · refine lv_lookup (tgt := 131) (off := 130) hx hb d_Ma_compute_1 (by decide) (by rw [h5] <;> rfl) (by decide) ?_
    refine lv_aload_n hx hb d_Ma_compute_131 rfl (lv_at hl 0 rfl) ?_
    refine lv_aload_n hx hb d_Ma_compute_132 rfl (lv_at hl 0 rfl) ?_
    refine va_get (D := D) (ci := 4) (v := .int M.2.2.2.1) (C := R_Ma) (T := F_Ma) (N := 8) hx hb hts in_Ma hown hK hP 11 rfl rfl 3 (by decide) (hts _ wd_186) (fun _ h9 => h9) rfl d_Ma_compute_133 ?_
    refine lv_iload_n hx hb d_Ma_compute_136 rfl (lv_at hl 2 rfl) ?_
    refine lv_ior hx hb d_Ma_compute_137 ?_
    refine va_put (D := D) (ci := 4) (v := .int (M.2.2.2.1 ||| v)) (ty := .int) (C := R_Ma) (T := F_Ma) (N := 8) hx hb hts in_Ma t_Ma k_Ma n_Ma hown hK hP (wC_D hAd) hS 11 rfl rfl 3 (by decide) (hts _ wd_186) (fun _ h9 => h9) rfl (by decide +kernel) rfl rfl (Nat.le_of_ble_eq_true rfl) d_Ma_compute_138 (fun H locs hP _ hS => ?_)
    have hP : va_P D cls (wC ad dA w P g ss (M.1, M.2.1, M.2.2.1, M.2.2.2.1 ||| v, M.2.2.2.2.1, M.2.2.2.2.2.1, M.2.2.2.2.2.2.1, M.2.2.2.2.2.2.2)) H := hP
    refine lv_goto (tgt := 211) hx hb d_Ma_compute_141 (by decide) ?_
    exact W.vret hx hb hr (fun t ht hW => ⟨⟨_, rfl, (by rw [m_Ma_compute, if_neg h1, if_neg h2, if_neg h3, if_neg h4, if_pos h5]), CG_at hP hK hN ht hW⟩, hS.F ht⟩) hS.2.2 d_Ma_compute_211
  by_cases h6 : op = (80 : Int32)
  · refine lv_lookup (tgt := 144) (off := 143) hx hb d_Ma_compute_1 (by decide) (by rw [h6] <;> rfl) (by decide) ?_
    refine lv_aload_n hx hb d_Ma_compute_144 rfl (lv_at hl 0 rfl) ?_
    refine lv_aload_n hx hb d_Ma_compute_145 rfl (lv_at hl 0 rfl) ?_
    refine va_get (D := D) (ci := 4) (v := .int M.2.2.2.1) (C := R_Ma) (T := F_Ma) (N := 8) hx hb hts in_Ma hown hK hP 11 rfl rfl 3 (by decide) (hts _ wd_186) (fun _ h9 => h9) rfl d_Ma_compute_146 ?_
    refine lv_iload_n hx hb d_Ma_compute_149 rfl (lv_at hl 2 rfl) ?_
    refine lv_iand hx hb d_Ma_compute_150 ?_
    refine va_put (D := D) (ci := 4) (v := .int (M.2.2.2.1 &&& v)) (ty := .int) (C := R_Ma) (T := F_Ma) (N := 8) hx hb hts in_Ma t_Ma k_Ma n_Ma hown hK hP (wC_D hAd) hS 11 rfl rfl 3 (by decide) (hts _ wd_186) (fun _ h9 => h9) rfl (by decide +kernel) rfl rfl (Nat.le_of_ble_eq_true rfl) d_Ma_compute_151 (fun H locs hP _ hS => ?_)
    have hP : va_P D cls (wC ad dA w P g ss (M.1, M.2.1, M.2.2.1, M.2.2.2.1 &&& v, M.2.2.2.2.1, M.2.2.2.2.2.1, M.2.2.2.2.2.2.1, M.2.2.2.2.2.2.2)) H := hP
    refine lv_goto (tgt := 211) hx hb d_Ma_compute_154 (by decide) ?_
    exact W.vret hx hb hr (fun t ht hW => ⟨⟨_, rfl, (by rw [m_Ma_compute, if_neg h1, if_neg h2, if_neg h3, if_neg h4, if_neg h5, if_pos h6]), CG_at hP hK hN ht hW⟩, hS.F ht⟩) hS.2.2 d_Ma_compute_211
  by_cases h7 : op = (96 : Int32)
  · refine lv_lookup (tgt := 157) (off := 156) hx hb d_Ma_compute_1 (by decide) (by rw [h7] <;> rfl) (by decide) ?_
    refine lv_aload_n hx hb d_Ma_compute_157 rfl (lv_at hl 0 rfl) ?_
    refine lv_aload_n hx hb d_Ma_compute_158 rfl (lv_at hl 0 rfl) ?_
    refine va_get (D := D) (ci := 4) (v := .int M.2.2.2.1) (C := R_Ma) (T := F_Ma) (N := 8) hx hb hts in_Ma hown hK hP 11 rfl rfl 3 (by decide) (hts _ wd_186) (fun _ h9 => h9) rfl d_Ma_compute_159 ?_
    refine lv_iload_n hx hb d_Ma_compute_162 rfl (lv_at hl 2 rfl) ?_
    refine lv_bipush (v := 31) hx hb d_Ma_compute_163 (by decide) ?_
    refine lv_iand hx hb d_Ma_compute_165 ?_
    refine lv_ishl hx hb d_Ma_compute_166 ?_
    refine va_put (D := D) (ci := 4) (v := .int (M.2.2.2.1 <<< ((v &&& (31 : Int32)) &&& 31))) (ty := .int) (C := R_Ma) (T := F_Ma) (N := 8) hx hb hts in_Ma t_Ma k_Ma n_Ma hown hK hP (wC_D hAd) hS 11 rfl rfl 3 (by decide) (hts _ wd_186) (fun _ h9 => h9) rfl (by decide +kernel) rfl rfl (Nat.le_of_ble_eq_true rfl) d_Ma_compute_167 (fun H locs hP _ hS => ?_)
    have hP : va_P D cls (wC ad dA w P g ss (M.1, M.2.1, M.2.2.1, M.2.2.2.1 <<< ((v &&& (31 : Int32)) &&& 31), M.2.2.2.2.1, M.2.2.2.2.2.1, M.2.2.2.2.2.2.1, M.2.2.2.2.2.2.2)) H := hP
    refine lv_goto (tgt := 211) hx hb d_Ma_compute_170 (by decide) ?_
    exact W.vret hx hb hr (fun t ht hW => ⟨⟨_, rfl, (by rw [m_Ma_compute, if_neg h1, if_neg h2, if_neg h3, if_neg h4, if_neg h5, if_neg h6, if_pos h7]), CG_at hP hK hN ht hW⟩, hS.F ht⟩) hS.2.2 d_Ma_compute_211
  by_cases h8 : op = (112 : Int32)
  · refine lv_lookup (tgt := 173) (off := 172) hx hb d_Ma_compute_1 (by decide) (by rw [h8] <;> rfl) (by decide) ?_
    refine lv_aload_n hx hb d_Ma_compute_173 rfl (lv_at hl 0 rfl) ?_
    refine lv_aload_n hx hb d_Ma_compute_174 rfl (lv_at hl 0 rfl) ?_
    refine va_get (D := D) (ci := 4) (v := .int M.2.2.2.1) (C := R_Ma) (T := F_Ma) (N := 8) hx hb hts in_Ma hown hK hP 11 rfl rfl 3 (by decide) (hts _ wd_186) (fun _ h9 => h9) rfl d_Ma_compute_175 ?_
    refine lv_iload_n hx hb d_Ma_compute_178 rfl (lv_at hl 2 rfl) ?_
    refine lv_bipush (v := 31) hx hb d_Ma_compute_179 (by decide) ?_
    refine lv_iand hx hb d_Ma_compute_181 ?_
    refine lv_iushr hx hb d_Ma_compute_182 rfl ?_
    refine va_put (D := D) (ci := 4) (v := .int ((M.2.2.2.1.toUInt32 >>> ((v &&& (31 : Int32)).toUInt32 &&& Int32.toUInt32 31)).toInt32)) (ty := .int) (C := R_Ma) (T := F_Ma) (N := 8) hx hb hts in_Ma t_Ma k_Ma n_Ma hown hK hP (wC_D hAd) hS 11 rfl rfl 3 (by decide) (hts _ wd_186) (fun _ h9 => h9) rfl (by decide +kernel) rfl rfl (Nat.le_of_ble_eq_true rfl) d_Ma_compute_183 (fun H locs hP _ hS => ?_)
    have hP : va_P D cls (wC ad dA w P g ss (M.1, M.2.1, M.2.2.1, (M.2.2.2.1.toUInt32 >>> ((v &&& (31 : Int32)).toUInt32 &&& Int32.toUInt32 31)).toInt32, M.2.2.2.2.1, M.2.2.2.2.2.1, M.2.2.2.2.2.2.1, M.2.2.2.2.2.2.2)) H := hP
    refine lv_goto (tgt := 211) hx hb d_Ma_compute_186 (by decide) ?_
    exact W.vret hx hb hr (fun t ht hW => ⟨⟨_, rfl, (by rw [m_Ma_compute, if_neg h1, if_neg h2, if_neg h3, if_neg h4, if_neg h5, if_neg h6, if_neg h7, if_pos h8]), CG_at hP hK hN ht hW⟩, hS.F ht⟩) hS.2.2 d_Ma_compute_211
  by_cases h9 : op = (128 : Int32)
  · refine lv_lookup (tgt := 189) (off := 188) hx hb d_Ma_compute_1 (by decide) (by rw [h9] <;> rfl) (by decide) ?_
    refine lv_aload_n hx hb d_Ma_compute_189 rfl (lv_at hl 0 rfl) ?_
    refine lv_aload_n hx hb d_Ma_compute_190 rfl (lv_at hl 0 rfl) ?_
    refine va_get (D := D) (ci := 4) (v := .int M.2.2.2.1) (C := R_Ma) (T := F_Ma) (N := 8) hx hb hts in_Ma hown hK hP 11 rfl rfl 3 (by decide) (hts _ wd_186) (fun _ h9 => h9) rfl d_Ma_compute_191 ?_
    refine lv_ineg hx hb d_Ma_compute_194 ?_
    refine va_put (D := D) (ci := 4) (v := .int (-M.2.2.2.1)) (ty := .int) (C := R_Ma) (T := F_Ma) (N := 8) hx hb hts in_Ma t_Ma k_Ma n_Ma hown hK hP (wC_D hAd) hS 11 rfl rfl 3 (by decide) (hts _ wd_186) (fun _ h9 => h9) rfl (by decide +kernel) rfl rfl (Nat.le_of_ble_eq_true rfl) d_Ma_compute_195 (fun H locs hP _ hS => ?_)
    have hP : va_P D cls (wC ad dA w P g ss (M.1, M.2.1, M.2.2.1, -M.2.2.2.1, M.2.2.2.2.1, M.2.2.2.2.2.1, M.2.2.2.2.2.2.1, M.2.2.2.2.2.2.2)) H := hP
    refine lv_goto (tgt := 211) hx hb d_Ma_compute_198 (by decide) ?_
    exact W.vret hx hb hr (fun t ht hW => ⟨⟨_, rfl, (by rw [m_Ma_compute, if_neg h1, if_neg h2, if_neg h3, if_neg h4, if_neg h5, if_neg h6, if_neg h7, if_neg h8, if_pos h9]), CG_at hP hK hN ht hW⟩, hS.F ht⟩) hS.2.2 d_Ma_compute_211
  refine lv_lookup (tgt := 201) (off := 200) hx hb d_Ma_compute_1 (by decide) ((lv_osw h1 (by decide)).trans ((lv_osw h2 (by decide)).trans ((lv_osw h3 (by decide)).trans ((lv_osw h4 (by decide)).trans ((lv_osw h5 (by decide)).trans ((lv_osw h6 (by decide)).trans ((lv_osw h7 (by decide)).trans ((lv_osw h8 (by decide)).trans ((lv_osw h9 (by decide)).trans rfl))))))))) (by decide) ?_
  refine lv_aload_n hx hb d_Ma_compute_201 rfl (lv_at hl 0 rfl) ?_
  refine lv_aload_n hx hb d_Ma_compute_202 rfl (lv_at hl 0 rfl) ?_
  refine va_get (D := D) (ci := 4) (v := .int M.2.2.2.1) (C := R_Ma) (T := F_Ma) (N := 8) hx hb hts in_Ma hown hK hP 11 rfl rfl 3 (by decide) (hts _ wd_186) (fun _ h9 => h9) rfl d_Ma_compute_203 ?_
  refine lv_iload_n hx hb d_Ma_compute_206 rfl (lv_at hl 2 rfl) ?_
  refine lv_ixor hx hb d_Ma_compute_207 ?_
  refine va_put (D := D) (ci := 4) (v := .int (M.2.2.2.1 ^^^ v)) (ty := .int) (C := R_Ma) (T := F_Ma) (N := 8) hx hb hts in_Ma t_Ma k_Ma n_Ma hown hK hP (wC_D hAd) hS 11 rfl rfl 3 (by decide) (hts _ wd_186) (fun _ h9 => h9) rfl (by decide +kernel) rfl rfl (Nat.le_of_ble_eq_true rfl) d_Ma_compute_208 (fun H locs hP _ hS => ?_)
  have hP : va_P D cls (wC ad dA w P g ss (M.1, M.2.1, M.2.2.1, M.2.2.2.1 ^^^ v, M.2.2.2.2.1, M.2.2.2.2.2.1, M.2.2.2.2.2.2.1, M.2.2.2.2.2.2.2)) H := hP
  exact W.vret hx hb hr (fun t ht hW => ⟨⟨_, rfl, (by rw [m_Ma_compute, if_neg h1, if_neg h2, if_neg h3, if_neg h4, if_neg h5, if_neg h6, if_neg h7, if_neg h8, if_neg h9]), CG_at hP hK hN ht hW⟩, hS.F ht⟩) hS.2.2 d_Ma_compute_211
def m_Ma_passes (M : MT) (ts : Int32) (v : Int32) : Int32 := if ts = (16 : Int32) then if M.2.2.2.1 = v then (1 : Int32) else (0 : Int32) else if ts = (32 : Int32) then if (lg_cmp (m_F_unsigned M.2.2.2.1) (m_F_unsigned v)) ≤ (0 : Int32) then (0 : Int32) else (1 : Int32) else if ts = (48 : Int32) then if (lg_cmp (m_F_unsigned M.2.2.2.1) (m_F_unsigned v)) < (0 : Int32) then (0 : Int32) else (1 : Int32) else if (M.2.2.2.1 &&& v) = (0 : Int32) then (0 : Int32) else (1 : Int32)
set_option maxHeartbeats 4000000 in
set_option maxRecDepth 100000 in
theorem c_Ma_passes (l : Launch) (D : va_G) (dA : Nat → ClassId) (ad : Nat → Nat) (w : Nat → Int32) (P : PT) (g : GT) (ss : Nat → Int32) (M : MT) (ts : Int32) (v : Int32) : Met l y_Ma_passes (mW y_Ma_passes b_Ma_passes 3 (some .boolean)) { frames := 1, cells := 0, slots := 0, locals := 20 } (va_Pc [.ref (ad 11), .int ts, .int v] (fun U => CG D dA ad w P g ss M U)) (vp_Si (fun r => r = m_Ma_passes M ts v)) 0 0 (fun _ => False) := by
  refine Met.ofW (cc := b_Ma_passes) (maxL := 3) (ret := (some .boolean)) (by decide) rfl ?_
  intro p e s m args below meth c s₁ B hml hv
  obtain ⟨rfl, hP, hK, hN⟩ := hv
  have hx := B.exec
  have hb := B.bytes
  have hr := B.returns
  have hlocks := B.notSynchronized
  have hts := fun (w : Cond) (h : w ∈ lw_g) => atoms_spec (ws := mW y_Ma_passes b_Ma_passes 3 (some .boolean)) B.pre w (List.mem_cons_of_mem _ h)
  have hown : s.vm.findClass R_Ma = some m.cls := findClass_of_methodNamed B.named
  have hl := lv_entry ([.ref (ad 11), .int ts, .int v]) (n := 3) (Nat.le_of_ble_eq_true rfl)
  rw [lg_entry_eq]
  generalize (lg_sl ([.ref (ad 11), .int ts, .int v]) ++ List.replicate (3 - (lg_sl ([.ref (ad 11), .int ts, .int v])).length) Slot.unset).toArray = ls at hl ⊢
  have hl : lv_has ls 3 [(0, .ref (ad 11)), (1, .int ts), (2, .int v)] := hl
  refine lv_iload_n hx hb d_Ma_passes_0 rfl (lv_at hl 1 rfl) ?_
  by_cases h1 : ts = (16 : Int32)
  · refine lv_lookup (tgt := 36) (off := 35) hx hb d_Ma_passes_1 (by decide) (by rw [h1] <;> rfl) (by decide) ?_
    refine lv_aload_n hx hb d_Ma_passes_36 rfl (lv_at hl 0 rfl) ?_
    refine va_get (D := D) (ci := 4) (v := .int M.2.2.2.1) (C := R_Ma) (T := F_Ma) (N := 8) hx hb hts in_Ma hown hK hP 11 rfl rfl 3 (by decide) (hts _ wd_186) (fun _ h9 => h9) rfl d_Ma_passes_37 ?_
    refine lv_iload_n hx hb d_Ma_passes_40 rfl (lv_at hl 2 rfl) ?_
    refine lv_icmp_ne (tgt := 48) hx hb d_Ma_passes_41 (by decide) (fun h2 => ?_) (fun h2 => ?_)
    · refine lv_iconst (v := 0) hx hb d_Ma_passes_48 (by decide) ?_
      exact W.zret hx hb hr rfl (fun t ht hW => ⟨_, rfl, (by rw [m_Ma_passes, if_pos h1, if_neg h2]), ht⟩) (fun _ h => by cases h) d_Ma_passes_49
    refine lv_iconst (v := 1) hx hb d_Ma_passes_44 (by decide) ?_
    refine lv_goto (tgt := 49) hx hb d_Ma_passes_45 (by decide) ?_
    exact W.zret hx hb hr rfl (fun t ht hW => ⟨_, rfl, (by rw [m_Ma_passes, if_pos h1, if_pos h2]), ht⟩) (fun _ h => by cases h) d_Ma_passes_49
  by_cases h3 : ts = (32 : Int32)
  · refine lv_lookup (tgt := 50) (off := 49) hx hb d_Ma_passes_1 (by decide) (by rw [h3] <;> rfl) (by decide) ?_
    refine lv_aload_n hx hb d_Ma_passes_50 rfl (lv_at hl 0 rfl) ?_
    refine va_get (D := D) (ci := 4) (v := .int M.2.2.2.1) (C := R_Ma) (T := F_Ma) (N := 8) hx hb hts in_Ma hown hK hP 11 rfl rfl 3 (by decide) (hts _ wd_186) (fun _ h9 => h9) rfl d_Ma_passes_51 ?_
    refine vp_callSl (va_Run.run (va_runSN (As := [.int M.2.2.2.1]) (rest := []) ⟨hx, hb, hml, hown, hts⟩ (c_F_unsigned l M.2.2.2.1) ⟨va_cnB 1 hts (g_in wd_302) rfl rfl rfl hN.2.2.2.2.2.2.1 (hts _ wd_26) (by decide +kernel) ⟨Nat.le_of_ble_eq_true rfl, Nat.le_of_ble_eq_true rfl⟩, hts _ wd_301, trivial⟩ ⟨fun _ _ _ _ q => q, fun _ _ _ => ⟨rfl, trivial⟩⟩ rfl rfl hl.1 rfl (lv_room (Nat.le_of_ble_eq_true rfl)) d_Ma_passes_54 ⟨Nat.le_of_ble_eq_true rfl, Nat.le_of_ble_eq_true rfl⟩)) (fun r1 e1 => ?_)
    subst e1
    refine lv_iload_n hx hb d_Ma_passes_57 rfl (lv_at hl 2 rfl) ?_
    refine vp_callSl (va_Run.run (va_runSN (As := [.int v]) (rest := [.long (m_F_unsigned M.2.2.2.1)]) ⟨hx, hb, hml, hown, hts⟩ (c_F_unsigned l v) ⟨va_cnB 1 hts (g_in wd_302) rfl rfl rfl hN.2.2.2.2.2.2.1 (hts _ wd_26) (by decide +kernel) ⟨Nat.le_of_ble_eq_true rfl, Nat.le_of_ble_eq_true rfl⟩, hts _ wd_301, trivial⟩ ⟨fun _ _ _ _ q => q, fun _ _ _ => ⟨rfl, trivial⟩⟩ rfl rfl hl.1 rfl (lv_room (Nat.le_of_ble_eq_true rfl)) d_Ma_passes_58 ⟨Nat.le_of_ble_eq_true rfl, Nat.le_of_ble_eq_true rfl⟩)) (fun r2 e2 => ?_)
    subst e2
    refine W.lcmp hx hb d_Ma_passes_61 ?_
    refine lv_if_le (tgt := 69) hx hb d_Ma_passes_62 (by decide) (fun h4 => ?_) (fun h4 => ?_)
    · refine lv_iconst (v := 0) hx hb d_Ma_passes_69 (by decide) ?_
      exact W.zret hx hb hr rfl (fun t ht hW => ⟨_, rfl, (by rw [m_Ma_passes, if_neg h1, if_pos h3, if_pos h4]), ht⟩) (fun _ h => by cases h) d_Ma_passes_70
    refine lv_iconst (v := 1) hx hb d_Ma_passes_65 (by decide) ?_
    refine lv_goto (tgt := 70) hx hb d_Ma_passes_66 (by decide) ?_
    exact W.zret hx hb hr rfl (fun t ht hW => ⟨_, rfl, (by rw [m_Ma_passes, if_neg h1, if_pos h3, if_neg h4]), ht⟩) (fun _ h => by cases h) d_Ma_passes_70
  by_cases h5 : ts = (48 : Int32)
  · refine lv_lookup (tgt := 71) (off := 70) hx hb d_Ma_passes_1 (by decide) (by rw [h5] <;> rfl) (by decide) ?_
    refine lv_aload_n hx hb d_Ma_passes_71 rfl (lv_at hl 0 rfl) ?_
    refine va_get (D := D) (ci := 4) (v := .int M.2.2.2.1) (C := R_Ma) (T := F_Ma) (N := 8) hx hb hts in_Ma hown hK hP 11 rfl rfl 3 (by decide) (hts _ wd_186) (fun _ h9 => h9) rfl d_Ma_passes_72 ?_
    refine vp_callSl (va_Run.run (va_runSN (As := [.int M.2.2.2.1]) (rest := []) ⟨hx, hb, hml, hown, hts⟩ (c_F_unsigned l M.2.2.2.1) ⟨va_cnB 1 hts (g_in wd_302) rfl rfl rfl hN.2.2.2.2.2.2.1 (hts _ wd_26) (by decide +kernel) ⟨Nat.le_of_ble_eq_true rfl, Nat.le_of_ble_eq_true rfl⟩, hts _ wd_301, trivial⟩ ⟨fun _ _ _ _ q => q, fun _ _ _ => ⟨rfl, trivial⟩⟩ rfl rfl hl.1 rfl (lv_room (Nat.le_of_ble_eq_true rfl)) d_Ma_passes_75 ⟨Nat.le_of_ble_eq_true rfl, Nat.le_of_ble_eq_true rfl⟩)) (fun r3 e3 => ?_)
    subst e3
    refine lv_iload_n hx hb d_Ma_passes_78 rfl (lv_at hl 2 rfl) ?_
    refine vp_callSl (va_Run.run (va_runSN (As := [.int v]) (rest := [.long (m_F_unsigned M.2.2.2.1)]) ⟨hx, hb, hml, hown, hts⟩ (c_F_unsigned l v) ⟨va_cnB 1 hts (g_in wd_302) rfl rfl rfl hN.2.2.2.2.2.2.1 (hts _ wd_26) (by decide +kernel) ⟨Nat.le_of_ble_eq_true rfl, Nat.le_of_ble_eq_true rfl⟩, hts _ wd_301, trivial⟩ ⟨fun _ _ _ _ q => q, fun _ _ _ => ⟨rfl, trivial⟩⟩ rfl rfl hl.1 rfl (lv_room (Nat.le_of_ble_eq_true rfl)) d_Ma_passes_79 ⟨Nat.le_of_ble_eq_true rfl, Nat.le_of_ble_eq_true rfl⟩)) (fun r4 e4 => ?_)
    subst e4
    refine W.lcmp hx hb d_Ma_passes_82 ?_
    refine lv_if_lt (tgt := 90) hx hb d_Ma_passes_83 (by decide) (fun h6 => ?_) (fun h6 => ?_)
    · refine lv_iconst (v := 0) hx hb d_Ma_passes_90 (by decide) ?_
      exact W.zret hx hb hr rfl (fun t ht hW => ⟨_, rfl, (by rw [m_Ma_passes, if_neg h1, if_neg h3, if_pos h5, if_pos h6]), ht⟩) (fun _ h => by cases h) d_Ma_passes_91
    refine lv_iconst (v := 1) hx hb d_Ma_passes_86 (by decide) ?_
    refine lv_goto (tgt := 91) hx hb d_Ma_passes_87 (by decide) ?_
    exact W.zret hx hb hr rfl (fun t ht hW => ⟨_, rfl, (by rw [m_Ma_passes, if_neg h1, if_neg h3, if_pos h5, if_neg h6]), ht⟩) (fun _ h => by cases h) d_Ma_passes_91
  refine lv_lookup (tgt := 92) (off := 91) hx hb d_Ma_passes_1 (by decide) ((lv_osw h1 (by decide)).trans ((lv_osw h3 (by decide)).trans ((lv_osw h5 (by decide)).trans rfl))) (by decide) ?_
  refine lv_aload_n hx hb d_Ma_passes_92 rfl (lv_at hl 0 rfl) ?_
  refine va_get (D := D) (ci := 4) (v := .int M.2.2.2.1) (C := R_Ma) (T := F_Ma) (N := 8) hx hb hts in_Ma hown hK hP 11 rfl rfl 3 (by decide) (hts _ wd_186) (fun _ h9 => h9) rfl d_Ma_passes_93 ?_
  refine lv_iload_n hx hb d_Ma_passes_96 rfl (lv_at hl 2 rfl) ?_
  refine lv_iand hx hb d_Ma_passes_97 ?_
  refine lv_if_eq (tgt := 105) hx hb d_Ma_passes_98 (by decide) (fun h7 => ?_) (fun h7 => ?_)
  · refine lv_iconst (v := 0) hx hb d_Ma_passes_105 (by decide) ?_
    exact W.zret hx hb hr rfl (fun t ht hW => ⟨_, rfl, (by rw [m_Ma_passes, if_neg h1, if_neg h3, if_neg h5, if_pos h7]), ht⟩) (fun _ h => by cases h) d_Ma_passes_106
  refine lv_iconst (v := 1) hx hb d_Ma_passes_101 (by decide) ?_
  refine lv_goto (tgt := 106) hx hb d_Ma_passes_102 (by decide) ?_
  exact W.zret hx hb hr rfl (fun t ht hW => ⟨_, rfl, (by rw [m_Ma_passes, if_neg h1, if_neg h3, if_neg h5, if_neg h7]), ht⟩) (fun _ h => by cases h) d_Ma_passes_106
def m_Ma_jump (M : MT) (z : Int64) (cd : Int32) (v : Int32) : MT := if cd = (5 : Int32) then (M.1, M.2.1, M.2.2.1, M.2.2.2.1, M.2.2.2.2.1, M.2.2.2.2.2.1 + v, M.2.2.2.2.2.2.1, M.2.2.2.2.2.2.2) else if (m_Ma_passes M (cd &&& (240 : Int32)) v) = (0 : Int32) then (M.1, M.2.1, M.2.2.1, M.2.2.2.1, M.2.2.2.2.1, M.2.2.2.2.2.1 + (m_In_distanceIfFalse z), M.2.2.2.2.2.2.1, M.2.2.2.2.2.2.2) else (M.1, M.2.1, M.2.2.1, M.2.2.2.1, M.2.2.2.2.1, M.2.2.2.2.2.1 + (m_In_distanceIfTrue z), M.2.2.2.2.2.2.1, M.2.2.2.2.2.2.2)
set_option maxHeartbeats 4000000 in
set_option maxRecDepth 100000 in
theorem c_Ma_jump (l : Launch) (D : va_G) (dA : Nat → ClassId) (ad : Nat → Nat) (A : Nat → Prop) (hAd : AdOK 49 ad A) (w : Nat → Int32) (P : PT) (g : GT) (ss : Nat → Int32) (M : MT) (z : Int64) (cd : Int32) (v : Int32) : Met l y_Ma_jump (mW y_Ma_jump b_Ma_jump 5 none) { frames := 2, cells := 0, slots := 0, locals := 42 } (va_Pc [.ref (ad 11), .long z, .int cd, .int v] (fun U => CG D dA ad w P g ss M U)) (va_Qv (fun u : MT => u = m_Ma_jump M z cd v) (fun u t => CG D dA ad w P g ss u t) A) 0 0 A := by
  refine Met.ofW (cc := b_Ma_jump) (maxL := 5) (ret := none) (by decide) rfl ?_
  intro p e s m args below meth c s₁ B hml hv
  obtain ⟨rfl, hP, hK, hN⟩ := hv
  have hx := B.exec
  have hb := B.bytes
  have hr := B.returns
  have hlocks := B.notSynchronized
  have hts := fun (w : Cond) (h : w ∈ lw_g) => atoms_spec (ws := mW y_Ma_jump b_Ma_jump 5 none) B.pre w (List.mem_cons_of_mem _ h)
  have hown : s.vm.findClass R_Ma = some m.cls := findClass_of_methodNamed B.named
  have hS : va_S A s.heap s.heap [] := va_S.rf
  have hl := lv_entry ([.ref (ad 11), .long z, .int cd, .int v]) (n := 5) (Nat.le_of_ble_eq_true rfl)
  rw [lg_entry_eq]
  generalize (lg_sl ([.ref (ad 11), .long z, .int cd, .int v]) ++ List.replicate (5 - (lg_sl ([.ref (ad 11), .long z, .int cd, .int v])).length) Slot.unset).toArray = ls at hl ⊢
  have hl : lv_has ls 5 [(0, .ref (ad 11)), (1, .long z), (3, .int cd), (4, .int v)] := hl
  refine lv_iload_n hx hb d_Ma_jump_0 rfl (lv_at hl 2 rfl) ?_
  refine lv_iconst (v := 5) hx hb d_Ma_jump_1 (by decide) ?_
  refine lv_icmp_ne (tgt := 19) hx hb d_Ma_jump_2 (by decide) (fun h1 => ?_) (fun h1 => ?_)
  · refine lv_aload_n hx hb d_Ma_jump_19 rfl (lv_at hl 0 rfl) ?_
    refine lv_iload_n hx hb d_Ma_jump_20 rfl (lv_at hl 2 rfl) ?_
    refine lv_sipush (v := 240) hx hb d_Ma_jump_21 (by decide) ?_
    refine lv_iand hx hb d_Ma_jump_24 ?_
    refine lv_iload hx hb d_Ma_jump_25 (lv_at hl 3 rfl) ?_
    refine vp_callSi (va_Run.run (va_runV (As := [.int (cd &&& (240 : Int32)), .int v]) (rest := []) ⟨hx, hb, hml, hown, hts⟩ (c_Ma_passes l D dA ad w P g ss M (cd &&& (240 : Int32)) v) (cwV 2 hts (g_V wd_468 wd_470 wd_11 wd_34 wd_471) rfl rfl rfl (by decide +kernel) ⟨Nat.le_of_ble_eq_true rfl, Nat.le_of_ble_eq_true rfl⟩) ⟨CG_fb, (va_recv (ci := 4) (q := (R_Ma, F_Ma, 8)) (q0 := 11) hK hP rfl rfl), fun U hU hW => ⟨rfl, CG_at hP hK hN hU hW⟩⟩ rfl rfl hl.1 rfl (lv_room (Nat.le_of_ble_eq_true rfl)) d_Ma_jump_27 ⟨Nat.le_of_ble_eq_true rfl, Nat.le_of_ble_eq_true rfl⟩)) (fun r1 e1 => ?_)
    subst e1
    refine lv_if_eq (tgt := 49) hx hb d_Ma_jump_30 (by decide) (fun h2 => ?_) (fun h2 => ?_)
    · refine lv_aload_n hx hb d_Ma_jump_49 rfl (lv_at hl 0 rfl) ?_
      refine lv_dup hx hb d_Ma_jump_50 rfl ?_
      refine va_get (D := D) (ci := 4) (v := .int M.2.2.2.2.2.1) (C := R_Ma) (T := F_Ma) (N := 8) hx hb hts in_Ma hown hK hP 11 rfl rfl 5 (by decide) (hts _ wd_188) (fun _ h9 => h9) rfl d_Ma_jump_51 ?_
      refine lv_lload_n hx hb d_Ma_jump_54 rfl (lv_at hl 1 rfl) ?_
      refine vp_callSi (va_Run.run (va_runS (As := [.long z]) (rest := [.int M.2.2.2.2.2.1, .ref (ad 11)]) ⟨hx, hb, hml, hown, hts⟩ (c_In_distanceIfFalse l z) (va_cwS 1 hts (g_S wd_473 wd_404 wd_36 wd_405) rfl rfl rfl (by decide +kernel) ⟨Nat.le_of_ble_eq_true rfl, Nat.le_of_ble_eq_true rfl⟩) ⟨fun _ _ _ _ q => q, fun _ _ _ => ⟨rfl, trivial⟩⟩ rfl rfl hl.1 rfl (lv_room (Nat.le_of_ble_eq_true rfl)) d_Ma_jump_55 ⟨Nat.le_of_ble_eq_true rfl, Nat.le_of_ble_eq_true rfl⟩)) (fun r2 e2 => ?_)
      subst e2
      refine lv_iadd hx hb d_Ma_jump_58 ?_
      refine va_put (D := D) (ci := 4) (v := .int (M.2.2.2.2.2.1 + (m_In_distanceIfFalse z))) (ty := .int) (C := R_Ma) (T := F_Ma) (N := 8) hx hb hts in_Ma t_Ma k_Ma n_Ma hown hK hP (wC_D hAd) hS 11 rfl rfl 5 (by decide) (hts _ wd_188) (fun _ h9 => h9) rfl (by decide +kernel) rfl rfl (Nat.le_of_ble_eq_true rfl) d_Ma_jump_59 (fun H locs hP _ hS => ?_)
      have hP : va_P D cls (wC ad dA w P g ss (M.1, M.2.1, M.2.2.1, M.2.2.2.1, M.2.2.2.2.1, M.2.2.2.2.2.1 + (m_In_distanceIfFalse z), M.2.2.2.2.2.2.1, M.2.2.2.2.2.2.2)) H := hP
      exact W.vret hx hb hr (fun t ht hW => ⟨⟨_, rfl, (by rw [m_Ma_jump, if_neg h1, if_pos h2]), CG_at hP hK hN ht hW⟩, hS.F ht⟩) hS.2.2 d_Ma_jump_62
    refine lv_aload_n hx hb d_Ma_jump_33 rfl (lv_at hl 0 rfl) ?_
    refine lv_dup hx hb d_Ma_jump_34 rfl ?_
    refine va_get (D := D) (ci := 4) (v := .int M.2.2.2.2.2.1) (C := R_Ma) (T := F_Ma) (N := 8) hx hb hts in_Ma hown hK hP 11 rfl rfl 5 (by decide) (hts _ wd_188) (fun _ h9 => h9) rfl d_Ma_jump_35 ?_
    refine lv_lload_n hx hb d_Ma_jump_38 rfl (lv_at hl 1 rfl) ?_
    refine vp_callSi (va_Run.run (va_runS (As := [.long z]) (rest := [.int M.2.2.2.2.2.1, .ref (ad 11)]) ⟨hx, hb, hml, hown, hts⟩ (c_In_distanceIfTrue l z) (va_cwS 1 hts (g_S wd_472 wd_400 wd_36 wd_401) rfl rfl rfl (by decide +kernel) ⟨Nat.le_of_ble_eq_true rfl, Nat.le_of_ble_eq_true rfl⟩) ⟨fun _ _ _ _ q => q, fun _ _ _ => ⟨rfl, trivial⟩⟩ rfl rfl hl.1 rfl (lv_room (Nat.le_of_ble_eq_true rfl)) d_Ma_jump_39 ⟨Nat.le_of_ble_eq_true rfl, Nat.le_of_ble_eq_true rfl⟩)) (fun r3 e3 => ?_)
    subst e3
    refine lv_iadd hx hb d_Ma_jump_42 ?_
    refine va_put (D := D) (ci := 4) (v := .int (M.2.2.2.2.2.1 + (m_In_distanceIfTrue z))) (ty := .int) (C := R_Ma) (T := F_Ma) (N := 8) hx hb hts in_Ma t_Ma k_Ma n_Ma hown hK hP (wC_D hAd) hS 11 rfl rfl 5 (by decide) (hts _ wd_188) (fun _ h9 => h9) rfl (by decide +kernel) rfl rfl (Nat.le_of_ble_eq_true rfl) d_Ma_jump_43 (fun H locs hP _ hS => ?_)
    have hP : va_P D cls (wC ad dA w P g ss (M.1, M.2.1, M.2.2.1, M.2.2.2.1, M.2.2.2.2.1, M.2.2.2.2.2.1 + (m_In_distanceIfTrue z), M.2.2.2.2.2.2.1, M.2.2.2.2.2.2.2)) H := hP
    refine lv_goto (tgt := 62) hx hb d_Ma_jump_46 (by decide) ?_
    exact W.vret hx hb hr (fun t ht hW => ⟨⟨_, rfl, (by rw [m_Ma_jump, if_neg h1, if_neg h2]), CG_at hP hK hN ht hW⟩, hS.F ht⟩) hS.2.2 d_Ma_jump_62
  refine lv_aload_n hx hb d_Ma_jump_5 rfl (lv_at hl 0 rfl) ?_
  refine lv_dup hx hb d_Ma_jump_6 rfl ?_
  refine va_get (D := D) (ci := 4) (v := .int M.2.2.2.2.2.1) (C := R_Ma) (T := F_Ma) (N := 8) hx hb hts in_Ma hown hK hP 11 rfl rfl 5 (by decide) (hts _ wd_188) (fun _ h9 => h9) rfl d_Ma_jump_7 ?_
  refine lv_iload hx hb d_Ma_jump_10 (lv_at hl 3 rfl) ?_
  refine lv_iadd hx hb d_Ma_jump_12 ?_
  refine va_put (D := D) (ci := 4) (v := .int (M.2.2.2.2.2.1 + v)) (ty := .int) (C := R_Ma) (T := F_Ma) (N := 8) hx hb hts in_Ma t_Ma k_Ma n_Ma hown hK hP (wC_D hAd) hS 11 rfl rfl 5 (by decide) (hts _ wd_188) (fun _ h9 => h9) rfl (by decide +kernel) rfl rfl (Nat.le_of_ble_eq_true rfl) d_Ma_jump_13 (fun H locs hP _ hS => ?_)
  have hP : va_P D cls (wC ad dA w P g ss (M.1, M.2.1, M.2.2.1, M.2.2.2.1, M.2.2.2.2.1, M.2.2.2.2.2.1 + v, M.2.2.2.2.2.2.1, M.2.2.2.2.2.2.2)) H := hP
  refine lv_goto (tgt := 62) hx hb d_Ma_jump_16 (by decide) ?_
  exact W.vret hx hb hr (fun t ht hW => ⟨⟨_, rfl, (by rw [m_Ma_jump, if_pos h1]), CG_at hP hK hN ht hW⟩, hS.F ht⟩) hS.2.2 d_Ma_jump_62
def m_Ma_perform (w : Nat → Int32) (M : MT) (z : Int64) : MT := if ((m_In_codeOf z) &&& (8 : Int32)) = (0 : Int32) then if ((m_In_codeOf z) &&& (7 : Int32)) = (0 : Int32) then (M.1, M.2.1, M.2.2.1, m_Ma_load w M (m_In_codeOf z) ((m_In_operandOf z).toInt32), M.2.2.2.2.1, M.2.2.2.2.2.1, M.2.2.2.2.2.2.1, M.2.2.2.2.2.2.2) else if ((m_In_codeOf z) &&& (7 : Int32)) = (1 : Int32) then (M.1, M.2.1, M.2.2.1, M.2.2.2.1, m_Ma_load w M (m_In_codeOf z) ((m_In_operandOf z).toInt32), M.2.2.2.2.2.1, M.2.2.2.2.2.2.1, M.2.2.2.2.2.2.2) else if ((m_In_codeOf z) &&& (7 : Int32)) = (2 : Int32) then (m_Ma_store M ((m_In_operandOf z).toInt32) M.2.2.2.1) else if ((m_In_codeOf z) &&& (7 : Int32)) = (3 : Int32) then (m_Ma_store M ((m_In_operandOf z).toInt32) M.2.2.2.2.1) else if ((m_In_codeOf z) &&& (7 : Int32)) = (4 : Int32) then (m_Ma_compute M ((m_In_codeOf z) &&& (240 : Int32)) ((m_In_operandOf z).toInt32)) else if ((m_In_codeOf z) &&& (7 : Int32)) = (5 : Int32) then (m_Ma_jump M z (m_In_codeOf z) ((m_In_operandOf z).toInt32)) else if ((m_In_codeOf z) &&& (7 : Int32)) = (6 : Int32) then if (m_In_codeOf z) = (6 : Int32) then (m_Ma_end M ((m_In_operandOf z).toInt32)) else (m_Ma_end M M.2.2.2.1) else (m_Ma_copy M (m_In_codeOf z)) else if ((m_In_codeOf z) &&& (7 : Int32)) = (0 : Int32) then (M.1, M.2.1, M.2.2.1, m_Ma_load w M (m_In_codeOf z) ((m_In_operandOf z).toInt32), M.2.2.2.2.1, M.2.2.2.2.2.1, M.2.2.2.2.2.2.1, M.2.2.2.2.2.2.2) else if ((m_In_codeOf z) &&& (7 : Int32)) = (1 : Int32) then (M.1, M.2.1, M.2.2.1, M.2.2.2.1, m_Ma_load w M (m_In_codeOf z) ((m_In_operandOf z).toInt32), M.2.2.2.2.2.1, M.2.2.2.2.2.2.1, M.2.2.2.2.2.2.2) else if ((m_In_codeOf z) &&& (7 : Int32)) = (2 : Int32) then (m_Ma_store M ((m_In_operandOf z).toInt32) M.2.2.2.1) else if ((m_In_codeOf z) &&& (7 : Int32)) = (3 : Int32) then (m_Ma_store M ((m_In_operandOf z).toInt32) M.2.2.2.2.1) else if ((m_In_codeOf z) &&& (7 : Int32)) = (4 : Int32) then (m_Ma_compute M ((m_In_codeOf z) &&& (240 : Int32)) M.2.2.2.2.1) else if ((m_In_codeOf z) &&& (7 : Int32)) = (5 : Int32) then (m_Ma_jump M z (m_In_codeOf z) M.2.2.2.2.1) else if ((m_In_codeOf z) &&& (7 : Int32)) = (6 : Int32) then if (m_In_codeOf z) = (6 : Int32) then (m_Ma_end M ((m_In_operandOf z).toInt32)) else (m_Ma_end M M.2.2.2.1) else (m_Ma_copy M (m_In_codeOf z))
set_option maxHeartbeats 4000000 in
set_option maxRecDepth 100000 in
theorem c_Ma_perform (l : Launch) (D : va_G) (dA : Nat → ClassId) (ad : Nat → Nat) (A : Nat → Prop) (hAd : AdOK 49 ad A) (w : Nat → Int32) (P : PT) (g : GT) (ss : Nat → Int32) (M : MT) (z : Int64) (hz : OKz z) : Met l y_Ma_perform (mW y_Ma_perform b_Ma_perform 7 none) { frames := 3, cells := 0, slots := 0, locals := 66 } (va_Pc [.ref (ad 11), .long z, .ref (ad 1)] (fun U => CG D dA ad w P g ss M U)) (va_Qv (fun u : MT => u = m_Ma_perform w M z) (fun u t => CG D dA ad w P g ss u t) A) 0 0 A := by
  refine Met.ofW (cc := b_Ma_perform) (maxL := 7) (ret := none) (by decide) rfl ?_
  intro p e s m args below meth c s₁ B hml hv
  obtain ⟨rfl, hP, hK, hN⟩ := hv
  have hx := B.exec
  have hb := B.bytes
  have hr := B.returns
  have hlocks := B.notSynchronized
  have hts := fun (w : Cond) (h : w ∈ lw_g) => atoms_spec (ws := mW y_Ma_perform b_Ma_perform 7 none) B.pre w (List.mem_cons_of_mem _ h)
  have hown : s.vm.findClass R_Ma = some m.cls := findClass_of_methodNamed B.named
  have hS : va_S A s.heap s.heap [] := va_S.rf
  have hl := lv_entry ([.ref (ad 11), .long z, .ref (ad 1)]) (n := 7) (Nat.le_of_ble_eq_true rfl)
  rw [lg_entry_eq]
  generalize (lg_sl ([.ref (ad 11), .long z, .ref (ad 1)]) ++ List.replicate (7 - (lg_sl ([.ref (ad 11), .long z, .ref (ad 1)])).length) Slot.unset).toArray = ls at hl ⊢
  have hl : lv_has ls 7 [(0, .ref (ad 11)), (1, .long z), (3, .ref (ad 1))] := hl
  refine lv_lload_n hx hb d_Ma_perform_0 rfl (lv_at hl 1 rfl) ?_
  refine vp_callSi (va_Run.run (va_runS (As := [.long z]) (rest := []) ⟨hx, hb, hml, hown, hts⟩ (c_In_codeOf l z) (va_cwS 1 hts (g_S wd_441 wd_364 wd_36 wd_365) rfl rfl rfl (by decide +kernel) ⟨Nat.le_of_ble_eq_true rfl, Nat.le_of_ble_eq_true rfl⟩) ⟨fun _ _ _ _ q => q, fun _ _ _ => ⟨rfl, trivial⟩⟩ rfl rfl hl.1 rfl (lv_room (Nat.le_of_ble_eq_true rfl)) d_Ma_perform_1 ⟨Nat.le_of_ble_eq_true rfl, Nat.le_of_ble_eq_true rfl⟩)) (fun r1 e1 => ?_)
  subst e1
  refine lv_istore hx hb d_Ma_perform_4 hl (by decide) rfl (fun ls hl => ?_)
  have hl : lv_has ls 7 [(4, .int (m_In_codeOf z)), (0, .ref (ad 11)), (1, .long z), (3, .ref (ad 1))] := hl
  refine lv_lload_n hx hb d_Ma_perform_6 rfl (lv_at hl 2 rfl) ?_
  refine vp_callSl (va_Run.run (va_runS (As := [.long z]) (rest := []) ⟨hx, hb, hml, hown, hts⟩ (c_In_operandOf l z) (va_cwS 1 hts (g_S wd_442 wd_380 wd_36 wd_381) rfl rfl rfl (by decide +kernel) ⟨Nat.le_of_ble_eq_true rfl, Nat.le_of_ble_eq_true rfl⟩) ⟨fun _ _ _ _ q => q, fun _ _ _ => ⟨rfl, trivial⟩⟩ rfl rfl hl.1 rfl (lv_room (Nat.le_of_ble_eq_true rfl)) d_Ma_perform_7 ⟨Nat.le_of_ble_eq_true rfl, Nat.le_of_ble_eq_true rfl⟩)) (fun r2 e2 => ?_)
  subst e2
  refine lv_l2i hx hb d_Ma_perform_10 rfl ?_
  refine lv_istore hx hb d_Ma_perform_11 hl (by decide) rfl (fun ls hl => ?_)
  have hl : lv_has ls 7 [(5, .int ((m_In_operandOf z).toInt32)), (4, .int (m_In_codeOf z)), (0, .ref (ad 11)), (1, .long z), (3, .ref (ad 1))] := hl
  refine lv_iload hx hb d_Ma_perform_13 (lv_at hl 1 rfl) ?_
  refine lv_bipush (v := 8) hx hb d_Ma_perform_15 (by decide) ?_
  refine lv_iand hx hb d_Ma_perform_17 ?_
  refine lv_if_eq (tgt := 28) hx hb d_Ma_perform_18 (by decide) (fun h1 => ?_) (fun h1 => ?_)
  · refine lv_iload hx hb d_Ma_perform_28 (lv_at hl 0 rfl) ?_
    refine lv_istore hx hb d_Ma_perform_30 hl (by decide) rfl (fun ls hl => ?_)
    have hl : lv_has ls 7 [(6, .int ((m_In_operandOf z).toInt32)), (5, .int ((m_In_operandOf z).toInt32)), (4, .int (m_In_codeOf z)), (0, .ref (ad 11)), (1, .long z), (3, .ref (ad 1))] := hl
    refine lv_iload hx hb d_Ma_perform_32 (lv_at hl 2 rfl) ?_
    refine lv_bipush (v := 7) hx hb d_Ma_perform_34 (by decide) ?_
    refine lv_iand hx hb d_Ma_perform_36 ?_
    by_cases h2 : (m_In_codeOf z) &&& (7 : Int32) = (0 : Int32)
    · refine lv_tableIn (tgt := 80) (off := 43) hx hb d_Ma_perform_37 (by rw [h2]; decide) (by rw [h2]; decide) (by rw [h2] <;> rfl) (by decide) ?_
      refine lv_aload_n hx hb d_Ma_perform_80 rfl (lv_at hl 3 rfl) ?_
      refine lv_aload_n hx hb d_Ma_perform_81 rfl (lv_at hl 3 rfl) ?_
      refine lv_iload hx hb d_Ma_perform_82 (lv_at hl 2 rfl) ?_
      refine lv_iload hx hb d_Ma_perform_84 (lv_at hl 1 rfl) ?_
      refine lv_aload_n hx hb d_Ma_perform_86 rfl (lv_at hl 5 rfl) ?_
      refine vp_callSi (va_Run.run (va_runV (As := [.int (m_In_codeOf z), .int ((m_In_operandOf z).toInt32), .ref (ad 1)]) (rest := [.ref (ad 11)]) ⟨hx, hb, hml, hown, hts⟩ (c_Ma_load l D dA ad w P g ss M (m_In_codeOf z) ((m_In_operandOf z).toInt32) (okz_w hz (by first | exact Or.inl (by assumption) | exact Or.inr (by assumption))) (okz_c hz (by first | exact Or.inl (by assumption) | exact Or.inr (by assumption)))) (cwV 3 hts (g_V wd_443 wd_445 wd_5 wd_34 wd_446) rfl rfl rfl (by decide +kernel) ⟨Nat.le_of_ble_eq_true rfl, Nat.le_of_ble_eq_true rfl⟩) ⟨CG_fb, (va_recv (ci := 4) (q := (R_Ma, F_Ma, 8)) (q0 := 11) hK hP rfl rfl), fun U hU hW => ⟨rfl, CG_at hP hK hN hU hW⟩⟩ rfl rfl hl.1 rfl (lv_room (Nat.le_of_ble_eq_true rfl)) d_Ma_perform_87 ⟨Nat.le_of_ble_eq_true rfl, Nat.le_of_ble_eq_true rfl⟩)) (fun r3 e3 => ?_)
      subst e3
      refine va_put (D := D) (ci := 4) (v := .int (m_Ma_load w M (m_In_codeOf z) ((m_In_operandOf z).toInt32))) (ty := .int) (C := R_Ma) (T := F_Ma) (N := 8) hx hb hts in_Ma t_Ma k_Ma n_Ma hown hK hP (wC_D hAd) hS 11 rfl rfl 3 (by decide) (hts _ wd_186) (fun _ h9 => h9) rfl (by decide +kernel) rfl rfl (Nat.le_of_ble_eq_true rfl) d_Ma_perform_90 (fun H locs hP _ hS => ?_)
      have hP : va_P D cls (wC ad dA w P g ss (M.1, M.2.1, M.2.2.1, m_Ma_load w M (m_In_codeOf z) ((m_In_operandOf z).toInt32), M.2.2.2.2.1, M.2.2.2.2.2.1, M.2.2.2.2.2.2.1, M.2.2.2.2.2.2.2)) H := hP
      refine lv_goto (tgt := 194) hx hb d_Ma_perform_93 (by decide) ?_
      exact W.vret hx hb hr (fun t ht hW => ⟨⟨_, rfl, (by rw [m_Ma_perform, if_pos h1, if_pos h2]), CG_at hP hK hN ht hW⟩, hS.F ht⟩) hS.2.2 d_Ma_perform_194
    by_cases h3 : (m_In_codeOf z) &&& (7 : Int32) = (1 : Int32)
    · refine lv_tableIn (tgt := 96) (off := 59) hx hb d_Ma_perform_37 (by rw [h3]; decide) (by rw [h3]; decide) (by rw [h3] <;> rfl) (by decide) ?_
      refine lv_aload_n hx hb d_Ma_perform_96 rfl (lv_at hl 3 rfl) ?_
      refine lv_aload_n hx hb d_Ma_perform_97 rfl (lv_at hl 3 rfl) ?_
      refine lv_iload hx hb d_Ma_perform_98 (lv_at hl 2 rfl) ?_
      refine lv_iload hx hb d_Ma_perform_100 (lv_at hl 1 rfl) ?_
      refine lv_aload_n hx hb d_Ma_perform_102 rfl (lv_at hl 5 rfl) ?_
      refine vp_callSi (va_Run.run (va_runV (As := [.int (m_In_codeOf z), .int ((m_In_operandOf z).toInt32), .ref (ad 1)]) (rest := [.ref (ad 11)]) ⟨hx, hb, hml, hown, hts⟩ (c_Ma_load l D dA ad w P g ss M (m_In_codeOf z) ((m_In_operandOf z).toInt32) (okz_w hz (by first | exact Or.inl (by assumption) | exact Or.inr (by assumption))) (okz_c hz (by first | exact Or.inl (by assumption) | exact Or.inr (by assumption)))) (cwV 3 hts (g_V wd_443 wd_445 wd_5 wd_34 wd_446) rfl rfl rfl (by decide +kernel) ⟨Nat.le_of_ble_eq_true rfl, Nat.le_of_ble_eq_true rfl⟩) ⟨CG_fb, (va_recv (ci := 4) (q := (R_Ma, F_Ma, 8)) (q0 := 11) hK hP rfl rfl), fun U hU hW => ⟨rfl, CG_at hP hK hN hU hW⟩⟩ rfl rfl hl.1 rfl (lv_room (Nat.le_of_ble_eq_true rfl)) d_Ma_perform_103 ⟨Nat.le_of_ble_eq_true rfl, Nat.le_of_ble_eq_true rfl⟩)) (fun r4 e4 => ?_)
      subst e4
      refine va_put (D := D) (ci := 4) (v := .int (m_Ma_load w M (m_In_codeOf z) ((m_In_operandOf z).toInt32))) (ty := .int) (C := R_Ma) (T := F_Ma) (N := 8) hx hb hts in_Ma t_Ma k_Ma n_Ma hown hK hP (wC_D hAd) hS 11 rfl rfl 4 (by decide) (hts _ wd_187) (fun _ h9 => h9) rfl (by decide +kernel) rfl rfl (Nat.le_of_ble_eq_true rfl) d_Ma_perform_106 (fun H locs hP _ hS => ?_)
      have hP : va_P D cls (wC ad dA w P g ss (M.1, M.2.1, M.2.2.1, M.2.2.2.1, m_Ma_load w M (m_In_codeOf z) ((m_In_operandOf z).toInt32), M.2.2.2.2.2.1, M.2.2.2.2.2.2.1, M.2.2.2.2.2.2.2)) H := hP
      refine lv_goto (tgt := 194) hx hb d_Ma_perform_109 (by decide) ?_
      exact W.vret hx hb hr (fun t ht hW => ⟨⟨_, rfl, (by rw [m_Ma_perform, if_pos h1, if_neg h2, if_pos h3]), CG_at hP hK hN ht hW⟩, hS.F ht⟩) hS.2.2 d_Ma_perform_194
    by_cases h4 : (m_In_codeOf z) &&& (7 : Int32) = (2 : Int32)
    · refine lv_tableIn (tgt := 112) (off := 75) hx hb d_Ma_perform_37 (by rw [h4]; decide) (by rw [h4]; decide) (by rw [h4] <;> rfl) (by decide) ?_
      refine lv_aload_n hx hb d_Ma_perform_112 rfl (lv_at hl 3 rfl) ?_
      refine lv_iload hx hb d_Ma_perform_113 (lv_at hl 1 rfl) ?_
      refine lv_aload_n hx hb d_Ma_perform_115 rfl (lv_at hl 3 rfl) ?_
      refine va_get (D := D) (ci := 4) (v := .int M.2.2.2.1) (C := R_Ma) (T := F_Ma) (N := 8) hx hb hts in_Ma hown hK hP 11 rfl rfl 3 (by decide) (hts _ wd_186) (fun _ h9 => h9) rfl d_Ma_perform_116 ?_
      refine va_callv (va_runV (As := [.int ((m_In_operandOf z).toInt32), .int M.2.2.2.1]) (rest := []) ⟨hx, hb, hml, hown, hts⟩ (c_Ma_store l D dA ad A hAd w P g ss M ((m_In_operandOf z).toInt32) M.2.2.2.1 (okz_s hz (by first | exact Or.inl (by assumption) | exact Or.inr (by assumption)))) (cwV 2 hts (g_V wd_447 wd_449 wd_6 wd_34 wd_450) rfl rfl rfl (by decide +kernel) ⟨Nat.le_of_ble_eq_true rfl, Nat.le_of_ble_eq_true rfl⟩) ⟨CG_fb, (va_recv (ci := 4) (q := (R_Ma, F_Ma, 8)) (q0 := 11) hK hP rfl rfl), fun U hU hW => ⟨rfl, CG_at hP hK hN hU hW⟩⟩ rfl rfl hl.1 rfl (lv_room (Nat.le_of_ble_eq_true rfl)) d_Ma_perform_119 ⟨Nat.le_of_ble_eq_true rfl, Nat.le_of_ble_eq_true rfl⟩) hS (fun _ _ h => h) (fun _ h => h) (fun u1 t H locs ht hvm hu hB hz hk hS => ?_)
      subst hu
      obtain ⟨hP, -⟩ := hB
      rw [ht] at hP
      have hP : va_P D cls (wC ad dA w P g ss (m_Ma_store M ((m_In_operandOf z).toInt32) M.2.2.2.1)) H := hP
      refine lv_goto (tgt := 194) hx hb d_Ma_perform_122 (by decide) ?_
      exact W.vret hx hb hr (fun t ht hW => ⟨⟨_, rfl, (by rw [m_Ma_perform, if_pos h1, if_neg h2, if_neg h3, if_pos h4]), CG_at hP hK hN ht hW⟩, hS.F ht⟩) hS.2.2 d_Ma_perform_194
    by_cases h5 : (m_In_codeOf z) &&& (7 : Int32) = (3 : Int32)
    · refine lv_tableIn (tgt := 125) (off := 88) hx hb d_Ma_perform_37 (by rw [h5]; decide) (by rw [h5]; decide) (by rw [h5] <;> rfl) (by decide) ?_
      refine lv_aload_n hx hb d_Ma_perform_125 rfl (lv_at hl 3 rfl) ?_
      refine lv_iload hx hb d_Ma_perform_126 (lv_at hl 1 rfl) ?_
      refine lv_aload_n hx hb d_Ma_perform_128 rfl (lv_at hl 3 rfl) ?_
      refine va_get (D := D) (ci := 4) (v := .int M.2.2.2.2.1) (C := R_Ma) (T := F_Ma) (N := 8) hx hb hts in_Ma hown hK hP 11 rfl rfl 4 (by decide) (hts _ wd_187) (fun _ h9 => h9) rfl d_Ma_perform_129 ?_
      refine va_callv (va_runV (As := [.int ((m_In_operandOf z).toInt32), .int M.2.2.2.2.1]) (rest := []) ⟨hx, hb, hml, hown, hts⟩ (c_Ma_store l D dA ad A hAd w P g ss M ((m_In_operandOf z).toInt32) M.2.2.2.2.1 (okz_s hz (by first | exact Or.inl (by assumption) | exact Or.inr (by assumption)))) (cwV 2 hts (g_V wd_447 wd_449 wd_6 wd_34 wd_450) rfl rfl rfl (by decide +kernel) ⟨Nat.le_of_ble_eq_true rfl, Nat.le_of_ble_eq_true rfl⟩) ⟨CG_fb, (va_recv (ci := 4) (q := (R_Ma, F_Ma, 8)) (q0 := 11) hK hP rfl rfl), fun U hU hW => ⟨rfl, CG_at hP hK hN hU hW⟩⟩ rfl rfl hl.1 rfl (lv_room (Nat.le_of_ble_eq_true rfl)) d_Ma_perform_132 ⟨Nat.le_of_ble_eq_true rfl, Nat.le_of_ble_eq_true rfl⟩) hS (fun _ _ h => h) (fun _ h => h) (fun u2 t H locs ht hvm hu hB hz hk hS => ?_)
      subst hu
      obtain ⟨hP, -⟩ := hB
      rw [ht] at hP
      have hP : va_P D cls (wC ad dA w P g ss (m_Ma_store M ((m_In_operandOf z).toInt32) M.2.2.2.2.1)) H := hP
      refine lv_goto (tgt := 194) hx hb d_Ma_perform_135 (by decide) ?_
      exact W.vret hx hb hr (fun t ht hW => ⟨⟨_, rfl, (by rw [m_Ma_perform, if_pos h1, if_neg h2, if_neg h3, if_neg h4, if_pos h5]), CG_at hP hK hN ht hW⟩, hS.F ht⟩) hS.2.2 d_Ma_perform_194
    by_cases h6 : (m_In_codeOf z) &&& (7 : Int32) = (4 : Int32)
    · refine lv_tableIn (tgt := 138) (off := 101) hx hb d_Ma_perform_37 (by rw [h6]; decide) (by rw [h6]; decide) (by rw [h6] <;> rfl) (by decide) ?_
      refine lv_aload_n hx hb d_Ma_perform_138 rfl (lv_at hl 3 rfl) ?_
      refine lv_iload hx hb d_Ma_perform_139 (lv_at hl 2 rfl) ?_
      refine lv_sipush (v := 240) hx hb d_Ma_perform_141 (by decide) ?_
      refine lv_iand hx hb d_Ma_perform_144 ?_
      refine lv_iload hx hb d_Ma_perform_145 (lv_at hl 0 rfl) ?_
      refine va_callv (va_runV (As := [.int ((m_In_codeOf z) &&& (240 : Int32)), .int ((m_In_operandOf z).toInt32)]) (rest := []) ⟨hx, hb, hml, hown, hts⟩ (c_Ma_compute l D dA ad A hAd w P g ss M ((m_In_codeOf z) &&& (240 : Int32)) ((m_In_operandOf z).toInt32)) (cwV 2 hts (g_V wd_451 wd_453 wd_7 wd_34 wd_454) rfl rfl rfl (by decide +kernel) ⟨Nat.le_of_ble_eq_true rfl, Nat.le_of_ble_eq_true rfl⟩) ⟨CG_fb, (va_recv (ci := 4) (q := (R_Ma, F_Ma, 8)) (q0 := 11) hK hP rfl rfl), fun U hU hW => ⟨rfl, CG_at hP hK hN hU hW⟩⟩ rfl rfl hl.1 rfl (lv_room (Nat.le_of_ble_eq_true rfl)) d_Ma_perform_147 ⟨Nat.le_of_ble_eq_true rfl, Nat.le_of_ble_eq_true rfl⟩) hS (fun _ _ h => h) (fun _ h => h) (fun u3 t H locs ht hvm hu hB hz hk hS => ?_)
      subst hu
      obtain ⟨hP, -⟩ := hB
      rw [ht] at hP
      have hP : va_P D cls (wC ad dA w P g ss (m_Ma_compute M ((m_In_codeOf z) &&& (240 : Int32)) ((m_In_operandOf z).toInt32))) H := hP
      refine lv_goto (tgt := 194) hx hb d_Ma_perform_150 (by decide) ?_
      exact W.vret hx hb hr (fun t ht hW => ⟨⟨_, rfl, (by rw [m_Ma_perform, if_pos h1, if_neg h2, if_neg h3, if_neg h4, if_neg h5, if_pos h6]), CG_at hP hK hN ht hW⟩, hS.F ht⟩) hS.2.2 d_Ma_perform_194
    by_cases h7 : (m_In_codeOf z) &&& (7 : Int32) = (5 : Int32)
    · refine lv_tableIn (tgt := 153) (off := 116) hx hb d_Ma_perform_37 (by rw [h7]; decide) (by rw [h7]; decide) (by rw [h7] <;> rfl) (by decide) ?_
      refine lv_aload_n hx hb d_Ma_perform_153 rfl (lv_at hl 3 rfl) ?_
      refine lv_lload_n hx hb d_Ma_perform_154 rfl (lv_at hl 4 rfl) ?_
      refine lv_iload hx hb d_Ma_perform_155 (lv_at hl 2 rfl) ?_
      refine lv_iload hx hb d_Ma_perform_157 (lv_at hl 0 rfl) ?_
      refine va_callv (va_runV (As := [.long z, .int (m_In_codeOf z), .int ((m_In_operandOf z).toInt32)]) (rest := []) ⟨hx, hb, hml, hown, hts⟩ (c_Ma_jump l D dA ad A hAd w P g ss M z (m_In_codeOf z) ((m_In_operandOf z).toInt32)) (cwV 3 hts (g_V wd_464 wd_466 wd_10 wd_34 wd_467) rfl rfl rfl (by decide +kernel) ⟨Nat.le_of_ble_eq_true rfl, Nat.le_of_ble_eq_true rfl⟩) ⟨CG_fb, (va_recv (ci := 4) (q := (R_Ma, F_Ma, 8)) (q0 := 11) hK hP rfl rfl), fun U hU hW => ⟨rfl, CG_at hP hK hN hU hW⟩⟩ rfl rfl hl.1 rfl (lv_room (Nat.le_of_ble_eq_true rfl)) d_Ma_perform_159 ⟨Nat.le_of_ble_eq_true rfl, Nat.le_of_ble_eq_true rfl⟩) hS (fun _ _ h => h) (fun _ h => h) (fun u4 t H locs ht hvm hu hB hz hk hS => ?_)
      subst hu
      obtain ⟨hP, -⟩ := hB
      rw [ht] at hP
      have hP : va_P D cls (wC ad dA w P g ss (m_Ma_jump M z (m_In_codeOf z) ((m_In_operandOf z).toInt32))) H := hP
      refine lv_goto (tgt := 194) hx hb d_Ma_perform_162 (by decide) ?_
      exact W.vret hx hb hr (fun t ht hW => ⟨⟨_, rfl, (by rw [m_Ma_perform, if_pos h1, if_neg h2, if_neg h3, if_neg h4, if_neg h5, if_neg h6, if_pos h7]), CG_at hP hK hN ht hW⟩, hS.F ht⟩) hS.2.2 d_Ma_perform_194
    by_cases h8 : (m_In_codeOf z) &&& (7 : Int32) = (6 : Int32)
    · refine lv_tableIn (tgt := 165) (off := 128) hx hb d_Ma_perform_37 (by rw [h8]; decide) (by rw [h8]; decide) (by rw [h8] <;> rfl) (by decide) ?_
      refine lv_aload_n hx hb d_Ma_perform_165 rfl (lv_at hl 3 rfl) ?_
      refine lv_iload hx hb d_Ma_perform_166 (lv_at hl 2 rfl) ?_
      refine lv_bipush (v := 6) hx hb d_Ma_perform_168 (by decide) ?_
      refine lv_icmp_ne (tgt := 178) hx hb d_Ma_perform_170 (by decide) (fun h9 => ?_) (fun h9 => ?_)
      · refine lv_aload_n hx hb d_Ma_perform_178 rfl (lv_at hl 3 rfl) ?_
        refine va_get (D := D) (ci := 4) (v := .int M.2.2.2.1) (C := R_Ma) (T := F_Ma) (N := 8) hx hb hts in_Ma hown hK hP 11 rfl rfl 3 (by decide) (hts _ wd_186) (fun _ h9 => h9) rfl d_Ma_perform_179 ?_
        refine va_callv (va_runV (As := [.int M.2.2.2.1]) (rest := []) ⟨hx, hb, hml, hown, hts⟩ (c_Ma_end l D dA ad A hAd w P g ss M M.2.2.2.1) (cwV 1 hts (g_V wd_459 wd_461 wd_9 wd_34 wd_462) rfl rfl rfl (by decide +kernel) ⟨Nat.le_of_ble_eq_true rfl, Nat.le_of_ble_eq_true rfl⟩) ⟨CG_fb, (va_recv (ci := 4) (q := (R_Ma, F_Ma, 8)) (q0 := 11) hK hP rfl rfl), fun U hU hW => ⟨rfl, CG_at hP hK hN hU hW⟩⟩ rfl rfl hl.1 rfl (lv_room (Nat.le_of_ble_eq_true rfl)) d_Ma_perform_182 ⟨Nat.le_of_ble_eq_true rfl, Nat.le_of_ble_eq_true rfl⟩) hS (fun _ _ h => h) (fun _ h => h) (fun u5 t H locs ht hvm hu hB hz hk hS => ?_)
        subst hu
        obtain ⟨hP, -⟩ := hB
        rw [ht] at hP
        have hP : va_P D cls (wC ad dA w P g ss (m_Ma_end M M.2.2.2.1)) H := hP
        refine lv_goto (tgt := 194) hx hb d_Ma_perform_185 (by decide) ?_
        exact W.vret hx hb hr (fun t ht hW => ⟨⟨_, rfl, (by rw [m_Ma_perform, if_pos h1, if_neg h2, if_neg h3, if_neg h4, if_neg h5, if_neg h6, if_neg h7, if_pos h8, if_neg h9]), CG_at hP hK hN ht hW⟩, hS.F ht⟩) hS.2.2 d_Ma_perform_194
      refine lv_iload hx hb d_Ma_perform_173 (lv_at hl 1 rfl) ?_
      refine lv_goto (tgt := 182) hx hb d_Ma_perform_175 (by decide) ?_
      refine va_callv (va_runV (As := [.int ((m_In_operandOf z).toInt32)]) (rest := []) ⟨hx, hb, hml, hown, hts⟩ (c_Ma_end l D dA ad A hAd w P g ss M ((m_In_operandOf z).toInt32)) (cwV 1 hts (g_V wd_459 wd_461 wd_9 wd_34 wd_462) rfl rfl rfl (by decide +kernel) ⟨Nat.le_of_ble_eq_true rfl, Nat.le_of_ble_eq_true rfl⟩) ⟨CG_fb, (va_recv (ci := 4) (q := (R_Ma, F_Ma, 8)) (q0 := 11) hK hP rfl rfl), fun U hU hW => ⟨rfl, CG_at hP hK hN hU hW⟩⟩ rfl rfl hl.1 rfl (lv_room (Nat.le_of_ble_eq_true rfl)) d_Ma_perform_182 ⟨Nat.le_of_ble_eq_true rfl, Nat.le_of_ble_eq_true rfl⟩) hS (fun _ _ h => h) (fun _ h => h) (fun u6 t H locs ht hvm hu hB hz hk hS => ?_)
      subst hu
      obtain ⟨hP, -⟩ := hB
      rw [ht] at hP
      have hP : va_P D cls (wC ad dA w P g ss (m_Ma_end M ((m_In_operandOf z).toInt32))) H := hP
      refine lv_goto (tgt := 194) hx hb d_Ma_perform_185 (by decide) ?_
      exact W.vret hx hb hr (fun t ht hW => ⟨⟨_, rfl, (by rw [m_Ma_perform, if_pos h1, if_neg h2, if_neg h3, if_neg h4, if_neg h5, if_neg h6, if_neg h7, if_pos h8, if_pos h9]), CG_at hP hK hN ht hW⟩, hS.F ht⟩) hS.2.2 d_Ma_perform_194
    refine lv_tableOut (tgt := 188) hx hb d_Ma_perform_37 (by have z0 := lv_neT (a := 0) h2 (by decide); have z1 := lv_neT (a := 1) h3 (by decide); have z2 := lv_neT (a := 2) h4 (by decide); have z3 := lv_neT (a := 3) h5 (by decide); have z4 := lv_neT (a := 4) h6 (by decide); have z5 := lv_neT (a := 5) h7 (by decide); have z6 := lv_neT (a := 6) h8 (by decide); omega) (by decide) ?_
    refine lv_aload_n hx hb d_Ma_perform_188 rfl (lv_at hl 3 rfl) ?_
    refine lv_iload hx hb d_Ma_perform_189 (lv_at hl 2 rfl) ?_
    refine va_callv (va_runV (As := [.int (m_In_codeOf z)]) (rest := []) ⟨hx, hb, hml, hown, hts⟩ (c_Ma_copy l D dA ad A hAd w P g ss M (m_In_codeOf z)) (cwV 1 hts (g_V wd_474 wd_476 wd_12 wd_34 wd_477) rfl rfl rfl (by decide +kernel) ⟨Nat.le_of_ble_eq_true rfl, Nat.le_of_ble_eq_true rfl⟩) ⟨CG_fb, (va_recv (ci := 4) (q := (R_Ma, F_Ma, 8)) (q0 := 11) hK hP rfl rfl), fun U hU hW => ⟨rfl, CG_at hP hK hN hU hW⟩⟩ rfl rfl hl.1 rfl (lv_room (Nat.le_of_ble_eq_true rfl)) d_Ma_perform_191 ⟨Nat.le_of_ble_eq_true rfl, Nat.le_of_ble_eq_true rfl⟩) hS (fun _ _ h => h) (fun _ h => h) (fun u7 t H locs ht hvm hu hB hz hk hS => ?_)
    subst hu
    obtain ⟨hP, -⟩ := hB
    rw [ht] at hP
    have hP : va_P D cls (wC ad dA w P g ss (m_Ma_copy M (m_In_codeOf z))) H := hP
    exact W.vret hx hb hr (fun t ht hW => ⟨⟨_, rfl, (by rw [m_Ma_perform, if_pos h1, if_neg h2, if_neg h3, if_neg h4, if_neg h5, if_neg h6, if_neg h7, if_neg h8]), CG_at hP hK hN ht hW⟩, hS.F ht⟩) hS.2.2 d_Ma_perform_194
  refine lv_aload_n hx hb d_Ma_perform_21 rfl (lv_at hl 2 rfl) ?_
  refine va_get (D := D) (ci := 4) (v := .int M.2.2.2.2.1) (C := R_Ma) (T := F_Ma) (N := 8) hx hb hts in_Ma hown hK hP 11 rfl rfl 4 (by decide) (hts _ wd_187) (fun _ h9 => h9) rfl d_Ma_perform_22 ?_
  refine lv_goto (tgt := 30) hx hb d_Ma_perform_25 (by decide) ?_
  refine lv_istore hx hb d_Ma_perform_30 hl (by decide) rfl (fun ls hl => ?_)
  have hl : lv_has ls 7 [(6, .int M.2.2.2.2.1), (5, .int ((m_In_operandOf z).toInt32)), (4, .int (m_In_codeOf z)), (0, .ref (ad 11)), (1, .long z), (3, .ref (ad 1))] := hl
  refine lv_iload hx hb d_Ma_perform_32 (lv_at hl 2 rfl) ?_
  refine lv_bipush (v := 7) hx hb d_Ma_perform_34 (by decide) ?_
  refine lv_iand hx hb d_Ma_perform_36 ?_
  by_cases h10 : (m_In_codeOf z) &&& (7 : Int32) = (0 : Int32)
  · refine lv_tableIn (tgt := 80) (off := 43) hx hb d_Ma_perform_37 (by rw [h10]; decide) (by rw [h10]; decide) (by rw [h10] <;> rfl) (by decide) ?_
    refine lv_aload_n hx hb d_Ma_perform_80 rfl (lv_at hl 3 rfl) ?_
    refine lv_aload_n hx hb d_Ma_perform_81 rfl (lv_at hl 3 rfl) ?_
    refine lv_iload hx hb d_Ma_perform_82 (lv_at hl 2 rfl) ?_
    refine lv_iload hx hb d_Ma_perform_84 (lv_at hl 1 rfl) ?_
    refine lv_aload_n hx hb d_Ma_perform_86 rfl (lv_at hl 5 rfl) ?_
    refine vp_callSi (va_Run.run (va_runV (As := [.int (m_In_codeOf z), .int ((m_In_operandOf z).toInt32), .ref (ad 1)]) (rest := [.ref (ad 11)]) ⟨hx, hb, hml, hown, hts⟩ (c_Ma_load l D dA ad w P g ss M (m_In_codeOf z) ((m_In_operandOf z).toInt32) (okz_w hz (by first | exact Or.inl (by assumption) | exact Or.inr (by assumption))) (okz_c hz (by first | exact Or.inl (by assumption) | exact Or.inr (by assumption)))) (cwV 3 hts (g_V wd_443 wd_445 wd_5 wd_34 wd_446) rfl rfl rfl (by decide +kernel) ⟨Nat.le_of_ble_eq_true rfl, Nat.le_of_ble_eq_true rfl⟩) ⟨CG_fb, (va_recv (ci := 4) (q := (R_Ma, F_Ma, 8)) (q0 := 11) hK hP rfl rfl), fun U hU hW => ⟨rfl, CG_at hP hK hN hU hW⟩⟩ rfl rfl hl.1 rfl (lv_room (Nat.le_of_ble_eq_true rfl)) d_Ma_perform_87 ⟨Nat.le_of_ble_eq_true rfl, Nat.le_of_ble_eq_true rfl⟩)) (fun r5 e5 => ?_)
    subst e5
    refine va_put (D := D) (ci := 4) (v := .int (m_Ma_load w M (m_In_codeOf z) ((m_In_operandOf z).toInt32))) (ty := .int) (C := R_Ma) (T := F_Ma) (N := 8) hx hb hts in_Ma t_Ma k_Ma n_Ma hown hK hP (wC_D hAd) hS 11 rfl rfl 3 (by decide) (hts _ wd_186) (fun _ h9 => h9) rfl (by decide +kernel) rfl rfl (Nat.le_of_ble_eq_true rfl) d_Ma_perform_90 (fun H locs hP _ hS => ?_)
    have hP : va_P D cls (wC ad dA w P g ss (M.1, M.2.1, M.2.2.1, m_Ma_load w M (m_In_codeOf z) ((m_In_operandOf z).toInt32), M.2.2.2.2.1, M.2.2.2.2.2.1, M.2.2.2.2.2.2.1, M.2.2.2.2.2.2.2)) H := hP
    refine lv_goto (tgt := 194) hx hb d_Ma_perform_93 (by decide) ?_
    exact W.vret hx hb hr (fun t ht hW => ⟨⟨_, rfl, (by rw [m_Ma_perform, if_neg h1, if_pos h10]), CG_at hP hK hN ht hW⟩, hS.F ht⟩) hS.2.2 d_Ma_perform_194
  by_cases h11 : (m_In_codeOf z) &&& (7 : Int32) = (1 : Int32)
  · refine lv_tableIn (tgt := 96) (off := 59) hx hb d_Ma_perform_37 (by rw [h11]; decide) (by rw [h11]; decide) (by rw [h11] <;> rfl) (by decide) ?_
    refine lv_aload_n hx hb d_Ma_perform_96 rfl (lv_at hl 3 rfl) ?_
    refine lv_aload_n hx hb d_Ma_perform_97 rfl (lv_at hl 3 rfl) ?_
    refine lv_iload hx hb d_Ma_perform_98 (lv_at hl 2 rfl) ?_
    refine lv_iload hx hb d_Ma_perform_100 (lv_at hl 1 rfl) ?_
    refine lv_aload_n hx hb d_Ma_perform_102 rfl (lv_at hl 5 rfl) ?_
    refine vp_callSi (va_Run.run (va_runV (As := [.int (m_In_codeOf z), .int ((m_In_operandOf z).toInt32), .ref (ad 1)]) (rest := [.ref (ad 11)]) ⟨hx, hb, hml, hown, hts⟩ (c_Ma_load l D dA ad w P g ss M (m_In_codeOf z) ((m_In_operandOf z).toInt32) (okz_w hz (by first | exact Or.inl (by assumption) | exact Or.inr (by assumption))) (okz_c hz (by first | exact Or.inl (by assumption) | exact Or.inr (by assumption)))) (cwV 3 hts (g_V wd_443 wd_445 wd_5 wd_34 wd_446) rfl rfl rfl (by decide +kernel) ⟨Nat.le_of_ble_eq_true rfl, Nat.le_of_ble_eq_true rfl⟩) ⟨CG_fb, (va_recv (ci := 4) (q := (R_Ma, F_Ma, 8)) (q0 := 11) hK hP rfl rfl), fun U hU hW => ⟨rfl, CG_at hP hK hN hU hW⟩⟩ rfl rfl hl.1 rfl (lv_room (Nat.le_of_ble_eq_true rfl)) d_Ma_perform_103 ⟨Nat.le_of_ble_eq_true rfl, Nat.le_of_ble_eq_true rfl⟩)) (fun r6 e6 => ?_)
    subst e6
    refine va_put (D := D) (ci := 4) (v := .int (m_Ma_load w M (m_In_codeOf z) ((m_In_operandOf z).toInt32))) (ty := .int) (C := R_Ma) (T := F_Ma) (N := 8) hx hb hts in_Ma t_Ma k_Ma n_Ma hown hK hP (wC_D hAd) hS 11 rfl rfl 4 (by decide) (hts _ wd_187) (fun _ h9 => h9) rfl (by decide +kernel) rfl rfl (Nat.le_of_ble_eq_true rfl) d_Ma_perform_106 (fun H locs hP _ hS => ?_)
    have hP : va_P D cls (wC ad dA w P g ss (M.1, M.2.1, M.2.2.1, M.2.2.2.1, m_Ma_load w M (m_In_codeOf z) ((m_In_operandOf z).toInt32), M.2.2.2.2.2.1, M.2.2.2.2.2.2.1, M.2.2.2.2.2.2.2)) H := hP
    refine lv_goto (tgt := 194) hx hb d_Ma_perform_109 (by decide) ?_
    exact W.vret hx hb hr (fun t ht hW => ⟨⟨_, rfl, (by rw [m_Ma_perform, if_neg h1, if_neg h10, if_pos h11]), CG_at hP hK hN ht hW⟩, hS.F ht⟩) hS.2.2 d_Ma_perform_194
  by_cases h12 : (m_In_codeOf z) &&& (7 : Int32) = (2 : Int32)
  · refine lv_tableIn (tgt := 112) (off := 75) hx hb d_Ma_perform_37 (by rw [h12]; decide) (by rw [h12]; decide) (by rw [h12] <;> rfl) (by decide) ?_
    refine lv_aload_n hx hb d_Ma_perform_112 rfl (lv_at hl 3 rfl) ?_
    refine lv_iload hx hb d_Ma_perform_113 (lv_at hl 1 rfl) ?_
    refine lv_aload_n hx hb d_Ma_perform_115 rfl (lv_at hl 3 rfl) ?_
    refine va_get (D := D) (ci := 4) (v := .int M.2.2.2.1) (C := R_Ma) (T := F_Ma) (N := 8) hx hb hts in_Ma hown hK hP 11 rfl rfl 3 (by decide) (hts _ wd_186) (fun _ h9 => h9) rfl d_Ma_perform_116 ?_
    refine va_callv (va_runV (As := [.int ((m_In_operandOf z).toInt32), .int M.2.2.2.1]) (rest := []) ⟨hx, hb, hml, hown, hts⟩ (c_Ma_store l D dA ad A hAd w P g ss M ((m_In_operandOf z).toInt32) M.2.2.2.1 (okz_s hz (by first | exact Or.inl (by assumption) | exact Or.inr (by assumption)))) (cwV 2 hts (g_V wd_447 wd_449 wd_6 wd_34 wd_450) rfl rfl rfl (by decide +kernel) ⟨Nat.le_of_ble_eq_true rfl, Nat.le_of_ble_eq_true rfl⟩) ⟨CG_fb, (va_recv (ci := 4) (q := (R_Ma, F_Ma, 8)) (q0 := 11) hK hP rfl rfl), fun U hU hW => ⟨rfl, CG_at hP hK hN hU hW⟩⟩ rfl rfl hl.1 rfl (lv_room (Nat.le_of_ble_eq_true rfl)) d_Ma_perform_119 ⟨Nat.le_of_ble_eq_true rfl, Nat.le_of_ble_eq_true rfl⟩) hS (fun _ _ h => h) (fun _ h => h) (fun u8 t H locs ht hvm hu hB hz hk hS => ?_)
    subst hu
    obtain ⟨hP, -⟩ := hB
    rw [ht] at hP
    have hP : va_P D cls (wC ad dA w P g ss (m_Ma_store M ((m_In_operandOf z).toInt32) M.2.2.2.1)) H := hP
    refine lv_goto (tgt := 194) hx hb d_Ma_perform_122 (by decide) ?_
    exact W.vret hx hb hr (fun t ht hW => ⟨⟨_, rfl, (by rw [m_Ma_perform, if_neg h1, if_neg h10, if_neg h11, if_pos h12]), CG_at hP hK hN ht hW⟩, hS.F ht⟩) hS.2.2 d_Ma_perform_194
  by_cases h13 : (m_In_codeOf z) &&& (7 : Int32) = (3 : Int32)
  · refine lv_tableIn (tgt := 125) (off := 88) hx hb d_Ma_perform_37 (by rw [h13]; decide) (by rw [h13]; decide) (by rw [h13] <;> rfl) (by decide) ?_
    refine lv_aload_n hx hb d_Ma_perform_125 rfl (lv_at hl 3 rfl) ?_
    refine lv_iload hx hb d_Ma_perform_126 (lv_at hl 1 rfl) ?_
    refine lv_aload_n hx hb d_Ma_perform_128 rfl (lv_at hl 3 rfl) ?_
    refine va_get (D := D) (ci := 4) (v := .int M.2.2.2.2.1) (C := R_Ma) (T := F_Ma) (N := 8) hx hb hts in_Ma hown hK hP 11 rfl rfl 4 (by decide) (hts _ wd_187) (fun _ h9 => h9) rfl d_Ma_perform_129 ?_
    refine va_callv (va_runV (As := [.int ((m_In_operandOf z).toInt32), .int M.2.2.2.2.1]) (rest := []) ⟨hx, hb, hml, hown, hts⟩ (c_Ma_store l D dA ad A hAd w P g ss M ((m_In_operandOf z).toInt32) M.2.2.2.2.1 (okz_s hz (by first | exact Or.inl (by assumption) | exact Or.inr (by assumption)))) (cwV 2 hts (g_V wd_447 wd_449 wd_6 wd_34 wd_450) rfl rfl rfl (by decide +kernel) ⟨Nat.le_of_ble_eq_true rfl, Nat.le_of_ble_eq_true rfl⟩) ⟨CG_fb, (va_recv (ci := 4) (q := (R_Ma, F_Ma, 8)) (q0 := 11) hK hP rfl rfl), fun U hU hW => ⟨rfl, CG_at hP hK hN hU hW⟩⟩ rfl rfl hl.1 rfl (lv_room (Nat.le_of_ble_eq_true rfl)) d_Ma_perform_132 ⟨Nat.le_of_ble_eq_true rfl, Nat.le_of_ble_eq_true rfl⟩) hS (fun _ _ h => h) (fun _ h => h) (fun u9 t H locs ht hvm hu hB hz hk hS => ?_)
    subst hu
    obtain ⟨hP, -⟩ := hB
    rw [ht] at hP
    have hP : va_P D cls (wC ad dA w P g ss (m_Ma_store M ((m_In_operandOf z).toInt32) M.2.2.2.2.1)) H := hP
    refine lv_goto (tgt := 194) hx hb d_Ma_perform_135 (by decide) ?_
    exact W.vret hx hb hr (fun t ht hW => ⟨⟨_, rfl, (by rw [m_Ma_perform, if_neg h1, if_neg h10, if_neg h11, if_neg h12, if_pos h13]), CG_at hP hK hN ht hW⟩, hS.F ht⟩) hS.2.2 d_Ma_perform_194
  by_cases h14 : (m_In_codeOf z) &&& (7 : Int32) = (4 : Int32)
  · refine lv_tableIn (tgt := 138) (off := 101) hx hb d_Ma_perform_37 (by rw [h14]; decide) (by rw [h14]; decide) (by rw [h14] <;> rfl) (by decide) ?_
    refine lv_aload_n hx hb d_Ma_perform_138 rfl (lv_at hl 3 rfl) ?_
    refine lv_iload hx hb d_Ma_perform_139 (lv_at hl 2 rfl) ?_
    refine lv_sipush (v := 240) hx hb d_Ma_perform_141 (by decide) ?_
    refine lv_iand hx hb d_Ma_perform_144 ?_
    refine lv_iload hx hb d_Ma_perform_145 (lv_at hl 0 rfl) ?_
    refine va_callv (va_runV (As := [.int ((m_In_codeOf z) &&& (240 : Int32)), .int M.2.2.2.2.1]) (rest := []) ⟨hx, hb, hml, hown, hts⟩ (c_Ma_compute l D dA ad A hAd w P g ss M ((m_In_codeOf z) &&& (240 : Int32)) M.2.2.2.2.1) (cwV 2 hts (g_V wd_451 wd_453 wd_7 wd_34 wd_454) rfl rfl rfl (by decide +kernel) ⟨Nat.le_of_ble_eq_true rfl, Nat.le_of_ble_eq_true rfl⟩) ⟨CG_fb, (va_recv (ci := 4) (q := (R_Ma, F_Ma, 8)) (q0 := 11) hK hP rfl rfl), fun U hU hW => ⟨rfl, CG_at hP hK hN hU hW⟩⟩ rfl rfl hl.1 rfl (lv_room (Nat.le_of_ble_eq_true rfl)) d_Ma_perform_147 ⟨Nat.le_of_ble_eq_true rfl, Nat.le_of_ble_eq_true rfl⟩) hS (fun _ _ h => h) (fun _ h => h) (fun u10 t H locs ht hvm hu hB hz hk hS => ?_)
    subst hu
    obtain ⟨hP, -⟩ := hB
    rw [ht] at hP
    have hP : va_P D cls (wC ad dA w P g ss (m_Ma_compute M ((m_In_codeOf z) &&& (240 : Int32)) M.2.2.2.2.1)) H := hP
    refine lv_goto (tgt := 194) hx hb d_Ma_perform_150 (by decide) ?_
    exact W.vret hx hb hr (fun t ht hW => ⟨⟨_, rfl, (by rw [m_Ma_perform, if_neg h1, if_neg h10, if_neg h11, if_neg h12, if_neg h13, if_pos h14]), CG_at hP hK hN ht hW⟩, hS.F ht⟩) hS.2.2 d_Ma_perform_194
  by_cases h15 : (m_In_codeOf z) &&& (7 : Int32) = (5 : Int32)
  · refine lv_tableIn (tgt := 153) (off := 116) hx hb d_Ma_perform_37 (by rw [h15]; decide) (by rw [h15]; decide) (by rw [h15] <;> rfl) (by decide) ?_
    refine lv_aload_n hx hb d_Ma_perform_153 rfl (lv_at hl 3 rfl) ?_
    refine lv_lload_n hx hb d_Ma_perform_154 rfl (lv_at hl 4 rfl) ?_
    refine lv_iload hx hb d_Ma_perform_155 (lv_at hl 2 rfl) ?_
    refine lv_iload hx hb d_Ma_perform_157 (lv_at hl 0 rfl) ?_
    refine va_callv (va_runV (As := [.long z, .int (m_In_codeOf z), .int M.2.2.2.2.1]) (rest := []) ⟨hx, hb, hml, hown, hts⟩ (c_Ma_jump l D dA ad A hAd w P g ss M z (m_In_codeOf z) M.2.2.2.2.1) (cwV 3 hts (g_V wd_464 wd_466 wd_10 wd_34 wd_467) rfl rfl rfl (by decide +kernel) ⟨Nat.le_of_ble_eq_true rfl, Nat.le_of_ble_eq_true rfl⟩) ⟨CG_fb, (va_recv (ci := 4) (q := (R_Ma, F_Ma, 8)) (q0 := 11) hK hP rfl rfl), fun U hU hW => ⟨rfl, CG_at hP hK hN hU hW⟩⟩ rfl rfl hl.1 rfl (lv_room (Nat.le_of_ble_eq_true rfl)) d_Ma_perform_159 ⟨Nat.le_of_ble_eq_true rfl, Nat.le_of_ble_eq_true rfl⟩) hS (fun _ _ h => h) (fun _ h => h) (fun u11 t H locs ht hvm hu hB hz hk hS => ?_)
    subst hu
    obtain ⟨hP, -⟩ := hB
    rw [ht] at hP
    have hP : va_P D cls (wC ad dA w P g ss (m_Ma_jump M z (m_In_codeOf z) M.2.2.2.2.1)) H := hP
    refine lv_goto (tgt := 194) hx hb d_Ma_perform_162 (by decide) ?_
    exact W.vret hx hb hr (fun t ht hW => ⟨⟨_, rfl, (by rw [m_Ma_perform, if_neg h1, if_neg h10, if_neg h11, if_neg h12, if_neg h13, if_neg h14, if_pos h15]), CG_at hP hK hN ht hW⟩, hS.F ht⟩) hS.2.2 d_Ma_perform_194
  by_cases h16 : (m_In_codeOf z) &&& (7 : Int32) = (6 : Int32)
  · refine lv_tableIn (tgt := 165) (off := 128) hx hb d_Ma_perform_37 (by rw [h16]; decide) (by rw [h16]; decide) (by rw [h16] <;> rfl) (by decide) ?_
    refine lv_aload_n hx hb d_Ma_perform_165 rfl (lv_at hl 3 rfl) ?_
    refine lv_iload hx hb d_Ma_perform_166 (lv_at hl 2 rfl) ?_
    refine lv_bipush (v := 6) hx hb d_Ma_perform_168 (by decide) ?_
    refine lv_icmp_ne (tgt := 178) hx hb d_Ma_perform_170 (by decide) (fun h17 => ?_) (fun h17 => ?_)
    · refine lv_aload_n hx hb d_Ma_perform_178 rfl (lv_at hl 3 rfl) ?_
      refine va_get (D := D) (ci := 4) (v := .int M.2.2.2.1) (C := R_Ma) (T := F_Ma) (N := 8) hx hb hts in_Ma hown hK hP 11 rfl rfl 3 (by decide) (hts _ wd_186) (fun _ h9 => h9) rfl d_Ma_perform_179 ?_
      refine va_callv (va_runV (As := [.int M.2.2.2.1]) (rest := []) ⟨hx, hb, hml, hown, hts⟩ (c_Ma_end l D dA ad A hAd w P g ss M M.2.2.2.1) (cwV 1 hts (g_V wd_459 wd_461 wd_9 wd_34 wd_462) rfl rfl rfl (by decide +kernel) ⟨Nat.le_of_ble_eq_true rfl, Nat.le_of_ble_eq_true rfl⟩) ⟨CG_fb, (va_recv (ci := 4) (q := (R_Ma, F_Ma, 8)) (q0 := 11) hK hP rfl rfl), fun U hU hW => ⟨rfl, CG_at hP hK hN hU hW⟩⟩ rfl rfl hl.1 rfl (lv_room (Nat.le_of_ble_eq_true rfl)) d_Ma_perform_182 ⟨Nat.le_of_ble_eq_true rfl, Nat.le_of_ble_eq_true rfl⟩) hS (fun _ _ h => h) (fun _ h => h) (fun u12 t H locs ht hvm hu hB hz hk hS => ?_)
      subst hu
      obtain ⟨hP, -⟩ := hB
      rw [ht] at hP
      have hP : va_P D cls (wC ad dA w P g ss (m_Ma_end M M.2.2.2.1)) H := hP
      refine lv_goto (tgt := 194) hx hb d_Ma_perform_185 (by decide) ?_
      exact W.vret hx hb hr (fun t ht hW => ⟨⟨_, rfl, (by rw [m_Ma_perform, if_neg h1, if_neg h10, if_neg h11, if_neg h12, if_neg h13, if_neg h14, if_neg h15, if_pos h16, if_neg h17]), CG_at hP hK hN ht hW⟩, hS.F ht⟩) hS.2.2 d_Ma_perform_194
    refine lv_iload hx hb d_Ma_perform_173 (lv_at hl 1 rfl) ?_
    refine lv_goto (tgt := 182) hx hb d_Ma_perform_175 (by decide) ?_
    refine va_callv (va_runV (As := [.int ((m_In_operandOf z).toInt32)]) (rest := []) ⟨hx, hb, hml, hown, hts⟩ (c_Ma_end l D dA ad A hAd w P g ss M ((m_In_operandOf z).toInt32)) (cwV 1 hts (g_V wd_459 wd_461 wd_9 wd_34 wd_462) rfl rfl rfl (by decide +kernel) ⟨Nat.le_of_ble_eq_true rfl, Nat.le_of_ble_eq_true rfl⟩) ⟨CG_fb, (va_recv (ci := 4) (q := (R_Ma, F_Ma, 8)) (q0 := 11) hK hP rfl rfl), fun U hU hW => ⟨rfl, CG_at hP hK hN hU hW⟩⟩ rfl rfl hl.1 rfl (lv_room (Nat.le_of_ble_eq_true rfl)) d_Ma_perform_182 ⟨Nat.le_of_ble_eq_true rfl, Nat.le_of_ble_eq_true rfl⟩) hS (fun _ _ h => h) (fun _ h => h) (fun u13 t H locs ht hvm hu hB hz hk hS => ?_)
    subst hu
    obtain ⟨hP, -⟩ := hB
    rw [ht] at hP
    have hP : va_P D cls (wC ad dA w P g ss (m_Ma_end M ((m_In_operandOf z).toInt32))) H := hP
    refine lv_goto (tgt := 194) hx hb d_Ma_perform_185 (by decide) ?_
    exact W.vret hx hb hr (fun t ht hW => ⟨⟨_, rfl, (by rw [m_Ma_perform, if_neg h1, if_neg h10, if_neg h11, if_neg h12, if_neg h13, if_neg h14, if_neg h15, if_pos h16, if_pos h17]), CG_at hP hK hN ht hW⟩, hS.F ht⟩) hS.2.2 d_Ma_perform_194
  refine lv_tableOut (tgt := 188) hx hb d_Ma_perform_37 (by have z0 := lv_neT (a := 0) h10 (by decide); have z1 := lv_neT (a := 1) h11 (by decide); have z2 := lv_neT (a := 2) h12 (by decide); have z3 := lv_neT (a := 3) h13 (by decide); have z4 := lv_neT (a := 4) h14 (by decide); have z5 := lv_neT (a := 5) h15 (by decide); have z6 := lv_neT (a := 6) h16 (by decide); omega) (by decide) ?_
  refine lv_aload_n hx hb d_Ma_perform_188 rfl (lv_at hl 3 rfl) ?_
  refine lv_iload hx hb d_Ma_perform_189 (lv_at hl 2 rfl) ?_
  refine va_callv (va_runV (As := [.int (m_In_codeOf z)]) (rest := []) ⟨hx, hb, hml, hown, hts⟩ (c_Ma_copy l D dA ad A hAd w P g ss M (m_In_codeOf z)) (cwV 1 hts (g_V wd_474 wd_476 wd_12 wd_34 wd_477) rfl rfl rfl (by decide +kernel) ⟨Nat.le_of_ble_eq_true rfl, Nat.le_of_ble_eq_true rfl⟩) ⟨CG_fb, (va_recv (ci := 4) (q := (R_Ma, F_Ma, 8)) (q0 := 11) hK hP rfl rfl), fun U hU hW => ⟨rfl, CG_at hP hK hN hU hW⟩⟩ rfl rfl hl.1 rfl (lv_room (Nat.le_of_ble_eq_true rfl)) d_Ma_perform_191 ⟨Nat.le_of_ble_eq_true rfl, Nat.le_of_ble_eq_true rfl⟩) hS (fun _ _ h => h) (fun _ h => h) (fun u14 t H locs ht hvm hu hB hz hk hS => ?_)
  subst hu
  obtain ⟨hP, -⟩ := hB
  rw [ht] at hP
  have hP : va_P D cls (wC ad dA w P g ss (m_Ma_copy M (m_In_codeOf z))) H := hP
  exact W.vret hx hb hr (fun t ht hW => ⟨⟨_, rfl, (by rw [m_Ma_perform, if_neg h1, if_neg h10, if_neg h11, if_neg h12, if_neg h13, if_neg h14, if_neg h15, if_neg h16]), CG_at hP hK hN ht hW⟩, hS.F ht⟩) hS.2.2 d_Ma_perform_194
def m_F_scratch (M : MT) (i : Int32) : Int64 := if i < (0 : Int32) then (-1 : Int64) else if (16 : Int32) ≤ i then (-1 : Int64) else if (m_Ma_hasStored M i) = (0 : Int32) then (-1 : Int64) else m_F_unsigned (M.1 i.toNatClampNeg)
set_option maxHeartbeats 4000000 in
set_option maxRecDepth 100000 in
theorem c_F_scratch (l : Launch) (D : va_G) (dA : Nat → ClassId) (ad : Nat → Nat) (w : Nat → Int32) (P : PT) (g : GT) (ss : Nat → Int32) (M : MT) (i : Int32) : Met l y_F_scratch (mW y_F_scratch b_F_scratch 2 (some .long)) { frames := 1, cells := 0, slots := 0, locals := 21 } (va_Pc [.ref (ad 0), .int i] (fun U => CG D dA ad w P g ss M U)) (vp_Sl (fun r => r = m_F_scratch M i)) 0 0 (fun _ => False) := by
  refine Met.ofW (cc := b_F_scratch) (maxL := 2) (ret := (some .long)) (by decide) rfl ?_
  intro p e s m args below meth c s₁ B hml hv
  obtain ⟨rfl, hP, hK, hN⟩ := hv
  have hx := B.exec
  have hb := B.bytes
  have hr := B.returns
  have hlocks := B.notSynchronized
  have hts := fun (w : Cond) (h : w ∈ lw_g) => atoms_spec (ws := mW y_F_scratch b_F_scratch 2 (some .long)) B.pre w (List.mem_cons_of_mem _ h)
  have hown : s.vm.findClass R_F = some m.cls := findClass_of_methodNamed B.named
  have hl := lv_entry ([.ref (ad 0), .int i]) (n := 2) (Nat.le_of_ble_eq_true rfl)
  rw [lg_entry_eq]
  generalize (lg_sl ([.ref (ad 0), .int i]) ++ List.replicate (2 - (lg_sl ([.ref (ad 0), .int i])).length) Slot.unset).toArray = ls at hl ⊢
  have hl : lv_has ls 2 [(0, .ref (ad 0)), (1, .int i)] := hl
  refine lv_iload_n hx hb d_F_scratch_0 rfl (lv_at hl 1 rfl) ?_
  refine lv_if_lt (tgt := 21) hx hb d_F_scratch_1 (by decide) (fun h1 => ?_) (fun h1 => ?_)
  · refine lv_ldc2 (v := -1) hx hb hown (hts _ wd_427) d_F_scratch_21 ?_
    exact W.lret hx hb hr (fun t ht hW => ⟨_, rfl, (by rw [m_F_scratch, if_pos h1]), ht⟩) (fun _ h => by cases h) d_F_scratch_24
  refine lv_iload_n hx hb d_F_scratch_4 rfl (lv_at hl 1 rfl) ?_
  refine lv_bipush (v := 16) hx hb d_F_scratch_5 (by decide) ?_
  refine lv_icmp_ge (tgt := 21) hx hb d_F_scratch_7 (by decide) (fun h2 => ?_) (fun h2 => ?_)
  · refine lv_ldc2 (v := -1) hx hb hown (hts _ wd_427) d_F_scratch_21 ?_
    exact W.lret hx hb hr (fun t ht hW => ⟨_, rfl, (by rw [m_F_scratch, if_neg h1, if_pos h2]), ht⟩) (fun _ h => by cases h) d_F_scratch_24
  refine lv_aload_n hx hb d_F_scratch_10 rfl (lv_at hl 0 rfl) ?_
  refine va_get (D := D) (ci := 8) (v := .ref (ad 11)) (C := R_F) (T := F_F) (N := 5) hx hb hts in_F hown hK hP 0 rfl rfl 4 (by decide) (hts _ wd_212) (fun _ h9 => h9) rfl d_F_scratch_11 ?_
  refine lv_iload_n hx hb d_F_scratch_14 rfl (lv_at hl 1 rfl) ?_
  refine vp_callSi (va_Run.run (va_runV (As := [.int i]) (rest := []) ⟨hx, hb, hml, hown, hts⟩ (c_Ma_hasStored l D dA ad w P g ss M i) (cwV 1 hts (g_V wd_486 wd_487 wd_488 wd_34 wd_489) rfl rfl rfl (by decide +kernel) ⟨Nat.le_of_ble_eq_true rfl, Nat.le_of_ble_eq_true rfl⟩) ⟨CG_fb, (va_recv (ci := 4) (q := (R_Ma, F_Ma, 8)) (q0 := 11) hK hP rfl rfl), fun U hU hW => ⟨rfl, CG_at hP hK hN hU hW⟩⟩ rfl rfl hl.1 rfl (lv_room (Nat.le_of_ble_eq_true rfl)) d_F_scratch_15 ⟨Nat.le_of_ble_eq_true rfl, Nat.le_of_ble_eq_true rfl⟩)) (fun r1 e1 => ?_)
  subst e1
  refine lv_if_ne (tgt := 25) hx hb d_F_scratch_18 (by decide) (fun h3 => ?_) (fun h3 => ?_)
  · refine lv_aload_n hx hb d_F_scratch_25 rfl (lv_at hl 0 rfl) ?_
    refine va_get (D := D) (ci := 8) (v := .ref (ad 11)) (C := R_F) (T := F_F) (N := 5) hx hb hts in_F hown hK hP 0 rfl rfl 4 (by decide) (hts _ wd_212) (fun _ h9 => h9) rfl d_F_scratch_26 ?_
    refine va_get (D := D) (ci := 4) (v := .ref (ad 12)) (C := R_Ma) (T := F_Ma) (N := 8) hx hb hts in_Ma hown hK hP 11 rfl rfl 0 (by decide) (hts _ wd_182) (fun _ h9 => h9) rfl d_F_scratch_29 ?_
    refine lv_iload_n hx hb d_F_scratch_32 rfl (lv_at hl 1 rfl) ?_
    refine va_iald (n := 16) (f := M.1) hx hb hK hP 12 0 rfl rfl (ix_of (by assumption) (by assumption)) d_F_scratch_33 ?_
    refine vp_callSl (va_Run.run (va_runS (As := [.int (M.1 i.toNatClampNeg)]) (rest := []) ⟨hx, hb, hml, hown, hts⟩ (c_F_unsigned l (M.1 i.toNatClampNeg)) (va_cwS 1 hts (g_S wd_490 wd_301 wd_26 wd_302) rfl rfl rfl (by decide +kernel) ⟨Nat.le_of_ble_eq_true rfl, Nat.le_of_ble_eq_true rfl⟩) ⟨fun _ _ _ _ q => q, fun _ _ _ => ⟨rfl, trivial⟩⟩ rfl rfl hl.1 rfl (lv_room (Nat.le_of_ble_eq_true rfl)) d_F_scratch_34 ⟨Nat.le_of_ble_eq_true rfl, Nat.le_of_ble_eq_true rfl⟩)) (fun r2 e2 => ?_)
    subst e2
    exact W.lret hx hb hr (fun t ht hW => ⟨_, rfl, (by rw [m_F_scratch, if_neg h1, if_neg h2, if_neg h3]), ht⟩) (fun _ h => by cases h) d_F_scratch_37
  refine lv_ldc2 (v := -1) hx hb hown (hts _ wd_427) d_F_scratch_21 ?_
  exact W.lret hx hb hr (fun t ht hW => ⟨_, rfl, (by rw [m_F_scratch, if_neg h1, if_neg h2, if_pos h3]), ht⟩) (fun _ h => by cases h) d_F_scratch_24
