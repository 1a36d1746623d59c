theorem wd_26 : Cond.initialized R_F ∈ lw_g := wd_in (i := 26) (by decide +kernel) (by decide +kernel)
theorem wd_27 : Cond.initialized R_Ca ∈ lw_g := wd_in (i := 27) (by decide +kernel) (by decide +kernel)
theorem wd_52 : Cond.fieldLink R_Ca 9 R_Ca "words" "[I" ∈ lw_g := wd_in (i := 52) (by decide +kernel) (by decide +kernel)
theorem wd_53 : Cond.fieldLink R_F 46 R_Ca "words" "[I" ∈ lw_g := wd_in (i := 53) (by decide +kernel) (by decide +kernel)
theorem wd_133 : Cond.fieldLink R_F 65 R_Po "count" "I" ∈ lw_g := wd_in (i := 133) (by decide +kernel) (by decide +kernel)
theorem wd_155 : Cond.fieldLink R_F 112 R_Pr "instructions" "[J" ∈ lw_g := wd_in (i := 155) (by decide +kernel) (by decide +kernel)
theorem wd_158 : Cond.fieldLink R_F 111 R_Pr "count" "I" ∈ lw_g := wd_in (i := 158) (by decide +kernel) (by decide +kernel)
theorem wd_184 : Cond.fieldLink R_F 129 R_Ma "done" "I" ∈ lw_g := wd_in (i := 184) (by decide +kernel) (by decide +kernel)
theorem wd_208 : Cond.fieldLink R_F 10 R_F "call" "LCallFilter$Call;" ∈ lw_g := wd_in (i := 208) (by decide +kernel) (by decide +kernel)
theorem wd_209 : Cond.fieldLink R_F 21 R_F "policy" "LCallFilter$Policy;" ∈ lw_g := wd_in (i := 209) (by decide +kernel) (by decide +kernel)
theorem wd_210 : Cond.fieldLink R_F 28 R_F "program" "LCallFilter$Program;" ∈ lw_g := wd_in (i := 210) (by decide +kernel) (by decide +kernel)
theorem wd_212 : Cond.fieldLink R_F 42 R_F "machine" "LCallFilter$Machine;" ∈ lw_g := wd_in (i := 212) (by decide +kernel) (by decide +kernel)
theorem wd_232 : Cond.methodLink R_F 50 y_Ca_hasArgument ∈ lw_g := wd_in (i := 232) (by decide +kernel) (by decide +kernel)
theorem wd_233 : Cond.static y_Ca_hasArgument ∈ lw_g := wd_in (i := 233) (by decide +kernel) (by decide +kernel)
theorem wd_234 : Cond.code y_Ca_hasArgument prog_3_method_2_code 1 (Option.some Jvm.ClassFile.FieldType.boolean) ∈ lw_g := wd_in (i := 234) (by decide +kernel) (by decide +kernel)
theorem wd_235 : Cond.methodLink R_F 54 y_Ca_setArgument ∈ lw_g := wd_in (i := 235) (by decide +kernel) (by decide +kernel)
theorem wd_236 : Cond.instanceMethod y_Ca_setArgument ∈ lw_g := wd_in (i := 236) (by decide +kernel) (by decide +kernel)
theorem wd_237 : Cond.selects R_Ca y_Ca_setArgument y_Ca_setArgument ∈ lw_g := wd_in (i := 237) (by decide +kernel) (by decide +kernel)
theorem wd_238 : Cond.code y_Ca_setArgument prog_3_method_3_code 5 (Option.none : Option Jvm.ClassFile.FieldType) ∈ lw_g := wd_in (i := 238) (by decide +kernel) (by decide +kernel)
theorem wd_296 : Cond.methodLink R_Ca 19 y_Ca_number ∈ lw_g := wd_in (i := 296) (by decide +kernel) (by decide +kernel)
theorem wd_297 : Cond.instanceMethod y_Ca_number ∈ lw_g := wd_in (i := 297) (by decide +kernel) (by decide +kernel)
theorem wd_298 : Cond.selects R_Ca y_Ca_number y_Ca_number ∈ lw_g := wd_in (i := 298) (by decide +kernel) (by decide +kernel)
theorem wd_299 : Cond.code y_Ca_number prog_3_method_5_code 1 (Option.some Jvm.ClassFile.FieldType.int) ∈ lw_g := wd_in (i := 299) (by decide +kernel) (by decide +kernel)
theorem wd_301 : Cond.static y_F_unsigned ∈ lw_g := wd_in (i := 301) (by decide +kernel) (by decide +kernel)
theorem wd_302 : Cond.code y_F_unsigned prog_1_method_17_code 1 (Option.some Jvm.ClassFile.FieldType.long) ∈ lw_g := wd_in (i := 302) (by decide +kernel) (by decide +kernel)
theorem wd_304 : Cond.constantLong R_Ca 23 1073741824 ∈ lw_g := wd_in (i := 304) (by decide +kernel) (by decide +kernel)
theorem d_Ca_setArgument_0 : decode b_Ca_setArgument 0 = .ok (.iconst 4, 1) := by decide +kernel
theorem d_Ca_setArgument_1 : decode b_Ca_setArgument 1 = .ok (.iconst 2, 1) := by decide +kernel
theorem d_Ca_setArgument_2 : decode b_Ca_setArgument 2 = .ok (.iload_n 1, 1) := by decide +kernel
theorem d_Ca_setArgument_3 : decode b_Ca_setArgument 3 = .ok (.imul, 1) := by decide +kernel
theorem d_Ca_setArgument_4 : decode b_Ca_setArgument 4 = .ok (.iadd, 1) := by decide +kernel
theorem d_Ca_setArgument_5 : decode b_Ca_setArgument 5 = .ok (.istore 4, 2) := by decide +kernel
theorem d_Ca_setArgument_7 : decode b_Ca_setArgument 7 = .ok (.aload_n 0, 1) := by decide +kernel
theorem d_Ca_setArgument_8 : decode b_Ca_setArgument 8 = .ok (.getfield 9, 3) := by decide +kernel
theorem d_Ca_setArgument_11 : decode b_Ca_setArgument 11 = .ok (.iload 4, 2) := by decide +kernel
theorem d_Ca_setArgument_13 : decode b_Ca_setArgument 13 = .ok (.lload_n 2, 1) := by decide +kernel
theorem d_Ca_setArgument_14 : decode b_Ca_setArgument 14 = .ok (.l2i, 1) := by decide +kernel
theorem d_Ca_setArgument_15 : decode b_Ca_setArgument 15 = .ok (.iastore, 1) := by decide +kernel
theorem d_Ca_setArgument_16 : decode b_Ca_setArgument 16 = .ok (.aload_n 0, 1) := by decide +kernel
theorem d_Ca_setArgument_17 : decode b_Ca_setArgument 17 = .ok (.getfield 9, 3) := by decide +kernel
theorem d_Ca_setArgument_20 : decode b_Ca_setArgument 20 = .ok (.iload 4, 2) := by decide +kernel
theorem d_Ca_setArgument_22 : decode b_Ca_setArgument 22 = .ok (.iconst 1, 1) := by decide +kernel
theorem d_Ca_setArgument_23 : decode b_Ca_setArgument 23 = .ok (.iadd, 1) := by decide +kernel
theorem d_Ca_setArgument_24 : decode b_Ca_setArgument 24 = .ok (.lload_n 2, 1) := by decide +kernel
theorem d_Ca_setArgument_25 : decode b_Ca_setArgument 25 = .ok (.bipush 32, 2) := by decide +kernel
theorem d_Ca_setArgument_27 : decode b_Ca_setArgument 27 = .ok (.lushr, 1) := by decide +kernel
theorem d_Ca_setArgument_28 : decode b_Ca_setArgument 28 = .ok (.l2i, 1) := by decide +kernel
theorem d_Ca_setArgument_29 : decode b_Ca_setArgument 29 = .ok (.iastore, 1) := by decide +kernel
theorem d_Ca_setArgument_30 : decode b_Ca_setArgument 30 = .ok (.return_, 1) := by decide +kernel
theorem d_Ca_getArgument_0 : decode b_Ca_getArgument 0 = .ok (.iconst 4, 1) := by decide +kernel
theorem d_Ca_getArgument_1 : decode b_Ca_getArgument 1 = .ok (.iconst 2, 1) := by decide +kernel
theorem d_Ca_getArgument_2 : decode b_Ca_getArgument 2 = .ok (.iload_n 1, 1) := by decide +kernel
theorem d_Ca_getArgument_3 : decode b_Ca_getArgument 3 = .ok (.imul, 1) := by decide +kernel
theorem d_Ca_getArgument_4 : decode b_Ca_getArgument 4 = .ok (.iadd, 1) := by decide +kernel
theorem d_Ca_getArgument_5 : decode b_Ca_getArgument 5 = .ok (.istore_n 2, 1) := by decide +kernel
theorem d_Ca_getArgument_6 : decode b_Ca_getArgument 6 = .ok (.aload_n 0, 1) := by decide +kernel
theorem d_Ca_getArgument_7 : decode b_Ca_getArgument 7 = .ok (.getfield 9, 3) := by decide +kernel
theorem d_Ca_getArgument_10 : decode b_Ca_getArgument 10 = .ok (.iload_n 2, 1) := by decide +kernel
theorem d_Ca_getArgument_11 : decode b_Ca_getArgument 11 = .ok (.iaload, 1) := by decide +kernel
theorem d_Ca_getArgument_12 : decode b_Ca_getArgument 12 = .ok (.invokestatic 13, 3) := by decide +kernel
theorem d_Ca_getArgument_15 : decode b_Ca_getArgument 15 = .ok (.aload_n 0, 1) := by decide +kernel
theorem d_Ca_getArgument_16 : decode b_Ca_getArgument 16 = .ok (.getfield 9, 3) := by decide +kernel
theorem d_Ca_getArgument_19 : decode b_Ca_getArgument 19 = .ok (.iload_n 2, 1) := by decide +kernel
theorem d_Ca_getArgument_20 : decode b_Ca_getArgument 20 = .ok (.iconst 1, 1) := by decide +kernel
theorem d_Ca_getArgument_21 : decode b_Ca_getArgument 21 = .ok (.iadd, 1) := by decide +kernel
theorem d_Ca_getArgument_22 : decode b_Ca_getArgument 22 = .ok (.iaload, 1) := by decide +kernel
theorem d_Ca_getArgument_23 : decode b_Ca_getArgument 23 = .ok (.invokestatic 13, 3) := by decide +kernel
theorem d_Ca_getArgument_26 : decode b_Ca_getArgument 26 = .ok (.bipush 32, 2) := by decide +kernel
theorem d_Ca_getArgument_28 : decode b_Ca_getArgument 28 = .ok (.lshl, 1) := by decide +kernel
theorem d_Ca_getArgument_29 : decode b_Ca_getArgument 29 = .ok (.lor, 1) := by decide +kernel
theorem d_Ca_getArgument_30 : decode b_Ca_getArgument 30 = .ok (.lreturn, 1) := by decide +kernel
theorem d_Ca_number_0 : decode b_Ca_number 0 = .ok (.aload_n 0, 1) := by decide +kernel
theorem d_Ca_number_1 : decode b_Ca_number 1 = .ok (.getfield 9, 3) := by decide +kernel
theorem d_Ca_number_4 : decode b_Ca_number 4 = .ok (.iconst 0, 1) := by decide +kernel
theorem d_Ca_number_5 : decode b_Ca_number 5 = .ok (.iaload, 1) := by decide +kernel
theorem d_Ca_number_6 : decode b_Ca_number 6 = .ok (.ireturn, 1) := by decide +kernel
theorem d_Ca_isForeignTo_0 : decode b_Ca_isForeignTo 0 = .ok (.aload_n 0, 1) := by decide +kernel
theorem d_Ca_isForeignTo_1 : decode b_Ca_isForeignTo 1 = .ok (.getfield 9, 3) := by decide +kernel
theorem d_Ca_isForeignTo_4 : decode b_Ca_isForeignTo 4 = .ok (.iconst 1, 1) := by decide +kernel
theorem d_Ca_isForeignTo_5 : decode b_Ca_isForeignTo 5 = .ok (.iaload, 1) := by decide +kernel
theorem d_Ca_isForeignTo_6 : decode b_Ca_isForeignTo 6 = .ok (.iload_n 1, 1) := by decide +kernel
theorem d_Ca_isForeignTo_7 : decode b_Ca_isForeignTo 7 = .ok (.if_icmp .ne 17, 3) := by decide +kernel
theorem d_Ca_isForeignTo_10 : decode b_Ca_isForeignTo 10 = .ok (.aload_n 0, 1) := by decide +kernel
theorem d_Ca_isForeignTo_11 : decode b_Ca_isForeignTo 11 = .ok (.invokevirtual 19, 3) := by decide +kernel
theorem d_Ca_isForeignTo_14 : decode b_Ca_isForeignTo 14 = .ok (.invokestatic 13, 3) := by decide +kernel
theorem d_Ca_isForeignTo_17 : decode b_Ca_isForeignTo 17 = .ok (.ldc2_w 23, 3) := by decide +kernel
theorem d_Ca_isForeignTo_20 : decode b_Ca_isForeignTo 20 = .ok (.lcmp, 1) := by decide +kernel
theorem d_Ca_isForeignTo_21 : decode b_Ca_isForeignTo 21 = .ok (.ifCond .lt 7, 3) := by decide +kernel
theorem d_Ca_isForeignTo_24 : decode b_Ca_isForeignTo 24 = .ok (.iconst 1, 1) := by decide +kernel
theorem d_Ca_isForeignTo_25 : decode b_Ca_isForeignTo 25 = .ok (.goto 4, 3) := by decide +kernel
theorem d_Ca_isForeignTo_28 : decode b_Ca_isForeignTo 28 = .ok (.iconst 0, 1) := by decide +kernel
theorem d_Ca_isForeignTo_29 : decode b_Ca_isForeignTo 29 = .ok (.ireturn, 1) := by decide +kernel
theorem d_F_word_0 : decode b_F_word 0 = .ok (.iload_n 1, 1) := by decide +kernel
theorem d_F_word_1 : decode b_F_word 1 = .ok (.ifCond .lt 9, 3) := by decide +kernel
theorem d_F_word_4 : decode b_F_word 4 = .ok (.iload_n 1, 1) := by decide +kernel
theorem d_F_word_5 : decode b_F_word 5 = .ok (.bipush 16, 2) := by decide +kernel
theorem d_F_word_7 : decode b_F_word 7 = .ok (.if_icmp .lt 5, 3) := by decide +kernel
theorem d_F_word_10 : decode b_F_word 10 = .ok (.iconst 0, 1) := by decide +kernel
theorem d_F_word_11 : decode b_F_word 11 = .ok (.ireturn, 1) := by decide +kernel
theorem d_F_word_12 : decode b_F_word 12 = .ok (.aload_n 0, 1) := by decide +kernel
theorem d_F_word_13 : decode b_F_word 13 = .ok (.getfield 10, 3) := by decide +kernel
theorem d_F_word_16 : decode b_F_word 16 = .ok (.getfield 46, 3) := by decide +kernel
theorem d_F_word_19 : decode b_F_word 19 = .ok (.iload_n 1, 1) := by decide +kernel
theorem d_F_word_20 : decode b_F_word 20 = .ok (.iload_n 2, 1) := by decide +kernel
theorem d_F_word_21 : decode b_F_word 21 = .ok (.iastore, 1) := by decide +kernel
theorem d_F_word_22 : decode b_F_word 22 = .ok (.iconst 1, 1) := by decide +kernel
theorem d_F_word_23 : decode b_F_word 23 = .ok (.ireturn, 1) := by decide +kernel
theorem d_F_argument_0 : decode b_F_argument 0 = .ok (.iload_n 1, 1) := by decide +kernel
theorem d_F_argument_1 : decode b_F_argument 1 = .ok (.invokestatic 50, 3) := by decide +kernel
theorem d_F_argument_4 : decode b_F_argument 4 = .ok (.ifCond .ne 5, 3) := by decide +kernel
theorem d_F_argument_7 : decode b_F_argument 7 = .ok (.iconst 0, 1) := by decide +kernel
theorem d_F_argument_8 : decode b_F_argument 8 = .ok (.ireturn, 1) := by decide +kernel
theorem d_F_argument_9 : decode b_F_argument 9 = .ok (.aload_n 0, 1) := by decide +kernel
theorem d_F_argument_10 : decode b_F_argument 10 = .ok (.getfield 10, 3) := by decide +kernel
theorem d_F_argument_13 : decode b_F_argument 13 = .ok (.iload_n 1, 1) := by decide +kernel
theorem d_F_argument_14 : decode b_F_argument 14 = .ok (.lload_n 2, 1) := by decide +kernel
theorem d_F_argument_15 : decode b_F_argument 15 = .ok (.invokevirtual 54, 3) := by decide +kernel
theorem d_F_argument_18 : decode b_F_argument 18 = .ok (.iconst 1, 1) := by decide +kernel
theorem d_F_argument_19 : decode b_F_argument 19 = .ok (.ireturn, 1) := by decide +kernel
theorem d_F_length_0 : decode b_F_length 0 = .ok (.aload_n 0, 1) := by decide +kernel
theorem d_F_length_1 : decode b_F_length 1 = .ok (.getfield 28, 3) := by decide +kernel
theorem d_F_length_4 : decode b_F_length 4 = .ok (.getfield 111, 3) := by decide +kernel
theorem d_F_length_7 : decode b_F_length 7 = .ok (.ireturn, 1) := by decide +kernel
theorem d_F_steps_0 : decode b_F_steps 0 = .ok (.aload_n 0, 1) := by decide +kernel
theorem d_F_steps_1 : decode b_F_steps 1 = .ok (.getfield 42, 3) := by decide +kernel
theorem d_F_steps_4 : decode b_F_steps 4 = .ok (.getfield 129, 3) := by decide +kernel
theorem d_F_steps_7 : decode b_F_steps 7 = .ok (.ireturn, 1) := by decide +kernel
theorem d_F_put_0 : decode b_F_put 0 = .ok (.aload_n 0, 1) := by decide +kernel
theorem d_F_put_1 : decode b_F_put 1 = .ok (.getfield 28, 3) := by decide +kernel
theorem d_F_put_4 : decode b_F_put 4 = .ok (.getfield 111, 3) := by decide +kernel
theorem d_F_put_7 : decode b_F_put 7 = .ok (.bipush 64, 2) := by decide +kernel
theorem d_F_put_9 : decode b_F_put 9 = .ok (.if_icmp .lt 5, 3) := by decide +kernel
theorem d_F_put_12 : decode b_F_put 12 = .ok (.iconst 0, 1) := by decide +kernel
theorem d_F_put_13 : decode b_F_put 13 = .ok (.ireturn, 1) := by decide +kernel
theorem d_F_put_14 : decode b_F_put 14 = .ok (.aload_n 0, 1) := by decide +kernel
theorem d_F_put_15 : decode b_F_put 15 = .ok (.getfield 28, 3) := by decide +kernel
theorem d_F_put_18 : decode b_F_put 18 = .ok (.getfield 112, 3) := by decide +kernel
theorem d_F_put_21 : decode b_F_put 21 = .ok (.aload_n 0, 1) := by decide +kernel
theorem d_F_put_22 : decode b_F_put 22 = .ok (.getfield 28, 3) := by decide +kernel
theorem d_F_put_25 : decode b_F_put 25 = .ok (.getfield 111, 3) := by decide +kernel
theorem d_F_put_28 : decode b_F_put 28 = .ok (.lload_n 1, 1) := by decide +kernel
theorem d_F_put_29 : decode b_F_put 29 = .ok (.lastore, 1) := by decide +kernel
theorem d_F_put_30 : decode b_F_put 30 = .ok (.aload_n 0, 1) := by decide +kernel
theorem d_F_put_31 : decode b_F_put 31 = .ok (.getfield 28, 3) := by decide +kernel
theorem d_F_put_34 : decode b_F_put 34 = .ok (.dup, 1) := by decide +kernel
theorem d_F_put_35 : decode b_F_put 35 = .ok (.getfield 111, 3) := by decide +kernel
theorem d_F_put_38 : decode b_F_put 38 = .ok (.iconst 1, 1) := by decide +kernel
theorem d_F_put_39 : decode b_F_put 39 = .ok (.iadd, 1) := by decide +kernel
theorem d_F_put_40 : decode b_F_put 40 = .ok (.putfield 111, 3) := by decide +kernel
theorem d_F_put_43 : decode b_F_put 43 = .ok (.iconst 1, 1) := by decide +kernel
theorem d_F_put_44 : decode b_F_put 44 = .ok (.ireturn, 1) := by decide +kernel
theorem d_F_cut_0 : decode b_F_cut 0 = .ok (.iload_n 1, 1) := by decide +kernel
theorem d_F_cut_1 : decode b_F_cut 1 = .ok (.ifCond .lt 14, 3) := by decide +kernel
theorem d_F_cut_4 : decode b_F_cut 4 = .ok (.iload_n 1, 1) := by decide +kernel
theorem d_F_cut_5 : decode b_F_cut 5 = .ok (.aload_n 0, 1) := by decide +kernel
theorem d_F_cut_6 : decode b_F_cut 6 = .ok (.getfield 28, 3) := by decide +kernel
theorem d_F_cut_9 : decode b_F_cut 9 = .ok (.getfield 111, 3) := by decide +kernel
theorem d_F_cut_12 : decode b_F_cut 12 = .ok (.if_icmp .le 5, 3) := by decide +kernel
theorem d_F_cut_15 : decode b_F_cut 15 = .ok (.iconst (-1), 1) := by decide +kernel
theorem d_F_cut_16 : decode b_F_cut 16 = .ok (.ireturn, 1) := by decide +kernel
theorem d_F_cut_17 : decode b_F_cut 17 = .ok (.aload_n 0, 1) := by decide +kernel
theorem d_F_cut_18 : decode b_F_cut 18 = .ok (.getfield 28, 3) := by decide +kernel
theorem d_F_cut_21 : decode b_F_cut 21 = .ok (.dup, 1) := by decide +kernel
theorem d_F_cut_22 : decode b_F_cut 22 = .ok (.getfield 111, 3) := by decide +kernel
theorem d_F_cut_25 : decode b_F_cut 25 = .ok (.iload_n 1, 1) := by decide +kernel
theorem d_F_cut_26 : decode b_F_cut 26 = .ok (.isub, 1) := by decide +kernel
theorem d_F_cut_27 : decode b_F_cut 27 = .ok (.putfield 111, 3) := by decide +kernel
theorem d_F_cut_30 : decode b_F_cut 30 = .ok (.aload_n 0, 1) := by decide +kernel
theorem d_F_cut_31 : decode b_F_cut 31 = .ok (.getfield 28, 3) := by decide +kernel
theorem d_F_cut_34 : decode b_F_cut 34 = .ok (.getfield 111, 3) := by decide +kernel
theorem d_F_cut_37 : decode b_F_cut 37 = .ok (.ireturn, 1) := by decide +kernel
theorem d_F_withdraw_0 : decode b_F_withdraw 0 = .ok (.aload_n 0, 1) := by decide +kernel
theorem d_F_withdraw_1 : decode b_F_withdraw 1 = .ok (.getfield 21, 3) := by decide +kernel
theorem d_F_withdraw_4 : decode b_F_withdraw 4 = .ok (.getfield 65, 3) := by decide +kernel
theorem d_F_withdraw_7 : decode b_F_withdraw 7 = .ok (.ifCond .ne 5, 3) := by decide +kernel
theorem d_F_withdraw_10 : decode b_F_withdraw 10 = .ok (.iconst (-1), 1) := by decide +kernel
theorem d_F_withdraw_11 : decode b_F_withdraw 11 = .ok (.ireturn, 1) := by decide +kernel
theorem d_F_withdraw_12 : decode b_F_withdraw 12 = .ok (.aload_n 0, 1) := by decide +kernel
theorem d_F_withdraw_13 : decode b_F_withdraw 13 = .ok (.getfield 21, 3) := by decide +kernel
theorem d_F_withdraw_16 : decode b_F_withdraw 16 = .ok (.dup, 1) := by decide +kernel
theorem d_F_withdraw_17 : decode b_F_withdraw 17 = .ok (.getfield 65, 3) := by decide +kernel
theorem d_F_withdraw_20 : decode b_F_withdraw 20 = .ok (.iconst 1, 1) := by decide +kernel
theorem d_F_withdraw_21 : decode b_F_withdraw 21 = .ok (.isub, 1) := by decide +kernel
theorem d_F_withdraw_22 : decode b_F_withdraw 22 = .ok (.putfield 65, 3) := by decide +kernel
theorem d_F_withdraw_25 : decode b_F_withdraw 25 = .ok (.aload_n 0, 1) := by decide +kernel
theorem d_F_withdraw_26 : decode b_F_withdraw 26 = .ok (.getfield 21, 3) := by decide +kernel
theorem d_F_withdraw_29 : decode b_F_withdraw 29 = .ok (.getfield 65, 3) := by decide +kernel
theorem d_F_withdraw_32 : decode b_F_withdraw 32 = .ok (.ireturn, 1) := by decide +kernel
def m_Ca_setArgument (w : Nat → Int32) (i : Int32) (v : Int64) : (Nat → Int32) := (upd (upd w ((4 : Int32) + ((2 : Int32) * i)).toNatClampNeg v.toInt32) (((4 : Int32) + ((2 : Int32) * i)) + (1 : Int32)).toNatClampNeg (((v.toUInt64 >>> ((32 : Int32).toInt64.toUInt64 &&& Int64.toUInt64 63)).toInt64).toInt32))
set_option maxHeartbeats 4000000 in
set_option maxRecDepth 100000 in
theorem c_Ca_setArgument (l : Launch) (D : va_G) (dA : Nat → ClassId) (ad : Nat → Nat) (A : Nat → Prop) (hAd : AdOK 49 ad A) (w : Nat → Int32) (P : PT) (g : GT) (ss : Nat → Int32) (M : MT) (i : Int32) (v : Int64) (hi : vp_in i 6) : Met l y_Ca_setArgument (mW y_Ca_setArgument b_Ca_setArgument 5 none) { frames := 0, cells := 0, slots := 0, locals := 0 } (va_Pc [.ref (ad 1), .int i, .long v] (fun U => CG D dA ad w P g ss M U)) (va_Qv (fun u : (Nat → Int32) => u = m_Ca_setArgument w i v) (fun u t => CG D dA ad u P g ss M t) A) 0 0 A := by
  refine Met.ofW (cc := b_Ca_setArgument) (maxL := 5) (ret := none) (by decide) rfl ?_
  intro p e s m args below meth c s₁ B hml hv
  obtain ⟨rfl, hP, hK, hN⟩ := hv
  have hx := B.exec
  have hb := B.bytes
  have hr := B.returns
  have hlocks := B.notSynchronized
  have hts := fun (w : Cond) (h : w ∈ lw_g) => atoms_spec (ws := mW y_Ca_setArgument b_Ca_setArgument 5 none) B.pre w (List.mem_cons_of_mem _ h)
  have hown : s.vm.findClass R_Ca = some m.cls := findClass_of_methodNamed B.named
  have hS : va_S A s.heap s.heap [] := va_S.rf
  have hl := lv_entry ([.ref (ad 1), .int i, .long v]) (n := 5) (Nat.le_of_ble_eq_true rfl)
  rw [lg_entry_eq]
  generalize (lg_sl ([.ref (ad 1), .int i, .long v]) ++ List.replicate (5 - (lg_sl ([.ref (ad 1), .int i, .long v])).length) Slot.unset).toArray = ls at hl ⊢
  have hl : lv_has ls 5 [(0, .ref (ad 1)), (1, .int i), (2, .long v)] := hl
  refine lv_iconst (v := 4) hx hb d_Ca_setArgument_0 (by decide) ?_
  refine lv_iconst (v := 2) hx hb d_Ca_setArgument_1 (by decide) ?_
  refine lv_iload_n hx hb d_Ca_setArgument_2 rfl (lv_at hl 1 rfl) ?_
  refine lv_imul hx hb d_Ca_setArgument_3 ?_
  refine lv_iadd hx hb d_Ca_setArgument_4 ?_
  refine lv_istore hx hb d_Ca_setArgument_5 hl (by decide) rfl (fun ls hl => ?_)
  have hl : lv_has ls 5 [(4, .int ((4 : Int32) + ((2 : Int32) * i))), (0, .ref (ad 1)), (1, .int i), (2, .long v)] := hl
  refine lv_aload_n hx hb d_Ca_setArgument_7 rfl (lv_at hl 1 rfl) ?_
  refine va_get (D := D) (ci := 1) (v := .ref (ad 2)) (C := R_Ca) (T := F_Ca) (N := 1) hx hb hts in_Ca hown hK hP 1 rfl rfl 0 (by decide) (hts _ wd_52) (fun _ h9 => h9) rfl d_Ca_setArgument_8 ?_
  refine lv_iload hx hb d_Ca_setArgument_11 (lv_at hl 0 rfl) ?_
  refine lv_lload_n hx hb d_Ca_setArgument_13 rfl (lv_at hl 3 rfl) ?_
  refine lv_l2i hx hb d_Ca_setArgument_14 rfl ?_
  refine va_iast (n := 16) (f := w) hx hb hK hP (wC_D hAd) hS 2 0 rfl rfl (ix_4 hi) d_Ca_setArgument_15 (fun H locs hP _ hS => ?_)
  have hP : va_P D cls (wC ad dA (upd w ((4 : Int32) + ((2 : Int32) * i)).toNatClampNeg v.toInt32) P g ss M) H := hP
  refine lv_aload_n hx hb d_Ca_setArgument_16 rfl (lv_at hl 1 rfl) ?_
  refine va_get (D := D) (ci := 1) (v := .ref (ad 2)) (C := R_Ca) (T := F_Ca) (N := 1) hx hb hts in_Ca hown hK hP 1 rfl rfl 0 (by decide) (hts _ wd_52) (fun _ h9 => h9) rfl d_Ca_setArgument_17 ?_
  refine lv_iload hx hb d_Ca_setArgument_20 (lv_at hl 0 rfl) ?_
  refine lv_iconst (v := 1) hx hb d_Ca_setArgument_22 (by decide) ?_
  refine lv_iadd hx hb d_Ca_setArgument_23 ?_
  refine lv_lload_n hx hb d_Ca_setArgument_24 rfl (lv_at hl 3 rfl) ?_
  refine lv_bipush (v := 32) hx hb d_Ca_setArgument_25 (by decide) ?_
  refine lv_lushr hx hb d_Ca_setArgument_27 rfl ?_
  refine lv_l2i hx hb d_Ca_setArgument_28 rfl ?_
  refine va_iast (n := 16) (f := upd w ((4 : Int32) + ((2 : Int32) * i)).toNatClampNeg v.toInt32) hx hb hK hP (wC_D hAd) hS 2 0 rfl rfl (ix_5 hi) d_Ca_setArgument_29 (fun H locs hP _ hS => ?_)
  have hP : va_P D cls (wC ad dA (upd (upd w ((4 : Int32) + ((2 : Int32) * i)).toNatClampNeg v.toInt32) (((4 : Int32) + ((2 : Int32) * i)) + (1 : Int32)).toNatClampNeg (((v.toUInt64 >>> ((32 : Int32).toInt64.toUInt64 &&& Int64.toUInt64 63)).toInt64).toInt32)) P g ss M) H := hP
  exact W.vret hx hb hr (fun t ht hW => ⟨⟨_, rfl, (by rw [m_Ca_setArgument]), CG_at hP hK hN ht hW⟩, hS.F ht⟩) hS.2.2 d_Ca_setArgument_30
def m_Ca_getArgument (w : Nat → Int32) (i : Int32) : Int64 := (m_F_unsigned (w ((4 : Int32) + ((2 : Int32) * i)).toNatClampNeg)) ||| ((m_F_unsigned (w (((4 : Int32) + ((2 : Int32) * i)) + (1 : Int32)).toNatClampNeg)) <<< ((32 : Int32).toInt64 &&& 63))
set_option maxHeartbeats 4000000 in
set_option maxRecDepth 100000 in
theorem c_Ca_getArgument (l : Launch) (D : va_G) (dA : Nat → ClassId) (ad : Nat → Nat) (w : Nat → Int32) (P : PT) (g : GT) (ss : Nat → Int32) (M : MT) (i : Int32) (hi : vp_in i 6) : Met l y_Ca_getArgument (mW y_Ca_getArgument b_Ca_getArgument 3 (some .long)) { frames := 1, cells := 0, slots := 0, locals := 20 } (va_Pc [.ref (ad 1), .int i] (fun U => CG D dA ad w P g ss M U)) (vp_Sl (fun r => r = m_Ca_getArgument w i)) 0 0 (fun _ => False) := by
  refine Met.ofW (cc := b_Ca_getArgument) (maxL := 3) (ret := (some .long)) (by decide) rfl ?_
  intro p e s m args below meth c s₁ B hml hv
  obtain ⟨rfl, hP, hK, hN⟩ := hv
  have hx := B.exec
  have hb := B.bytes
  have hr := B.returns
  have hlocks := B.notSynchronized
  have hts := fun (w : Cond) (h : w ∈ lw_g) => atoms_spec (ws := mW y_Ca_getArgument b_Ca_getArgument 3 (some .long)) B.pre w (List.mem_cons_of_mem _ h)
  have hown : s.vm.findClass R_Ca = some m.cls := findClass_of_methodNamed B.named
  have hl := lv_entry ([.ref (ad 1), .int i]) (n := 3) (Nat.le_of_ble_eq_true rfl)
  rw [lg_entry_eq]
  generalize (lg_sl ([.ref (ad 1), .int i]) ++ List.replicate (3 - (lg_sl ([.ref (ad 1), .int i])).length) Slot.unset).toArray = ls at hl ⊢
  have hl : lv_has ls 3 [(0, .ref (ad 1)), (1, .int i)] := hl
  refine lv_iconst (v := 4) hx hb d_Ca_getArgument_0 (by decide) ?_
  refine lv_iconst (v := 2) hx hb d_Ca_getArgument_1 (by decide) ?_
  refine lv_iload_n hx hb d_Ca_getArgument_2 rfl (lv_at hl 1 rfl) ?_
  refine lv_imul hx hb d_Ca_getArgument_3 ?_
  refine lv_iadd hx hb d_Ca_getArgument_4 ?_
  refine lv_istore_n hx hb d_Ca_getArgument_5 rfl hl (by decide) rfl (fun ls hl => ?_)
  have hl : lv_has ls 3 [(2, .int ((4 : Int32) + ((2 : Int32) * i))), (0, .ref (ad 1)), (1, .int i)] := hl
  refine lv_aload_n hx hb d_Ca_getArgument_6 rfl (lv_at hl 1 rfl) ?_
  refine va_get (D := D) (ci := 1) (v := .ref (ad 2)) (C := R_Ca) (T := F_Ca) (N := 1) hx hb hts in_Ca hown hK hP 1 rfl rfl 0 (by decide) (hts _ wd_52) (fun _ h9 => h9) rfl d_Ca_getArgument_7 ?_
  refine lv_iload_n hx hb d_Ca_getArgument_10 rfl (lv_at hl 0 rfl) ?_
  refine va_iald (n := 16) (f := w) hx hb hK hP 2 0 rfl rfl (ix_4 hi) d_Ca_getArgument_11 ?_
  refine vp_callSl (va_Run.run (va_runSN (As := [.int (w ((4 : Int32) + ((2 : Int32) * i)).toNatClampNeg)]) (rest := []) ⟨hx, hb, hml, hown, hts⟩ (c_F_unsigned l (w ((4 : Int32) + ((2 : Int32) * i)).toNatClampNeg)) ⟨va_cnB 1 hts (g_in wd_302) rfl rfl rfl hN.2.2.2.2.2.1 (hts _ wd_26) (by decide +kernel) ⟨Nat.le_of_ble_eq_true rfl, Nat.le_of_ble_eq_true rfl⟩, hts _ wd_301, trivial⟩ ⟨fun _ _ _ _ q => q, fun _ _ _ => ⟨rfl, trivial⟩⟩ rfl rfl hl.1 rfl (lv_room (Nat.le_of_ble_eq_true rfl)) d_Ca_getArgument_12 ⟨Nat.le_of_ble_eq_true rfl, Nat.le_of_ble_eq_true rfl⟩)) (fun r1 e1 => ?_)
  subst e1
  refine lv_aload_n hx hb d_Ca_getArgument_15 rfl (lv_at hl 1 rfl) ?_
  refine va_get (D := D) (ci := 1) (v := .ref (ad 2)) (C := R_Ca) (T := F_Ca) (N := 1) hx hb hts in_Ca hown hK hP 1 rfl rfl 0 (by decide) (hts _ wd_52) (fun _ h9 => h9) rfl d_Ca_getArgument_16 ?_
  refine lv_iload_n hx hb d_Ca_getArgument_19 rfl (lv_at hl 0 rfl) ?_
  refine lv_iconst (v := 1) hx hb d_Ca_getArgument_20 (by decide) ?_
  refine lv_iadd hx hb d_Ca_getArgument_21 ?_
  refine va_iald (n := 16) (f := w) hx hb hK hP 2 0 rfl rfl (ix_5 hi) d_Ca_getArgument_22 ?_
  refine vp_callSl (va_Run.run (va_runSN (As := [.int (w (((4 : Int32) + ((2 : Int32) * i)) + (1 : Int32)).toNatClampNeg)]) (rest := [.long (m_F_unsigned (w ((4 : Int32) + ((2 : Int32) * i)).toNatClampNeg))]) ⟨hx, hb, hml, hown, hts⟩ (c_F_unsigned l (w (((4 : Int32) + ((2 : Int32) * i)) + (1 : Int32)).toNatClampNeg)) ⟨va_cnB 1 hts (g_in wd_302) rfl rfl rfl hN.2.2.2.2.2.1 (hts _ wd_26) (by decide +kernel) ⟨Nat.le_of_ble_eq_true rfl, Nat.le_of_ble_eq_true rfl⟩, hts _ wd_301, trivial⟩ ⟨fun _ _ _ _ q => q, fun _ _ _ => ⟨rfl, trivial⟩⟩ rfl rfl hl.1 rfl (lv_room (Nat.le_of_ble_eq_true rfl)) d_Ca_getArgument_23 ⟨Nat.le_of_ble_eq_true rfl, Nat.le_of_ble_eq_true rfl⟩)) (fun r2 e2 => ?_)
  subst e2
  refine lv_bipush (v := 32) hx hb d_Ca_getArgument_26 (by decide) ?_
  refine lv_lshl hx hb d_Ca_getArgument_28 rfl ?_
  refine lv_lor hx hb d_Ca_getArgument_29 ?_
  exact W.lret hx hb hr (fun t ht hW => ⟨_, rfl, (by rw [m_Ca_getArgument]), ht⟩) (fun _ h => by cases h) d_Ca_getArgument_30
def m_Ca_number (w : Nat → Int32) : Int32 := w 0
set_option maxHeartbeats 4000000 in
set_option maxRecDepth 100000 in
theorem c_Ca_number (l : Launch) (D : va_G) (dA : Nat → ClassId) (ad : Nat → Nat) (w : Nat → Int32) (P : PT) (g : GT) (ss : Nat → Int32) (M : MT) : Met l y_Ca_number (mW y_Ca_number b_Ca_number 1 (some .int)) { frames := 0, cells := 0, slots := 0, locals := 0 } (va_Pc [.ref (ad 1)] (fun U => CG D dA ad w P g ss M U)) (vp_Si (fun r => r = m_Ca_number w)) 0 0 (fun _ => False) := by
  refine Met.ofW (cc := b_Ca_number) (maxL := 1) (ret := (some .int)) (by decide) rfl ?_
  intro p e s m args below meth c s₁ B hml hv
  obtain ⟨rfl, hP, hK, hN⟩ := hv
  have hx := B.exec
  have hb := B.bytes
  have hr := B.returns
  have hlocks := B.notSynchronized
  have hts := fun (w : Cond) (h : w ∈ lw_g) => atoms_spec (ws := mW y_Ca_number b_Ca_number 1 (some .int)) B.pre w (List.mem_cons_of_mem _ h)
  have hown : s.vm.findClass R_Ca = some m.cls := findClass_of_methodNamed B.named
  have hl := lv_entry ([.ref (ad 1)]) (n := 1) (Nat.le_of_ble_eq_true rfl)
  rw [lg_entry_eq]
  generalize (lg_sl ([.ref (ad 1)]) ++ List.replicate (1 - (lg_sl ([.ref (ad 1)])).length) Slot.unset).toArray = ls at hl ⊢
  have hl : lv_has ls 1 [(0, .ref (ad 1))] := hl
  refine lv_aload_n hx hb d_Ca_number_0 rfl (lv_at hl 0 rfl) ?_
  refine va_get (D := D) (ci := 1) (v := .ref (ad 2)) (C := R_Ca) (T := F_Ca) (N := 1) hx hb hts in_Ca hown hK hP 1 rfl rfl 0 (by decide) (hts _ wd_52) (fun _ h9 => h9) rfl d_Ca_number_1 ?_
  refine lv_iconst (v := 0) hx hb d_Ca_number_4 (by decide) ?_
  refine va_iald (n := 16) (f := w) hx hb hK hP 2 0 rfl rfl (vp_in_nI (n := 0) (by decide) (by decide)) d_Ca_number_5 ?_
  refine W.eq (g2 := F0 m 6 ls [.int (w 0)]) rfl ?_
  exact W.iret hx hb hr (fun t ht hW => ⟨_, rfl, (by rw [m_Ca_number]), ht⟩) (fun _ h => by cases h) d_Ca_number_6
def m_Ca_isForeignTo (w : Nat → Int32) (ar : Int32) : Int32 := if (w 1) = ar then if (lg_cmp (m_F_unsigned (m_Ca_number w)) (1073741824 : Int64)) < (0 : Int32) then (0 : Int32) else (1 : Int32) else (1 : Int32)
set_option maxHeartbeats 4000000 in
set_option maxRecDepth 100000 in
theorem c_Ca_isForeignTo (l : Launch) (D : va_G) (dA : Nat → ClassId) (ad : Nat → Nat) (w : Nat → Int32) (P : PT) (g : GT) (ss : Nat → Int32) (M : MT) (ar : Int32) : Met l y_Ca_isForeignTo (mW y_Ca_isForeignTo b_Ca_isForeignTo 2 (some .boolean)) { frames := 1, cells := 0, slots := 0, locals := 20 } (va_Pc [.ref (ad 1), .int ar] (fun U => CG D dA ad w P g ss M U)) (vp_Si (fun r => r = m_Ca_isForeignTo w ar)) 0 0 (fun _ => False) := by
  refine Met.ofW (cc := b_Ca_isForeignTo) (maxL := 2) (ret := (some .boolean)) (by decide) rfl ?_
  intro p e s m args below meth c s₁ B hml hv
  obtain ⟨rfl, hP, hK, hN⟩ := hv
  have hx := B.exec
  have hb := B.bytes
  have hr := B.returns
  have hlocks := B.notSynchronized
  have hts := fun (w : Cond) (h : w ∈ lw_g) => atoms_spec (ws := mW y_Ca_isForeignTo b_Ca_isForeignTo 2 (some .boolean)) B.pre w (List.mem_cons_of_mem _ h)
  have hown : s.vm.findClass R_Ca = some m.cls := findClass_of_methodNamed B.named
  have hl := lv_entry ([.ref (ad 1), .int ar]) (n := 2) (Nat.le_of_ble_eq_true rfl)
  rw [lg_entry_eq]
  generalize (lg_sl ([.ref (ad 1), .int ar]) ++ List.replicate (2 - (lg_sl ([.ref (ad 1), .int ar])).length) Slot.unset).toArray = ls at hl ⊢
  have hl : lv_has ls 2 [(0, .ref (ad 1)), (1, .int ar)] := hl
  refine lv_aload_n hx hb d_Ca_isForeignTo_0 rfl (lv_at hl 0 rfl) ?_
  refine va_get (D := D) (ci := 1) (v := .ref (ad 2)) (C := R_Ca) (T := F_Ca) (N := 1) hx hb hts in_Ca hown hK hP 1 rfl rfl 0 (by decide) (hts _ wd_52) (fun _ h9 => h9) rfl d_Ca_isForeignTo_1 ?_
  refine lv_iconst (v := 1) hx hb d_Ca_isForeignTo_4 (by decide) ?_
  refine va_iald (n := 16) (f := w) hx hb hK hP 2 0 rfl rfl (vp_in_nI (n := 1) (by decide) (by decide)) d_Ca_isForeignTo_5 ?_
  refine W.eq (g2 := F0 m 6 ls [.int (w 1)]) rfl ?_
  refine lv_iload_n hx hb d_Ca_isForeignTo_6 rfl (lv_at hl 1 rfl) ?_
  refine lv_icmp_ne (tgt := 24) hx hb d_Ca_isForeignTo_7 (by decide) (fun h1 => ?_) (fun h1 => ?_)
  · refine lv_iconst (v := 1) hx hb d_Ca_isForeignTo_24 (by decide) ?_
    refine lv_goto (tgt := 29) hx hb d_Ca_isForeignTo_25 (by decide) ?_
    exact W.zret hx hb hr rfl (fun t ht hW => ⟨_, rfl, (by rw [m_Ca_isForeignTo, if_neg h1]), ht⟩) (fun _ h => by cases h) d_Ca_isForeignTo_29
  refine lv_aload_n hx hb d_Ca_isForeignTo_10 rfl (lv_at hl 0 rfl) ?_
  refine vp_callSi (va_Run.run (va_runV (As := []) (rest := []) ⟨hx, hb, hml, hown, hts⟩ (c_Ca_number l D dA ad w P g ss M) (cwV 0 hts (g_V wd_296 wd_297 wd_298 wd_27 wd_299) rfl rfl rfl (by decide +kernel) ⟨Nat.le_of_ble_eq_true rfl, Nat.le_of_ble_eq_true rfl⟩) ⟨CG_fb, (va_recv (ci := 1) (q := (R_Ca, F_Ca, 1)) (q0 := 1) hK hP rfl rfl), fun U hU hW => ⟨rfl, CG_at hP hK hN hU hW⟩⟩ rfl rfl hl.1 rfl (lv_room (Nat.le_of_ble_eq_true rfl)) d_Ca_isForeignTo_11 ⟨Nat.le_of_ble_eq_true rfl, Nat.le_of_ble_eq_true rfl⟩)) (fun r1 e1 => ?_)
  subst e1
  refine vp_callSl (va_Run.run (va_runSN (As := [.int (m_Ca_number w)]) (rest := []) ⟨hx, hb, hml, hown, hts⟩ (c_F_unsigned l (m_Ca_number w)) ⟨va_cnB 1 hts (g_in wd_302) rfl rfl rfl hN.2.2.2.2.2.1 (hts _ wd_26) (by decide +kernel) ⟨Nat.le_of_ble_eq_true rfl, Nat.le_of_ble_eq_true rfl⟩, hts _ wd_301, trivial⟩ ⟨fun _ _ _ _ q => q, fun _ _ _ => ⟨rfl, trivial⟩⟩ rfl rfl hl.1 rfl (lv_room (Nat.le_of_ble_eq_true rfl)) d_Ca_isForeignTo_14 ⟨Nat.le_of_ble_eq_true rfl, Nat.le_of_ble_eq_true rfl⟩)) (fun r2 e2 => ?_)
  subst e2
  refine lv_ldc2 (v := 1073741824) hx hb hown (hts _ wd_304) d_Ca_isForeignTo_17 ?_
  refine W.lcmp hx hb d_Ca_isForeignTo_20 ?_
  refine lv_if_lt (tgt := 28) hx hb d_Ca_isForeignTo_21 (by decide) (fun h2 => ?_) (fun h2 => ?_)
  · refine lv_iconst (v := 0) hx hb d_Ca_isForeignTo_28 (by decide) ?_
    exact W.zret hx hb hr rfl (fun t ht hW => ⟨_, rfl, (by rw [m_Ca_isForeignTo, if_pos h1, if_pos h2]), ht⟩) (fun _ h => by cases h) d_Ca_isForeignTo_29
  refine lv_iconst (v := 1) hx hb d_Ca_isForeignTo_24 (by decide) ?_
  refine lv_goto (tgt := 29) hx hb d_Ca_isForeignTo_25 (by decide) ?_
  exact W.zret hx hb hr rfl (fun t ht hW => ⟨_, rfl, (by rw [m_Ca_isForeignTo, if_pos h1, if_neg h2]), ht⟩) (fun _ h => by cases h) d_Ca_isForeignTo_29
def m_F_word (w : Nat → Int32) (i : Int32) (v : Int32) : Int32 × (Nat → Int32) := if i < (0 : Int32) then ((0 : Int32), w) else if i < (16 : Int32) then ((1 : Int32), (upd w i.toNatClampNeg v)) else ((0 : Int32), w)
set_option maxHeartbeats 4000000 in
set_option maxRecDepth 100000 in
theorem c_F_word (l : Launch) (D : va_G) (dA : Nat → ClassId) (ad : Nat → Nat) (A : Nat → Prop) (hAd : AdOK 49 ad A) (w : Nat → Int32) (P : PT) (g : GT) (ss : Nat → Int32) (M : MT) (i : Int32) (v : Int32) : Met l y_F_word (mW y_F_word b_F_word 3 (some .boolean)) { frames := 0, cells := 0, slots := 0, locals := 0 } (va_Pc [.ref (ad 0), .int i, .int v] (fun U => CG D dA ad w P g ss M U)) (va_Qi (fun (r : Int32) (u : (Nat → Int32)) => r = (m_F_word w i v).1 ∧ u = (m_F_word w i v).2) (fun u t => CG D dA ad u P g ss M t) A) 0 0 A := by
  refine Met.ofW (cc := b_F_word) (maxL := 3) (ret := (some .boolean)) (by decide) rfl ?_
  intro p e s m args below meth c s₁ B hml hv
  obtain ⟨rfl, hP, hK, hN⟩ := hv
  have hx := B.exec
  have hb := B.bytes
  have hr := B.returns
  have hlocks := B.notSynchronized
  have hts := fun (w : Cond) (h : w ∈ lw_g) => atoms_spec (ws := mW y_F_word b_F_word 3 (some .boolean)) B.pre w (List.mem_cons_of_mem _ h)
  have hown : s.vm.findClass R_F = some m.cls := findClass_of_methodNamed B.named
  have hS : va_S A s.heap s.heap [] := va_S.rf
  have hl := lv_entry ([.ref (ad 0), .int i, .int v]) (n := 3) (Nat.le_of_ble_eq_true rfl)
  rw [lg_entry_eq]
  generalize (lg_sl ([.ref (ad 0), .int i, .int v]) ++ List.replicate (3 - (lg_sl ([.ref (ad 0), .int i, .int v])).length) Slot.unset).toArray = ls at hl ⊢
  have hl : lv_has ls 3 [(0, .ref (ad 0)), (1, .int i), (2, .int v)] := hl
  refine lv_iload_n hx hb d_F_word_0 rfl (lv_at hl 1 rfl) ?_
  refine lv_if_lt (tgt := 10) hx hb d_F_word_1 (by decide) (fun h1 => ?_) (fun h1 => ?_)
  · refine lv_iconst (v := 0) hx hb d_F_word_10 (by decide) ?_
    exact W.zret hx hb hr rfl (fun t ht hW => ⟨⟨_, _, rfl, ⟨(by rw [m_F_word, if_pos h1]), (by rw [m_F_word, if_pos h1])⟩, CG_at hP hK hN ht hW⟩, hS.F ht⟩) hS.2.2 d_F_word_11
  refine lv_iload_n hx hb d_F_word_4 rfl (lv_at hl 1 rfl) ?_
  refine lv_bipush (v := 16) hx hb d_F_word_5 (by decide) ?_
  refine lv_icmp_lt (tgt := 12) hx hb d_F_word_7 (by decide) (fun h2 => ?_) (fun h2 => ?_)
  · refine lv_aload_n hx hb d_F_word_12 rfl (lv_at hl 0 rfl) ?_
    refine va_get (D := D) (ci := 8) (v := .ref (ad 1)) (C := R_F) (T := F_F) (N := 5) hx hb hts in_F hown hK hP 0 rfl rfl 0 (by decide) (hts _ wd_208) (fun _ h9 => h9) rfl d_F_word_13 ?_
    refine va_get (D := D) (ci := 1) (v := .ref (ad 2)) (C := R_Ca) (T := F_Ca) (N := 1) hx hb hts in_Ca hown hK hP 1 rfl rfl 0 (by decide) (hts _ wd_53) (fun _ h9 => h9) rfl d_F_word_16 ?_
    refine lv_iload_n hx hb d_F_word_19 rfl (lv_at hl 1 rfl) ?_
    refine lv_iload_n hx hb d_F_word_20 rfl (lv_at hl 2 rfl) ?_
    refine va_iast (n := 16) (f := w) hx hb hK hP (wC_D hAd) hS 2 0 rfl rfl (ix_of2 (by assumption) (by assumption)) d_F_word_21 (fun H locs hP _ hS => ?_)
    have hP : va_P D cls (wC ad dA (upd w i.toNatClampNeg v) P g ss M) H := hP
    refine lv_iconst (v := 1) hx hb d_F_word_22 (by decide) ?_
    exact W.zret hx hb hr rfl (fun t ht hW => ⟨⟨_, _, rfl, ⟨(by rw [m_F_word, if_neg h1, if_pos h2]), (by rw [m_F_word, if_neg h1, if_pos h2])⟩, CG_at hP hK hN ht hW⟩, hS.F ht⟩) hS.2.2 d_F_word_23
  refine lv_iconst (v := 0) hx hb d_F_word_10 (by decide) ?_
  exact W.zret hx hb hr rfl (fun t ht hW => ⟨⟨_, _, rfl, ⟨(by rw [m_F_word, if_neg h1, if_neg h2]), (by rw [m_F_word, if_neg h1, if_neg h2])⟩, CG_at hP hK hN ht hW⟩, hS.F ht⟩) hS.2.2 d_F_word_11
def m_F_argument (w : Nat → Int32) (i : Int32) (v : Int64) : Int32 × (Nat → Int32) := if (m_Ca_hasArgument i) = (0 : Int32) then ((0 : Int32), w) else ((1 : Int32), (m_Ca_setArgument w i v))
set_option maxHeartbeats 4000000 in
set_option maxRecDepth 100000 in
theorem c_F_argument (l : Launch) (D : va_G) (dA : Nat → ClassId) (ad : Nat → Nat) (A : Nat → Prop) (hAd : AdOK 49 ad A) (w : Nat → Int32) (P : PT) (g : GT) (ss : Nat → Int32) (M : MT) (i : Int32) (v : Int64) : Met l y_F_argument (mW y_F_argument b_F_argument 4 (some .boolean)) { frames := 1, cells := 0, slots := 0, locals := 24 } (va_Pc [.ref (ad 0), .int i, .long v] (fun U => CG D dA ad w P g ss M U)) (va_Qi (fun (r : Int32) (u : (Nat → Int32)) => r = (m_F_argument w i v).1 ∧ u = (m_F_argument w i v).2) (fun u t => CG D dA ad u P g ss M t) A) 0 0 A := by
  refine Met.ofW (cc := b_F_argument) (maxL := 4) (ret := (some .boolean)) (by decide) rfl ?_
  intro p e s m args below meth c s₁ B hml hv
  obtain ⟨rfl, hP, hK, hN⟩ := hv
  have hx := B.exec
  have hb := B.bytes
  have hr := B.returns
  have hlocks := B.notSynchronized
  have hts := fun (w : Cond) (h : w ∈ lw_g) => atoms_spec (ws := mW y_F_argument b_F_argument 4 (some .boolean)) B.pre w (List.mem_cons_of_mem _ h)
  have hown : s.vm.findClass R_F = some m.cls := findClass_of_methodNamed B.named
  have hS : va_S A s.heap s.heap [] := va_S.rf
  have hl := lv_entry ([.ref (ad 0), .int i, .long v]) (n := 4) (Nat.le_of_ble_eq_true rfl)
  rw [lg_entry_eq]
  generalize (lg_sl ([.ref (ad 0), .int i, .long v]) ++ List.replicate (4 - (lg_sl ([.ref (ad 0), .int i, .long v])).length) Slot.unset).toArray = ls at hl ⊢
  have hl : lv_has ls 4 [(0, .ref (ad 0)), (1, .int i), (2, .long v)] := hl
  refine lv_iload_n hx hb d_F_argument_0 rfl (lv_at hl 1 rfl) ?_
  refine vp_callSi (va_Run.run (va_runS (As := [.int i]) (rest := []) ⟨hx, hb, hml, hown, hts⟩ (c_Ca_hasArgument l i) (va_cwS 1 hts (g_S wd_232 wd_233 wd_27 wd_234) rfl rfl rfl (by decide +kernel) ⟨Nat.le_of_ble_eq_true rfl, Nat.le_of_ble_eq_true rfl⟩) ⟨fun _ _ _ _ q => q, fun _ _ _ => ⟨rfl, trivial⟩⟩ rfl rfl hl.1 rfl (lv_room (Nat.le_of_ble_eq_true rfl)) d_F_argument_1 ⟨Nat.le_of_ble_eq_true rfl, Nat.le_of_ble_eq_true rfl⟩)) (fun r1 e1 => ?_)
  subst e1
  refine lv_if_ne (tgt := 9) hx hb d_F_argument_4 (by decide) (fun h1 => ?_) (fun h1 => ?_)
  · refine lv_aload_n hx hb d_F_argument_9 rfl (lv_at hl 0 rfl) ?_
    refine va_get (D := D) (ci := 8) (v := .ref (ad 1)) (C := R_F) (T := F_F) (N := 5) hx hb hts in_F hown hK hP 0 rfl rfl 0 (by decide) (hts _ wd_208) (fun _ h9 => h9) rfl d_F_argument_10 ?_
    refine lv_iload_n hx hb d_F_argument_13 rfl (lv_at hl 1 rfl) ?_
    refine lv_lload_n hx hb d_F_argument_14 rfl (lv_at hl 2 rfl) ?_
    refine va_callv (va_runV (As := [.int i, .long v]) (rest := []) ⟨hx, hb, hml, hown, hts⟩ (c_Ca_setArgument l D dA ad A hAd w P g ss M i v (ix_arg (by assumption))) (cwV 2 hts (g_V wd_235 wd_236 wd_237 wd_27 wd_238) rfl rfl rfl (by decide +kernel) ⟨Nat.le_of_ble_eq_true rfl, Nat.le_of_ble_eq_true rfl⟩) ⟨CG_fb, (va_recv (ci := 1) (q := (R_Ca, F_Ca, 1)) (q0 := 1) hK hP rfl rfl), fun U hU hW => ⟨rfl, CG_at hP hK hN hU hW⟩⟩ rfl rfl hl.1 rfl (lv_room (Nat.le_of_ble_eq_true rfl)) d_F_argument_15 ⟨Nat.le_of_ble_eq_true rfl, Nat.le_of_ble_eq_true rfl⟩) hS (fun _ _ h => h) (fun _ h => h) (fun u1 t H locs ht hvm hu hB hz hk hS => ?_)
    subst hu
    obtain ⟨hP, -⟩ := hB
    rw [ht] at hP
    have hP : va_P D cls (wC ad dA (m_Ca_setArgument w i v) P g ss M) H := hP
    refine lv_iconst (v := 1) hx hb d_F_argument_18 (by decide) ?_
    exact W.zret hx hb hr rfl (fun t ht hW => ⟨⟨_, _, rfl, ⟨(by rw [m_F_argument, if_neg h1]), (by rw [m_F_argument, if_neg h1])⟩, CG_at hP hK hN ht hW⟩, hS.F ht⟩) hS.2.2 d_F_argument_19
  refine lv_iconst (v := 0) hx hb d_F_argument_7 (by decide) ?_
  exact W.zret hx hb hr rfl (fun t ht hW => ⟨⟨_, _, rfl, ⟨(by rw [m_F_argument, if_pos h1]), (by rw [m_F_argument, if_pos h1])⟩, CG_at hP hK hN ht hW⟩, hS.F ht⟩) hS.2.2 d_F_argument_8
def m_F_length (g : GT) : Int32 := g.1
set_option maxHeartbeats 4000000 in
set_option maxRecDepth 100000 in
theorem c_F_length (l : Launch) (D : va_G) (dA : Nat → ClassId) (ad : Nat → Nat) (w : Nat → Int32) (P : PT) (g : GT) (ss : Nat → Int32) (M : MT) : Met l y_F_length (mW y_F_length b_F_length 1 (some .int)) { frames := 0, cells := 0, slots := 0, locals := 0 } (va_Pc [.ref (ad 0)] (fun U => CG D dA ad w P g ss M U)) (vp_Si (fun r => r = m_F_length g)) 0 0 (fun _ => False) := by
  refine Met.ofW (cc := b_F_length) (maxL := 1) (ret := (some .int)) (by decide) rfl ?_
  intro p e s m args below meth c s₁ B hml hv
  obtain ⟨rfl, hP, hK, hN⟩ := hv
  have hx := B.exec
  have hb := B.bytes
  have hr := B.returns
  have hlocks := B.notSynchronized
  have hts := fun (w : Cond) (h : w ∈ lw_g) => atoms_spec (ws := mW y_F_length b_F_length 1 (some .int)) B.pre w (List.mem_cons_of_mem _ h)
  have hown : s.vm.findClass R_F = some m.cls := findClass_of_methodNamed B.named
  have hl := lv_entry ([.ref (ad 0)]) (n := 1) (Nat.le_of_ble_eq_true rfl)
  rw [lg_entry_eq]
  generalize (lg_sl ([.ref (ad 0)]) ++ List.replicate (1 - (lg_sl ([.ref (ad 0)])).length) Slot.unset).toArray = ls at hl ⊢
  have hl : lv_has ls 1 [(0, .ref (ad 0))] := hl
  refine lv_aload_n hx hb d_F_length_0 rfl (lv_at hl 0 rfl) ?_
  refine va_get (D := D) (ci := 8) (v := .ref (ad 7)) (C := R_F) (T := F_F) (N := 5) hx hb hts in_F hown hK hP 0 rfl rfl 2 (by decide) (hts _ wd_210) (fun _ h9 => h9) rfl d_F_length_1 ?_
  refine va_get (D := D) (ci := 6) (v := .int g.1) (C := R_Pr) (T := F_Pr) (N := 2) hx hb hts in_Pr hown hK hP 7 rfl rfl 1 (by decide) (hts _ wd_158) (fun _ h9 => h9) rfl d_F_length_4 ?_
  exact W.iret hx hb hr (fun t ht hW => ⟨_, rfl, (by rw [m_F_length]), ht⟩) (fun _ h => by cases h) d_F_length_7
def m_F_steps (M : MT) : Int32 := M.2.1
set_option maxHeartbeats 4000000 in
set_option maxRecDepth 100000 in
theorem c_F_steps (l : Launch) (D : va_G) (dA : Nat → ClassId) (ad : Nat → Nat) (w : Nat → Int32) (P : PT) (g : GT) (ss : Nat → Int32) (M : MT) : Met l y_F_steps (mW y_F_steps b_F_steps 1 (some .int)) { frames := 0, cells := 0, slots := 0, locals := 0 } (va_Pc [.ref (ad 0)] (fun U => CG D dA ad w P g ss M U)) (vp_Si (fun r => r = m_F_steps M)) 0 0 (fun _ => False) := by
  refine Met.ofW (cc := b_F_steps) (maxL := 1) (ret := (some .int)) (by decide) rfl ?_
  intro p e s m args below meth c s₁ B hml hv
  obtain ⟨rfl, hP, hK, hN⟩ := hv
  have hx := B.exec
  have hb := B.bytes
  have hr := B.returns
  have hlocks := B.notSynchronized
  have hts := fun (w : Cond) (h : w ∈ lw_g) => atoms_spec (ws := mW y_F_steps b_F_steps 1 (some .int)) B.pre w (List.mem_cons_of_mem _ h)
  have hown : s.vm.findClass R_F = some m.cls := findClass_of_methodNamed B.named
  have hl := lv_entry ([.ref (ad 0)]) (n := 1) (Nat.le_of_ble_eq_true rfl)
  rw [lg_entry_eq]
  generalize (lg_sl ([.ref (ad 0)]) ++ List.replicate (1 - (lg_sl ([.ref (ad 0)])).length) Slot.unset).toArray = ls at hl ⊢
  have hl : lv_has ls 1 [(0, .ref (ad 0))] := hl
  refine lv_aload_n hx hb d_F_steps_0 rfl (lv_at hl 0 rfl) ?_
  refine va_get (D := D) (ci := 8) (v := .ref (ad 11)) (C := R_F) (T := F_F) (N := 5) hx hb hts in_F hown hK hP 0 rfl rfl 4 (by decide) (hts _ wd_212) (fun _ h9 => h9) rfl d_F_steps_1 ?_
  refine va_get (D := D) (ci := 4) (v := .int M.2.1) (C := R_Ma) (T := F_Ma) (N := 8) hx hb hts in_Ma hown hK hP 11 rfl rfl 1 (by decide) (hts _ wd_184) (fun _ h9 => h9) rfl d_F_steps_4 ?_
  exact W.iret hx hb hr (fun t ht hW => ⟨_, rfl, (by rw [m_F_steps]), ht⟩) (fun _ h => by cases h) d_F_steps_7
def m_F_put (g : GT) (z : Int64) : Int32 × GT := if g.1 < (64 : Int32) then ((1 : Int32), (g.1 + (1 : Int32), vp_updL g.2 g.1.toNatClampNeg z)) else ((0 : Int32), g)
set_option maxHeartbeats 4000000 in
set_option maxRecDepth 100000 in
theorem c_F_put (l : Launch) (D : va_G) (dA : Nat → ClassId) (ad : Nat → Nat) (A : Nat → Prop) (hAd : AdOK 49 ad A) (w : Nat → Int32) (P : PT) (g : GT) (ss : Nat → Int32) (M : MT) (z : Int64) (hg : (0 : Int32) ≤ g.1) : Met l y_F_put (mW y_F_put b_F_put 3 (some .boolean)) { frames := 0, cells := 0, slots := 0, locals := 0 } (va_Pc [.ref (ad 0), .long z] (fun U => CG D dA ad w P g ss M U)) (va_Qi (fun (r : Int32) (u : GT) => r = (m_F_put g z).1 ∧ u = (m_F_put g z).2) (fun u t => CG D dA ad w P u ss M t) A) 0 0 A := by
  refine Met.ofW (cc := b_F_put) (maxL := 3) (ret := (some .boolean)) (by decide) rfl ?_
  intro p e s m args below meth c s₁ B hml hv
  obtain ⟨rfl, hP, hK, hN⟩ := hv
  have hx := B.exec
  have hb := B.bytes
  have hr := B.returns
  have hlocks := B.notSynchronized
  have hts := fun (w : Cond) (h : w ∈ lw_g) => atoms_spec (ws := mW y_F_put b_F_put 3 (some .boolean)) B.pre w (List.mem_cons_of_mem _ h)
  have hown : s.vm.findClass R_F = some m.cls := findClass_of_methodNamed B.named
  have hS : va_S A s.heap s.heap [] := va_S.rf
  have hl := lv_entry ([.ref (ad 0), .long z]) (n := 3) (Nat.le_of_ble_eq_true rfl)
  rw [lg_entry_eq]
  generalize (lg_sl ([.ref (ad 0), .long z]) ++ List.replicate (3 - (lg_sl ([.ref (ad 0), .long z])).length) Slot.unset).toArray = ls at hl ⊢
  have hl : lv_has ls 3 [(0, .ref (ad 0)), (1, .long z)] := hl
  refine lv_aload_n hx hb d_F_put_0 rfl (lv_at hl 0 rfl) ?_
  refine va_get (D := D) (ci := 8) (v := .ref (ad 7)) (C := R_F) (T := F_F) (N := 5) hx hb hts in_F hown hK hP 0 rfl rfl 2 (by decide) (hts _ wd_210) (fun _ h9 => h9) rfl d_F_put_1 ?_
  refine va_get (D := D) (ci := 6) (v := .int g.1) (C := R_Pr) (T := F_Pr) (N := 2) hx hb hts in_Pr hown hK hP 7 rfl rfl 1 (by decide) (hts _ wd_158) (fun _ h9 => h9) rfl d_F_put_4 ?_
  refine lv_bipush (v := 64) hx hb d_F_put_7 (by decide) ?_
  refine lv_icmp_lt (tgt := 14) hx hb d_F_put_9 (by decide) (fun h1 => ?_) (fun h1 => ?_)
  · refine lv_aload_n hx hb d_F_put_14 rfl (lv_at hl 0 rfl) ?_
    refine va_get (D := D) (ci := 8) (v := .ref (ad 7)) (C := R_F) (T := F_F) (N := 5) hx hb hts in_F hown hK hP 0 rfl rfl 2 (by decide) (hts _ wd_210) (fun _ h9 => h9) rfl d_F_put_15 ?_
    refine va_get (D := D) (ci := 6) (v := .ref (ad 8)) (C := R_Pr) (T := F_Pr) (N := 2) hx hb hts in_Pr hown hK hP 7 rfl rfl 0 (by decide) (hts _ wd_155) (fun _ h9 => h9) rfl d_F_put_18 ?_
    refine lv_aload_n hx hb d_F_put_21 rfl (lv_at hl 0 rfl) ?_
    refine va_get (D := D) (ci := 8) (v := .ref (ad 7)) (C := R_F) (T := F_F) (N := 5) hx hb hts in_F hown hK hP 0 rfl rfl 2 (by decide) (hts _ wd_210) (fun _ h9 => h9) rfl d_F_put_22 ?_
    refine va_get (D := D) (ci := 6) (v := .int g.1) (C := R_Pr) (T := F_Pr) (N := 2) hx hb hts in_Pr hown hK hP 7 rfl rfl 1 (by decide) (hts _ wd_158) (fun _ h9 => h9) rfl d_F_put_25 ?_
    refine lv_lload_n hx hb d_F_put_28 rfl (lv_at hl 1 rfl) ?_
    refine va_last (n := 64) (f := g.2) hx hb hK hP (wC_D hAd) hS 8 1 rfl rfl (ix_put hg (by assumption)) d_F_put_29 (fun H locs hP _ hS => ?_)
    have hP : va_P D cls (wC ad dA w P (g.1, vp_updL g.2 g.1.toNatClampNeg z) ss M) H := hP
    refine lv_aload_n hx hb d_F_put_30 rfl (lv_at hl 0 rfl) ?_
    refine va_get (D := D) (ci := 8) (v := .ref (ad 7)) (C := R_F) (T := F_F) (N := 5) hx hb hts in_F hown hK hP 0 rfl rfl 2 (by decide) (hts _ wd_210) (fun _ h9 => h9) rfl d_F_put_31 ?_
    refine lv_dup hx hb d_F_put_34 rfl ?_
    refine va_get (D := D) (ci := 6) (v := .int g.1) (C := R_Pr) (T := F_Pr) (N := 2) hx hb hts in_Pr hown hK hP 7 rfl rfl 1 (by decide) (hts _ wd_158) (fun _ h9 => h9) rfl d_F_put_35 ?_
    refine lv_iconst (v := 1) hx hb d_F_put_38 (by decide) ?_
    refine lv_iadd hx hb d_F_put_39 ?_
    refine va_put (D := D) (ci := 6) (v := .int (g.1 + (1 : Int32))) (ty := .int) (C := R_Pr) (T := F_Pr) (N := 2) hx hb hts in_Pr t_Pr k_Pr n_Pr hown hK hP (wC_D hAd) hS 7 rfl rfl 1 (by decide) (hts _ wd_158) (fun _ h9 => h9) rfl (by decide +kernel) rfl rfl (Nat.le_of_ble_eq_true rfl) d_F_put_40 (fun H locs hP _ hS => ?_)
    have hP : va_P D cls (wC ad dA w P (g.1 + (1 : Int32), vp_updL g.2 g.1.toNatClampNeg z) ss M) H := hP
    refine lv_iconst (v := 1) hx hb d_F_put_43 (by decide) ?_
    exact W.zret hx hb hr rfl (fun t ht hW => ⟨⟨_, _, rfl, ⟨(by rw [m_F_put, if_pos h1]), (by rw [m_F_put, if_pos h1])⟩, CG_at hP hK hN ht hW⟩, hS.F ht⟩) hS.2.2 d_F_put_44
  refine lv_iconst (v := 0) hx hb d_F_put_12 (by decide) ?_
  exact W.zret hx hb hr rfl (fun t ht hW => ⟨⟨_, _, rfl, ⟨(by rw [m_F_put, if_neg h1]), (by rw [m_F_put, if_neg h1])⟩, CG_at hP hK hN ht hW⟩, hS.F ht⟩) hS.2.2 d_F_put_13
def m_F_cut (g : GT) (n : Int32) : Int32 × GT := if n < (0 : Int32) then ((-1 : Int32), g) else if n ≤ g.1 then (g.1 - n, (g.1 - n, g.2)) else ((-1 : Int32), g)
set_option maxHeartbeats 4000000 in
set_option maxRecDepth 100000 in
theorem c_F_cut (l : Launch) (D : va_G) (dA : Nat → ClassId) (ad : Nat → Nat) (A : Nat → Prop) (hAd : AdOK 49 ad A) (w : Nat → Int32) (P : PT) (g : GT) (ss : Nat → Int32) (M : MT) (n : Int32) : Met l y_F_cut (mW y_F_cut b_F_cut 2 (some .int)) { frames := 0, cells := 0, slots := 0, locals := 0 } (va_Pc [.ref (ad 0), .int n] (fun U => CG D dA ad w P g ss M U)) (va_Qi (fun (r : Int32) (u : GT) => r = (m_F_cut g n).1 ∧ u = (m_F_cut g n).2) (fun u t => CG D dA ad w P u ss M t) A) 0 0 A := by
  refine Met.ofW (cc := b_F_cut) (maxL := 2) (ret := (some .int)) (by decide) rfl ?_
  intro p e s m args below meth c s₁ B hml hv
  obtain ⟨rfl, hP, hK, hN⟩ := hv
  have hx := B.exec
  have hb := B.bytes
  have hr := B.returns
  have hlocks := B.notSynchronized
  have hts := fun (w : Cond) (h : w ∈ lw_g) => atoms_spec (ws := mW y_F_cut b_F_cut 2 (some .int)) B.pre w (List.mem_cons_of_mem _ h)
  have hown : s.vm.findClass R_F = some m.cls := findClass_of_methodNamed B.named
  have hS : va_S A s.heap s.heap [] := va_S.rf
  have hl := lv_entry ([.ref (ad 0), .int n]) (n := 2) (Nat.le_of_ble_eq_true rfl)
  rw [lg_entry_eq]
  generalize (lg_sl ([.ref (ad 0), .int n]) ++ List.replicate (2 - (lg_sl ([.ref (ad 0), .int n])).length) Slot.unset).toArray = ls at hl ⊢
  have hl : lv_has ls 2 [(0, .ref (ad 0)), (1, .int n)] := hl
  refine lv_iload_n hx hb d_F_cut_0 rfl (lv_at hl 1 rfl) ?_
  refine lv_if_lt (tgt := 15) hx hb d_F_cut_1 (by decide) (fun h1 => ?_) (fun h1 => ?_)
  · refine lv_iconst (v := -1) hx hb d_F_cut_15 (by decide) ?_
    exact W.iret hx hb hr (fun t ht hW => ⟨⟨_, _, rfl, ⟨(by rw [m_F_cut, if_pos h1]), (by rw [m_F_cut, if_pos h1])⟩, CG_at hP hK hN ht hW⟩, hS.F ht⟩) hS.2.2 d_F_cut_16
  refine lv_iload_n hx hb d_F_cut_4 rfl (lv_at hl 1 rfl) ?_
  refine lv_aload_n hx hb d_F_cut_5 rfl (lv_at hl 0 rfl) ?_
  refine va_get (D := D) (ci := 8) (v := .ref (ad 7)) (C := R_F) (T := F_F) (N := 5) hx hb hts in_F hown hK hP 0 rfl rfl 2 (by decide) (hts _ wd_210) (fun _ h9 => h9) rfl d_F_cut_6 ?_
  refine va_get (D := D) (ci := 6) (v := .int g.1) (C := R_Pr) (T := F_Pr) (N := 2) hx hb hts in_Pr hown hK hP 7 rfl rfl 1 (by decide) (hts _ wd_158) (fun _ h9 => h9) rfl d_F_cut_9 ?_
  refine lv_icmp_le (tgt := 17) hx hb d_F_cut_12 (by decide) (fun h2 => ?_) (fun h2 => ?_)
  · refine lv_aload_n hx hb d_F_cut_17 rfl (lv_at hl 0 rfl) ?_
    refine va_get (D := D) (ci := 8) (v := .ref (ad 7)) (C := R_F) (T := F_F) (N := 5) hx hb hts in_F hown hK hP 0 rfl rfl 2 (by decide) (hts _ wd_210) (fun _ h9 => h9) rfl d_F_cut_18 ?_
    refine lv_dup hx hb d_F_cut_21 rfl ?_
    refine va_get (D := D) (ci := 6) (v := .int g.1) (C := R_Pr) (T := F_Pr) (N := 2) hx hb hts in_Pr hown hK hP 7 rfl rfl 1 (by decide) (hts _ wd_158) (fun _ h9 => h9) rfl d_F_cut_22 ?_
    refine lv_iload_n hx hb d_F_cut_25 rfl (lv_at hl 1 rfl) ?_
    refine lv_isub hx hb d_F_cut_26 ?_
    refine va_put (D := D) (ci := 6) (v := .int (g.1 - n)) (ty := .int) (C := R_Pr) (T := F_Pr) (N := 2) hx hb hts in_Pr t_Pr k_Pr n_Pr hown hK hP (wC_D hAd) hS 7 rfl rfl 1 (by decide) (hts _ wd_158) (fun _ h9 => h9) rfl (by decide +kernel) rfl rfl (Nat.le_of_ble_eq_true rfl) d_F_cut_27 (fun H locs hP _ hS => ?_)
    have hP : va_P D cls (wC ad dA w P (g.1 - n, g.2) ss M) H := hP
    refine lv_aload_n hx hb d_F_cut_30 rfl (lv_at hl 0 rfl) ?_
    refine va_get (D := D) (ci := 8) (v := .ref (ad 7)) (C := R_F) (T := F_F) (N := 5) hx hb hts in_F hown hK hP 0 rfl rfl 2 (by decide) (hts _ wd_210) (fun _ h9 => h9) rfl d_F_cut_31 ?_
    refine va_get (D := D) (ci := 6) (v := .int (g.1 - n)) (C := R_Pr) (T := F_Pr) (N := 2) hx hb hts in_Pr hown hK hP 7 rfl rfl 1 (by decide) (hts _ wd_158) (fun _ h9 => h9) rfl d_F_cut_34 ?_
    exact W.iret hx hb hr (fun t ht hW => ⟨⟨_, _, rfl, ⟨(by rw [m_F_cut, if_neg h1, if_pos h2]), (by rw [m_F_cut, if_neg h1, if_pos h2])⟩, CG_at hP hK hN ht hW⟩, hS.F ht⟩) hS.2.2 d_F_cut_37
  refine lv_iconst (v := -1) hx hb d_F_cut_15 (by decide) ?_
  exact W.iret hx hb hr (fun t ht hW => ⟨⟨_, _, rfl, ⟨(by rw [m_F_cut, if_neg h1, if_neg h2]), (by rw [m_F_cut, if_neg h1, if_neg h2])⟩, CG_at hP hK hN ht hW⟩, hS.F ht⟩) hS.2.2 d_F_cut_16
def m_F_withdraw (P : PT) : Int32 × PT := if P.2.1 = (0 : Int32) then ((-1 : Int32), P) else (P.2.1 - (1 : Int32), (P.1, P.2.1 - (1 : Int32), P.2.2.1, P.2.2.2.1, P.2.2.2.2))
set_option maxHeartbeats 4000000 in
set_option maxRecDepth 100000 in
theorem c_F_withdraw (l : Launch) (D : va_G) (dA : Nat → ClassId) (ad : Nat → Nat) (A : Nat → Prop) (hAd : AdOK 49 ad A) (w : Nat → Int32) (P : PT) (g : GT) (ss : Nat → Int32) (M : MT) : Met l y_F_withdraw (mW y_F_withdraw b_F_withdraw 1 (some .int)) { frames := 0, cells := 0, slots := 0, locals := 0 } (va_Pc [.ref (ad 0)] (fun U => CG D dA ad w P g ss M U)) (va_Qi (fun (r : Int32) (u : PT) => r = (m_F_withdraw P).1 ∧ u = (m_F_withdraw P).2) (fun u t => CG D dA ad w u g ss M t) A) 0 0 A := by
  refine Met.ofW (cc := b_F_withdraw) (maxL := 1) (ret := (some .int)) (by decide) rfl ?_
  intro p e s m args below meth c s₁ B hml hv
  obtain ⟨rfl, hP, hK, hN⟩ := hv
  have hx := B.exec
  have hb := B.bytes
  have hr := B.returns
  have hlocks := B.notSynchronized
  have hts := fun (w : Cond) (h : w ∈ lw_g) => atoms_spec (ws := mW y_F_withdraw b_F_withdraw 1 (some .int)) B.pre w (List.mem_cons_of_mem _ h)
  have hown : s.vm.findClass R_F = some m.cls := findClass_of_methodNamed B.named
  have hS : va_S A s.heap s.heap [] := va_S.rf
  have hl := lv_entry ([.ref (ad 0)]) (n := 1) (Nat.le_of_ble_eq_true rfl)
  rw [lg_entry_eq]
  generalize (lg_sl ([.ref (ad 0)]) ++ List.replicate (1 - (lg_sl ([.ref (ad 0)])).length) Slot.unset).toArray = ls at hl ⊢
  have hl : lv_has ls 1 [(0, .ref (ad 0))] := hl
  refine lv_aload_n hx hb d_F_withdraw_0 rfl (lv_at hl 0 rfl) ?_
  refine va_get (D := D) (ci := 8) (v := .ref (ad 3)) (C := R_F) (T := F_F) (N := 5) hx hb hts in_F hown hK hP 0 rfl rfl 1 (by decide) (hts _ wd_209) (fun _ h9 => h9) rfl d_F_withdraw_1 ?_
  refine va_get (D := D) (ci := 5) (v := .int P.2.1) (C := R_Po) (T := F_Po) (N := 5) hx hb hts in_Po hown hK hP 3 rfl rfl 3 (by decide) (hts _ wd_133) (fun _ h9 => h9) rfl d_F_withdraw_4 ?_
  refine lv_if_ne (tgt := 12) hx hb d_F_withdraw_7 (by decide) (fun h1 => ?_) (fun h1 => ?_)
  · refine lv_aload_n hx hb d_F_withdraw_12 rfl (lv_at hl 0 rfl) ?_
    refine va_get (D := D) (ci := 8) (v := .ref (ad 3)) (C := R_F) (T := F_F) (N := 5) hx hb hts in_F hown hK hP 0 rfl rfl 1 (by decide) (hts _ wd_209) (fun _ h9 => h9) rfl d_F_withdraw_13 ?_
    refine lv_dup hx hb d_F_withdraw_16 rfl ?_
    refine va_get (D := D) (ci := 5) (v := .int P.2.1) (C := R_Po) (T := F_Po) (N := 5) hx hb hts in_Po hown hK hP 3 rfl rfl 3 (by decide) (hts _ wd_133) (fun _ h9 => h9) rfl d_F_withdraw_17 ?_
    refine lv_iconst (v := 1) hx hb d_F_withdraw_20 (by decide) ?_
    refine lv_isub hx hb d_F_withdraw_21 ?_
    refine va_put (D := D) (ci := 5) (v := .int (P.2.1 - (1 : Int32))) (ty := .int) (C := R_Po) (T := F_Po) (N := 5) hx hb hts in_Po t_Po k_Po n_Po hown hK hP (wC_D hAd) hS 3 rfl rfl 3 (by decide) (hts _ wd_133) (fun _ h9 => h9) rfl (by decide +kernel) rfl rfl (Nat.le_of_ble_eq_true rfl) d_F_withdraw_22 (fun H locs hP _ hS => ?_)
    have hP : va_P D cls (wC ad dA w (P.1, P.2.1 - (1 : Int32), P.2.2.1, P.2.2.2.1, P.2.2.2.2) g ss M) H := hP
    refine lv_aload_n hx hb d_F_withdraw_25 rfl (lv_at hl 0 rfl) ?_
    refine va_get (D := D) (ci := 8) (v := .ref (ad 3)) (C := R_F) (T := F_F) (N := 5) hx hb hts in_F hown hK hP 0 rfl rfl 1 (by decide) (hts _ wd_209) (fun _ h9 => h9) rfl d_F_withdraw_26 ?_
    refine va_get (D := D) (ci := 5) (v := .int (P.2.1 - (1 : Int32))) (C := R_Po) (T := F_Po) (N := 5) hx hb hts in_Po hown hK hP 3 rfl rfl 3 (by decide) (hts _ wd_133) (fun _ h9 => h9) rfl d_F_withdraw_29 ?_
    exact W.iret hx hb hr (fun t ht hW => ⟨⟨_, _, rfl, ⟨(by rw [m_F_withdraw, if_neg h1]), (by rw [m_F_withdraw, if_neg h1])⟩, CG_at hP hK hN ht hW⟩, hS.F ht⟩) hS.2.2 d_F_withdraw_32
  refine lv_iconst (v := -1) hx hb d_F_withdraw_10 (by decide) ?_
  exact W.iret hx hb hr (fun t ht hW => ⟨⟨_, _, rfl, ⟨(by rw [m_F_withdraw, if_pos h1]), (by rw [m_F_withdraw, if_pos h1])⟩, CG_at hP hK hN ht hW⟩, hS.F ht⟩) hS.2.2 d_F_withdraw_11
