theorem wd_17 : Cond.selects R_M y_M_code y_M_code ∈ lw_g := wd_in (i := 17) (by decide +kernel) (by decide +kernel)
theorem wd_18 : Cond.selects R_M y_M_k y_M_k ∈ lw_g := wd_in (i := 18) (by decide +kernel) (by decide +kernel)
theorem wd_19 : Cond.selects R_M y_M_jump y_M_jump ∈ lw_g := wd_in (i := 19) (by decide +kernel) (by decide +kernel)
theorem wd_641 : Cond.methodLink R_M 107 y_M_code ∈ lw_g := wd_in (i := 641) (by decide +kernel) (by decide +kernel)
theorem wd_643 : Cond.instanceMethod y_M_code ∈ lw_g := wd_in (i := 643) (by decide +kernel) (by decide +kernel)
theorem wd_644 : Cond.code y_M_code prog_12_method_17_code 2 (Option.some Jvm.ClassFile.FieldType.int) ∈ lw_g := wd_in (i := 644) (by decide +kernel) (by decide +kernel)
theorem wd_645 : Cond.constantLong R_M 103 65535 ∈ lw_g := wd_in (i := 645) (by decide +kernel) (by decide +kernel)
theorem wd_646 : Cond.methodLink R_M 111 y_M_k ∈ lw_g := wd_in (i := 646) (by decide +kernel) (by decide +kernel)
theorem wd_648 : Cond.instanceMethod y_M_k ∈ lw_g := wd_in (i := 648) (by decide +kernel) (by decide +kernel)
theorem wd_649 : Cond.code y_M_k prog_12_method_18_code 2 (Option.some Jvm.ClassFile.FieldType.long) ∈ lw_g := wd_in (i := 649) (by decide +kernel) (by decide +kernel)
theorem wd_650 : Cond.methodLink R_M 114 y_M_operation ∈ lw_g := wd_in (i := 650) (by decide +kernel) (by decide +kernel)
theorem wd_651 : Cond.static y_M_operation ∈ lw_g := wd_in (i := 651) (by decide +kernel) (by decide +kernel)
theorem wd_652 : Cond.code y_M_operation prog_12_method_20_code 2 (Option.some Jvm.ClassFile.FieldType.boolean) ∈ lw_g := wd_in (i := 652) (by decide +kernel) (by decide +kernel)
theorem wd_653 : Cond.methodLink R_M 117 y_M_branch ∈ lw_g := wd_in (i := 653) (by decide +kernel) (by decide +kernel)
theorem wd_654 : Cond.static y_M_branch ∈ lw_g := wd_in (i := 654) (by decide +kernel) (by decide +kernel)
theorem wd_655 : Cond.code y_M_branch prog_12_method_21_code 2 (Option.some Jvm.ClassFile.FieldType.boolean) ∈ lw_g := wd_in (i := 655) (by decide +kernel) (by decide +kernel)
theorem wd_656 : Cond.methodLink R_M 120 y_M_plainCode ∈ lw_g := wd_in (i := 656) (by decide +kernel) (by decide +kernel)
theorem wd_657 : Cond.static y_M_plainCode ∈ lw_g := wd_in (i := 657) (by decide +kernel) (by decide +kernel)
theorem wd_658 : Cond.code y_M_plainCode prog_12_method_22_code 2 (Option.some Jvm.ClassFile.FieldType.boolean) ∈ lw_g := wd_in (i := 658) (by decide +kernel) (by decide +kernel)
theorem wd_659 : Cond.constantLong R_M 123 4 ∈ lw_g := wd_in (i := 659) (by decide +kernel) (by decide +kernel)
theorem wd_660 : Cond.constantLong R_M 125 60 ∈ lw_g := wd_in (i := 660) (by decide +kernel) (by decide +kernel)
theorem wd_661 : Cond.methodLink R_M 127 y_M_scratchCode ∈ lw_g := wd_in (i := 661) (by decide +kernel) (by decide +kernel)
theorem wd_662 : Cond.static y_M_scratchCode ∈ lw_g := wd_in (i := 662) (by decide +kernel) (by decide +kernel)
theorem wd_663 : Cond.code y_M_scratchCode prog_12_method_23_code 1 (Option.some Jvm.ClassFile.FieldType.boolean) ∈ lw_g := wd_in (i := 663) (by decide +kernel) (by decide +kernel)
theorem wd_664 : Cond.constantLong R_M 130 15 ∈ lw_g := wd_in (i := 664) (by decide +kernel) (by decide +kernel)
theorem wd_665 : Cond.constantLong R_M 132 31 ∈ lw_g := wd_in (i := 665) (by decide +kernel) (by decide +kernel)
theorem wd_666 : Cond.methodLink R_M 134 y_M_jump ∈ lw_g := wd_in (i := 666) (by decide +kernel) (by decide +kernel)
theorem wd_668 : Cond.instanceMethod y_M_jump ∈ lw_g := wd_in (i := 668) (by decide +kernel) (by decide +kernel)
theorem wd_669 : Cond.code y_M_jump prog_12_method_19_code 3 (Option.some Jvm.ClassFile.FieldType.int) ∈ lw_g := wd_in (i := 669) (by decide +kernel) (by decide +kernel)
theorem wd_670 : Cond.constantLong R_M 105 255 ∈ lw_g := wd_in (i := 670) (by decide +kernel) (by decide +kernel)
theorem d_M_code_0 : decode b_M_code 0 = .ok (.aload_n 0, 1) := by decide +kernel
theorem d_M_code_1 : decode b_M_code 1 = .ok (.getfield 41, 3) := by decide +kernel
theorem d_M_code_4 : decode b_M_code 4 = .ok (.iload_n 1, 1) := by decide +kernel
theorem d_M_code_5 : decode b_M_code 5 = .ok (.laload, 1) := by decide +kernel
theorem d_M_code_6 : decode b_M_code 6 = .ok (.ldc2_w 103, 3) := by decide +kernel
theorem d_M_code_9 : decode b_M_code 9 = .ok (.land, 1) := by decide +kernel
theorem d_M_code_10 : decode b_M_code 10 = .ok (.l2i, 1) := by decide +kernel
theorem d_M_code_11 : decode b_M_code 11 = .ok (.ireturn, 1) := by decide +kernel
theorem d_M_k_0 : decode b_M_k 0 = .ok (.aload_n 0, 1) := by decide +kernel
theorem d_M_k_1 : decode b_M_k 1 = .ok (.getfield 41, 3) := by decide +kernel
theorem d_M_k_4 : decode b_M_k 4 = .ok (.iload_n 1, 1) := by decide +kernel
theorem d_M_k_5 : decode b_M_k 5 = .ok (.laload, 1) := by decide +kernel
theorem d_M_k_6 : decode b_M_k 6 = .ok (.bipush 32, 2) := by decide +kernel
theorem d_M_k_8 : decode b_M_k 8 = .ok (.lushr, 1) := by decide +kernel
theorem d_M_k_9 : decode b_M_k 9 = .ok (.lreturn, 1) := by decide +kernel
theorem d_M_jump_0 : decode b_M_jump 0 = .ok (.aload_n 0, 1) := by decide +kernel
theorem d_M_jump_1 : decode b_M_jump 1 = .ok (.getfield 41, 3) := by decide +kernel
theorem d_M_jump_4 : decode b_M_jump 4 = .ok (.iload_n 1, 1) := by decide +kernel
theorem d_M_jump_5 : decode b_M_jump 5 = .ok (.laload, 1) := by decide +kernel
theorem d_M_jump_6 : decode b_M_jump 6 = .ok (.iload_n 2, 1) := by decide +kernel
theorem d_M_jump_7 : decode b_M_jump 7 = .ok (.ifCond .eq 8, 3) := by decide +kernel
theorem d_M_jump_10 : decode b_M_jump 10 = .ok (.bipush 16, 2) := by decide +kernel
theorem d_M_jump_12 : decode b_M_jump 12 = .ok (.goto 5, 3) := by decide +kernel
theorem d_M_jump_15 : decode b_M_jump 15 = .ok (.bipush 24, 2) := by decide +kernel
theorem d_M_jump_17 : decode b_M_jump 17 = .ok (.lshr, 1) := by decide +kernel
theorem d_M_jump_18 : decode b_M_jump 18 = .ok (.ldc2_w 105, 3) := by decide +kernel
theorem d_M_jump_21 : decode b_M_jump 21 = .ok (.land, 1) := by decide +kernel
theorem d_M_jump_22 : decode b_M_jump 22 = .ok (.l2i, 1) := by decide +kernel
theorem d_M_jump_23 : decode b_M_jump 23 = .ok (.ireturn, 1) := by decide +kernel
theorem d_M_fault_0 : decode b_M_fault 0 = .ok (.aload_n 0, 1) := by decide +kernel
theorem d_M_fault_1 : decode b_M_fault 1 = .ok (.iload_n 1, 1) := by decide +kernel
theorem d_M_fault_2 : decode b_M_fault 2 = .ok (.invokevirtual 107, 3) := by decide +kernel
theorem d_M_fault_5 : decode b_M_fault 5 = .ok (.istore_n 2, 1) := by decide +kernel
theorem d_M_fault_6 : decode b_M_fault 6 = .ok (.aload_n 0, 1) := by decide +kernel
theorem d_M_fault_7 : decode b_M_fault 7 = .ok (.iload_n 1, 1) := by decide +kernel
theorem d_M_fault_8 : decode b_M_fault 8 = .ok (.invokevirtual 111, 3) := by decide +kernel
theorem d_M_fault_11 : decode b_M_fault 11 = .ok (.lstore_n 3, 1) := by decide +kernel
theorem d_M_fault_12 : decode b_M_fault 12 = .ok (.iload_n 2, 1) := by decide +kernel
theorem d_M_fault_13 : decode b_M_fault 13 = .ok (.invokestatic 114, 3) := by decide +kernel
theorem d_M_fault_16 : decode b_M_fault 16 = .ok (.ifCond .ne 19, 3) := by decide +kernel
theorem d_M_fault_19 : decode b_M_fault 19 = .ok (.iload_n 2, 1) := by decide +kernel
theorem d_M_fault_20 : decode b_M_fault 20 = .ok (.invokestatic 117, 3) := by decide +kernel
theorem d_M_fault_23 : decode b_M_fault 23 = .ok (.ifCond .ne 12, 3) := by decide +kernel
theorem d_M_fault_26 : decode b_M_fault 26 = .ok (.iload_n 2, 1) := by decide +kernel
theorem d_M_fault_27 : decode b_M_fault 27 = .ok (.invokestatic 120, 3) := by decide +kernel
theorem d_M_fault_30 : decode b_M_fault 30 = .ok (.ifCond .ne 5, 3) := by decide +kernel
theorem d_M_fault_33 : decode b_M_fault 33 = .ok (.iconst 2, 1) := by decide +kernel
theorem d_M_fault_34 : decode b_M_fault 34 = .ok (.ireturn, 1) := by decide +kernel
theorem d_M_fault_35 : decode b_M_fault 35 = .ok (.iload_n 2, 1) := by decide +kernel
theorem d_M_fault_36 : decode b_M_fault 36 = .ok (.bipush 32, 2) := by decide +kernel
theorem d_M_fault_38 : decode b_M_fault 38 = .ok (.if_icmp .ne 21, 3) := by decide +kernel
theorem d_M_fault_41 : decode b_M_fault 41 = .ok (.lload_n 3, 1) := by decide +kernel
theorem d_M_fault_42 : decode b_M_fault 42 = .ok (.ldc2_w 123, 3) := by decide +kernel
theorem d_M_fault_45 : decode b_M_fault 45 = .ok (.lrem, 1) := by decide +kernel
theorem d_M_fault_46 : decode b_M_fault 46 = .ok (.lconst 0, 1) := by decide +kernel
theorem d_M_fault_47 : decode b_M_fault 47 = .ok (.lcmp, 1) := by decide +kernel
theorem d_M_fault_48 : decode b_M_fault 48 = .ok (.ifCond .ne 26, 3) := by decide +kernel
theorem d_M_fault_51 : decode b_M_fault 51 = .ok (.lload_n 3, 1) := by decide +kernel
theorem d_M_fault_52 : decode b_M_fault 52 = .ok (.ldc2_w 125, 3) := by decide +kernel
theorem d_M_fault_55 : decode b_M_fault 55 = .ok (.lcmp, 1) := by decide +kernel
theorem d_M_fault_56 : decode b_M_fault 56 = .ok (.ifCond .gt 18, 3) := by decide +kernel
theorem d_M_fault_59 : decode b_M_fault 59 = .ok (.iload_n 2, 1) := by decide +kernel
theorem d_M_fault_60 : decode b_M_fault 60 = .ok (.invokestatic 127, 3) := by decide +kernel
theorem d_M_fault_63 : decode b_M_fault 63 = .ok (.ifCond .eq 15, 3) := by decide +kernel
theorem d_M_fault_66 : decode b_M_fault 66 = .ok (.lload_n 3, 1) := by decide +kernel
theorem d_M_fault_67 : decode b_M_fault 67 = .ok (.ldc2_w 130, 3) := by decide +kernel
theorem d_M_fault_70 : decode b_M_fault 70 = .ok (.lcmp, 1) := by decide +kernel
theorem d_M_fault_71 : decode b_M_fault 71 = .ok (.ifCond .le 7, 3) := by decide +kernel
theorem d_M_fault_74 : decode b_M_fault 74 = .ok (.iconst 1, 1) := by decide +kernel
theorem d_M_fault_75 : decode b_M_fault 75 = .ok (.goto 4, 3) := by decide +kernel
theorem d_M_fault_78 : decode b_M_fault 78 = .ok (.iconst 0, 1) := by decide +kernel
theorem d_M_fault_79 : decode b_M_fault 79 = .ok (.istore 5, 2) := by decide +kernel
theorem d_M_fault_81 : decode b_M_fault 81 = .ok (.iload 5, 2) := by decide +kernel
theorem d_M_fault_83 : decode b_M_fault 83 = .ok (.ifCond .ne 35, 3) := by decide +kernel
theorem d_M_fault_86 : decode b_M_fault 86 = .ok (.iload_n 2, 1) := by decide +kernel
theorem d_M_fault_87 : decode b_M_fault 87 = .ok (.bipush 52, 2) := by decide +kernel
theorem d_M_fault_89 : decode b_M_fault 89 = .ok (.if_icmp .ne 9, 3) := by decide +kernel
theorem d_M_fault_92 : decode b_M_fault 92 = .ok (.lload_n 3, 1) := by decide +kernel
theorem d_M_fault_93 : decode b_M_fault 93 = .ok (.lconst 0, 1) := by decide +kernel
theorem d_M_fault_94 : decode b_M_fault 94 = .ok (.lcmp, 1) := by decide +kernel
theorem d_M_fault_95 : decode b_M_fault 95 = .ok (.ifCond .eq 23, 3) := by decide +kernel
theorem d_M_fault_98 : decode b_M_fault 98 = .ok (.iload_n 2, 1) := by decide +kernel
theorem d_M_fault_99 : decode b_M_fault 99 = .ok (.bipush 100, 2) := by decide +kernel
theorem d_M_fault_101 : decode b_M_fault 101 = .ok (.if_icmp .eq 9, 3) := by decide +kernel
theorem d_M_fault_104 : decode b_M_fault 104 = .ok (.iload_n 2, 1) := by decide +kernel
theorem d_M_fault_105 : decode b_M_fault 105 = .ok (.bipush 116, 2) := by decide +kernel
theorem d_M_fault_107 : decode b_M_fault 107 = .ok (.if_icmp .ne 13, 3) := by decide +kernel
theorem d_M_fault_110 : decode b_M_fault 110 = .ok (.lload_n 3, 1) := by decide +kernel
theorem d_M_fault_111 : decode b_M_fault 111 = .ok (.ldc2_w 132, 3) := by decide +kernel
theorem d_M_fault_114 : decode b_M_fault 114 = .ok (.lcmp, 1) := by decide +kernel
theorem d_M_fault_115 : decode b_M_fault 115 = .ok (.ifCond .le 5, 3) := by decide +kernel
theorem d_M_fault_118 : decode b_M_fault 118 = .ok (.iconst 3, 1) := by decide +kernel
theorem d_M_fault_119 : decode b_M_fault 119 = .ok (.ireturn, 1) := by decide +kernel
theorem d_M_fault_120 : decode b_M_fault 120 = .ok (.iload_n 2, 1) := by decide +kernel
theorem d_M_fault_121 : decode b_M_fault 121 = .ok (.iconst 5, 1) := by decide +kernel
theorem d_M_fault_122 : decode b_M_fault 122 = .ok (.if_icmp .ne 22, 3) := by decide +kernel
theorem d_M_fault_125 : decode b_M_fault 125 = .ok (.iload_n 1, 1) := by decide +kernel
theorem d_M_fault_126 : decode b_M_fault 126 = .ok (.iconst 1, 1) := by decide +kernel
theorem d_M_fault_127 : decode b_M_fault 127 = .ok (.iadd, 1) := by decide +kernel
theorem d_M_fault_128 : decode b_M_fault 128 = .ok (.i2l, 1) := by decide +kernel
theorem d_M_fault_129 : decode b_M_fault 129 = .ok (.lload_n 3, 1) := by decide +kernel
theorem d_M_fault_130 : decode b_M_fault 130 = .ok (.ladd, 1) := by decide +kernel
theorem d_M_fault_131 : decode b_M_fault 131 = .ok (.aload_n 0, 1) := by decide +kernel
theorem d_M_fault_132 : decode b_M_fault 132 = .ok (.getfield 100, 3) := by decide +kernel
theorem d_M_fault_135 : decode b_M_fault 135 = .ok (.i2l, 1) := by decide +kernel
theorem d_M_fault_136 : decode b_M_fault 136 = .ok (.lcmp, 1) := by decide +kernel
theorem d_M_fault_137 : decode b_M_fault 137 = .ok (.ifCond .lt 7, 3) := by decide +kernel
theorem d_M_fault_140 : decode b_M_fault 140 = .ok (.iconst 1, 1) := by decide +kernel
theorem d_M_fault_141 : decode b_M_fault 141 = .ok (.goto 4, 3) := by decide +kernel
theorem d_M_fault_144 : decode b_M_fault 144 = .ok (.iconst 0, 1) := by decide +kernel
theorem d_M_fault_145 : decode b_M_fault 145 = .ok (.istore 6, 2) := by decide +kernel
theorem d_M_fault_147 : decode b_M_fault 147 = .ok (.iload_n 2, 1) := by decide +kernel
theorem d_M_fault_148 : decode b_M_fault 148 = .ok (.invokestatic 117, 3) := by decide +kernel
theorem d_M_fault_151 : decode b_M_fault 151 = .ok (.ifCond .eq 44, 3) := by decide +kernel
theorem d_M_fault_154 : decode b_M_fault 154 = .ok (.iload_n 1, 1) := by decide +kernel
theorem d_M_fault_155 : decode b_M_fault 155 = .ok (.iconst 1, 1) := by decide +kernel
theorem d_M_fault_156 : decode b_M_fault 156 = .ok (.iadd, 1) := by decide +kernel
theorem d_M_fault_157 : decode b_M_fault 157 = .ok (.aload_n 0, 1) := by decide +kernel
theorem d_M_fault_158 : decode b_M_fault 158 = .ok (.iload_n 1, 1) := by decide +kernel
theorem d_M_fault_159 : decode b_M_fault 159 = .ok (.iconst 1, 1) := by decide +kernel
theorem d_M_fault_160 : decode b_M_fault 160 = .ok (.invokevirtual 134, 3) := by decide +kernel
theorem d_M_fault_163 : decode b_M_fault 163 = .ok (.iadd, 1) := by decide +kernel
theorem d_M_fault_164 : decode b_M_fault 164 = .ok (.aload_n 0, 1) := by decide +kernel
theorem d_M_fault_165 : decode b_M_fault 165 = .ok (.getfield 100, 3) := by decide +kernel
theorem d_M_fault_168 : decode b_M_fault 168 = .ok (.if_icmp .ge 20, 3) := by decide +kernel
theorem d_M_fault_171 : decode b_M_fault 171 = .ok (.iload_n 1, 1) := by decide +kernel
theorem d_M_fault_172 : decode b_M_fault 172 = .ok (.iconst 1, 1) := by decide +kernel
theorem d_M_fault_173 : decode b_M_fault 173 = .ok (.iadd, 1) := by decide +kernel
theorem d_M_fault_174 : decode b_M_fault 174 = .ok (.aload_n 0, 1) := by decide +kernel
theorem d_M_fault_175 : decode b_M_fault 175 = .ok (.iload_n 1, 1) := by decide +kernel
theorem d_M_fault_176 : decode b_M_fault 176 = .ok (.iconst 0, 1) := by decide +kernel
theorem d_M_fault_177 : decode b_M_fault 177 = .ok (.invokevirtual 134, 3) := by decide +kernel
theorem d_M_fault_180 : decode b_M_fault 180 = .ok (.iadd, 1) := by decide +kernel
theorem d_M_fault_181 : decode b_M_fault 181 = .ok (.aload_n 0, 1) := by decide +kernel
theorem d_M_fault_182 : decode b_M_fault 182 = .ok (.getfield 100, 3) := by decide +kernel
theorem d_M_fault_185 : decode b_M_fault 185 = .ok (.if_icmp .lt 7, 3) := by decide +kernel
theorem d_M_fault_188 : decode b_M_fault 188 = .ok (.iconst 1, 1) := by decide +kernel
theorem d_M_fault_189 : decode b_M_fault 189 = .ok (.goto 4, 3) := by decide +kernel
theorem d_M_fault_192 : decode b_M_fault 192 = .ok (.iconst 0, 1) := by decide +kernel
theorem d_M_fault_193 : decode b_M_fault 193 = .ok (.istore 6, 2) := by decide +kernel
theorem d_M_fault_195 : decode b_M_fault 195 = .ok (.iload 6, 2) := by decide +kernel
theorem d_M_fault_197 : decode b_M_fault 197 = .ok (.ifCond .eq 7, 3) := by decide +kernel
theorem d_M_fault_200 : decode b_M_fault 200 = .ok (.iconst 4, 1) := by decide +kernel
theorem d_M_fault_201 : decode b_M_fault 201 = .ok (.goto 4, 3) := by decide +kernel
theorem d_M_fault_204 : decode b_M_fault 204 = .ok (.iconst 0, 1) := by decide +kernel
theorem d_M_fault_205 : decode b_M_fault 205 = .ok (.ireturn, 1) := by decide +kernel
theorem d_M_ends_0 : decode b_M_ends 0 = .ok (.aload_n 0, 1) := by decide +kernel
theorem d_M_ends_1 : decode b_M_ends 1 = .ok (.iload_n 1, 1) := by decide +kernel
theorem d_M_ends_2 : decode b_M_ends 2 = .ok (.invokevirtual 107, 3) := by decide +kernel
theorem d_M_ends_5 : decode b_M_ends 5 = .ok (.bipush 6, 2) := by decide +kernel
theorem d_M_ends_7 : decode b_M_ends 7 = .ok (.if_icmp .eq 13, 3) := by decide +kernel
theorem d_M_ends_10 : decode b_M_ends 10 = .ok (.aload_n 0, 1) := by decide +kernel
theorem d_M_ends_11 : decode b_M_ends 11 = .ok (.iload_n 1, 1) := by decide +kernel
theorem d_M_ends_12 : decode b_M_ends 12 = .ok (.invokevirtual 107, 3) := by decide +kernel
theorem d_M_ends_15 : decode b_M_ends 15 = .ok (.bipush 22, 2) := by decide +kernel
theorem d_M_ends_17 : decode b_M_ends 17 = .ok (.if_icmp .ne 7, 3) := by decide +kernel
theorem d_M_ends_20 : decode b_M_ends 20 = .ok (.iconst 1, 1) := by decide +kernel
theorem d_M_ends_21 : decode b_M_ends 21 = .ok (.goto 4, 3) := by decide +kernel
theorem d_M_ends_24 : decode b_M_ends 24 = .ok (.iconst 0, 1) := by decide +kernel
theorem d_M_ends_25 : decode b_M_ends 25 = .ok (.ireturn, 1) := by decide +kernel
def m_M_code (G : GT) (i : Int32) : Int32 := ((G.2 i.toNatClampNeg) &&& (65535 : Int64)).toInt32
set_option maxHeartbeats 4000000 in
set_option maxRecDepth 100000 in
theorem c_M_code (l : Launch) (D : va_G) (dA : Nat → ClassId) (ad : Nat → Nat) (ho : Int32) (wo : Nat → Int32) (Q : QT) (G : GT) (mk : Nat → Int32) (X : XT) (i : Int32) (hi : vp_in i 64) : Met l y_M_code (mW y_M_code b_M_code 2 (some .int)) { frames := 0, cells := 0, slots := 0, locals := 0 } (va_Pc [.ref (ad 0), .int i] (fun U => MG D dA ad ho wo Q G mk X U)) (vp_Si (fun r => r = m_M_code G i)) 0 0 (fun _ => False) := by
  refine Met.ofW (cc := b_M_code) (maxL := 2) (ret := (some .int)) (by decide) rfl ?_
  intro p e s m args below meth c s₁ B hml hv
  obtain ⟨rfl, hP, hK⟩ := hv
  have hx := B.exec
  have hb := B.bytes
  have hr := B.returns
  have hlocks := B.notSynchronized
  have hts := fun (w : Cond) (h : w ∈ lw_g) => atoms_spec (ws := mW y_M_code b_M_code 2 (some .int)) B.pre w (List.mem_cons_of_mem _ h)
  have hown : s.vm.findClass R_M = some m.cls := findClass_of_methodNamed B.named
  have hl := lv_entry ([.ref (ad 0), .int i]) (n := 2) (Nat.le_of_ble_eq_true rfl)
  rw [lg_entry_eq]
  generalize (lg_sl ([.ref (ad 0), .int i]) ++ List.replicate (2 - (lg_sl ([.ref (ad 0), .int i])).length) Slot.unset).toArray = ls at hl ⊢
  have hl : lv_has ls 2 [(0, .ref (ad 0)), (1, .int i)] := hl
  refine lv_aload_n hx hb d_M_code_0 rfl (lv_at hl 0 rfl) ?_
  refine va_get (D := D) (ci := 9) (v := .ref (ad 11)) (C := R_M) (T := F_M) (N := 20) hx hb hts in_M hown hK hP 0 rfl rfl 13 (by decide) (hts _ wd_513) (fun _ h9 => h9) rfl d_M_code_1 ?_
  refine lv_iload_n hx hb d_M_code_4 rfl (lv_at hl 1 rfl) ?_
  refine va_lald (n := 64) (f := G.2) hx hb hK hP 11 1 rfl rfl hi d_M_code_5 ?_
  refine lv_ldc2 (v := 65535) hx hb hown (hts _ wd_645) d_M_code_6 ?_
  refine lv_land hx hb d_M_code_9 ?_
  refine lv_l2i hx hb d_M_code_10 rfl ?_
  exact W.iret hx hb hr (fun t ht hW => ⟨_, rfl, (by rw [m_M_code]), ht⟩) (fun _ h => by cases h) d_M_code_11
def m_M_k (G : GT) (i : Int32) : Int64 := ((G.2 i.toNatClampNeg).toUInt64 >>> ((32 : Int32).toInt64.toUInt64 &&& Int64.toUInt64 63)).toInt64
set_option maxHeartbeats 4000000 in
set_option maxRecDepth 100000 in
theorem c_M_k (l : Launch) (D : va_G) (dA : Nat → ClassId) (ad : Nat → Nat) (ho : Int32) (wo : Nat → Int32) (Q : QT) (G : GT) (mk : Nat → Int32) (X : XT) (i : Int32) (hi : vp_in i 64) : Met l y_M_k (mW y_M_k b_M_k 2 (some .long)) { frames := 0, cells := 0, slots := 0, locals := 0 } (va_Pc [.ref (ad 0), .int i] (fun U => MG D dA ad ho wo Q G mk X U)) (vp_Sl (fun r => r = m_M_k G i)) 0 0 (fun _ => False) := by
  refine Met.ofW (cc := b_M_k) (maxL := 2) (ret := (some .long)) (by decide) rfl ?_
  intro p e s m args below meth c s₁ B hml hv
  obtain ⟨rfl, hP, hK⟩ := hv
  have hx := B.exec
  have hb := B.bytes
  have hr := B.returns
  have hlocks := B.notSynchronized
  have hts := fun (w : Cond) (h : w ∈ lw_g) => atoms_spec (ws := mW y_M_k b_M_k 2 (some .long)) B.pre w (List.mem_cons_of_mem _ h)
  have hown : s.vm.findClass R_M = some m.cls := findClass_of_methodNamed B.named
  have hl := lv_entry ([.ref (ad 0), .int i]) (n := 2) (Nat.le_of_ble_eq_true rfl)
  rw [lg_entry_eq]
  generalize (lg_sl ([.ref (ad 0), .int i]) ++ List.replicate (2 - (lg_sl ([.ref (ad 0), .int i])).length) Slot.unset).toArray = ls at hl ⊢
  have hl : lv_has ls 2 [(0, .ref (ad 0)), (1, .int i)] := hl
  refine lv_aload_n hx hb d_M_k_0 rfl (lv_at hl 0 rfl) ?_
  refine va_get (D := D) (ci := 9) (v := .ref (ad 11)) (C := R_M) (T := F_M) (N := 20) hx hb hts in_M hown hK hP 0 rfl rfl 13 (by decide) (hts _ wd_513) (fun _ h9 => h9) rfl d_M_k_1 ?_
  refine lv_iload_n hx hb d_M_k_4 rfl (lv_at hl 1 rfl) ?_
  refine va_lald (n := 64) (f := G.2) hx hb hK hP 11 1 rfl rfl hi d_M_k_5 ?_
  refine lv_bipush (v := 32) hx hb d_M_k_6 (by decide) ?_
  refine lv_lushr hx hb d_M_k_8 rfl ?_
  exact W.lret hx hb hr (fun t ht hW => ⟨_, rfl, (by rw [m_M_k]), ht⟩) (fun _ h => by cases h) d_M_k_9
def m_M_jump (G : GT) (i : Int32) (tk : Int32) : Int32 := if tk = (0 : Int32) then (((G.2 i.toNatClampNeg) >>> ((24 : Int32).toInt64 &&& 63)) &&& (255 : Int64)).toInt32 else (((G.2 i.toNatClampNeg) >>> ((16 : Int32).toInt64 &&& 63)) &&& (255 : Int64)).toInt32
set_option maxHeartbeats 4000000 in
set_option maxRecDepth 100000 in
theorem c_M_jump (l : Launch) (D : va_G) (dA : Nat → ClassId) (ad : Nat → Nat) (ho : Int32) (wo : Nat → Int32) (Q : QT) (G : GT) (mk : Nat → Int32) (X : XT) (i : Int32) (tk : Int32) (hi : vp_in i 64) : Met l y_M_jump (mW y_M_jump b_M_jump 3 (some .int)) { frames := 0, cells := 0, slots := 0, locals := 0 } (va_Pc [.ref (ad 0), .int i, .int tk] (fun U => MG D dA ad ho wo Q G mk X U)) (vp_Si (fun r => r = m_M_jump G i tk)) 0 0 (fun _ => False) := by
  refine Met.ofW (cc := b_M_jump) (maxL := 3) (ret := (some .int)) (by decide) rfl ?_
  intro p e s m args below meth c s₁ B hml hv
  obtain ⟨rfl, hP, hK⟩ := hv
  have hx := B.exec
  have hb := B.bytes
  have hr := B.returns
  have hlocks := B.notSynchronized
  have hts := fun (w : Cond) (h : w ∈ lw_g) => atoms_spec (ws := mW y_M_jump b_M_jump 3 (some .int)) B.pre w (List.mem_cons_of_mem _ h)
  have hown : s.vm.findClass R_M = some m.cls := findClass_of_methodNamed B.named
  have hl := lv_entry ([.ref (ad 0), .int i, .int tk]) (n := 3) (Nat.le_of_ble_eq_true rfl)
  rw [lg_entry_eq]
  generalize (lg_sl ([.ref (ad 0), .int i, .int tk]) ++ List.replicate (3 - (lg_sl ([.ref (ad 0), .int i, .int tk])).length) Slot.unset).toArray = ls at hl ⊢
  have hl : lv_has ls 3 [(0, .ref (ad 0)), (1, .int i), (2, .int tk)] := hl
  refine lv_aload_n hx hb d_M_jump_0 rfl (lv_at hl 0 rfl) ?_
  refine va_get (D := D) (ci := 9) (v := .ref (ad 11)) (C := R_M) (T := F_M) (N := 20) hx hb hts in_M hown hK hP 0 rfl rfl 13 (by decide) (hts _ wd_513) (fun _ h9 => h9) rfl d_M_jump_1 ?_
  refine lv_iload_n hx hb d_M_jump_4 rfl (lv_at hl 1 rfl) ?_
  refine va_lald (n := 64) (f := G.2) hx hb hK hP 11 1 rfl rfl hi d_M_jump_5 ?_
  refine lv_iload_n hx hb d_M_jump_6 rfl (lv_at hl 2 rfl) ?_
  refine lv_if_eq (tgt := 15) hx hb d_M_jump_7 (by decide) (fun h1 => ?_) (fun h1 => ?_)
  · refine lv_bipush (v := 24) hx hb d_M_jump_15 (by decide) ?_
    refine lv_lshr hx hb d_M_jump_17 rfl ?_
    refine lv_ldc2 (v := 255) hx hb hown (hts _ wd_670) d_M_jump_18 ?_
    refine lv_land hx hb d_M_jump_21 ?_
    refine lv_l2i hx hb d_M_jump_22 rfl ?_
    exact W.iret hx hb hr (fun t ht hW => ⟨_, rfl, (by rw [m_M_jump, if_pos h1]), ht⟩) (fun _ h => by cases h) d_M_jump_23
  refine lv_bipush (v := 16) hx hb d_M_jump_10 (by decide) ?_
  refine lv_goto (tgt := 17) hx hb d_M_jump_12 (by decide) ?_
  refine lv_lshr hx hb d_M_jump_17 rfl ?_
  refine lv_ldc2 (v := 255) hx hb hown (hts _ wd_670) d_M_jump_18 ?_
  refine lv_land hx hb d_M_jump_21 ?_
  refine lv_l2i hx hb d_M_jump_22 rfl ?_
  exact W.iret hx hb hr (fun t ht hW => ⟨_, rfl, (by rw [m_M_jump, if_neg h1]), ht⟩) (fun _ h => by cases h) d_M_jump_23
def m_M_fault_j35 (G : GT) (i : Int32) : Int32 := if (m_M_code G i) = (32 : Int32) then if (lg_cmp ((m_M_k G i) - (m_M_k G i) / (4 : Int64) * (4 : Int64)) (0 : Int64)) = (0 : Int32) then if (0 : Int32) < (lg_cmp (m_M_k G i) (60 : Int64)) then (1 : Int32) else if (m_M_scratchCode (m_M_code G i)) = (0 : Int32) then (0 : Int32) else if (lg_cmp (m_M_k G i) (15 : Int64)) ≤ (0 : Int32) then (0 : Int32) else (1 : Int32) else (1 : Int32) else if (m_M_scratchCode (m_M_code G i)) = (0 : Int32) then (0 : Int32) else if (lg_cmp (m_M_k G i) (15 : Int64)) ≤ (0 : Int32) then (0 : Int32) else (1 : Int32)
def m_M_fault_j120 (G : GT) (i : Int32) : Int32 := if (m_M_code G i) = (5 : Int32) then if (lg_cmp (((i + (1 : Int32)).toInt64) + (m_M_k G i)) G.1.toInt64) < (0 : Int32) then (0 : Int32) else (1 : Int32) else (0 : Int32)
def m_M_fault_j154 (G : GT) (i : Int32) : Int32 := if G.1 ≤ ((i + (1 : Int32)) + (m_M_jump G i (1 : Int32))) then (1 : Int32) else if ((i + (1 : Int32)) + (m_M_jump G i (0 : Int32))) < G.1 then (0 : Int32) else (1 : Int32)
def m_M_fault_t120 (G : GT) (i : Int32) : Int32 := if (m_M_branch (m_M_code G i)) = (0 : Int32) then if (m_M_fault_j120 G i) = (0 : Int32) then (0 : Int32) else (4 : Int32) else if (m_M_fault_j154 G i) = (0 : Int32) then (0 : Int32) else (4 : Int32)
def m_M_fault_t35 (G : GT) (i : Int32) : Int32 := if (m_M_fault_j35 G i) = (0 : Int32) then if (m_M_code G i) = (52 : Int32) then if (lg_cmp (m_M_k G i) (0 : Int64)) = (0 : Int32) then (3 : Int32) else if (m_M_code G i) = (100 : Int32) then if (lg_cmp (m_M_k G i) (31 : Int64)) ≤ (0 : Int32) then m_M_fault_t120 G i else (3 : Int32) else if (m_M_code G i) = (116 : Int32) then if (lg_cmp (m_M_k G i) (31 : Int64)) ≤ (0 : Int32) then m_M_fault_t120 G i else (3 : Int32) else m_M_fault_t120 G i else if (m_M_code G i) = (100 : Int32) then if (lg_cmp (m_M_k G i) (31 : Int64)) ≤ (0 : Int32) then m_M_fault_t120 G i else (3 : Int32) else if (m_M_code G i) = (116 : Int32) then if (lg_cmp (m_M_k G i) (31 : Int64)) ≤ (0 : Int32) then m_M_fault_t120 G i else (3 : Int32) else m_M_fault_t120 G i else (3 : Int32)
def m_M_fault (G : GT) (i : Int32) : Int32 := if (m_M_operation (m_M_code G i)) = (0 : Int32) then if (m_M_branch (m_M_code G i)) = (0 : Int32) then if (m_M_plainCode (m_M_code G i)) = (0 : Int32) then (2 : Int32) else m_M_fault_t35 G i else m_M_fault_t35 G i else m_M_fault_t35 G i
set_option maxHeartbeats 4000000 in
set_option maxRecDepth 100000 in
theorem c_M_fault (l : Launch) (D : va_G) (dA : Nat → ClassId) (ad : Nat → Nat) (ho : Int32) (wo : Nat → Int32) (Q : QT) (G : GT) (mk : Nat → Int32) (X : XT) (i : Int32) (hi : vp_in i 64) : Met l y_M_fault (mW y_M_fault b_M_fault 7 (some .int)) { frames := 1, cells := 0, slots := 0, locals := 22 } (va_Pc [.ref (ad 0), .int i] (fun U => MG D dA ad ho wo Q G mk X U)) (vp_Si (fun r => r = m_M_fault G i)) 0 0 (fun _ => False) := by
  refine Met.ofW (cc := b_M_fault) (maxL := 7) (ret := (some .int)) (by decide) rfl ?_
  intro p e s m args below meth c s₁ B hml hv
  obtain ⟨rfl, hP, hK⟩ := hv
  have hx := B.exec
  have hb := B.bytes
  have hr := B.returns
  have hlocks := B.notSynchronized
  have hts := fun (w : Cond) (h : w ∈ lw_g) => atoms_spec (ws := mW y_M_fault b_M_fault 7 (some .int)) B.pre w (List.mem_cons_of_mem _ h)
  have hown : s.vm.findClass R_M = some m.cls := findClass_of_methodNamed B.named
  have hl := lv_entry ([.ref (ad 0), .int i]) (n := 7) (Nat.le_of_ble_eq_true rfl)
  rw [lg_entry_eq]
  generalize (lg_sl ([.ref (ad 0), .int i]) ++ List.replicate (7 - (lg_sl ([.ref (ad 0), .int i])).length) Slot.unset).toArray = ls at hl ⊢
  have hl : lv_has ls 7 [(0, .ref (ad 0)), (1, .int i)] := hl
  refine lv_aload_n hx hb d_M_fault_0 rfl (lv_at hl 0 rfl) ?_
  refine lv_iload_n hx hb d_M_fault_1 rfl (lv_at hl 1 rfl) ?_
  refine vp_callSi (va_Run.run (va_runV (As := [.int i]) (rest := []) ⟨hx, hb, hml, hown, hts⟩ (c_M_code l D dA ad ho wo Q G mk X i hi) (cwV 1 hts (g_V wd_641 wd_643 wd_17 wd_35 wd_644) rfl rfl rfl (by decide +kernel) ⟨Nat.le_of_ble_eq_true rfl, Nat.le_of_ble_eq_true rfl⟩) ⟨MG_fb, (va_recv (ci := 9) (q := (R_M, F_M, 20)) (q0 := 0) hK hP rfl rfl), fun U hU hW => ⟨rfl, MG_at hP hK hU hW⟩⟩ rfl rfl hl.1 rfl (lv_room (Nat.le_of_ble_eq_true rfl)) d_M_fault_2 ⟨Nat.le_of_ble_eq_true rfl, Nat.le_of_ble_eq_true rfl⟩)) (fun r1 e1 => ?_)
  subst e1
  refine lv_istore_n hx hb d_M_fault_5 rfl hl (by decide) rfl (fun ls hl => ?_)
  have hl : lv_has ls 7 [(2, .int (m_M_code G i)), (0, .ref (ad 0)), (1, .int i)] := hl
  refine lv_aload_n hx hb d_M_fault_6 rfl (lv_at hl 1 rfl) ?_
  refine lv_iload_n hx hb d_M_fault_7 rfl (lv_at hl 2 rfl) ?_
  refine vp_callSl (va_Run.run (va_runV (As := [.int i]) (rest := []) ⟨hx, hb, hml, hown, hts⟩ (c_M_k l D dA ad ho wo Q G mk X i hi) (cwV 1 hts (g_V wd_646 wd_648 wd_18 wd_35 wd_649) rfl rfl rfl (by decide +kernel) ⟨Nat.le_of_ble_eq_true rfl, Nat.le_of_ble_eq_true rfl⟩) ⟨MG_fb, (va_recv (ci := 9) (q := (R_M, F_M, 20)) (q0 := 0) hK hP rfl rfl), fun U hU hW => ⟨rfl, MG_at hP hK hU hW⟩⟩ rfl rfl hl.1 rfl (lv_room (Nat.le_of_ble_eq_true rfl)) d_M_fault_8 ⟨Nat.le_of_ble_eq_true rfl, Nat.le_of_ble_eq_true rfl⟩)) (fun r2 e2 => ?_)
  subst e2
  refine lv_lstore_n hx hb d_M_fault_11 rfl hl (by decide) rfl (fun ls hl => ?_)
  have hl : lv_has ls 7 [(3, .long (m_M_k G i)), (2, .int (m_M_code G i)), (0, .ref (ad 0)), (1, .int i)] := hl
  refine W_cut (E := m_M_fault G i = m_M_fault_t35 G i) (pc' := 35) (fun kk => ?_) (fun hm35 => ?_)
  · refine lv_iload_n hx hb d_M_fault_12 rfl (lv_at hl 1 rfl) ?_
    refine vp_callSi (va_Run.run (va_runS (As := [.int (m_M_code G i)]) (rest := []) ⟨hx, hb, hml, hown, hts⟩ (c_M_operation l (m_M_code G i)) (va_cwS 1 hts (g_S wd_650 wd_651 wd_35 wd_652) rfl rfl rfl (by decide +kernel) ⟨Nat.le_of_ble_eq_true rfl, Nat.le_of_ble_eq_true rfl⟩) ⟨fun _ _ _ _ q => q, fun _ _ _ => ⟨rfl, trivial⟩⟩ rfl rfl hl.1 rfl (lv_room (Nat.le_of_ble_eq_true rfl)) d_M_fault_13 ⟨Nat.le_of_ble_eq_true rfl, Nat.le_of_ble_eq_true rfl⟩)) (fun r3 e3 => ?_)
    subst e3
    refine lv_if_ne (tgt := 35) hx hb d_M_fault_16 (by decide) (fun h1 => ?_) (fun h1 => ?_)
    · exact kk (by rw [m_M_fault, if_neg h1])
    refine lv_iload_n hx hb d_M_fault_19 rfl (lv_at hl 1 rfl) ?_
    refine vp_callSi (va_Run.run (va_runS (As := [.int (m_M_code G i)]) (rest := []) ⟨hx, hb, hml, hown, hts⟩ (c_M_branch l (m_M_code G i)) (va_cwS 1 hts (g_S wd_653 wd_654 wd_35 wd_655) rfl rfl rfl (by decide +kernel) ⟨Nat.le_of_ble_eq_true rfl, Nat.le_of_ble_eq_true rfl⟩) ⟨fun _ _ _ _ q => q, fun _ _ _ => ⟨rfl, trivial⟩⟩ rfl rfl hl.1 rfl (lv_room (Nat.le_of_ble_eq_true rfl)) d_M_fault_20 ⟨Nat.le_of_ble_eq_true rfl, Nat.le_of_ble_eq_true rfl⟩)) (fun r4 e4 => ?_)
    subst e4
    refine lv_if_ne (tgt := 35) hx hb d_M_fault_23 (by decide) (fun h2 => ?_) (fun h2 => ?_)
    · exact kk (by rw [m_M_fault, if_pos h1, if_neg h2])
    refine lv_iload_n hx hb d_M_fault_26 rfl (lv_at hl 1 rfl) ?_
    refine vp_callSi (va_Run.run (va_runS (As := [.int (m_M_code G i)]) (rest := []) ⟨hx, hb, hml, hown, hts⟩ (c_M_plainCode l (m_M_code G i)) (va_cwS 1 hts (g_S wd_656 wd_657 wd_35 wd_658) rfl rfl rfl (by decide +kernel) ⟨Nat.le_of_ble_eq_true rfl, Nat.le_of_ble_eq_true rfl⟩) ⟨fun _ _ _ _ q => q, fun _ _ _ => ⟨rfl, trivial⟩⟩ rfl rfl hl.1 rfl (lv_room (Nat.le_of_ble_eq_true rfl)) d_M_fault_27 ⟨Nat.le_of_ble_eq_true rfl, Nat.le_of_ble_eq_true rfl⟩)) (fun r5 e5 => ?_)
    subst e5
    refine lv_if_ne (tgt := 35) hx hb d_M_fault_30 (by decide) (fun h3 => ?_) (fun h3 => ?_)
    · exact kk (by rw [m_M_fault, if_pos h1, if_pos h2, if_neg h3])
    refine lv_iconst (v := 2) hx hb d_M_fault_33 (by decide) ?_
    exact W.iret hx hb hr (fun t ht hW => ⟨_, rfl, (by rw [m_M_fault, if_pos h1, if_pos h2, if_pos h3]), ht⟩) (fun _ h => by cases h) d_M_fault_34
  refine W_join (pc' := 79) (v := .int (m_M_fault_j35 G i)) (rest := []) (fun kk => ?_) ?_
  · refine lv_iload_n hx hb d_M_fault_35 rfl (lv_at hl 1 rfl) ?_
    refine lv_bipush (v := 32) hx hb d_M_fault_36 (by decide) ?_
    refine lv_icmp_ne (tgt := 59) hx hb d_M_fault_38 (by decide) (fun h4 => ?_) (fun h4 => ?_)
    · refine lv_iload_n hx hb d_M_fault_59 rfl (lv_at hl 1 rfl) ?_
      refine vp_callSi (va_Run.run (va_runS (As := [.int (m_M_code G i)]) (rest := []) ⟨hx, hb, hml, hown, hts⟩ (c_M_scratchCode l (m_M_code G i)) (va_cwS 1 hts (g_S wd_661 wd_662 wd_35 wd_663) rfl rfl rfl (by decide +kernel) ⟨Nat.le_of_ble_eq_true rfl, Nat.le_of_ble_eq_true rfl⟩) ⟨fun _ _ _ _ q => q, fun _ _ _ => ⟨rfl, trivial⟩⟩ rfl rfl hl.1 rfl (lv_room (Nat.le_of_ble_eq_true rfl)) d_M_fault_60 ⟨Nat.le_of_ble_eq_true rfl, Nat.le_of_ble_eq_true rfl⟩)) (fun r6 e6 => ?_)
      subst e6
      refine lv_if_eq (tgt := 78) hx hb d_M_fault_63 (by decide) (fun h5 => ?_) (fun h5 => ?_)
      · refine lv_iconst (v := 0) hx hb d_M_fault_78 (by decide) ?_
        rw [m_M_fault_j35, if_neg h4, if_pos h5] at kk
        exact kk
      refine lv_lload_n hx hb d_M_fault_66 rfl (lv_at hl 0 rfl) ?_
      refine lv_ldc2 (v := 15) hx hb hown (hts _ wd_664) d_M_fault_67 ?_
      refine W.lcmp hx hb d_M_fault_70 ?_
      refine lv_if_le (tgt := 78) hx hb d_M_fault_71 (by decide) (fun h6 => ?_) (fun h6 => ?_)
      · refine lv_iconst (v := 0) hx hb d_M_fault_78 (by decide) ?_
        rw [m_M_fault_j35, if_neg h4, if_neg h5, if_pos h6] at kk
        exact kk
      refine lv_iconst (v := 1) hx hb d_M_fault_74 (by decide) ?_
      refine lv_goto (tgt := 79) hx hb d_M_fault_75 (by decide) ?_
      rw [m_M_fault_j35, if_neg h4, if_neg h5, if_neg h6] at kk
      exact kk
    refine lv_lload_n hx hb d_M_fault_41 rfl (lv_at hl 0 rfl) ?_
    refine lv_ldc2 (v := 4) hx hb hown (hts _ wd_659) d_M_fault_42 ?_
    refine lv_lrem hx hb d_M_fault_45 (by decide) ?_
    refine lv_lconst (v := 0) hx hb d_M_fault_46 (by decide) ?_
    refine W.lcmp hx hb d_M_fault_47 ?_
    refine lv_if_ne (tgt := 74) hx hb d_M_fault_48 (by decide) (fun h7 => ?_) (fun h7 => ?_)
    · refine lv_iconst (v := 1) hx hb d_M_fault_74 (by decide) ?_
      refine lv_goto (tgt := 79) hx hb d_M_fault_75 (by decide) ?_
      rw [m_M_fault_j35, if_pos h4, if_neg h7] at kk
      exact kk
    refine lv_lload_n hx hb d_M_fault_51 rfl (lv_at hl 0 rfl) ?_
    refine lv_ldc2 (v := 60) hx hb hown (hts _ wd_660) d_M_fault_52 ?_
    refine W.lcmp hx hb d_M_fault_55 ?_
    refine lv_if_gt (tgt := 74) hx hb d_M_fault_56 (by decide) (fun h8 => ?_) (fun h8 => ?_)
    · refine lv_iconst (v := 1) hx hb d_M_fault_74 (by decide) ?_
      refine lv_goto (tgt := 79) hx hb d_M_fault_75 (by decide) ?_
      rw [m_M_fault_j35, if_pos h4, if_pos h7, if_pos h8] at kk
      exact kk
    refine lv_iload_n hx hb d_M_fault_59 rfl (lv_at hl 1 rfl) ?_
    refine vp_callSi (va_Run.run (va_runS (As := [.int (m_M_code G i)]) (rest := []) ⟨hx, hb, hml, hown, hts⟩ (c_M_scratchCode l (m_M_code G i)) (va_cwS 1 hts (g_S wd_661 wd_662 wd_35 wd_663) rfl rfl rfl (by decide +kernel) ⟨Nat.le_of_ble_eq_true rfl, Nat.le_of_ble_eq_true rfl⟩) ⟨fun _ _ _ _ q => q, fun _ _ _ => ⟨rfl, trivial⟩⟩ rfl rfl hl.1 rfl (lv_room (Nat.le_of_ble_eq_true rfl)) d_M_fault_60 ⟨Nat.le_of_ble_eq_true rfl, Nat.le_of_ble_eq_true rfl⟩)) (fun r7 e7 => ?_)
    subst e7
    refine lv_if_eq (tgt := 78) hx hb d_M_fault_63 (by decide) (fun h9 => ?_) (fun h9 => ?_)
    · refine lv_iconst (v := 0) hx hb d_M_fault_78 (by decide) ?_
      rw [m_M_fault_j35, if_pos h4, if_pos h7, if_neg h8, if_pos h9] at kk
      exact kk
    refine lv_lload_n hx hb d_M_fault_66 rfl (lv_at hl 0 rfl) ?_
    refine lv_ldc2 (v := 15) hx hb hown (hts _ wd_664) d_M_fault_67 ?_
    refine W.lcmp hx hb d_M_fault_70 ?_
    refine lv_if_le (tgt := 78) hx hb d_M_fault_71 (by decide) (fun h10 => ?_) (fun h10 => ?_)
    · refine lv_iconst (v := 0) hx hb d_M_fault_78 (by decide) ?_
      rw [m_M_fault_j35, if_pos h4, if_pos h7, if_neg h8, if_neg h9, if_pos h10] at kk
      exact kk
    refine lv_iconst (v := 1) hx hb d_M_fault_74 (by decide) ?_
    refine lv_goto (tgt := 79) hx hb d_M_fault_75 (by decide) ?_
    rw [m_M_fault_j35, if_pos h4, if_pos h7, if_neg h8, if_neg h9, if_neg h10] at kk
    exact kk
  refine lv_istore hx hb d_M_fault_79 hl (by decide) rfl (fun ls hl => ?_)
  have hl : lv_has ls 7 [(5, .int (m_M_fault_j35 G i)), (3, .long (m_M_k G i)), (2, .int (m_M_code G i)), (0, .ref (ad 0)), (1, .int i)] := hl
  refine lv_iload hx hb d_M_fault_81 (lv_at hl 0 rfl) ?_
  refine lv_if_ne (tgt := 118) hx hb d_M_fault_83 (by decide) (fun h11 => ?_) (fun h11 => ?_)
  · refine lv_iconst (v := 3) hx hb d_M_fault_118 (by decide) ?_
    exact W.iret hx hb hr (fun t ht hW => ⟨_, rfl, (by rw [hm35, m_M_fault_t35, if_neg h11]), ht⟩) (fun _ h => by cases h) d_M_fault_119
  refine W_cut (E := m_M_fault G i = m_M_fault_t120 G i) (pc' := 120) (fun kk => ?_) (fun hm120 => ?_)
  · refine lv_iload_n hx hb d_M_fault_86 rfl (lv_at hl 2 rfl) ?_
    refine lv_bipush (v := 52) hx hb d_M_fault_87 (by decide) ?_
    refine lv_icmp_ne (tgt := 98) hx hb d_M_fault_89 (by decide) (fun h12 => ?_) (fun h12 => ?_)
    · refine lv_iload_n hx hb d_M_fault_98 rfl (lv_at hl 2 rfl) ?_
      refine lv_bipush (v := 100) hx hb d_M_fault_99 (by decide) ?_
      refine lv_icmp_eq (tgt := 110) hx hb d_M_fault_101 (by decide) (fun h13 => ?_) (fun h13 => ?_)
      · refine lv_lload_n hx hb d_M_fault_110 rfl (lv_at hl 1 rfl) ?_
        refine lv_ldc2 (v := 31) hx hb hown (hts _ wd_665) d_M_fault_111 ?_
        refine W.lcmp hx hb d_M_fault_114 ?_
        refine lv_if_le (tgt := 120) hx hb d_M_fault_115 (by decide) (fun h14 => ?_) (fun h14 => ?_)
        · exact kk (by rw [hm35, m_M_fault_t35, if_pos h11, if_neg h12, if_pos h13, if_pos h14])
        refine lv_iconst (v := 3) hx hb d_M_fault_118 (by decide) ?_
        exact W.iret hx hb hr (fun t ht hW => ⟨_, rfl, (by rw [hm35, m_M_fault_t35, if_pos h11, if_neg h12, if_pos h13, if_neg h14]), ht⟩) (fun _ h => by cases h) d_M_fault_119
      refine lv_iload_n hx hb d_M_fault_104 rfl (lv_at hl 2 rfl) ?_
      refine lv_bipush (v := 116) hx hb d_M_fault_105 (by decide) ?_
      refine lv_icmp_ne (tgt := 120) hx hb d_M_fault_107 (by decide) (fun h15 => ?_) (fun h15 => ?_)
      · exact kk (by rw [hm35, m_M_fault_t35, if_pos h11, if_neg h12, if_neg h13, if_neg h15])
      refine lv_lload_n hx hb d_M_fault_110 rfl (lv_at hl 1 rfl) ?_
      refine lv_ldc2 (v := 31) hx hb hown (hts _ wd_665) d_M_fault_111 ?_
      refine W.lcmp hx hb d_M_fault_114 ?_
      refine lv_if_le (tgt := 120) hx hb d_M_fault_115 (by decide) (fun h16 => ?_) (fun h16 => ?_)
      · exact kk (by rw [hm35, m_M_fault_t35, if_pos h11, if_neg h12, if_neg h13, if_pos h15, if_pos h16])
      refine lv_iconst (v := 3) hx hb d_M_fault_118 (by decide) ?_
      exact W.iret hx hb hr (fun t ht hW => ⟨_, rfl, (by rw [hm35, m_M_fault_t35, if_pos h11, if_neg h12, if_neg h13, if_pos h15, if_neg h16]), ht⟩) (fun _ h => by cases h) d_M_fault_119
    refine lv_lload_n hx hb d_M_fault_92 rfl (lv_at hl 1 rfl) ?_
    refine lv_lconst (v := 0) hx hb d_M_fault_93 (by decide) ?_
    refine W.lcmp hx hb d_M_fault_94 ?_
    refine lv_if_eq (tgt := 118) hx hb d_M_fault_95 (by decide) (fun h17 => ?_) (fun h17 => ?_)
    · refine lv_iconst (v := 3) hx hb d_M_fault_118 (by decide) ?_
      exact W.iret hx hb hr (fun t ht hW => ⟨_, rfl, (by rw [hm35, m_M_fault_t35, if_pos h11, if_pos h12, if_pos h17]), ht⟩) (fun _ h => by cases h) d_M_fault_119
    refine lv_iload_n hx hb d_M_fault_98 rfl (lv_at hl 2 rfl) ?_
    refine lv_bipush (v := 100) hx hb d_M_fault_99 (by decide) ?_
    refine lv_icmp_eq (tgt := 110) hx hb d_M_fault_101 (by decide) (fun h18 => ?_) (fun h18 => ?_)
    · refine lv_lload_n hx hb d_M_fault_110 rfl (lv_at hl 1 rfl) ?_
      refine lv_ldc2 (v := 31) hx hb hown (hts _ wd_665) d_M_fault_111 ?_
      refine W.lcmp hx hb d_M_fault_114 ?_
      refine lv_if_le (tgt := 120) hx hb d_M_fault_115 (by decide) (fun h19 => ?_) (fun h19 => ?_)
      · exact kk (by rw [hm35, m_M_fault_t35, if_pos h11, if_pos h12, if_neg h17, if_pos h18, if_pos h19])
      refine lv_iconst (v := 3) hx hb d_M_fault_118 (by decide) ?_
      exact W.iret hx hb hr (fun t ht hW => ⟨_, rfl, (by rw [hm35, m_M_fault_t35, if_pos h11, if_pos h12, if_neg h17, if_pos h18, if_neg h19]), ht⟩) (fun _ h => by cases h) d_M_fault_119
    refine lv_iload_n hx hb d_M_fault_104 rfl (lv_at hl 2 rfl) ?_
    refine lv_bipush (v := 116) hx hb d_M_fault_105 (by decide) ?_
    refine lv_icmp_ne (tgt := 120) hx hb d_M_fault_107 (by decide) (fun h20 => ?_) (fun h20 => ?_)
    · exact kk (by rw [hm35, m_M_fault_t35, if_pos h11, if_pos h12, if_neg h17, if_neg h18, if_neg h20])
    refine lv_lload_n hx hb d_M_fault_110 rfl (lv_at hl 1 rfl) ?_
    refine lv_ldc2 (v := 31) hx hb hown (hts _ wd_665) d_M_fault_111 ?_
    refine W.lcmp hx hb d_M_fault_114 ?_
    refine lv_if_le (tgt := 120) hx hb d_M_fault_115 (by decide) (fun h21 => ?_) (fun h21 => ?_)
    · exact kk (by rw [hm35, m_M_fault_t35, if_pos h11, if_pos h12, if_neg h17, if_neg h18, if_pos h20, if_pos h21])
    refine lv_iconst (v := 3) hx hb d_M_fault_118 (by decide) ?_
    exact W.iret hx hb hr (fun t ht hW => ⟨_, rfl, (by rw [hm35, m_M_fault_t35, if_pos h11, if_pos h12, if_neg h17, if_neg h18, if_pos h20, if_neg h21]), ht⟩) (fun _ h => by cases h) d_M_fault_119
  refine W_join (pc' := 145) (v := .int (m_M_fault_j120 G i)) (rest := []) (fun kk => ?_) ?_
  · refine lv_iload_n hx hb d_M_fault_120 rfl (lv_at hl 2 rfl) ?_
    refine lv_iconst (v := 5) hx hb d_M_fault_121 (by decide) ?_
    refine lv_icmp_ne (tgt := 144) hx hb d_M_fault_122 (by decide) (fun h22 => ?_) (fun h22 => ?_)
    · refine lv_iconst (v := 0) hx hb d_M_fault_144 (by decide) ?_
      rw [m_M_fault_j120, if_neg h22] at kk
      exact kk
    refine lv_iload_n hx hb d_M_fault_125 rfl (lv_at hl 4 rfl) ?_
    refine lv_iconst (v := 1) hx hb d_M_fault_126 (by decide) ?_
    refine lv_iadd hx hb d_M_fault_127 ?_
    refine lv_i2l hx hb d_M_fault_128 rfl ?_
    refine lv_lload_n hx hb d_M_fault_129 rfl (lv_at hl 1 rfl) ?_
    refine lv_ladd hx hb d_M_fault_130 ?_
    refine lv_aload_n hx hb d_M_fault_131 rfl (lv_at hl 3 rfl) ?_
    refine va_get (D := D) (ci := 9) (v := .int G.1) (C := R_M) (T := F_M) (N := 20) hx hb hts in_M hown hK hP 0 rfl rfl 12 (by decide) (hts _ wd_512) (fun _ h9 => h9) rfl d_M_fault_132 ?_
    refine lv_i2l hx hb d_M_fault_135 rfl ?_
    refine W.lcmp hx hb d_M_fault_136 ?_
    refine lv_if_lt (tgt := 144) hx hb d_M_fault_137 (by decide) (fun h23 => ?_) (fun h23 => ?_)
    · refine lv_iconst (v := 0) hx hb d_M_fault_144 (by decide) ?_
      rw [m_M_fault_j120, if_pos h22, if_pos h23] at kk
      exact kk
    refine lv_iconst (v := 1) hx hb d_M_fault_140 (by decide) ?_
    refine lv_goto (tgt := 145) hx hb d_M_fault_141 (by decide) ?_
    rw [m_M_fault_j120, if_pos h22, if_neg h23] at kk
    exact kk
  refine lv_istore hx hb d_M_fault_145 hl (by decide) rfl (fun ls hl => ?_)
  have hl : lv_has ls 7 [(6, .int (m_M_fault_j120 G i)), (5, .int (m_M_fault_j35 G i)), (3, .long (m_M_k G i)), (2, .int (m_M_code G i)), (0, .ref (ad 0)), (1, .int i)] := hl
  refine lv_iload_n hx hb d_M_fault_147 rfl (lv_at hl 3 rfl) ?_
  refine vp_callSi (va_Run.run (va_runS (As := [.int (m_M_code G i)]) (rest := []) ⟨hx, hb, hml, hown, hts⟩ (c_M_branch l (m_M_code G i)) (va_cwS 1 hts (g_S wd_653 wd_654 wd_35 wd_655) rfl rfl rfl (by decide +kernel) ⟨Nat.le_of_ble_eq_true rfl, Nat.le_of_ble_eq_true rfl⟩) ⟨fun _ _ _ _ q => q, fun _ _ _ => ⟨rfl, trivial⟩⟩ rfl rfl hl.1 rfl (lv_room (Nat.le_of_ble_eq_true rfl)) d_M_fault_148 ⟨Nat.le_of_ble_eq_true rfl, Nat.le_of_ble_eq_true rfl⟩)) (fun r8 e8 => ?_)
  subst e8
  refine lv_if_eq (tgt := 195) hx hb d_M_fault_151 (by decide) (fun h24 => ?_) (fun h24 => ?_)
  · refine lv_iload hx hb d_M_fault_195 (lv_at hl 0 rfl) ?_
    refine lv_if_eq (tgt := 204) hx hb d_M_fault_197 (by decide) (fun h25 => ?_) (fun h25 => ?_)
    · refine lv_iconst (v := 0) hx hb d_M_fault_204 (by decide) ?_
      exact W.iret hx hb hr (fun t ht hW => ⟨_, rfl, (by rw [hm120, m_M_fault_t120, if_pos h24, if_pos h25]), ht⟩) (fun _ h => by cases h) d_M_fault_205
    refine lv_iconst (v := 4) hx hb d_M_fault_200 (by decide) ?_
    refine lv_goto (tgt := 205) hx hb d_M_fault_201 (by decide) ?_
    exact W.iret hx hb hr (fun t ht hW => ⟨_, rfl, (by rw [hm120, m_M_fault_t120, if_pos h24, if_neg h25]), ht⟩) (fun _ h => by cases h) d_M_fault_205
  refine W_join (pc' := 193) (v := .int (m_M_fault_j154 G i)) (rest := []) (fun kk => ?_) ?_
  · refine lv_iload_n hx hb d_M_fault_154 rfl (lv_at hl 5 rfl) ?_
    refine lv_iconst (v := 1) hx hb d_M_fault_155 (by decide) ?_
    refine lv_iadd hx hb d_M_fault_156 ?_
    refine lv_aload_n hx hb d_M_fault_157 rfl (lv_at hl 4 rfl) ?_
    refine lv_iload_n hx hb d_M_fault_158 rfl (lv_at hl 5 rfl) ?_
    refine lv_iconst (v := 1) hx hb d_M_fault_159 (by decide) ?_
    refine vp_callSi (va_Run.run (va_runV (As := [.int i, .int (1 : Int32)]) (rest := [.int (i + (1 : Int32))]) ⟨hx, hb, hml, hown, hts⟩ (c_M_jump l D dA ad ho wo Q G mk X i (1 : Int32) hi) (cwV 2 hts (g_V wd_666 wd_668 wd_19 wd_35 wd_669) rfl rfl rfl (by decide +kernel) ⟨Nat.le_of_ble_eq_true rfl, Nat.le_of_ble_eq_true rfl⟩) ⟨MG_fb, (va_recv (ci := 9) (q := (R_M, F_M, 20)) (q0 := 0) hK hP rfl rfl), fun U hU hW => ⟨rfl, MG_at hP hK hU hW⟩⟩ rfl rfl hl.1 rfl (lv_room (Nat.le_of_ble_eq_true rfl)) d_M_fault_160 ⟨Nat.le_of_ble_eq_true rfl, Nat.le_of_ble_eq_true rfl⟩)) (fun r9 e9 => ?_)
    subst e9
    refine lv_iadd hx hb d_M_fault_163 ?_
    refine lv_aload_n hx hb d_M_fault_164 rfl (lv_at hl 4 rfl) ?_
    refine va_get (D := D) (ci := 9) (v := .int G.1) (C := R_M) (T := F_M) (N := 20) hx hb hts in_M hown hK hP 0 rfl rfl 12 (by decide) (hts _ wd_512) (fun _ h9 => h9) rfl d_M_fault_165 ?_
    refine lv_icmp_ge (tgt := 188) hx hb d_M_fault_168 (by decide) (fun h26 => ?_) (fun h26 => ?_)
    · refine lv_iconst (v := 1) hx hb d_M_fault_188 (by decide) ?_
      refine lv_goto (tgt := 193) hx hb d_M_fault_189 (by decide) ?_
      rw [m_M_fault_j154, if_pos h26] at kk
      exact kk
    refine lv_iload_n hx hb d_M_fault_171 rfl (lv_at hl 5 rfl) ?_
    refine lv_iconst (v := 1) hx hb d_M_fault_172 (by decide) ?_
    refine lv_iadd hx hb d_M_fault_173 ?_
    refine lv_aload_n hx hb d_M_fault_174 rfl (lv_at hl 4 rfl) ?_
    refine lv_iload_n hx hb d_M_fault_175 rfl (lv_at hl 5 rfl) ?_
    refine lv_iconst (v := 0) hx hb d_M_fault_176 (by decide) ?_
    refine vp_callSi (va_Run.run (va_runV (As := [.int i, .int (0 : Int32)]) (rest := [.int (i + (1 : Int32))]) ⟨hx, hb, hml, hown, hts⟩ (c_M_jump l D dA ad ho wo Q G mk X i (0 : Int32) hi) (cwV 2 hts (g_V wd_666 wd_668 wd_19 wd_35 wd_669) rfl rfl rfl (by decide +kernel) ⟨Nat.le_of_ble_eq_true rfl, Nat.le_of_ble_eq_true rfl⟩) ⟨MG_fb, (va_recv (ci := 9) (q := (R_M, F_M, 20)) (q0 := 0) hK hP rfl rfl), fun U hU hW => ⟨rfl, MG_at hP hK hU hW⟩⟩ rfl rfl hl.1 rfl (lv_room (Nat.le_of_ble_eq_true rfl)) d_M_fault_177 ⟨Nat.le_of_ble_eq_true rfl, Nat.le_of_ble_eq_true rfl⟩)) (fun r10 e10 => ?_)
    subst e10
    refine lv_iadd hx hb d_M_fault_180 ?_
    refine lv_aload_n hx hb d_M_fault_181 rfl (lv_at hl 4 rfl) ?_
    refine va_get (D := D) (ci := 9) (v := .int G.1) (C := R_M) (T := F_M) (N := 20) hx hb hts in_M hown hK hP 0 rfl rfl 12 (by decide) (hts _ wd_512) (fun _ h9 => h9) rfl d_M_fault_182 ?_
    refine lv_icmp_lt (tgt := 192) hx hb d_M_fault_185 (by decide) (fun h27 => ?_) (fun h27 => ?_)
    · refine lv_iconst (v := 0) hx hb d_M_fault_192 (by decide) ?_
      rw [m_M_fault_j154, if_neg h26, if_pos h27] at kk
      exact kk
    refine lv_iconst (v := 1) hx hb d_M_fault_188 (by decide) ?_
    refine lv_goto (tgt := 193) hx hb d_M_fault_189 (by decide) ?_
    rw [m_M_fault_j154, if_neg h26, if_neg h27] at kk
    exact kk
  refine lv_istore hx hb d_M_fault_193 hl (by decide) rfl (fun ls hl => ?_)
  have hl : lv_has ls 7 [(6, .int (m_M_fault_j154 G i)), (5, .int (m_M_fault_j35 G i)), (3, .long (m_M_k G i)), (2, .int (m_M_code G i)), (0, .ref (ad 0)), (1, .int i)] := hl
  refine lv_iload hx hb d_M_fault_195 (lv_at hl 0 rfl) ?_
  refine lv_if_eq (tgt := 204) hx hb d_M_fault_197 (by decide) (fun h28 => ?_) (fun h28 => ?_)
  · refine lv_iconst (v := 0) hx hb d_M_fault_204 (by decide) ?_
    exact W.iret hx hb hr (fun t ht hW => ⟨_, rfl, (by rw [hm120, m_M_fault_t120, if_neg h24, if_pos h28]), ht⟩) (fun _ h => by cases h) d_M_fault_205
  refine lv_iconst (v := 4) hx hb d_M_fault_200 (by decide) ?_
  refine lv_goto (tgt := 205) hx hb d_M_fault_201 (by decide) ?_
  exact W.iret hx hb hr (fun t ht hW => ⟨_, rfl, (by rw [hm120, m_M_fault_t120, if_neg h24, if_neg h28]), ht⟩) (fun _ h => by cases h) d_M_fault_205
def m_M_ends (G : GT) (i : Int32) : Int32 := if (m_M_code G i) = (6 : Int32) then (1 : Int32) else if (m_M_code G i) = (22 : Int32) then (1 : Int32) else (0 : Int32)
set_option maxHeartbeats 4000000 in
set_option maxRecDepth 100000 in
theorem c_M_ends (l : Launch) (D : va_G) (dA : Nat → ClassId) (ad : Nat → Nat) (ho : Int32) (wo : Nat → Int32) (Q : QT) (G : GT) (mk : Nat → Int32) (X : XT) (i : Int32) (hi : vp_in i 64) : Met l y_M_ends (mW y_M_ends b_M_ends 2 (some .boolean)) { frames := 1, cells := 0, slots := 0, locals := 21 } (va_Pc [.ref (ad 0), .int i] (fun U => MG D dA ad ho wo Q G mk X U)) (vp_Si (fun r => r = m_M_ends G i)) 0 0 (fun _ => False) := by
  refine Met.ofW (cc := b_M_ends) (maxL := 2) (ret := (some .boolean)) (by decide) rfl ?_
  intro p e s m args below meth c s₁ B hml hv
  obtain ⟨rfl, hP, hK⟩ := hv
  have hx := B.exec
  have hb := B.bytes
  have hr := B.returns
  have hlocks := B.notSynchronized
  have hts := fun (w : Cond) (h : w ∈ lw_g) => atoms_spec (ws := mW y_M_ends b_M_ends 2 (some .boolean)) B.pre w (List.mem_cons_of_mem _ h)
  have hown : s.vm.findClass R_M = some m.cls := findClass_of_methodNamed B.named
  have hl := lv_entry ([.ref (ad 0), .int i]) (n := 2) (Nat.le_of_ble_eq_true rfl)
  rw [lg_entry_eq]
  generalize (lg_sl ([.ref (ad 0), .int i]) ++ List.replicate (2 - (lg_sl ([.ref (ad 0), .int i])).length) Slot.unset).toArray = ls at hl ⊢
  have hl : lv_has ls 2 [(0, .ref (ad 0)), (1, .int i)] := hl
  refine lv_aload_n hx hb d_M_ends_0 rfl (lv_at hl 0 rfl) ?_
  refine lv_iload_n hx hb d_M_ends_1 rfl (lv_at hl 1 rfl) ?_
  refine vp_callSi (va_Run.run (va_runV (As := [.int i]) (rest := []) ⟨hx, hb, hml, hown, hts⟩ (c_M_code l D dA ad ho wo Q G mk X i hi) (cwV 1 hts (g_V wd_641 wd_643 wd_17 wd_35 wd_644) rfl rfl rfl (by decide +kernel) ⟨Nat.le_of_ble_eq_true rfl, Nat.le_of_ble_eq_true rfl⟩) ⟨MG_fb, (va_recv (ci := 9) (q := (R_M, F_M, 20)) (q0 := 0) hK hP rfl rfl), fun U hU hW => ⟨rfl, MG_at hP hK hU hW⟩⟩ rfl rfl hl.1 rfl (lv_room (Nat.le_of_ble_eq_true rfl)) d_M_ends_2 ⟨Nat.le_of_ble_eq_true rfl, Nat.le_of_ble_eq_true rfl⟩)) (fun r1 e1 => ?_)
  subst e1
  refine lv_bipush (v := 6) hx hb d_M_ends_5 (by decide) ?_
  refine lv_icmp_eq (tgt := 20) hx hb d_M_ends_7 (by decide) (fun h1 => ?_) (fun h1 => ?_)
  · refine lv_iconst (v := 1) hx hb d_M_ends_20 (by decide) ?_
    refine lv_goto (tgt := 25) hx hb d_M_ends_21 (by decide) ?_
    exact W.zret hx hb hr rfl (fun t ht hW => ⟨_, rfl, (by rw [m_M_ends, if_pos h1]), ht⟩) (fun _ h => by cases h) d_M_ends_25
  refine lv_aload_n hx hb d_M_ends_10 rfl (lv_at hl 0 rfl) ?_
  refine lv_iload_n hx hb d_M_ends_11 rfl (lv_at hl 1 rfl) ?_
  refine vp_callSi (va_Run.run (va_runV (As := [.int i]) (rest := []) ⟨hx, hb, hml, hown, hts⟩ (c_M_code l D dA ad ho wo Q G mk X i hi) (cwV 1 hts (g_V wd_641 wd_643 wd_17 wd_35 wd_644) rfl rfl rfl (by decide +kernel) ⟨Nat.le_of_ble_eq_true rfl, Nat.le_of_ble_eq_true rfl⟩) ⟨MG_fb, (va_recv (ci := 9) (q := (R_M, F_M, 20)) (q0 := 0) hK hP rfl rfl), fun U hU hW => ⟨rfl, MG_at hP hK hU hW⟩⟩ rfl rfl hl.1 rfl (lv_room (Nat.le_of_ble_eq_true rfl)) d_M_ends_12 ⟨Nat.le_of_ble_eq_true rfl, Nat.le_of_ble_eq_true rfl⟩)) (fun r2 e2 => ?_)
  subst e2
  refine lv_bipush (v := 22) hx hb d_M_ends_15 (by decide) ?_
  refine lv_icmp_ne (tgt := 24) hx hb d_M_ends_17 (by decide) (fun h2 => ?_) (fun h2 => ?_)
  · refine lv_iconst (v := 0) hx hb d_M_ends_24 (by decide) ?_
    exact W.zret hx hb hr rfl (fun t ht hW => ⟨_, rfl, (by rw [m_M_ends, if_neg h1, if_neg h2]), ht⟩) (fun _ h => by cases h) d_M_ends_25
  refine lv_iconst (v := 1) hx hb d_M_ends_20 (by decide) ?_
  refine lv_goto (tgt := 25) hx hb d_M_ends_21 (by decide) ?_
  exact W.zret hx hb hr rfl (fun t ht hW => ⟨_, rfl, (by rw [m_M_ends, if_neg h1, if_pos h2]), ht⟩) (fun _ h => by cases h) d_M_ends_25
/-! The reference's faults are the class's -/
theorem mem9 {cd q : Int32} (hq : cd &&& (-9 : Int32) = q) (hm : q ∈ KL ∧ (q ||| 8) ∈ KL) : cd ∈ KL := by
  rcases and9 cd with h | h
  · rw [h, hq]
    exact hm.1
  · rw [h, hq]
    exact hm.2
theorem op_in (cd : Int32) : m_M_operation cd = 0 ∨ cd ∈ KL := by
  by_cases h : cd ∈ KL
  · exact Or.inr h
  · left
    have n : ∀ q : Int32, (q ∈ KL ∧ (q ||| 8) ∈ KL) → ¬ cd &&& (-9 : Int32) = q := fun q hm hq => h (mem9 hq hm)
    unfold m_M_operation
    rw [if_neg (n 4 (by decide)), if_neg (n 20 (by decide)), if_neg (n 36 (by decide)), if_neg (n 52 (by decide)), if_neg (n 68 (by decide)), if_neg (n 84 (by decide)), if_neg (n 100 (by decide)), if_neg (n 116 (by decide)), if_neg (n 164 (by decide))]
theorem br_in (cd : Int32) : m_M_branch cd = 0 ∨ cd ∈ KL := by
  by_cases h : cd ∈ KL
  · exact Or.inr h
  · left
    have n : ∀ q : Int32, (q ∈ KL ∧ (q ||| 8) ∈ KL) → ¬ cd &&& (-9 : Int32) = q := fun q hm hq => h (mem9 hq hm)
    unfold m_M_branch
    rw [if_neg (n 21 (by decide)), if_neg (n 37 (by decide)), if_neg (n 53 (by decide)), if_neg (n 69 (by decide))]
theorem pl_in (cd : Int32) : m_M_plainCode cd = 0 ∨ cd ∈ KL := by
  by_cases h : cd ∈ KL
  · exact Or.inr h
  · left
    simp only [KL, List.mem_cons, List.not_mem_nil, or_false, not_or] at h
    simp [m_M_plainCode, h]
theorem kl_k : ∀ cd ∈ KL, ¬ m_In_isKnown cd = (0 : Int32) ∧ ¬ (m_M_operation cd = (0 : Int32) ∧ m_M_branch cd = (0 : Int32) ∧ m_M_plainCode cd = (0 : Int32)) := by decide +kernel
theorem kl_b : ∀ cd ∈ KL, (m_M_branch cd = (0 : Int32) ↔ m_In_isConditional cd = (0 : Int32)) := by decide +kernel
theorem br_eq (cd : Int32) : m_M_branch cd = (0 : Int32) ↔ m_In_isConditional cd = (0 : Int32) := by
  by_cases h : cd ∈ KL
  · exact kl_b cd h
  · exact ⟨fun _ => (co_in cd).resolve_right h, fun _ => (br_in cd).resolve_right h⟩
theorem en_eq (G : GT) (i : Int32) : m_M_ends G i = m_In_endsRun (m_In_codeOf (G.2 i.toNatClampNeg)) := rfl
theorem code_eq (G : GT) (i : Int32) : m_M_code G i = m_In_codeOf (G.2 i.toNatClampNeg) := rfl
theorem k_eq (G : GT) (i : Int32) : m_M_k G i = m_In_operandOf (G.2 i.toNatClampNeg) := rfl
theorem jT_eq (G : GT) (i : Int32) : m_M_jump G i 1 = m_In_distanceIfTrue (G.2 i.toNatClampNeg) := by
  apply iN_inj
  rw [dT_n]
  unfold m_M_jump
  rw [if_neg (by decide), iN_tr, uN_m8]
  have h := uN_sar (G.2 i.toNatClampNeg) (c := 16) (j := 8) (by decide) (by decide)
  rw [show (2 : Nat) ^ 8 = 256 from rfl, show iN (16 : Int32) = 16 from rfl, show (2 : Nat) ^ 16 = 65536 from rfl] at h
  rw [h]
  omega
theorem jF_eq (G : GT) (i : Int32) : m_M_jump G i 0 = m_In_distanceIfFalse (G.2 i.toNatClampNeg) := by
  apply iN_inj
  rw [dF_n]
  unfold m_M_jump
  rw [if_pos rfl, iN_tr, uN_m8]
  have h := uN_sar (G.2 i.toNatClampNeg) (c := 24) (j := 8) (by decide) (by decide)
  rw [show (2 : Nat) ^ 8 = 256 from rfl, show iN (24 : Int32) = 24 from rfl, show (2 : Nat) ^ 24 = 16777216 from rfl] at h
  rw [h]
  omega
/-! The operand -/
theorem cmpn_le {x y : Int64} (hx : uN x < 4294967296) (hy : uN y < 4294967296) : lg_cmp x y ≤ (0 : Int32) ↔ uN x ≤ uN y := by rw [cmp_le, leL_n (by omega) (by omega)]
theorem cmpn_ge {x y : Int64} (hx : uN x < 4294967296) (hy : uN y < 4294967296) : (0 : Int32) ≤ lg_cmp x y ↔ uN y ≤ uN x := by rw [cmp_ge, leL_n (by omega) (by omega)]
theorem cmpn_gt {x y : Int64} (hx : uN x < 4294967296) (hy : uN y < 4294967296) : (0 : Int32) < lg_cmp x y ↔ uN y < uN x := by rw [cmp_gt, ltL_n (by omega) (by omega)]
theorem cmpn_lt {x y : Int64} (hx : uN x < 4294967296) (hy : uN y < 4294967296) : lg_cmp x y < (0 : Int32) ↔ uN x < uN y := by rw [cmp_lt, ltL_n (by omega) (by omega)]
theorem cmpn_eq {x y : Int64} : lg_cmp x y = (0 : Int32) ↔ uN x = uN y := by rw [cmp_eq, uN_eq]
def bad (cd : Int32) (n : Nat) : Prop := ((cd = 96 ∨ cd = 97 ∨ cd = 2 ∨ cd = 3) ∧ 16 ≤ n) ∨ (cd = 32 ∧ (¬ n % 4 = 0 ∨ 64 ≤ n)) ∨ (cd = 52 ∧ n = 0) ∨ ((cd = 100 ∨ cd = 116) ∧ 32 ≤ n)
theorem fitC {cd : Int32} {k : Int64} (hk : uN k < 4294967296) : m_Ch_isOperandFit cd k = (0 : Int32) ↔ bad cd (uN k) := by
  unfold bad
  by_cases hs : cd = 96 ∨ cd = 97 ∨ cd = 2 ∨ cd = 3
  · have e : m_Ch_isOperandFit cd k = if (0 : Int32) ≤ lg_cmp k 16 then 0 else 1 := by
      unfold m_Ch_isOperandFit
      rcases hs with rfl | rfl | rfl | rfl
      · rw [if_neg (by decide)]
      · rw [if_neg (by decide)]
      · rw [if_pos (by decide), if_neg (by decide)]
      · rw [if_pos (by decide), if_neg (by decide)]
    have n1 : ¬ cd = 32 ∧ ¬ cd = 52 ∧ ¬ (cd = 100 ∨ cd = 116) := by rcases hs with rfl | rfl | rfl | rfl <;> decide
    rw [e]
    by_cases q : (0 : Int32) ≤ lg_cmp k 16
    · rw [if_pos q]
      rw [cmpn_ge hk (by decide), show uN 16 = 16 from rfl] at q
      exact ⟨fun _ => Or.inl ⟨hs, q⟩, fun _ => rfl⟩
    · rw [if_neg q]
      rw [cmpn_ge hk (by decide), show uN 16 = 16 from rfl] at q
      refine ⟨fun z => absurd z (by decide), fun z => ?_⟩
      rcases z with z | z | z | z
      · exact absurd z.2 q
      · exact absurd z.1 n1.1
      · exact absurd z.1 n1.2.1
      · exact absurd z.1 n1.2.2
  · have l0 : m_In_loadsCell cd = 0 := by
      unfold m_In_loadsCell
      rw [if_neg (fun q => hs (Or.inl q)), if_neg (fun q => hs (Or.inr (Or.inl q)))]
    have s0 : m_In_storesCell cd = 0 := by
      unfold m_In_storesCell
      rw [if_neg (fun q => hs (Or.inr (Or.inr (Or.inl q)))), if_neg (fun q => hs (Or.inr (Or.inr (Or.inr q))))]
    unfold m_Ch_isOperandFit
    rw [if_pos l0, if_pos s0]
    by_cases h32 : cd = 32
    · subst h32
      rw [if_pos rfl]
      have e4 := uN_r4 hk
      by_cases q1 : lg_cmp (k - k / (4 : Int64) * (4 : Int64)) (0 : Int64) = (0 : Int32)
      · rw [if_pos q1]
        rw [cmpn_eq, e4, show uN 0 = 0 from rfl] at q1
        by_cases q : (0 : Int32) ≤ lg_cmp k 64
        · rw [if_pos q]
          rw [cmpn_ge hk (by decide), show uN 64 = 64 from rfl] at q
          exact ⟨fun _ => Or.inr (Or.inl ⟨rfl, Or.inr q⟩), fun _ => rfl⟩
        · rw [if_neg q]
          rw [cmpn_ge hk (by decide), show uN 64 = 64 from rfl] at q
          refine ⟨fun z => absurd z (by decide), fun z => ?_⟩
          rcases z with z | z | z | z
          · exact absurd z.1 hs
          · rcases z.2 with z | z
            · exact absurd q1 z
            · exact absurd z q
          · exact absurd z.1 (by decide)
          · exact absurd z.1 (by decide)
      · rw [if_neg q1]
        rw [cmpn_eq, e4, show uN 0 = 0 from rfl] at q1
        exact ⟨fun _ => Or.inr (Or.inl ⟨rfl, Or.inl q1⟩), fun _ => rfl⟩
    · rw [if_neg h32]
      by_cases h52 : cd = 52
      · subst h52
        rw [if_pos rfl]
        by_cases q : lg_cmp k 0 = (0 : Int32)
        · rw [if_pos q]
          rw [cmpn_eq, show uN 0 = 0 from rfl] at q
          exact ⟨fun _ => Or.inr (Or.inr (Or.inl ⟨rfl, q⟩)), fun _ => rfl⟩
        · rw [if_neg q]
          rw [cmpn_eq, show uN 0 = 0 from rfl] at q
          refine ⟨fun z => absurd z (by decide), fun z => ?_⟩
          rcases z with z | z | z | z
          · exact absurd z.1 hs
          · exact absurd z.1 h32
          · exact absurd z.2 q
          · exact absurd z.1 (by decide)
      · rw [if_neg h52]
        by_cases hsh : cd = 100 ∨ cd = 116
        · have e : (if cd = (100 : Int32) then if (0 : Int32) ≤ lg_cmp k (32 : Int64) then (0 : Int32) else (1 : Int32) else if cd = (116 : Int32) then if (0 : Int32) ≤ lg_cmp k (32 : Int64) then (0 : Int32) else (1 : Int32) else (1 : Int32)) = if (0 : Int32) ≤ lg_cmp k (32 : Int64) then (0 : Int32) else (1 : Int32) := by
            rcases hsh with rfl | rfl
            · rw [if_pos rfl]
            · rw [if_neg (by decide), if_pos rfl]
          rw [e]
          by_cases q : (0 : Int32) ≤ lg_cmp k 32
          · rw [if_pos q]
            rw [cmpn_ge hk (by decide), show uN 32 = 32 from rfl] at q
            exact ⟨fun _ => Or.inr (Or.inr (Or.inr ⟨hsh, q⟩)), fun _ => rfl⟩
          · rw [if_neg q]
            rw [cmpn_ge hk (by decide), show uN 32 = 32 from rfl] at q
            refine ⟨fun z => absurd z (by decide), fun z => ?_⟩
            rcases z with z | z | z | z
            · exact absurd z.1 hs
            · exact absurd z.1 h32
            · exact absurd z.1 h52
            · exact absurd z.2 q
        · rw [if_neg (fun q => hsh (Or.inl q)), if_neg (fun q => hsh (Or.inr q))]
          refine ⟨fun z => absurd z (by decide), fun z => ?_⟩
          rcases z with z | z | z | z
          · exact absurd z.1 hs
          · exact absurd z.1 h32
          · exact absurd z.1 h52
          · exact absurd z.1 hsh
/-- what follows the look at the code, in the reference -/
theorem t35_eq {G : GT} {i : Int32} (hk : uN (m_M_k G i) < 4294967296) : (bad (m_M_code G i) (uN (m_M_k G i)) → m_M_fault_t35 G i = 3) ∧ (¬ bad (m_M_code G i) (uN (m_M_k G i)) → m_M_fault_t35 G i = m_M_fault_t120 G i) := by
  have j35 : m_M_fault_j35 G i = 0 ↔ ¬ (((m_M_code G i = 96 ∨ m_M_code G i = 97 ∨ m_M_code G i = 2 ∨ m_M_code G i = 3) ∧ 16 ≤ uN (m_M_k G i)) ∨ (m_M_code G i = 32 ∧ (¬ uN (m_M_k G i) % 4 = 0 ∨ 64 ≤ uN (m_M_k G i)))) := by
    unfold m_M_fault_j35
    have e4 := uN_r4 hk
    have sc : m_M_scratchCode (m_M_code G i) = (0 : Int32) ↔ ¬ (m_M_code G i = 96 ∨ m_M_code G i = 97 ∨ m_M_code G i = 2 ∨ m_M_code G i = 3) := by
      unfold m_M_scratchCode
      generalize m_M_code G i = cd
      by_cases h1 : cd = 96
      · rw [if_pos h1]; exact ⟨fun z => absurd z (by decide), fun z => absurd (Or.inl h1) z⟩
      · rw [if_neg h1]
        by_cases h2 : cd = 97
        · rw [if_pos h2]; exact ⟨fun z => absurd z (by decide), fun z => absurd (Or.inr (Or.inl h2)) z⟩
        · rw [if_neg h2]
          by_cases h3 : cd = 2
          · rw [if_pos h3]; exact ⟨fun z => absurd z (by decide), fun z => absurd (Or.inr (Or.inr (Or.inl h3))) z⟩
          · rw [if_neg h3]
            by_cases h4 : cd = 3
            · rw [if_pos h4]; exact ⟨fun z => absurd z (by decide), fun z => absurd (Or.inr (Or.inr (Or.inr h4))) z⟩
            · rw [if_neg h4]
              refine ⟨fun _ z => ?_, fun _ => rfl⟩
              rcases z with z | z | z | z
              · exact h1 z
              · exact h2 z
              · exact h3 z
              · exact h4 z
    have tail : (if m_M_scratchCode (m_M_code G i) = (0 : Int32) then (0 : Int32) else if lg_cmp (m_M_k G i) (15 : Int64) ≤ (0 : Int32) then (0 : Int32) else (1 : Int32)) = 0 ↔ ¬ ((m_M_code G i = 96 ∨ m_M_code G i = 97 ∨ m_M_code G i = 2 ∨ m_M_code G i = 3) ∧ 16 ≤ uN (m_M_k G i)) := by
      by_cases h1 : m_M_scratchCode (m_M_code G i) = (0 : Int32)
      · rw [if_pos h1]
        exact ⟨fun _ z => sc.mp h1 z.1, fun _ => rfl⟩
      · rw [if_neg h1]
        by_cases q : lg_cmp (m_M_k G i) (15 : Int64) ≤ (0 : Int32)
        · rw [if_pos q]
          rw [cmpn_le hk (by decide), show uN 15 = 15 from rfl] at q
          exact ⟨fun _ z => by omega, fun _ => rfl⟩
        · rw [if_neg q]
          rw [cmpn_le hk (by decide), show uN 15 = 15 from rfl] at q
          refine ⟨fun z => absurd z (by decide), fun z => absurd ⟨?_, by omega⟩ z⟩
          exact Classical.byContradiction (fun w => h1 (sc.mpr w))
    by_cases h32 : m_M_code G i = (32 : Int32)
    · have n1 : ¬ (m_M_code G i = 96 ∨ m_M_code G i = 97 ∨ m_M_code G i = 2 ∨ m_M_code G i = 3) := by rw [h32]; decide
      have s0 := sc.mpr n1
      rw [if_pos h32]
      by_cases q1 : lg_cmp ((m_M_k G i) - (m_M_k G i) / (4 : Int64) * (4 : Int64)) (0 : Int64) = (0 : Int32)
      · rw [if_pos q1]
        rw [cmpn_eq, e4, show uN 0 = 0 from rfl] at q1
        by_cases q : (0 : Int32) < lg_cmp (m_M_k G i) (60 : Int64)
        · rw [if_pos q]
          rw [cmpn_gt hk (by decide), show uN 60 = 60 from rfl] at q
          exact ⟨fun z => absurd z (by decide), fun z => absurd (Or.inr ⟨h32, Or.inr (by omega)⟩) z⟩
        · rw [if_neg q, if_pos s0]
          rw [cmpn_gt hk (by decide), show uN 60 = 60 from rfl] at q
          refine ⟨fun _ z => ?_, fun _ => rfl⟩
          rcases z with z | z
          · exact n1 z.1
          · rcases z.2 with z | z
            · exact z q1
            · omega
      · rw [if_neg q1]
        rw [cmpn_eq, e4, show uN 0 = 0 from rfl] at q1
        exact ⟨fun z => absurd z (by decide), fun z => absurd (Or.inr ⟨h32, Or.inl q1⟩) z⟩
    · rw [if_neg h32, tail]
      refine ⟨fun z w => ?_, fun z w => z (Or.inl w)⟩
      rcases w with w | w
      · exact z w
      · exact h32 w.1
  unfold m_M_fault_t35
  by_cases hj : m_M_fault_j35 G i = 0
  · rw [if_pos hj]
    have hb := j35.mp hj
    by_cases h52 : m_M_code G i = (52 : Int32)
    · rw [if_pos h52]
      by_cases q : lg_cmp (m_M_k G i) (0 : Int64) = (0 : Int32)
      · rw [if_pos q]
        rw [cmpn_eq, show uN 0 = 0 from rfl] at q
        exact ⟨fun _ => rfl, fun z => absurd (Or.inr (Or.inr (Or.inl ⟨h52, q⟩))) z⟩
      · rw [if_neg q, if_neg (by rw [h52]; decide), if_neg (by rw [h52]; decide)]
        rw [cmpn_eq, show uN 0 = 0 from rfl] at q
        refine ⟨fun z => ?_, fun _ => rfl⟩
        rcases z with z | z | z | z
        · exact absurd (Or.inl z) hb
        · exact absurd (Or.inr z) hb
        · exact absurd z.2 q
        · rw [h52] at z; exact absurd z.1 (by decide)
    · rw [if_neg h52]
      by_cases hsh : m_M_code G i = 100 ∨ m_M_code G i = 116
      · have e : (if m_M_code G i = (100 : Int32) then if lg_cmp (m_M_k G i) (31 : Int64) ≤ (0 : Int32) then m_M_fault_t120 G i else (3 : Int32) else if m_M_code G i = (116 : Int32) then if lg_cmp (m_M_k G i) (31 : Int64) ≤ (0 : Int32) then m_M_fault_t120 G i else (3 : Int32) else m_M_fault_t120 G i) = if lg_cmp (m_M_k G i) (31 : Int64) ≤ (0 : Int32) then m_M_fault_t120 G i else (3 : Int32) := by
          rcases hsh with h | h
          · rw [if_pos h]
          · rw [if_neg (by rw [h]; decide), if_pos h]
        rw [e]
        by_cases q : lg_cmp (m_M_k G i) (31 : Int64) ≤ (0 : Int32)
        · rw [if_pos q]
          rw [cmpn_le hk (by decide), show uN 31 = 31 from rfl] at q
          refine ⟨fun z => ?_, fun _ => rfl⟩
          rcases z with z | z | z | z
          · exact absurd (Or.inl z) hb
          · exact absurd (Or.inr z) hb
          · exact absurd z.1 h52
          · omega
        · rw [if_neg q]
          rw [cmpn_le hk (by decide), show uN 31 = 31 from rfl] at q
          exact ⟨fun _ => rfl, fun z => absurd (Or.inr (Or.inr (Or.inr ⟨hsh, by omega⟩))) z⟩
      · rw [if_neg (fun q => hsh (Or.inl q)), if_neg (fun q => hsh (Or.inr q))]
        refine ⟨fun z => ?_, fun _ => rfl⟩
        rcases z with z | z | z | z
        · exact absurd (Or.inl z) hb
        · exact absurd (Or.inr z) hb
        · exact absurd z.1 h52
        · exact absurd z.1 hsh
  · rw [if_neg hj]
    refine ⟨fun _ => rfl, fun z => ?_⟩
    exfalso
    apply hj
    rw [j35]
    intro w
    rcases w with w | w
    · exact z (Or.inl w)
    · exact z (Or.inr (Or.inl w))
/-- the jump's fault -/
theorem t120_eq {G : GT} {i : Int32} (hG : iN G.1 ≤ 64) (hi : iN i < iN G.1) : m_M_fault_t120 G i = if lg_cmp (m_Ch_longestSkip (m_In_codeOf (G.2 i.toNatClampNeg)) (G.2 i.toNatClampNeg)) (((G.1 - (1 : Int32)) - i).toInt64) ≤ (0 : Int32) then (0 : Int32) else (4 : Int32) := by
  have e1 : iN (G.1 - (1 : Int32) - i) = iN G.1 - 1 - iN i := by
    rw [iN_sub, iN_sub, show iN (1 : Int32) = 1 from rfl]
    omega
  have e2 : uN (G.1 - (1 : Int32) - i).toInt64 = iN G.1 - 1 - iN i := by rw [uN_i2l (by omega), e1]
  have ei : iN (i + (1 : Int32)) = iN i + 1 := by
    rw [iN_add, show iN (1 : Int32) = 1 from rfl]
    omega
  unfold m_M_fault_t120 m_M_fault_j120 m_M_fault_j154 m_Ch_longestSkip
  rw [jT_eq, jF_eq, code_eq, k_eq]
  generalize G.2 i.toNatClampNeg = z
  have hl := opnd_lt z
  have hT := dT_n z
  have hF := dF_n z
  have key : ∀ y : Int32, iN y < 256 → uN ((1 : Int32) + y).toInt64 = 1 + iN y := by
    intro y hy
    have e5 : iN ((1 : Int32) + y) = 1 + iN y := by
      rw [iN_add, show iN (1 : Int32) = 1 from rfl]
      omega
    rw [uN_i2l (by omega), e5]
  have bT : iN (m_In_distanceIfTrue z) < 256 := by omega
  have bF : iN (m_In_distanceIfFalse z) < 256 := by omega
  by_cases hb : m_M_branch (m_In_codeOf z) = (0 : Int32)
  · have hc := (br_eq _).mp hb
    rw [if_pos hb]
    by_cases h5 : m_In_codeOf z = (5 : Int32)
    · rw [if_pos h5, if_pos h5]
      have e3 : uN ((1 : Int64) + m_In_operandOf z) = 1 + uN (m_In_operandOf z) := by
        rw [uN_add, show uN (1 : Int64) = 1 from rfl]
        omega
      have e6 : uN ((i + (1 : Int32)).toInt64 + m_In_operandOf z) = iN i + 1 + uN (m_In_operandOf z) := by
        rw [uN_add, uN_i2l (by omega), ei]
        omega
      have e7 : uN G.1.toInt64 = iN G.1 := uN_i2l (by omega)
      by_cases q : lg_cmp ((i + (1 : Int32)).toInt64 + m_In_operandOf z) G.1.toInt64 < (0 : Int32)
      · rw [if_pos q, if_pos rfl, if_pos]
        rw [cmp_lt, ltL_n (by omega) (by omega), e6, e7] at q
        rw [cmp_le, leL_n (by omega) (by omega), e3, e2]
        omega
      · rw [if_neg q, if_neg (by decide), if_neg]
        rw [cmp_lt, ltL_n (by omega) (by omega), e6, e7] at q
        rw [cmp_le, leL_n (by omega) (by omega), e3, e2]
        omega
    · rw [if_neg h5, if_neg h5, if_pos rfl, if_pos hc, if_pos]
      rw [cmp_le, leL_n (by decide) (by omega), show uN 0 = 0 from rfl]
      omega
  · have hc : ¬ m_In_isConditional (m_In_codeOf z) = (0 : Int32) := fun q => hb ((br_eq _).mpr q)
    have h5 : ¬ m_In_codeOf z = (5 : Int32) := by
      intro q
      rw [q] at hb
      exact hb (by decide)
    rw [if_neg hb, if_neg h5, if_neg hc]
    have e8 : iN ((i + (1 : Int32)) + m_In_distanceIfTrue z) = iN i + 1 + iN (m_In_distanceIfTrue z) := by rw [iN_add, ei]; omega
    have e9 : iN ((i + (1 : Int32)) + m_In_distanceIfFalse z) = iN i + 1 + iN (m_In_distanceIfFalse z) := by rw [iN_add, ei]; omega
    have lhs : ((if (if G.1 ≤ ((i + (1 : Int32)) + m_In_distanceIfTrue z) then (1 : Int32) else if ((i + (1 : Int32)) + m_In_distanceIfFalse z) < G.1 then (0 : Int32) else (1 : Int32)) = (0 : Int32) then (0 : Int32) else (4 : Int32))) = if iN i + 1 + iN (m_In_distanceIfTrue z) < iN G.1 ∧ iN i + 1 + iN (m_In_distanceIfFalse z) < iN G.1 then (0 : Int32) else (4 : Int32) := by
      by_cases q1 : G.1 ≤ ((i + (1 : Int32)) + m_In_distanceIfTrue z)
      · rw [if_pos q1, if_neg (by decide), if_neg]
        rw [le_n (by omega) (by omega), e8] at q1
        omega
      · rw [if_neg q1]
        rw [le_n (by omega) (by omega), e8] at q1
        by_cases q2 : ((i + (1 : Int32)) + m_In_distanceIfFalse z) < G.1
        · rw [if_pos q2, if_pos rfl, if_pos]
          rw [lt_n (by omega) (by omega), e9] at q2
          omega
        · rw [if_neg q2, if_neg (by decide), if_neg]
          rw [lt_n (by omega) (by omega), e9] at q2
          omega
    rw [lhs]
    by_cases hlt : m_In_distanceIfTrue z < m_In_distanceIfFalse z
    · rw [if_pos hlt]
      have hlt2 := hlt
      rw [lt_n (by omega) (by omega)] at hlt2
      have e10 := key _ bF
      by_cases q : iN i + 1 + iN (m_In_distanceIfTrue z) < iN G.1 ∧ iN i + 1 + iN (m_In_distanceIfFalse z) < iN G.1
      · rw [if_pos q, if_pos]
        rw [cmp_le, leL_n (by omega) (by omega), e10, e2]
        omega
      · rw [if_neg q, if_neg]
        rw [cmp_le, leL_n (by omega) (by omega), e10, e2]
        omega
    · rw [if_neg hlt]
      have hlt2 := hlt
      rw [lt_n (by omega) (by omega)] at hlt2
      have e10 := key _ bT
      by_cases q : iN i + 1 + iN (m_In_distanceIfTrue z) < iN G.1 ∧ iN i + 1 + iN (m_In_distanceIfFalse z) < iN G.1
      · rw [if_pos q, if_pos]
        rw [cmp_le, leL_n (by omega) (by omega), e10, e2]
        omega
      · rw [if_neg q, if_neg]
        rw [cmp_le, leL_n (by omega) (by omega), e10, e2]
        omega
theorem fault_eq {G : GT} {i : Int32} (hG : iN G.1 ≤ 64) (hi : iN i < iN G.1) : m_M_fault G i = m_Ch_ownFault G i := by
  have hk : uN (m_M_k G i) < 4294967296 := opnd_lt _
  have ht : m_M_fault G i = if m_In_isKnown (m_In_codeOf (G.2 i.toNatClampNeg)) = (0 : Int32) then (2 : Int32) else m_M_fault_t35 G i := by
    unfold m_M_fault
    rw [code_eq]
    generalize m_In_codeOf (G.2 i.toNatClampNeg) = cd
    by_cases hm : cd ∈ KL
    · obtain ⟨k1, k2⟩ := kl_k cd hm
      rw [if_neg k1]
      by_cases a1 : m_M_operation cd = (0 : Int32)
      · rw [if_pos a1]
        by_cases a2 : m_M_branch cd = (0 : Int32)
        · rw [if_pos a2, if_neg (fun a3 => k2 ⟨a1, a2, a3⟩)]
        · rw [if_neg a2]
      · rw [if_neg a1]
    · have k1 : m_In_isKnown cd = (0 : Int32) := Classical.byContradiction (fun q => hm (known_in q))
      rw [if_pos k1, if_pos ((op_in cd).resolve_right hm), if_pos ((br_in cd).resolve_right hm), if_pos ((pl_in cd).resolve_right hm)]
  rw [ht]
  unfold m_Ch_ownFault
  by_cases k1 : m_In_isKnown (m_In_codeOf (G.2 i.toNatClampNeg)) = (0 : Int32)
  · rw [if_pos k1, if_pos k1]
  · rw [if_neg k1, if_neg k1]
    obtain ⟨a, b⟩ := t35_eq hk
    by_cases hb : bad (m_M_code G i) (uN (m_M_k G i))
    · have hb2 : m_Ch_isOperandFit (m_In_codeOf (G.2 i.toNatClampNeg)) (m_In_operandOf (G.2 i.toNatClampNeg)) = (0 : Int32) := (fitC hk).mpr hb
      rw [a hb, if_pos hb2]
    · have hb2 : ¬ m_Ch_isOperandFit (m_In_codeOf (G.2 i.toNatClampNeg)) (m_In_operandOf (G.2 i.toNatClampNeg)) = (0 : Int32) := fun q => hb ((fitC hk).mp q)
      rw [b hb, if_neg hb2, t120_eq hG hi]
/-! What the reference's own walks need -/
theorem okM_C {G : GT} (hG : iN G.1 ≤ 64) (h : ∀ i, i < iN G.1 → m_M_fault G (nI i) = 0) : ∀ i, i < iN G.1 → m_Ch_ownFault G (nI i) = 0 := fun i hi => by
  rw [← fault_eq hG (by rw [iN_nIs (by omega)]; exact hi)]
  exact h i hi
theorem farM {G : GT} (hG : iN G.1 ≤ 64) (h : ∀ i, i < iN G.1 → m_M_fault G (nI i) = 0) {x : Int32} (hx : iN x < iN G.1) : (m_M_code G x = (5 : Int32) → iN x + 1 + uN (m_M_k G x) < iN G.1) ∧ (¬ m_M_branch (m_M_code G x) = (0 : Int32) → iN x + 1 + iN (m_M_jump G x 1) < iN G.1 ∧ iN x + 1 + iN (m_M_jump G x 0) < iN G.1) := by
  have hf := far_of hG (okM_C hG h) hx
  refine ⟨fun c => hf.1 c, fun c => ?_⟩
  rw [jT_eq, jF_eq]
  refine hf.2 (fun q => c ((br_eq _).mpr q)) (fun q => c ?_)
  have q : m_M_code G x = 5 := q
  rw [q]
  decide
theorem bk_t {G : GT} {i : Nat} (hG : iN G.1 ≤ 64) (h : ∀ i, i < iN G.1 → m_M_fault G (nI i) = 0) (hi : i < iN G.1) (hb : ¬ m_M_branch (m_M_code G (nI i)) = (0 : Int32)) : vp_in (((nI i) + (1 : Int32)) + (m_M_jump G (nI i) (1 : Int32))) 64 := by
  have e := iN_nIs (n := i) (by omega)
  have hf := ((farM hG h (x := nI i) (by omega)).2 hb).1
  refine in_iN (by decide) ?_
  rw [iN_add, in_1 (by omega)]
  omega
theorem bk_f {G : GT} {i : Nat} (hG : iN G.1 ≤ 64) (h : ∀ i, i < iN G.1 → m_M_fault G (nI i) = 0) (hi : i < iN G.1) (hb : ¬ m_M_branch (m_M_code G (nI i)) = (0 : Int32)) : vp_in (((nI i) + (1 : Int32)) + (m_M_jump G (nI i) (0 : Int32))) 64 := by
  have e := iN_nIs (n := i) (by omega)
  have hf := ((farM hG h (x := nI i) (by omega)).2 hb).2
  refine in_iN (by decide) ?_
  rw [iN_add, in_1 (by omega)]
  omega
theorem bk_k {G : GT} {i : Nat} (hG : iN G.1 ≤ 64) (h : ∀ i, i < iN G.1 → m_M_fault G (nI i) = 0) (hi : i < iN G.1) (hb : m_M_code G (nI i) = (5 : Int32)) : vp_in (((nI i) + (1 : Int32)) + ((m_M_k G (nI i)).toInt32)) 64 := by
  have e := iN_nIs (n := i) (by omega)
  have hf := (farM hG h (x := nI i) (by omega)).1 hb
  refine in_iN (by decide) ?_
  rw [iN_add, in_1 (by omega), iN_tr]
  omega
theorem bk_n {i : Nat} (hi : i + 1 < 64) : vp_in ((nI i) + (1 : Int32)) 64 := by
  rw [nI_1]
  exact vp_in_nI hi (by decide)
theorem okM_step {G : GT} {j : Nat} (hok : ∀ i, i < j → m_M_fault G (nI i) = 0) (h : m_M_fault G (nI j) = (0 : Int32)) : ∀ i, i < j + 1 → m_M_fault G (nI i) = 0 := by
  intro i hi
  by_cases e : i = j
  · rw [e]
    exact h
  · exact hok i (by omega)
theorem okM_all {G : GT} {j : Nat} (hG : iN G.1 ≤ 64) (hj : j ≤ 64) (hok : ∀ i, i < j → m_M_fault G (nI i) = 0) (h : G.1 ≤ nI j) : ∀ i, i < iN G.1 → m_M_fault G (nI i) = 0 := by
  have e := iN_nIs (n := j) (by omega)
  rw [le_n (by omega) (by omega), e] at h
  exact fun i hi => hok i (by omega)
theorem endM_of {G : GT} (hG : iN G.1 ≤ 64) (h0 : ¬ G.1 = (0 : Int32)) (h : ¬ m_M_ends G (G.1 - (1 : Int32)) = (0 : Int32)) : ¬ m_M_ends G (nI (iN G.1 - 1)) = 0 := by
  have e := iN_pred h0
  rw [← e, nI_iN]
  exact h
theorem wd_20 : Cond.selects R_M y_M_ends y_M_ends ∈ lw_g := wd_in (i := 20) (by decide +kernel) (by decide +kernel)
theorem wd_514 : Cond.fieldLink R_M 44 R_M "mark" "[Z" ∈ lw_g := wd_in (i := 514) (by decide +kernel) (by decide +kernel)
theorem wd_671 : Cond.methodLink R_M 138 y_M_ends ∈ lw_g := wd_in (i := 671) (by decide +kernel) (by decide +kernel)
theorem wd_673 : Cond.instanceMethod y_M_ends ∈ lw_g := wd_in (i := 673) (by decide +kernel) (by decide +kernel)
theorem wd_674 : Cond.code y_M_ends prog_12_method_25_code 2 (Option.some Jvm.ClassFile.FieldType.boolean) ∈ lw_g := wd_in (i := 674) (by decide +kernel) (by decide +kernel)
theorem d_M_bare_0 : decode b_M_bare 0 = .ok (.iconst 0, 1) := by decide +kernel
theorem d_M_bare_1 : decode b_M_bare 1 = .ok (.istore 4, 2) := by decide +kernel
theorem d_M_bare_3 : decode b_M_bare 3 = .ok (.iload 4, 2) := by decide +kernel
theorem d_M_bare_5 : decode b_M_bare 5 = .ok (.aload_n 0, 1) := by decide +kernel
theorem d_M_bare_6 : decode b_M_bare 6 = .ok (.getfield 100, 3) := by decide +kernel
theorem d_M_bare_9 : decode b_M_bare 9 = .ok (.if_icmp .ge 26, 3) := by decide +kernel
theorem d_M_bare_12 : decode b_M_bare 12 = .ok (.aload_n 0, 1) := by decide +kernel
theorem d_M_bare_13 : decode b_M_bare 13 = .ok (.getfield 44, 3) := by decide +kernel
theorem d_M_bare_16 : decode b_M_bare 16 = .ok (.iload 4, 2) := by decide +kernel
theorem d_M_bare_18 : decode b_M_bare 18 = .ok (.iload 4, 2) := by decide +kernel
theorem d_M_bare_20 : decode b_M_bare 20 = .ok (.ifCond .ne 7, 3) := by decide +kernel
theorem d_M_bare_23 : decode b_M_bare 23 = .ok (.iconst 1, 1) := by decide +kernel
theorem d_M_bare_24 : decode b_M_bare 24 = .ok (.goto 4, 3) := by decide +kernel
theorem d_M_bare_27 : decode b_M_bare 27 = .ok (.iconst 0, 1) := by decide +kernel
theorem d_M_bare_28 : decode b_M_bare 28 = .ok (.bastore, 1) := by decide +kernel
theorem d_M_bare_29 : decode b_M_bare 29 = .ok (.iinc 4 1, 3) := by decide +kernel
theorem d_M_bare_32 : decode b_M_bare 32 = .ok (.goto (-29), 3) := by decide +kernel
theorem d_M_bare_35 : decode b_M_bare 35 = .ok (.iconst 0, 1) := by decide +kernel
theorem d_M_bare_36 : decode b_M_bare 36 = .ok (.istore 4, 2) := by decide +kernel
theorem d_M_bare_38 : decode b_M_bare 38 = .ok (.iload 4, 2) := by decide +kernel
theorem d_M_bare_40 : decode b_M_bare 40 = .ok (.iload_n 1, 1) := by decide +kernel
theorem d_M_bare_41 : decode b_M_bare 41 = .ok (.if_icmp .ge 149, 3) := by decide +kernel
theorem d_M_bare_44 : decode b_M_bare 44 = .ok (.aload_n 0, 1) := by decide +kernel
theorem d_M_bare_45 : decode b_M_bare 45 = .ok (.iload 4, 2) := by decide +kernel
theorem d_M_bare_47 : decode b_M_bare 47 = .ok (.invokevirtual 107, 3) := by decide +kernel
theorem d_M_bare_50 : decode b_M_bare 50 = .ok (.istore 5, 2) := by decide +kernel
theorem d_M_bare_52 : decode b_M_bare 52 = .ok (.iload 5, 2) := by decide +kernel
theorem d_M_bare_54 : decode b_M_bare 54 = .ok (.iconst 2, 1) := by decide +kernel
theorem d_M_bare_55 : decode b_M_bare 55 = .ok (.if_icmp .eq 9, 3) := by decide +kernel
theorem d_M_bare_58 : decode b_M_bare 58 = .ok (.iload 5, 2) := by decide +kernel
theorem d_M_bare_60 : decode b_M_bare 60 = .ok (.iconst 3, 1) := by decide +kernel
theorem d_M_bare_61 : decode b_M_bare 61 = .ok (.if_icmp .ne 18, 3) := by decide +kernel
theorem d_M_bare_64 : decode b_M_bare 64 = .ok (.aload_n 0, 1) := by decide +kernel
theorem d_M_bare_65 : decode b_M_bare 65 = .ok (.iload 4, 2) := by decide +kernel
theorem d_M_bare_67 : decode b_M_bare 67 = .ok (.invokevirtual 111, 3) := by decide +kernel
theorem d_M_bare_70 : decode b_M_bare 70 = .ok (.lload_n 2, 1) := by decide +kernel
theorem d_M_bare_71 : decode b_M_bare 71 = .ok (.lcmp, 1) := by decide +kernel
theorem d_M_bare_72 : decode b_M_bare 72 = .ok (.ifCond .ne 7, 3) := by decide +kernel
theorem d_M_bare_75 : decode b_M_bare 75 = .ok (.iconst 1, 1) := by decide +kernel
theorem d_M_bare_76 : decode b_M_bare 76 = .ok (.goto 4, 3) := by decide +kernel
theorem d_M_bare_79 : decode b_M_bare 79 = .ok (.iconst 0, 1) := by decide +kernel
theorem d_M_bare_80 : decode b_M_bare 80 = .ok (.istore 6, 2) := by decide +kernel
theorem d_M_bare_82 : decode b_M_bare 82 = .ok (.aload_n 0, 1) := by decide +kernel
theorem d_M_bare_83 : decode b_M_bare 83 = .ok (.getfield 44, 3) := by decide +kernel
theorem d_M_bare_86 : decode b_M_bare 86 = .ok (.iload 4, 2) := by decide +kernel
theorem d_M_bare_88 : decode b_M_bare 88 = .ok (.baload, 1) := by decide +kernel
theorem d_M_bare_89 : decode b_M_bare 89 = .ok (.ifCond .eq 95, 3) := by decide +kernel
theorem d_M_bare_92 : decode b_M_bare 92 = .ok (.iload 6, 2) := by decide +kernel
theorem d_M_bare_94 : decode b_M_bare 94 = .ok (.ifCond .ne 90, 3) := by decide +kernel
theorem d_M_bare_97 : decode b_M_bare 97 = .ok (.aload_n 0, 1) := by decide +kernel
theorem d_M_bare_98 : decode b_M_bare 98 = .ok (.iload 4, 2) := by decide +kernel
theorem d_M_bare_100 : decode b_M_bare 100 = .ok (.invokevirtual 138, 3) := by decide +kernel
theorem d_M_bare_103 : decode b_M_bare 103 = .ok (.ifCond .ne 81, 3) := by decide +kernel
theorem d_M_bare_106 : decode b_M_bare 106 = .ok (.iload 5, 2) := by decide +kernel
theorem d_M_bare_108 : decode b_M_bare 108 = .ok (.invokestatic 117, 3) := by decide +kernel
theorem d_M_bare_111 : decode b_M_bare 111 = .ok (.ifCond .eq 42, 3) := by decide +kernel
theorem d_M_bare_114 : decode b_M_bare 114 = .ok (.aload_n 0, 1) := by decide +kernel
theorem d_M_bare_115 : decode b_M_bare 115 = .ok (.getfield 44, 3) := by decide +kernel
theorem d_M_bare_118 : decode b_M_bare 118 = .ok (.iload 4, 2) := by decide +kernel
theorem d_M_bare_120 : decode b_M_bare 120 = .ok (.iconst 1, 1) := by decide +kernel
theorem d_M_bare_121 : decode b_M_bare 121 = .ok (.iadd, 1) := by decide +kernel
theorem d_M_bare_122 : decode b_M_bare 122 = .ok (.aload_n 0, 1) := by decide +kernel
theorem d_M_bare_123 : decode b_M_bare 123 = .ok (.iload 4, 2) := by decide +kernel
theorem d_M_bare_125 : decode b_M_bare 125 = .ok (.iconst 1, 1) := by decide +kernel
theorem d_M_bare_126 : decode b_M_bare 126 = .ok (.invokevirtual 134, 3) := by decide +kernel
theorem d_M_bare_129 : decode b_M_bare 129 = .ok (.iadd, 1) := by decide +kernel
theorem d_M_bare_130 : decode b_M_bare 130 = .ok (.iconst 1, 1) := by decide +kernel
theorem d_M_bare_131 : decode b_M_bare 131 = .ok (.bastore, 1) := by decide +kernel
theorem d_M_bare_132 : decode b_M_bare 132 = .ok (.aload_n 0, 1) := by decide +kernel
theorem d_M_bare_133 : decode b_M_bare 133 = .ok (.getfield 44, 3) := by decide +kernel
theorem d_M_bare_136 : decode b_M_bare 136 = .ok (.iload 4, 2) := by decide +kernel
theorem d_M_bare_138 : decode b_M_bare 138 = .ok (.iconst 1, 1) := by decide +kernel
theorem d_M_bare_139 : decode b_M_bare 139 = .ok (.iadd, 1) := by decide +kernel
theorem d_M_bare_140 : decode b_M_bare 140 = .ok (.aload_n 0, 1) := by decide +kernel
theorem d_M_bare_141 : decode b_M_bare 141 = .ok (.iload 4, 2) := by decide +kernel
theorem d_M_bare_143 : decode b_M_bare 143 = .ok (.iconst 0, 1) := by decide +kernel
theorem d_M_bare_144 : decode b_M_bare 144 = .ok (.invokevirtual 134, 3) := by decide +kernel
theorem d_M_bare_147 : decode b_M_bare 147 = .ok (.iadd, 1) := by decide +kernel
theorem d_M_bare_148 : decode b_M_bare 148 = .ok (.iconst 1, 1) := by decide +kernel
theorem d_M_bare_149 : decode b_M_bare 149 = .ok (.bastore, 1) := by decide +kernel
theorem d_M_bare_150 : decode b_M_bare 150 = .ok (.goto 34, 3) := by decide +kernel
theorem d_M_bare_153 : decode b_M_bare 153 = .ok (.aload_n 0, 1) := by decide +kernel
theorem d_M_bare_154 : decode b_M_bare 154 = .ok (.getfield 44, 3) := by decide +kernel
theorem d_M_bare_157 : decode b_M_bare 157 = .ok (.iload 5, 2) := by decide +kernel
theorem d_M_bare_159 : decode b_M_bare 159 = .ok (.iconst 5, 1) := by decide +kernel
theorem d_M_bare_160 : decode b_M_bare 160 = .ok (.if_icmp .ne 18, 3) := by decide +kernel
theorem d_M_bare_163 : decode b_M_bare 163 = .ok (.iload 4, 2) := by decide +kernel
theorem d_M_bare_165 : decode b_M_bare 165 = .ok (.iconst 1, 1) := by decide +kernel
theorem d_M_bare_166 : decode b_M_bare 166 = .ok (.iadd, 1) := by decide +kernel
theorem d_M_bare_167 : decode b_M_bare 167 = .ok (.aload_n 0, 1) := by decide +kernel
theorem d_M_bare_168 : decode b_M_bare 168 = .ok (.iload 4, 2) := by decide +kernel
theorem d_M_bare_170 : decode b_M_bare 170 = .ok (.invokevirtual 111, 3) := by decide +kernel
theorem d_M_bare_173 : decode b_M_bare 173 = .ok (.l2i, 1) := by decide +kernel
theorem d_M_bare_174 : decode b_M_bare 174 = .ok (.iadd, 1) := by decide +kernel
theorem d_M_bare_175 : decode b_M_bare 175 = .ok (.goto 7, 3) := by decide +kernel
theorem d_M_bare_178 : decode b_M_bare 178 = .ok (.iload 4, 2) := by decide +kernel
theorem d_M_bare_180 : decode b_M_bare 180 = .ok (.iconst 1, 1) := by decide +kernel
theorem d_M_bare_181 : decode b_M_bare 181 = .ok (.iadd, 1) := by decide +kernel
theorem d_M_bare_182 : decode b_M_bare 182 = .ok (.iconst 1, 1) := by decide +kernel
theorem d_M_bare_183 : decode b_M_bare 183 = .ok (.bastore, 1) := by decide +kernel
theorem d_M_bare_184 : decode b_M_bare 184 = .ok (.iinc 4 1, 3) := by decide +kernel
theorem d_M_bare_187 : decode b_M_bare 187 = .ok (.goto (-149), 3) := by decide +kernel
theorem d_M_bare_190 : decode b_M_bare 190 = .ok (.aload_n 0, 1) := by decide +kernel
theorem d_M_bare_191 : decode b_M_bare 191 = .ok (.getfield 44, 3) := by decide +kernel
theorem d_M_bare_194 : decode b_M_bare 194 = .ok (.iload_n 1, 1) := by decide +kernel
theorem d_M_bare_195 : decode b_M_bare 195 = .ok (.baload, 1) := by decide +kernel
theorem d_M_bare_196 : decode b_M_bare 196 = .ok (.ireturn, 1) := by decide +kernel
def m_M_bare_l2 (G : GT) (mk : Nat → Int32) (to : Int32) (cell : Int64) : Nat → Nat → (Nat → Int32) → Int32 × (Nat → Int32)
  | 0, _, _ => (0, mk)
  | n2 + 1, i, m2 => if to ≤ (nI i) then (m2 to.toNatClampNeg, m2) else if (m_M_code G (nI i)) = (2 : Int32) then if (lg_cmp (m_M_k G (nI i)) cell) = (0 : Int32) then if (m2 (nI i).toNatClampNeg) = (0 : Int32) then m_M_bare_l2 G mk to cell n2 (i + 1) m2 else m_M_bare_l2 G mk to cell n2 (i + 1) m2 else if (m2 (nI i).toNatClampNeg) = (0 : Int32) then m_M_bare_l2 G mk to cell n2 (i + 1) m2 else if (m_M_ends G (nI i)) = (0 : Int32) then if (m_M_branch (m_M_code G (nI i))) = (0 : Int32) then if (m_M_code G (nI i)) = (5 : Int32) then m_M_bare_l2 G mk to cell n2 (i + 1) (upd m2 (((nI i) + (1 : Int32)) + ((m_M_k G (nI i)).toInt32)).toNatClampNeg (1 : Int32)) else m_M_bare_l2 G mk to cell n2 (i + 1) (upd m2 ((nI i) + (1 : Int32)).toNatClampNeg (1 : Int32)) else m_M_bare_l2 G mk to cell n2 (i + 1) (upd (upd m2 (((nI i) + (1 : Int32)) + (m_M_jump G (nI i) (1 : Int32))).toNatClampNeg (1 : Int32)) (((nI i) + (1 : Int32)) + (m_M_jump G (nI i) (0 : Int32))).toNatClampNeg (1 : Int32)) else m_M_bare_l2 G mk to cell n2 (i + 1) m2 else if (m_M_code G (nI i)) = (3 : Int32) then if (lg_cmp (m_M_k G (nI i)) cell) = (0 : Int32) then if (m2 (nI i).toNatClampNeg) = (0 : Int32) then m_M_bare_l2 G mk to cell n2 (i + 1) m2 else m_M_bare_l2 G mk to cell n2 (i + 1) m2 else if (m2 (nI i).toNatClampNeg) = (0 : Int32) then m_M_bare_l2 G mk to cell n2 (i + 1) m2 else if (m_M_ends G (nI i)) = (0 : Int32) then if (m_M_branch (m_M_code G (nI i))) = (0 : Int32) then if (m_M_code G (nI i)) = (5 : Int32) then m_M_bare_l2 G mk to cell n2 (i + 1) (upd m2 (((nI i) + (1 : Int32)) + ((m_M_k G (nI i)).toInt32)).toNatClampNeg (1 : Int32)) else m_M_bare_l2 G mk to cell n2 (i + 1) (upd m2 ((nI i) + (1 : Int32)).toNatClampNeg (1 : Int32)) else m_M_bare_l2 G mk to cell n2 (i + 1) (upd (upd m2 (((nI i) + (1 : Int32)) + (m_M_jump G (nI i) (1 : Int32))).toNatClampNeg (1 : Int32)) (((nI i) + (1 : Int32)) + (m_M_jump G (nI i) (0 : Int32))).toNatClampNeg (1 : Int32)) else m_M_bare_l2 G mk to cell n2 (i + 1) m2 else if (m2 (nI i).toNatClampNeg) = (0 : Int32) then m_M_bare_l2 G mk to cell n2 (i + 1) m2 else if (m_M_ends G (nI i)) = (0 : Int32) then if (m_M_branch (m_M_code G (nI i))) = (0 : Int32) then if (m_M_code G (nI i)) = (5 : Int32) then m_M_bare_l2 G mk to cell n2 (i + 1) (upd m2 (((nI i) + (1 : Int32)) + ((m_M_k G (nI i)).toInt32)).toNatClampNeg (1 : Int32)) else m_M_bare_l2 G mk to cell n2 (i + 1) (upd m2 ((nI i) + (1 : Int32)).toNatClampNeg (1 : Int32)) else m_M_bare_l2 G mk to cell n2 (i + 1) (upd (upd m2 (((nI i) + (1 : Int32)) + (m_M_jump G (nI i) (1 : Int32))).toNatClampNeg (1 : Int32)) (((nI i) + (1 : Int32)) + (m_M_jump G (nI i) (0 : Int32))).toNatClampNeg (1 : Int32)) else m_M_bare_l2 G mk to cell n2 (i + 1) m2
def m_M_bare_l1 (G : GT) (mk : Nat → Int32) (to : Int32) (cell : Int64) : Nat → Nat → (Nat → Int32) → Int32 × (Nat → Int32)
  | 0, _, _ => (0, mk)
  | n1 + 1, j, m1 => if G.1 ≤ (nI j) then m_M_bare_l2 G mk to cell (65) 0 m1 else if (nI j) = (0 : Int32) then m_M_bare_l1 G mk to cell n1 (j + 1) (upd m1 (nI j).toNatClampNeg (1 : Int32)) else m_M_bare_l1 G mk to cell n1 (j + 1) (upd m1 (nI j).toNatClampNeg (0 : Int32))
def m_M_bare (G : GT) (mk : Nat → Int32) (to : Int32) (cell : Int64) : Int32 × (Nat → Int32) := m_M_bare_l1 G mk to cell (65) 0 mk
set_option maxHeartbeats 4000000 in
set_option maxRecDepth 100000 in
theorem c_M_bare (l : Launch) (D : va_G) (dA : Nat → ClassId) (ad : Nat → Nat) (A : Nat → Prop) (hAd : AdOK 15 ad A) (ho : Int32) (wo : Nat → Int32) (Q : QT) (G : GT) (mk : Nat → Int32) (X : XT) (to : Int32) (cell : Int64) (hG : iN G.1 ≤ 64) (hto : iN to < iN G.1) (hok : ∀ i, i < iN G.1 → m_M_fault G (nI i) = 0) (hend : ¬ m_M_ends G (nI (iN G.1 - 1)) = 0) (hmk : ∀ i, b01 (mk i)) : Met l y_M_bare (mW y_M_bare b_M_bare 7 (some .boolean)) { frames := 2, cells := 0, slots := 0, locals := 42 } (va_Pc [.ref (ad 0), .int to, .long cell] (fun U => MG D dA ad ho wo Q G mk X U)) (va_Qi (fun (r : Int32) (u : (Nat → Int32)) => r = (m_M_bare G mk to cell).1 ∧ u = (m_M_bare G mk to cell).2) (fun u t => MG D dA ad ho wo Q G u X t) A) 0 0 A := by
  refine Met.ofW (cc := b_M_bare) (maxL := 7) (ret := (some .boolean)) (by decide) rfl ?_
  intro p e s m args below meth c s₁ B hml hv
  obtain ⟨rfl, hP, hK⟩ := hv
  have hx := B.exec
  have hb := B.bytes
  have hr := B.returns
  have hlocks := B.notSynchronized
  have hts := fun (w : Cond) (h : w ∈ lw_g) => atoms_spec (ws := mW y_M_bare b_M_bare 7 (some .boolean)) B.pre w (List.mem_cons_of_mem _ h)
  have hown : s.vm.findClass R_M = some m.cls := findClass_of_methodNamed B.named
  have hS : va_S A s.heap s.heap [] := va_S.rf
  have hl := lv_entry ([.ref (ad 0), .int to, .long cell]) (n := 7) (Nat.le_of_ble_eq_true rfl)
  rw [lg_entry_eq]
  generalize (lg_sl ([.ref (ad 0), .int to, .long cell]) ++ List.replicate (7 - (lg_sl ([.ref (ad 0), .int to, .long cell])).length) Slot.unset).toArray = ls at hl ⊢
  have hl : lv_has ls 7 [(0, .ref (ad 0)), (1, .int to), (2, .long cell)] := hl
  refine lv_iconst (v := 0) hx hb d_M_bare_0 (by decide) ?_
  refine lv_istore hx hb d_M_bare_1 hl (by decide) rfl (fun ls hl => ?_)
  have hl : lv_has ls 7 [(4, .int (0 : Int32)), (0, .ref (ad 0)), (1, .int to), (2, .long cell)] := hl
  refine W_loop2 (X := fun (n1 : Nat) (j : Nat) (m1 : Nat → Int32) (H : Heap) (locs : List Loc) (ls : Array Slot) => 64 - j < n1 ∧ m_M_bare G mk to cell = m_M_bare_l1 G mk to cell n1 j m1 ∧ lv_has ls 7 [(4, .int (nI j)), (0, .ref (ad 0)), (1, .int to), (2, .long cell)] ∧ va_P D cls (wM ad dA ho wo Q G m1 X) H ∧ va_S A s.heap H locs ∧ j ≤ 64 ∧ (∀ i, b01 (m1 i))) (65) 0 mk ⟨(by decide), (by rw [m_M_bare]), (lv_sub hl [0, 1, 2, 3] rfl), hP, hS, (by decide), hmk⟩ (fun _ _ _ _ _ h => absurd h.1 (Nat.not_lt_zero _)) (fun n1 ih1 j m1 H locs ls h => ?_)
  obtain ⟨hn1, hm1, hl, hP, hS, hj, hb1⟩ := h
  refine lv_iload hx hb d_M_bare_3 (lv_at hl 0 rfl) ?_
  refine lv_aload_n hx hb d_M_bare_5 rfl (lv_at hl 1 rfl) ?_
  refine va_get (D := D) (ci := 9) (v := .int G.1) (C := R_M) (T := F_M) (N := 20) hx hb hts in_M hown hK hP 0 rfl rfl 12 (by decide) (hts _ wd_512) (fun _ h9 => h9) rfl d_M_bare_6 ?_
  refine lv_icmp_ge (tgt := 35) hx hb d_M_bare_9 (by decide) (fun h1 => ?_) (fun h1 => ?_)
  · refine lv_iconst (v := 0) hx hb d_M_bare_35 (by decide) ?_
    refine lv_istore hx hb d_M_bare_36 hl (by decide) rfl (fun ls hl => ?_)
    have hl : lv_has ls 7 [(4, .int (0 : Int32)), (0, .ref (ad 0)), (1, .int to), (2, .long cell)] := hl
    refine W_loop2 (X := fun (n2 : Nat) (i : Nat) (m2 : Nat → Int32) (H : Heap) (locs : List Loc) (ls : Array Slot) => 64 - i < n2 ∧ m_M_bare G mk to cell = m_M_bare_l2 G mk to cell n2 i m2 ∧ lv_has ls 7 [(4, .int (nI i)), (0, .ref (ad 0)), (1, .int to), (2, .long cell)] ∧ va_P D cls (wM ad dA ho wo Q G m2 X) H ∧ va_S A s.heap H locs ∧ i ≤ iN to ∧ (∀ i, b01 (m2 i))) (65) 0 m1 ⟨(by decide), (by rw [hm1, m_M_bare_l1, if_pos h1]), (lv_sub hl [0, 1, 2, 3] rfl), hP, hS, (Nat.zero_le _), hb1⟩ (fun _ _ _ _ _ h => absurd h.1 (Nat.not_lt_zero _)) (fun n2 ih2 i m2 H locs ls h => ?_)
    obtain ⟨hn2, hm2, hl, hP, hS, hi, hb2⟩ := h
    refine lv_iload hx hb d_M_bare_38 (lv_at hl 0 rfl) ?_
    refine lv_iload_n hx hb d_M_bare_40 rfl (lv_at hl 2 rfl) ?_
    refine lv_icmp_ge (tgt := 190) hx hb d_M_bare_41 (by decide) (fun h2 => ?_) (fun h2 => ?_)
    · refine lv_aload_n hx hb d_M_bare_190 rfl (lv_at hl 1 rfl) ?_
      refine va_get (D := D) (ci := 9) (v := .ref (ad 12)) (C := R_M) (T := F_M) (N := 20) hx hb hts in_M hown hK hP 0 rfl rfl 14 (by decide) (hts _ wd_514) (fun _ h9 => h9) rfl d_M_bare_191 ?_
      refine lv_iload_n hx hb d_M_bare_194 rfl (lv_at hl 2 rfl) ?_
      refine va_zald (n := 64) (f := m2) hx hb hK hP 12 4 rfl rfl (to_in hG hto) d_M_bare_195 ?_
      exact W.zret hx hb hr (z_b01 (hb2 _)) (fun t ht hW => ⟨⟨_, _, rfl, ⟨(by rw [hm2, m_M_bare_l2, if_pos h2]), (by rw [hm2, m_M_bare_l2, if_pos h2])⟩, MG_at hP hK ht hW⟩, hS.F ht⟩) hS.2.2 d_M_bare_196
    have hil : i < iN to := nt_lt (Nat.lt_of_lt_of_le hto hG) hi h2
    refine lv_aload_n hx hb d_M_bare_44 rfl (lv_at hl 1 rfl) ?_
    refine lv_iload hx hb d_M_bare_45 (lv_at hl 0 rfl) ?_
    refine vp_callSi (va_Run.run (va_runV (As := [.int (nI i)]) (rest := []) ⟨hx, hb, hml, hown, hts⟩ (c_M_code l D dA ad ho wo Q G m2 X (nI i) (vp_in_nI (by omega) (by decide))) (cwV 1 hts (g_V wd_641 wd_643 wd_17 wd_35 wd_644) rfl rfl rfl (by decide +kernel) ⟨Nat.le_of_ble_eq_true rfl, Nat.le_of_ble_eq_true rfl⟩) ⟨MG_fb, (va_recv (ci := 9) (q := (R_M, F_M, 20)) (q0 := 0) hK hP rfl rfl), fun U hU hW => ⟨rfl, MG_at hP hK hU hW⟩⟩ rfl rfl hl.1 rfl (lv_room (Nat.le_of_ble_eq_true rfl)) d_M_bare_47 ⟨Nat.le_of_ble_eq_true rfl, Nat.le_of_ble_eq_true rfl⟩)) (fun r1 e1 => ?_)
    subst e1
    refine lv_istore hx hb d_M_bare_50 hl (by decide) rfl (fun ls hl => ?_)
    have hl : lv_has ls 7 [(5, .int (m_M_code G (nI i))), (4, .int (nI i)), (0, .ref (ad 0)), (1, .int to), (2, .long cell)] := hl
    refine lv_iload hx hb d_M_bare_52 (lv_at hl 0 rfl) ?_
    refine lv_iconst (v := 2) hx hb d_M_bare_54 (by decide) ?_
    refine lv_icmp_eq (tgt := 64) hx hb d_M_bare_55 (by decide) (fun h3 => ?_) (fun h3 => ?_)
    · refine lv_aload_n hx hb d_M_bare_64 rfl (lv_at hl 2 rfl) ?_
      refine lv_iload hx hb d_M_bare_65 (lv_at hl 1 rfl) ?_
      refine vp_callSl (va_Run.run (va_runV (As := [.int (nI i)]) (rest := []) ⟨hx, hb, hml, hown, hts⟩ (c_M_k l D dA ad ho wo Q G m2 X (nI i) (vp_in_nI (by omega) (by decide))) (cwV 1 hts (g_V wd_646 wd_648 wd_18 wd_35 wd_649) rfl rfl rfl (by decide +kernel) ⟨Nat.le_of_ble_eq_true rfl, Nat.le_of_ble_eq_true rfl⟩) ⟨MG_fb, (va_recv (ci := 9) (q := (R_M, F_M, 20)) (q0 := 0) hK hP rfl rfl), fun U hU hW => ⟨rfl, MG_at hP hK hU hW⟩⟩ rfl rfl hl.1 rfl (lv_room (Nat.le_of_ble_eq_true rfl)) d_M_bare_67 ⟨Nat.le_of_ble_eq_true rfl, Nat.le_of_ble_eq_true rfl⟩)) (fun r2 e2 => ?_)
      subst e2
      refine lv_lload_n hx hb d_M_bare_70 rfl (lv_at hl 4 rfl) ?_
      refine W.lcmp hx hb d_M_bare_71 ?_
      refine lv_if_ne (tgt := 79) hx hb d_M_bare_72 (by decide) (fun h4 => ?_) (fun h4 => ?_)
      · refine lv_iconst (v := 0) hx hb d_M_bare_79 (by decide) ?_
        refine lv_istore hx hb d_M_bare_80 hl (by decide) rfl (fun ls hl => ?_)
        have hl : lv_has ls 7 [(6, .int (0 : Int32)), (5, .int (m_M_code G (nI i))), (4, .int (nI i)), (0, .ref (ad 0)), (1, .int to), (2, .long cell)] := hl
        refine lv_aload_n hx hb d_M_bare_82 rfl (lv_at hl 3 rfl) ?_
        refine va_get (D := D) (ci := 9) (v := .ref (ad 12)) (C := R_M) (T := F_M) (N := 20) hx hb hts in_M hown hK hP 0 rfl rfl 14 (by decide) (hts _ wd_514) (fun _ h9 => h9) rfl d_M_bare_83 ?_
        refine lv_iload hx hb d_M_bare_86 (lv_at hl 2 rfl) ?_
        refine va_zald (n := 64) (f := m2) hx hb hK hP 12 4 rfl rfl (vp_in_nI (by omega) (by decide)) d_M_bare_88 ?_
        refine lv_if_eq (tgt := 184) hx hb d_M_bare_89 (by decide) (fun h5 => ?_) (fun h5 => ?_)
        · refine lv_iinc (v := (nI i) + 1) hx hb d_M_bare_184 hl (k := 2) rfl rfl (by decide) rfl (fun ls hl => ?_)
          have hl : lv_has ls 7 [(4, .int ((nI i) + 1)), (6, .int (0 : Int32)), (5, .int (m_M_code G (nI i))), (0, .ref (ad 0)), (1, .int to), (2, .long cell)] := hl
          refine lv_goto (tgt := 38) hx hb d_M_bare_187 (by decide) ?_
          exact ih2 (i + 1) m2 _ _ _ ⟨(by omega), (by rw [hm2, m_M_bare_l2, if_neg h2, if_pos h3, if_neg h4, if_pos h5]), (by have h9 := lv_sub hl [0, 3, 4, 5] rfl; rw [nI_1] at h9; exact h9), hP, hS, (by omega), hb2⟩
        refine lv_iload hx hb d_M_bare_92 (lv_at hl 0 rfl) ?_
        refine lv_if_ne (tgt := 184) hx hb d_M_bare_94 (by decide) (fun h => absurd h (by decide)) (fun _ => ?_)
        refine lv_aload_n hx hb d_M_bare_97 rfl (lv_at hl 3 rfl) ?_
        refine lv_iload hx hb d_M_bare_98 (lv_at hl 2 rfl) ?_
        refine vp_callSi (va_Run.run (va_runV (As := [.int (nI i)]) (rest := []) ⟨hx, hb, hml, hown, hts⟩ (c_M_ends l D dA ad ho wo Q G m2 X (nI i) (vp_in_nI (by omega) (by decide))) (cwV 1 hts (g_V wd_671 wd_673 wd_20 wd_35 wd_674) rfl rfl rfl (by decide +kernel) ⟨Nat.le_of_ble_eq_true rfl, Nat.le_of_ble_eq_true rfl⟩) ⟨MG_fb, (va_recv (ci := 9) (q := (R_M, F_M, 20)) (q0 := 0) hK hP rfl rfl), fun U hU hW => ⟨rfl, MG_at hP hK hU hW⟩⟩ rfl rfl hl.1 rfl (lv_room (Nat.le_of_ble_eq_true rfl)) d_M_bare_100 ⟨Nat.le_of_ble_eq_true rfl, Nat.le_of_ble_eq_true rfl⟩)) (fun r3 e3 => ?_)
        subst e3
        refine lv_if_ne (tgt := 184) hx hb d_M_bare_103 (by decide) (fun h6 => ?_) (fun h6 => ?_)
        · refine lv_iinc (v := (nI i) + 1) hx hb d_M_bare_184 hl (k := 2) rfl rfl (by decide) rfl (fun ls hl => ?_)
          have hl : lv_has ls 7 [(4, .int ((nI i) + 1)), (6, .int (0 : Int32)), (5, .int (m_M_code G (nI i))), (0, .ref (ad 0)), (1, .int to), (2, .long cell)] := hl
          refine lv_goto (tgt := 38) hx hb d_M_bare_187 (by decide) ?_
          exact ih2 (i + 1) m2 _ _ _ ⟨(by omega), (by rw [hm2, m_M_bare_l2, if_neg h2, if_pos h3, if_neg h4, if_neg h5, if_neg h6]), (by have h9 := lv_sub hl [0, 3, 4, 5] rfl; rw [nI_1] at h9; exact h9), hP, hS, (by omega), hb2⟩
        refine lv_iload hx hb d_M_bare_106 (lv_at hl 1 rfl) ?_
        refine vp_callSi (va_Run.run (va_runS (As := [.int (m_M_code G (nI i))]) (rest := []) ⟨hx, hb, hml, hown, hts⟩ (c_M_branch l (m_M_code G (nI i))) (va_cwS 1 hts (g_S wd_653 wd_654 wd_35 wd_655) rfl rfl rfl (by decide +kernel) ⟨Nat.le_of_ble_eq_true rfl, Nat.le_of_ble_eq_true rfl⟩) ⟨fun _ _ _ _ q => q, fun _ _ _ => ⟨rfl, trivial⟩⟩ rfl rfl hl.1 rfl (lv_room (Nat.le_of_ble_eq_true rfl)) d_M_bare_108 ⟨Nat.le_of_ble_eq_true rfl, Nat.le_of_ble_eq_true rfl⟩)) (fun r4 e4 => ?_)
        subst e4
        refine lv_if_eq (tgt := 153) hx hb d_M_bare_111 (by decide) (fun h7 => ?_) (fun h7 => ?_)
        · refine lv_aload_n hx hb d_M_bare_153 rfl (lv_at hl 3 rfl) ?_
          refine va_get (D := D) (ci := 9) (v := .ref (ad 12)) (C := R_M) (T := F_M) (N := 20) hx hb hts in_M hown hK hP 0 rfl rfl 14 (by decide) (hts _ wd_514) (fun _ h9 => h9) rfl d_M_bare_154 ?_
          refine lv_iload hx hb d_M_bare_157 (lv_at hl 1 rfl) ?_
          refine lv_iconst (v := 5) hx hb d_M_bare_159 (by decide) ?_
          refine lv_icmp_ne (tgt := 178) hx hb d_M_bare_160 (by decide) (fun h8 => ?_) (fun h8 => ?_)
          · refine lv_iload hx hb d_M_bare_178 (lv_at hl 2 rfl) ?_
            refine lv_iconst (v := 1) hx hb d_M_bare_180 (by decide) ?_
            refine lv_iadd hx hb d_M_bare_181 ?_
            refine lv_iconst (v := 1) hx hb d_M_bare_182 (by decide) ?_
            refine va_zast (n := 64) (f := m2) hx hb hK hP (wM_D hAd) hS 12 4 rfl rfl (bk_n (by omega)) d_M_bare_183 (fun H locs hP _ hS => ?_)
            have hP : va_P D cls (wM ad dA ho wo Q G (upd m2 ((nI i) + (1 : Int32)).toNatClampNeg (1 : Int32)) X) H := hP
            refine lv_iinc (v := (nI i) + 1) hx hb d_M_bare_184 hl (k := 2) rfl rfl (by decide) rfl (fun ls hl => ?_)
            have hl : lv_has ls 7 [(4, .int ((nI i) + 1)), (6, .int (0 : Int32)), (5, .int (m_M_code G (nI i))), (0, .ref (ad 0)), (1, .int to), (2, .long cell)] := hl
            refine lv_goto (tgt := 38) hx hb d_M_bare_187 (by decide) ?_
            exact ih2 (i + 1) (upd m2 ((nI i) + (1 : Int32)).toNatClampNeg (1 : Int32)) _ _ _ ⟨(by omega), (by rw [hm2, m_M_bare_l2, if_neg h2, if_pos h3, if_neg h4, if_neg h5, if_pos h6, if_pos h7, if_neg h8]), (by have h9 := lv_sub hl [0, 3, 4, 5] rfl; rw [nI_1] at h9; exact h9), hP, hS, (by omega), (by first | exact b01_upd hb2 | exact b01_upd (b01_upd hb2))⟩
          refine lv_iload hx hb d_M_bare_163 (lv_at hl 2 rfl) ?_
          refine lv_iconst (v := 1) hx hb d_M_bare_165 (by decide) ?_
          refine lv_iadd hx hb d_M_bare_166 ?_
          refine lv_aload_n hx hb d_M_bare_167 rfl (lv_at hl 3 rfl) ?_
          refine lv_iload hx hb d_M_bare_168 (lv_at hl 2 rfl) ?_
          refine vp_callSl (va_Run.run (va_runV (As := [.int (nI i)]) (rest := [.int ((nI i) + (1 : Int32)), .ref (ad 12)]) ⟨hx, hb, hml, hown, hts⟩ (c_M_k l D dA ad ho wo Q G m2 X (nI i) (vp_in_nI (by omega) (by decide))) (cwV 1 hts (g_V wd_646 wd_648 wd_18 wd_35 wd_649) rfl rfl rfl (by decide +kernel) ⟨Nat.le_of_ble_eq_true rfl, Nat.le_of_ble_eq_true rfl⟩) ⟨MG_fb, (va_recv (ci := 9) (q := (R_M, F_M, 20)) (q0 := 0) hK hP rfl rfl), fun U hU hW => ⟨rfl, MG_at hP hK hU hW⟩⟩ rfl rfl hl.1 rfl (lv_room (Nat.le_of_ble_eq_true rfl)) d_M_bare_170 ⟨Nat.le_of_ble_eq_true rfl, Nat.le_of_ble_eq_true rfl⟩)) (fun r5 e5 => ?_)
          subst e5
          refine lv_l2i hx hb d_M_bare_173 rfl ?_
          refine lv_iadd hx hb d_M_bare_174 ?_
          refine lv_goto (tgt := 182) hx hb d_M_bare_175 (by decide) ?_
          refine lv_iconst (v := 1) hx hb d_M_bare_182 (by decide) ?_
          refine va_zast (n := 64) (f := m2) hx hb hK hP (wM_D hAd) hS 12 4 rfl rfl (bk_k hG hok (by omega) (by assumption)) d_M_bare_183 (fun H locs hP _ hS => ?_)
          have hP : va_P D cls (wM ad dA ho wo Q G (upd m2 (((nI i) + (1 : Int32)) + ((m_M_k G (nI i)).toInt32)).toNatClampNeg (1 : Int32)) X) H := hP
          refine lv_iinc (v := (nI i) + 1) hx hb d_M_bare_184 hl (k := 2) rfl rfl (by decide) rfl (fun ls hl => ?_)
          have hl : lv_has ls 7 [(4, .int ((nI i) + 1)), (6, .int (0 : Int32)), (5, .int (m_M_code G (nI i))), (0, .ref (ad 0)), (1, .int to), (2, .long cell)] := hl
          refine lv_goto (tgt := 38) hx hb d_M_bare_187 (by decide) ?_
          exact ih2 (i + 1) (upd m2 (((nI i) + (1 : Int32)) + ((m_M_k G (nI i)).toInt32)).toNatClampNeg (1 : Int32)) _ _ _ ⟨(by omega), (by rw [hm2, m_M_bare_l2, if_neg h2, if_pos h3, if_neg h4, if_neg h5, if_pos h6, if_pos h7, if_pos h8]), (by have h9 := lv_sub hl [0, 3, 4, 5] rfl; rw [nI_1] at h9; exact h9), hP, hS, (by omega), (by first | exact b01_upd hb2 | exact b01_upd (b01_upd hb2))⟩
        refine lv_aload_n hx hb d_M_bare_114 rfl (lv_at hl 3 rfl) ?_
        refine va_get (D := D) (ci := 9) (v := .ref (ad 12)) (C := R_M) (T := F_M) (N := 20) hx hb hts in_M hown hK hP 0 rfl rfl 14 (by decide) (hts _ wd_514) (fun _ h9 => h9) rfl d_M_bare_115 ?_
        refine lv_iload hx hb d_M_bare_118 (lv_at hl 2 rfl) ?_
        refine lv_iconst (v := 1) hx hb d_M_bare_120 (by decide) ?_
        refine lv_iadd hx hb d_M_bare_121 ?_
        refine lv_aload_n hx hb d_M_bare_122 rfl (lv_at hl 3 rfl) ?_
        refine lv_iload hx hb d_M_bare_123 (lv_at hl 2 rfl) ?_
        refine lv_iconst (v := 1) hx hb d_M_bare_125 (by decide) ?_
        refine vp_callSi (va_Run.run (va_runV (As := [.int (nI i), .int (1 : Int32)]) (rest := [.int ((nI i) + (1 : Int32)), .ref (ad 12)]) ⟨hx, hb, hml, hown, hts⟩ (c_M_jump l D dA ad ho wo Q G m2 X (nI i) (1 : Int32) (vp_in_nI (by omega) (by decide))) (cwV 2 hts (g_V wd_666 wd_668 wd_19 wd_35 wd_669) rfl rfl rfl (by decide +kernel) ⟨Nat.le_of_ble_eq_true rfl, Nat.le_of_ble_eq_true rfl⟩) ⟨MG_fb, (va_recv (ci := 9) (q := (R_M, F_M, 20)) (q0 := 0) hK hP rfl rfl), fun U hU hW => ⟨rfl, MG_at hP hK hU hW⟩⟩ rfl rfl hl.1 rfl (lv_room (Nat.le_of_ble_eq_true rfl)) d_M_bare_126 ⟨Nat.le_of_ble_eq_true rfl, Nat.le_of_ble_eq_true rfl⟩)) (fun r6 e6 => ?_)
        subst e6
        refine lv_iadd hx hb d_M_bare_129 ?_
        refine lv_iconst (v := 1) hx hb d_M_bare_130 (by decide) ?_
        refine va_zast (n := 64) (f := m2) hx hb hK hP (wM_D hAd) hS 12 4 rfl rfl (bk_t hG hok (by omega) (by assumption)) d_M_bare_131 (fun H locs hP _ hS => ?_)
        have hP : va_P D cls (wM ad dA ho wo Q G (upd m2 (((nI i) + (1 : Int32)) + (m_M_jump G (nI i) (1 : Int32))).toNatClampNeg (1 : Int32)) X) H := hP
        refine lv_aload_n hx hb d_M_bare_132 rfl (lv_at hl 3 rfl) ?_
        refine va_get (D := D) (ci := 9) (v := .ref (ad 12)) (C := R_M) (T := F_M) (N := 20) hx hb hts in_M hown hK hP 0 rfl rfl 14 (by decide) (hts _ wd_514) (fun _ h9 => h9) rfl d_M_bare_133 ?_
        refine lv_iload hx hb d_M_bare_136 (lv_at hl 2 rfl) ?_
        refine lv_iconst (v := 1) hx hb d_M_bare_138 (by decide) ?_
        refine lv_iadd hx hb d_M_bare_139 ?_
        refine lv_aload_n hx hb d_M_bare_140 rfl (lv_at hl 3 rfl) ?_
        refine lv_iload hx hb d_M_bare_141 (lv_at hl 2 rfl) ?_
        refine lv_iconst (v := 0) hx hb d_M_bare_143 (by decide) ?_
        refine vp_callSi (va_Run.run (va_runV (As := [.int (nI i), .int (0 : Int32)]) (rest := [.int ((nI i) + (1 : Int32)), .ref (ad 12)]) ⟨hx, hb, hml, hown, hts⟩ (c_M_jump l D dA ad ho wo Q G (upd m2 (((nI i) + (1 : Int32)) + (m_M_jump G (nI i) (1 : Int32))).toNatClampNeg (1 : Int32)) X (nI i) (0 : Int32) (vp_in_nI (by omega) (by decide))) (cwV 2 hts (g_V wd_666 wd_668 wd_19 wd_35 wd_669) rfl rfl rfl (by decide +kernel) ⟨Nat.le_of_ble_eq_true rfl, Nat.le_of_ble_eq_true rfl⟩) ⟨MG_fb, (va_recv (ci := 9) (q := (R_M, F_M, 20)) (q0 := 0) hK hP rfl rfl), fun U hU hW => ⟨rfl, MG_at hP hK hU hW⟩⟩ rfl rfl hl.1 rfl (lv_room (Nat.le_of_ble_eq_true rfl)) d_M_bare_144 ⟨Nat.le_of_ble_eq_true rfl, Nat.le_of_ble_eq_true rfl⟩)) (fun r7 e7 => ?_)
        subst e7
        refine lv_iadd hx hb d_M_bare_147 ?_
        refine lv_iconst (v := 1) hx hb d_M_bare_148 (by decide) ?_
        refine va_zast (n := 64) (f := upd m2 (((nI i) + (1 : Int32)) + (m_M_jump G (nI i) (1 : Int32))).toNatClampNeg (1 : Int32)) hx hb hK hP (wM_D hAd) hS 12 4 rfl rfl (bk_f hG hok (by omega) (by assumption)) d_M_bare_149 (fun H locs hP _ hS => ?_)
        have hP : va_P D cls (wM ad dA ho wo Q G (upd (upd m2 (((nI i) + (1 : Int32)) + (m_M_jump G (nI i) (1 : Int32))).toNatClampNeg (1 : Int32)) (((nI i) + (1 : Int32)) + (m_M_jump G (nI i) (0 : Int32))).toNatClampNeg (1 : Int32)) X) H := hP
        refine lv_goto (tgt := 184) hx hb d_M_bare_150 (by decide) ?_
        refine lv_iinc (v := (nI i) + 1) hx hb d_M_bare_184 hl (k := 2) rfl rfl (by decide) rfl (fun ls hl => ?_)
        have hl : lv_has ls 7 [(4, .int ((nI i) + 1)), (6, .int (0 : Int32)), (5, .int (m_M_code G (nI i))), (0, .ref (ad 0)), (1, .int to), (2, .long cell)] := hl
        refine lv_goto (tgt := 38) hx hb d_M_bare_187 (by decide) ?_
        exact ih2 (i + 1) (upd (upd m2 (((nI i) + (1 : Int32)) + (m_M_jump G (nI i) (1 : Int32))).toNatClampNeg (1 : Int32)) (((nI i) + (1 : Int32)) + (m_M_jump G (nI i) (0 : Int32))).toNatClampNeg (1 : Int32)) _ _ _ ⟨(by omega), (by rw [hm2, m_M_bare_l2, if_neg h2, if_pos h3, if_neg h4, if_neg h5, if_pos h6, if_neg h7]), (by have h9 := lv_sub hl [0, 3, 4, 5] rfl; rw [nI_1] at h9; exact h9), hP, hS, (by omega), (by first | exact b01_upd hb2 | exact b01_upd (b01_upd hb2))⟩
      refine lv_iconst (v := 1) hx hb d_M_bare_75 (by decide) ?_
      refine lv_goto (tgt := 80) hx hb d_M_bare_76 (by decide) ?_
      refine lv_istore hx hb d_M_bare_80 hl (by decide) rfl (fun ls hl => ?_)
      have hl : lv_has ls 7 [(6, .int (1 : Int32)), (5, .int (m_M_code G (nI i))), (4, .int (nI i)), (0, .ref (ad 0)), (1, .int to), (2, .long cell)] := hl
      refine lv_aload_n hx hb d_M_bare_82 rfl (lv_at hl 3 rfl) ?_
      refine va_get (D := D) (ci := 9) (v := .ref (ad 12)) (C := R_M) (T := F_M) (N := 20) hx hb hts in_M hown hK hP 0 rfl rfl 14 (by decide) (hts _ wd_514) (fun _ h9 => h9) rfl d_M_bare_83 ?_
      refine lv_iload hx hb d_M_bare_86 (lv_at hl 2 rfl) ?_
      refine va_zald (n := 64) (f := m2) hx hb hK hP 12 4 rfl rfl (vp_in_nI (by omega) (by decide)) d_M_bare_88 ?_
      refine lv_if_eq (tgt := 184) hx hb d_M_bare_89 (by decide) (fun h9 => ?_) (fun h9 => ?_)
      · refine lv_iinc (v := (nI i) + 1) hx hb d_M_bare_184 hl (k := 2) rfl rfl (by decide) rfl (fun ls hl => ?_)
        have hl : lv_has ls 7 [(4, .int ((nI i) + 1)), (6, .int (1 : Int32)), (5, .int (m_M_code G (nI i))), (0, .ref (ad 0)), (1, .int to), (2, .long cell)] := hl
        refine lv_goto (tgt := 38) hx hb d_M_bare_187 (by decide) ?_
        exact ih2 (i + 1) m2 _ _ _ ⟨(by omega), (by rw [hm2, m_M_bare_l2, if_neg h2, if_pos h3, if_pos h4, if_pos h9]), (by have h9 := lv_sub hl [0, 3, 4, 5] rfl; rw [nI_1] at h9; exact h9), hP, hS, (by omega), hb2⟩
      refine lv_iload hx hb d_M_bare_92 (lv_at hl 0 rfl) ?_
      refine lv_if_ne (tgt := 184) hx hb d_M_bare_94 (by decide) (fun _ => ?_) (fun h => absurd h (by decide))
      refine lv_iinc (v := (nI i) + 1) hx hb d_M_bare_184 hl (k := 2) rfl rfl (by decide) rfl (fun ls hl => ?_)
      have hl : lv_has ls 7 [(4, .int ((nI i) + 1)), (6, .int (1 : Int32)), (5, .int (m_M_code G (nI i))), (0, .ref (ad 0)), (1, .int to), (2, .long cell)] := hl
      refine lv_goto (tgt := 38) hx hb d_M_bare_187 (by decide) ?_
      exact ih2 (i + 1) m2 _ _ _ ⟨(by omega), (by rw [hm2, m_M_bare_l2, if_neg h2, if_pos h3, if_pos h4, if_neg h9]), (by have h9 := lv_sub hl [0, 3, 4, 5] rfl; rw [nI_1] at h9; exact h9), hP, hS, (by omega), hb2⟩
    refine lv_iload hx hb d_M_bare_58 (lv_at hl 0 rfl) ?_
    refine lv_iconst (v := 3) hx hb d_M_bare_60 (by decide) ?_
    refine lv_icmp_ne (tgt := 79) hx hb d_M_bare_61 (by decide) (fun h10 => ?_) (fun h10 => ?_)
    · refine lv_iconst (v := 0) hx hb d_M_bare_79 (by decide) ?_
      refine lv_istore hx hb d_M_bare_80 hl (by decide) rfl (fun ls hl => ?_)
      have hl : lv_has ls 7 [(6, .int (0 : Int32)), (5, .int (m_M_code G (nI i))), (4, .int (nI i)), (0, .ref (ad 0)), (1, .int to), (2, .long cell)] := hl
      refine lv_aload_n hx hb d_M_bare_82 rfl (lv_at hl 3 rfl) ?_
      refine va_get (D := D) (ci := 9) (v := .ref (ad 12)) (C := R_M) (T := F_M) (N := 20) hx hb hts in_M hown hK hP 0 rfl rfl 14 (by decide) (hts _ wd_514) (fun _ h9 => h9) rfl d_M_bare_83 ?_
      refine lv_iload hx hb d_M_bare_86 (lv_at hl 2 rfl) ?_
      refine va_zald (n := 64) (f := m2) hx hb hK hP 12 4 rfl rfl (vp_in_nI (by omega) (by decide)) d_M_bare_88 ?_
      refine lv_if_eq (tgt := 184) hx hb d_M_bare_89 (by decide) (fun h11 => ?_) (fun h11 => ?_)
      · refine lv_iinc (v := (nI i) + 1) hx hb d_M_bare_184 hl (k := 2) rfl rfl (by decide) rfl (fun ls hl => ?_)
        have hl : lv_has ls 7 [(4, .int ((nI i) + 1)), (6, .int (0 : Int32)), (5, .int (m_M_code G (nI i))), (0, .ref (ad 0)), (1, .int to), (2, .long cell)] := hl
        refine lv_goto (tgt := 38) hx hb d_M_bare_187 (by decide) ?_
        exact ih2 (i + 1) m2 _ _ _ ⟨(by omega), (by rw [hm2, m_M_bare_l2, if_neg h2, if_neg h3, if_neg h10, if_pos h11]), (by have h9 := lv_sub hl [0, 3, 4, 5] rfl; rw [nI_1] at h9; exact h9), hP, hS, (by omega), hb2⟩
      refine lv_iload hx hb d_M_bare_92 (lv_at hl 0 rfl) ?_
      refine lv_if_ne (tgt := 184) hx hb d_M_bare_94 (by decide) (fun h => absurd h (by decide)) (fun _ => ?_)
      refine lv_aload_n hx hb d_M_bare_97 rfl (lv_at hl 3 rfl) ?_
      refine lv_iload hx hb d_M_bare_98 (lv_at hl 2 rfl) ?_
      refine vp_callSi (va_Run.run (va_runV (As := [.int (nI i)]) (rest := []) ⟨hx, hb, hml, hown, hts⟩ (c_M_ends l D dA ad ho wo Q G m2 X (nI i) (vp_in_nI (by omega) (by decide))) (cwV 1 hts (g_V wd_671 wd_673 wd_20 wd_35 wd_674) rfl rfl rfl (by decide +kernel) ⟨Nat.le_of_ble_eq_true rfl, Nat.le_of_ble_eq_true rfl⟩) ⟨MG_fb, (va_recv (ci := 9) (q := (R_M, F_M, 20)) (q0 := 0) hK hP rfl rfl), fun U hU hW => ⟨rfl, MG_at hP hK hU hW⟩⟩ rfl rfl hl.1 rfl (lv_room (Nat.le_of_ble_eq_true rfl)) d_M_bare_100 ⟨Nat.le_of_ble_eq_true rfl, Nat.le_of_ble_eq_true rfl⟩)) (fun r8 e8 => ?_)
      subst e8
      refine lv_if_ne (tgt := 184) hx hb d_M_bare_103 (by decide) (fun h12 => ?_) (fun h12 => ?_)
      · refine lv_iinc (v := (nI i) + 1) hx hb d_M_bare_184 hl (k := 2) rfl rfl (by decide) rfl (fun ls hl => ?_)
        have hl : lv_has ls 7 [(4, .int ((nI i) + 1)), (6, .int (0 : Int32)), (5, .int (m_M_code G (nI i))), (0, .ref (ad 0)), (1, .int to), (2, .long cell)] := hl
        refine lv_goto (tgt := 38) hx hb d_M_bare_187 (by decide) ?_
        exact ih2 (i + 1) m2 _ _ _ ⟨(by omega), (by rw [hm2, m_M_bare_l2, if_neg h2, if_neg h3, if_neg h10, if_neg h11, if_neg h12]), (by have h9 := lv_sub hl [0, 3, 4, 5] rfl; rw [nI_1] at h9; exact h9), hP, hS, (by omega), hb2⟩
      refine lv_iload hx hb d_M_bare_106 (lv_at hl 1 rfl) ?_
      refine vp_callSi (va_Run.run (va_runS (As := [.int (m_M_code G (nI i))]) (rest := []) ⟨hx, hb, hml, hown, hts⟩ (c_M_branch l (m_M_code G (nI i))) (va_cwS 1 hts (g_S wd_653 wd_654 wd_35 wd_655) rfl rfl rfl (by decide +kernel) ⟨Nat.le_of_ble_eq_true rfl, Nat.le_of_ble_eq_true rfl⟩) ⟨fun _ _ _ _ q => q, fun _ _ _ => ⟨rfl, trivial⟩⟩ rfl rfl hl.1 rfl (lv_room (Nat.le_of_ble_eq_true rfl)) d_M_bare_108 ⟨Nat.le_of_ble_eq_true rfl, Nat.le_of_ble_eq_true rfl⟩)) (fun r9 e9 => ?_)
      subst e9
      refine lv_if_eq (tgt := 153) hx hb d_M_bare_111 (by decide) (fun h13 => ?_) (fun h13 => ?_)
      · refine lv_aload_n hx hb d_M_bare_153 rfl (lv_at hl 3 rfl) ?_
        refine va_get (D := D) (ci := 9) (v := .ref (ad 12)) (C := R_M) (T := F_M) (N := 20) hx hb hts in_M hown hK hP 0 rfl rfl 14 (by decide) (hts _ wd_514) (fun _ h9 => h9) rfl d_M_bare_154 ?_
        refine lv_iload hx hb d_M_bare_157 (lv_at hl 1 rfl) ?_
        refine lv_iconst (v := 5) hx hb d_M_bare_159 (by decide) ?_
        refine lv_icmp_ne (tgt := 178) hx hb d_M_bare_160 (by decide) (fun h14 => ?_) (fun h14 => ?_)
        · refine lv_iload hx hb d_M_bare_178 (lv_at hl 2 rfl) ?_
          refine lv_iconst (v := 1) hx hb d_M_bare_180 (by decide) ?_
          refine lv_iadd hx hb d_M_bare_181 ?_
          refine lv_iconst (v := 1) hx hb d_M_bare_182 (by decide) ?_
          refine va_zast (n := 64) (f := m2) hx hb hK hP (wM_D hAd) hS 12 4 rfl rfl (bk_n (by omega)) d_M_bare_183 (fun H locs hP _ hS => ?_)
          have hP : va_P D cls (wM ad dA ho wo Q G (upd m2 ((nI i) + (1 : Int32)).toNatClampNeg (1 : Int32)) X) H := hP
          refine lv_iinc (v := (nI i) + 1) hx hb d_M_bare_184 hl (k := 2) rfl rfl (by decide) rfl (fun ls hl => ?_)
          have hl : lv_has ls 7 [(4, .int ((nI i) + 1)), (6, .int (0 : Int32)), (5, .int (m_M_code G (nI i))), (0, .ref (ad 0)), (1, .int to), (2, .long cell)] := hl
          refine lv_goto (tgt := 38) hx hb d_M_bare_187 (by decide) ?_
          exact ih2 (i + 1) (upd m2 ((nI i) + (1 : Int32)).toNatClampNeg (1 : Int32)) _ _ _ ⟨(by omega), (by rw [hm2, m_M_bare_l2, if_neg h2, if_neg h3, if_neg h10, if_neg h11, if_pos h12, if_pos h13, if_neg h14]), (by have h9 := lv_sub hl [0, 3, 4, 5] rfl; rw [nI_1] at h9; exact h9), hP, hS, (by omega), (by first | exact b01_upd hb2 | exact b01_upd (b01_upd hb2))⟩
        refine lv_iload hx hb d_M_bare_163 (lv_at hl 2 rfl) ?_
        refine lv_iconst (v := 1) hx hb d_M_bare_165 (by decide) ?_
        refine lv_iadd hx hb d_M_bare_166 ?_
        refine lv_aload_n hx hb d_M_bare_167 rfl (lv_at hl 3 rfl) ?_
        refine lv_iload hx hb d_M_bare_168 (lv_at hl 2 rfl) ?_
        refine vp_callSl (va_Run.run (va_runV (As := [.int (nI i)]) (rest := [.int ((nI i) + (1 : Int32)), .ref (ad 12)]) ⟨hx, hb, hml, hown, hts⟩ (c_M_k l D dA ad ho wo Q G m2 X (nI i) (vp_in_nI (by omega) (by decide))) (cwV 1 hts (g_V wd_646 wd_648 wd_18 wd_35 wd_649) rfl rfl rfl (by decide +kernel) ⟨Nat.le_of_ble_eq_true rfl, Nat.le_of_ble_eq_true rfl⟩) ⟨MG_fb, (va_recv (ci := 9) (q := (R_M, F_M, 20)) (q0 := 0) hK hP rfl rfl), fun U hU hW => ⟨rfl, MG_at hP hK hU hW⟩⟩ rfl rfl hl.1 rfl (lv_room (Nat.le_of_ble_eq_true rfl)) d_M_bare_170 ⟨Nat.le_of_ble_eq_true rfl, Nat.le_of_ble_eq_true rfl⟩)) (fun r10 e10 => ?_)
        subst e10
        refine lv_l2i hx hb d_M_bare_173 rfl ?_
        refine lv_iadd hx hb d_M_bare_174 ?_
        refine lv_goto (tgt := 182) hx hb d_M_bare_175 (by decide) ?_
        refine lv_iconst (v := 1) hx hb d_M_bare_182 (by decide) ?_
        refine va_zast (n := 64) (f := m2) hx hb hK hP (wM_D hAd) hS 12 4 rfl rfl (bk_k hG hok (by omega) (by assumption)) d_M_bare_183 (fun H locs hP _ hS => ?_)
        have hP : va_P D cls (wM ad dA ho wo Q G (upd m2 (((nI i) + (1 : Int32)) + ((m_M_k G (nI i)).toInt32)).toNatClampNeg (1 : Int32)) X) H := hP
        refine lv_iinc (v := (nI i) + 1) hx hb d_M_bare_184 hl (k := 2) rfl rfl (by decide) rfl (fun ls hl => ?_)
        have hl : lv_has ls 7 [(4, .int ((nI i) + 1)), (6, .int (0 : Int32)), (5, .int (m_M_code G (nI i))), (0, .ref (ad 0)), (1, .int to), (2, .long cell)] := hl
        refine lv_goto (tgt := 38) hx hb d_M_bare_187 (by decide) ?_
        exact ih2 (i + 1) (upd m2 (((nI i) + (1 : Int32)) + ((m_M_k G (nI i)).toInt32)).toNatClampNeg (1 : Int32)) _ _ _ ⟨(by omega), (by rw [hm2, m_M_bare_l2, if_neg h2, if_neg h3, if_neg h10, if_neg h11, if_pos h12, if_pos h13, if_pos h14]), (by have h9 := lv_sub hl [0, 3, 4, 5] rfl; rw [nI_1] at h9; exact h9), hP, hS, (by omega), (by first | exact b01_upd hb2 | exact b01_upd (b01_upd hb2))⟩
      refine lv_aload_n hx hb d_M_bare_114 rfl (lv_at hl 3 rfl) ?_
      refine va_get (D := D) (ci := 9) (v := .ref (ad 12)) (C := R_M) (T := F_M) (N := 20) hx hb hts in_M hown hK hP 0 rfl rfl 14 (by decide) (hts _ wd_514) (fun _ h9 => h9) rfl d_M_bare_115 ?_
      refine lv_iload hx hb d_M_bare_118 (lv_at hl 2 rfl) ?_
      refine lv_iconst (v := 1) hx hb d_M_bare_120 (by decide) ?_
      refine lv_iadd hx hb d_M_bare_121 ?_
      refine lv_aload_n hx hb d_M_bare_122 rfl (lv_at hl 3 rfl) ?_
      refine lv_iload hx hb d_M_bare_123 (lv_at hl 2 rfl) ?_
      refine lv_iconst (v := 1) hx hb d_M_bare_125 (by decide) ?_
      refine vp_callSi (va_Run.run (va_runV (As := [.int (nI i), .int (1 : Int32)]) (rest := [.int ((nI i) + (1 : Int32)), .ref (ad 12)]) ⟨hx, hb, hml, hown, hts⟩ (c_M_jump l D dA ad ho wo Q G m2 X (nI i) (1 : Int32) (vp_in_nI (by omega) (by decide))) (cwV 2 hts (g_V wd_666 wd_668 wd_19 wd_35 wd_669) rfl rfl rfl (by decide +kernel) ⟨Nat.le_of_ble_eq_true rfl, Nat.le_of_ble_eq_true rfl⟩) ⟨MG_fb, (va_recv (ci := 9) (q := (R_M, F_M, 20)) (q0 := 0) hK hP rfl rfl), fun U hU hW => ⟨rfl, MG_at hP hK hU hW⟩⟩ rfl rfl hl.1 rfl (lv_room (Nat.le_of_ble_eq_true rfl)) d_M_bare_126 ⟨Nat.le_of_ble_eq_true rfl, Nat.le_of_ble_eq_true rfl⟩)) (fun r11 e11 => ?_)
      subst e11
      refine lv_iadd hx hb d_M_bare_129 ?_
      refine lv_iconst (v := 1) hx hb d_M_bare_130 (by decide) ?_
      refine va_zast (n := 64) (f := m2) hx hb hK hP (wM_D hAd) hS 12 4 rfl rfl (bk_t hG hok (by omega) (by assumption)) d_M_bare_131 (fun H locs hP _ hS => ?_)
      have hP : va_P D cls (wM ad dA ho wo Q G (upd m2 (((nI i) + (1 : Int32)) + (m_M_jump G (nI i) (1 : Int32))).toNatClampNeg (1 : Int32)) X) H := hP
      refine lv_aload_n hx hb d_M_bare_132 rfl (lv_at hl 3 rfl) ?_
      refine va_get (D := D) (ci := 9) (v := .ref (ad 12)) (C := R_M) (T := F_M) (N := 20) hx hb hts in_M hown hK hP 0 rfl rfl 14 (by decide) (hts _ wd_514) (fun _ h9 => h9) rfl d_M_bare_133 ?_
      refine lv_iload hx hb d_M_bare_136 (lv_at hl 2 rfl) ?_
      refine lv_iconst (v := 1) hx hb d_M_bare_138 (by decide) ?_
      refine lv_iadd hx hb d_M_bare_139 ?_
      refine lv_aload_n hx hb d_M_bare_140 rfl (lv_at hl 3 rfl) ?_
      refine lv_iload hx hb d_M_bare_141 (lv_at hl 2 rfl) ?_
      refine lv_iconst (v := 0) hx hb d_M_bare_143 (by decide) ?_
      refine vp_callSi (va_Run.run (va_runV (As := [.int (nI i), .int (0 : Int32)]) (rest := [.int ((nI i) + (1 : Int32)), .ref (ad 12)]) ⟨hx, hb, hml, hown, hts⟩ (c_M_jump l D dA ad ho wo Q G (upd m2 (((nI i) + (1 : Int32)) + (m_M_jump G (nI i) (1 : Int32))).toNatClampNeg (1 : Int32)) X (nI i) (0 : Int32) (vp_in_nI (by omega) (by decide))) (cwV 2 hts (g_V wd_666 wd_668 wd_19 wd_35 wd_669) rfl rfl rfl (by decide +kernel) ⟨Nat.le_of_ble_eq_true rfl, Nat.le_of_ble_eq_true rfl⟩) ⟨MG_fb, (va_recv (ci := 9) (q := (R_M, F_M, 20)) (q0 := 0) hK hP rfl rfl), fun U hU hW => ⟨rfl, MG_at hP hK hU hW⟩⟩ rfl rfl hl.1 rfl (lv_room (Nat.le_of_ble_eq_true rfl)) d_M_bare_144 ⟨Nat.le_of_ble_eq_true rfl, Nat.le_of_ble_eq_true rfl⟩)) (fun r12 e12 => ?_)
      subst e12
      refine lv_iadd hx hb d_M_bare_147 ?_
      refine lv_iconst (v := 1) hx hb d_M_bare_148 (by decide) ?_
      refine va_zast (n := 64) (f := upd m2 (((nI i) + (1 : Int32)) + (m_M_jump G (nI i) (1 : Int32))).toNatClampNeg (1 : Int32)) hx hb hK hP (wM_D hAd) hS 12 4 rfl rfl (bk_f hG hok (by omega) (by assumption)) d_M_bare_149 (fun H locs hP _ hS => ?_)
      have hP : va_P D cls (wM ad dA ho wo Q G (upd (upd m2 (((nI i) + (1 : Int32)) + (m_M_jump G (nI i) (1 : Int32))).toNatClampNeg (1 : Int32)) (((nI i) + (1 : Int32)) + (m_M_jump G (nI i) (0 : Int32))).toNatClampNeg (1 : Int32)) X) H := hP
      refine lv_goto (tgt := 184) hx hb d_M_bare_150 (by decide) ?_
      refine lv_iinc (v := (nI i) + 1) hx hb d_M_bare_184 hl (k := 2) rfl rfl (by decide) rfl (fun ls hl => ?_)
      have hl : lv_has ls 7 [(4, .int ((nI i) + 1)), (6, .int (0 : Int32)), (5, .int (m_M_code G (nI i))), (0, .ref (ad 0)), (1, .int to), (2, .long cell)] := hl
      refine lv_goto (tgt := 38) hx hb d_M_bare_187 (by decide) ?_
      exact ih2 (i + 1) (upd (upd m2 (((nI i) + (1 : Int32)) + (m_M_jump G (nI i) (1 : Int32))).toNatClampNeg (1 : Int32)) (((nI i) + (1 : Int32)) + (m_M_jump G (nI i) (0 : Int32))).toNatClampNeg (1 : Int32)) _ _ _ ⟨(by omega), (by rw [hm2, m_M_bare_l2, if_neg h2, if_neg h3, if_neg h10, if_neg h11, if_pos h12, if_neg h13]), (by have h9 := lv_sub hl [0, 3, 4, 5] rfl; rw [nI_1] at h9; exact h9), hP, hS, (by omega), (by first | exact b01_upd hb2 | exact b01_upd (b01_upd hb2))⟩
    refine lv_aload_n hx hb d_M_bare_64 rfl (lv_at hl 2 rfl) ?_
    refine lv_iload hx hb d_M_bare_65 (lv_at hl 1 rfl) ?_
    refine vp_callSl (va_Run.run (va_runV (As := [.int (nI i)]) (rest := []) ⟨hx, hb, hml, hown, hts⟩ (c_M_k l D dA ad ho wo Q G m2 X (nI i) (vp_in_nI (by omega) (by decide))) (cwV 1 hts (g_V wd_646 wd_648 wd_18 wd_35 wd_649) rfl rfl rfl (by decide +kernel) ⟨Nat.le_of_ble_eq_true rfl, Nat.le_of_ble_eq_true rfl⟩) ⟨MG_fb, (va_recv (ci := 9) (q := (R_M, F_M, 20)) (q0 := 0) hK hP rfl rfl), fun U hU hW => ⟨rfl, MG_at hP hK hU hW⟩⟩ rfl rfl hl.1 rfl (lv_room (Nat.le_of_ble_eq_true rfl)) d_M_bare_67 ⟨Nat.le_of_ble_eq_true rfl, Nat.le_of_ble_eq_true rfl⟩)) (fun r13 e13 => ?_)
    subst e13
    refine lv_lload_n hx hb d_M_bare_70 rfl (lv_at hl 4 rfl) ?_
    refine W.lcmp hx hb d_M_bare_71 ?_
    refine lv_if_ne (tgt := 79) hx hb d_M_bare_72 (by decide) (fun h15 => ?_) (fun h15 => ?_)
    · refine lv_iconst (v := 0) hx hb d_M_bare_79 (by decide) ?_
      refine lv_istore hx hb d_M_bare_80 hl (by decide) rfl (fun ls hl => ?_)
      have hl : lv_has ls 7 [(6, .int (0 : Int32)), (5, .int (m_M_code G (nI i))), (4, .int (nI i)), (0, .ref (ad 0)), (1, .int to), (2, .long cell)] := hl
      refine lv_aload_n hx hb d_M_bare_82 rfl (lv_at hl 3 rfl) ?_
      refine va_get (D := D) (ci := 9) (v := .ref (ad 12)) (C := R_M) (T := F_M) (N := 20) hx hb hts in_M hown hK hP 0 rfl rfl 14 (by decide) (hts _ wd_514) (fun _ h9 => h9) rfl d_M_bare_83 ?_
      refine lv_iload hx hb d_M_bare_86 (lv_at hl 2 rfl) ?_
      refine va_zald (n := 64) (f := m2) hx hb hK hP 12 4 rfl rfl (vp_in_nI (by omega) (by decide)) d_M_bare_88 ?_
      refine lv_if_eq (tgt := 184) hx hb d_M_bare_89 (by decide) (fun h16 => ?_) (fun h16 => ?_)
      · refine lv_iinc (v := (nI i) + 1) hx hb d_M_bare_184 hl (k := 2) rfl rfl (by decide) rfl (fun ls hl => ?_)
        have hl : lv_has ls 7 [(4, .int ((nI i) + 1)), (6, .int (0 : Int32)), (5, .int (m_M_code G (nI i))), (0, .ref (ad 0)), (1, .int to), (2, .long cell)] := hl
        refine lv_goto (tgt := 38) hx hb d_M_bare_187 (by decide) ?_
        exact ih2 (i + 1) m2 _ _ _ ⟨(by omega), (by rw [hm2, m_M_bare_l2, if_neg h2, if_neg h3, if_pos h10, if_neg h15, if_pos h16]), (by have h9 := lv_sub hl [0, 3, 4, 5] rfl; rw [nI_1] at h9; exact h9), hP, hS, (by omega), hb2⟩
      refine lv_iload hx hb d_M_bare_92 (lv_at hl 0 rfl) ?_
      refine lv_if_ne (tgt := 184) hx hb d_M_bare_94 (by decide) (fun h => absurd h (by decide)) (fun _ => ?_)
      refine lv_aload_n hx hb d_M_bare_97 rfl (lv_at hl 3 rfl) ?_
      refine lv_iload hx hb d_M_bare_98 (lv_at hl 2 rfl) ?_
      refine vp_callSi (va_Run.run (va_runV (As := [.int (nI i)]) (rest := []) ⟨hx, hb, hml, hown, hts⟩ (c_M_ends l D dA ad ho wo Q G m2 X (nI i) (vp_in_nI (by omega) (by decide))) (cwV 1 hts (g_V wd_671 wd_673 wd_20 wd_35 wd_674) rfl rfl rfl (by decide +kernel) ⟨Nat.le_of_ble_eq_true rfl, Nat.le_of_ble_eq_true rfl⟩) ⟨MG_fb, (va_recv (ci := 9) (q := (R_M, F_M, 20)) (q0 := 0) hK hP rfl rfl), fun U hU hW => ⟨rfl, MG_at hP hK hU hW⟩⟩ rfl rfl hl.1 rfl (lv_room (Nat.le_of_ble_eq_true rfl)) d_M_bare_100 ⟨Nat.le_of_ble_eq_true rfl, Nat.le_of_ble_eq_true rfl⟩)) (fun r14 e14 => ?_)
      subst e14
      refine lv_if_ne (tgt := 184) hx hb d_M_bare_103 (by decide) (fun h17 => ?_) (fun h17 => ?_)
      · refine lv_iinc (v := (nI i) + 1) hx hb d_M_bare_184 hl (k := 2) rfl rfl (by decide) rfl (fun ls hl => ?_)
        have hl : lv_has ls 7 [(4, .int ((nI i) + 1)), (6, .int (0 : Int32)), (5, .int (m_M_code G (nI i))), (0, .ref (ad 0)), (1, .int to), (2, .long cell)] := hl
        refine lv_goto (tgt := 38) hx hb d_M_bare_187 (by decide) ?_
        exact ih2 (i + 1) m2 _ _ _ ⟨(by omega), (by rw [hm2, m_M_bare_l2, if_neg h2, if_neg h3, if_pos h10, if_neg h15, if_neg h16, if_neg h17]), (by have h9 := lv_sub hl [0, 3, 4, 5] rfl; rw [nI_1] at h9; exact h9), hP, hS, (by omega), hb2⟩
      refine lv_iload hx hb d_M_bare_106 (lv_at hl 1 rfl) ?_
      refine vp_callSi (va_Run.run (va_runS (As := [.int (m_M_code G (nI i))]) (rest := []) ⟨hx, hb, hml, hown, hts⟩ (c_M_branch l (m_M_code G (nI i))) (va_cwS 1 hts (g_S wd_653 wd_654 wd_35 wd_655) rfl rfl rfl (by decide +kernel) ⟨Nat.le_of_ble_eq_true rfl, Nat.le_of_ble_eq_true rfl⟩) ⟨fun _ _ _ _ q => q, fun _ _ _ => ⟨rfl, trivial⟩⟩ rfl rfl hl.1 rfl (lv_room (Nat.le_of_ble_eq_true rfl)) d_M_bare_108 ⟨Nat.le_of_ble_eq_true rfl, Nat.le_of_ble_eq_true rfl⟩)) (fun r15 e15 => ?_)
      subst e15
      refine lv_if_eq (tgt := 153) hx hb d_M_bare_111 (by decide) (fun h18 => ?_) (fun h18 => ?_)
      · refine lv_aload_n hx hb d_M_bare_153 rfl (lv_at hl 3 rfl) ?_
        refine va_get (D := D) (ci := 9) (v := .ref (ad 12)) (C := R_M) (T := F_M) (N := 20) hx hb hts in_M hown hK hP 0 rfl rfl 14 (by decide) (hts _ wd_514) (fun _ h9 => h9) rfl d_M_bare_154 ?_
        refine lv_iload hx hb d_M_bare_157 (lv_at hl 1 rfl) ?_
        refine lv_iconst (v := 5) hx hb d_M_bare_159 (by decide) ?_
        refine lv_icmp_ne (tgt := 178) hx hb d_M_bare_160 (by decide) (fun h19 => ?_) (fun h19 => ?_)
        · refine lv_iload hx hb d_M_bare_178 (lv_at hl 2 rfl) ?_
          refine lv_iconst (v := 1) hx hb d_M_bare_180 (by decide) ?_
          refine lv_iadd hx hb d_M_bare_181 ?_
          refine lv_iconst (v := 1) hx hb d_M_bare_182 (by decide) ?_
          refine va_zast (n := 64) (f := m2) hx hb hK hP (wM_D hAd) hS 12 4 rfl rfl (bk_n (by omega)) d_M_bare_183 (fun H locs hP _ hS => ?_)
          have hP : va_P D cls (wM ad dA ho wo Q G (upd m2 ((nI i) + (1 : Int32)).toNatClampNeg (1 : Int32)) X) H := hP
          refine lv_iinc (v := (nI i) + 1) hx hb d_M_bare_184 hl (k := 2) rfl rfl (by decide) rfl (fun ls hl => ?_)
          have hl : lv_has ls 7 [(4, .int ((nI i) + 1)), (6, .int (0 : Int32)), (5, .int (m_M_code G (nI i))), (0, .ref (ad 0)), (1, .int to), (2, .long cell)] := hl
          refine lv_goto (tgt := 38) hx hb d_M_bare_187 (by decide) ?_
          exact ih2 (i + 1) (upd m2 ((nI i) + (1 : Int32)).toNatClampNeg (1 : Int32)) _ _ _ ⟨(by omega), (by rw [hm2, m_M_bare_l2, if_neg h2, if_neg h3, if_pos h10, if_neg h15, if_neg h16, if_pos h17, if_pos h18, if_neg h19]), (by have h9 := lv_sub hl [0, 3, 4, 5] rfl; rw [nI_1] at h9; exact h9), hP, hS, (by omega), (by first | exact b01_upd hb2 | exact b01_upd (b01_upd hb2))⟩
        refine lv_iload hx hb d_M_bare_163 (lv_at hl 2 rfl) ?_
        refine lv_iconst (v := 1) hx hb d_M_bare_165 (by decide) ?_
        refine lv_iadd hx hb d_M_bare_166 ?_
        refine lv_aload_n hx hb d_M_bare_167 rfl (lv_at hl 3 rfl) ?_
        refine lv_iload hx hb d_M_bare_168 (lv_at hl 2 rfl) ?_
        refine vp_callSl (va_Run.run (va_runV (As := [.int (nI i)]) (rest := [.int ((nI i) + (1 : Int32)), .ref (ad 12)]) ⟨hx, hb, hml, hown, hts⟩ (c_M_k l D dA ad ho wo Q G m2 X (nI i) (vp_in_nI (by omega) (by decide))) (cwV 1 hts (g_V wd_646 wd_648 wd_18 wd_35 wd_649) rfl rfl rfl (by decide +kernel) ⟨Nat.le_of_ble_eq_true rfl, Nat.le_of_ble_eq_true rfl⟩) ⟨MG_fb, (va_recv (ci := 9) (q := (R_M, F_M, 20)) (q0 := 0) hK hP rfl rfl), fun U hU hW => ⟨rfl, MG_at hP hK hU hW⟩⟩ rfl rfl hl.1 rfl (lv_room (Nat.le_of_ble_eq_true rfl)) d_M_bare_170 ⟨Nat.le_of_ble_eq_true rfl, Nat.le_of_ble_eq_true rfl⟩)) (fun r16 e16 => ?_)
        subst e16
        refine lv_l2i hx hb d_M_bare_173 rfl ?_
        refine lv_iadd hx hb d_M_bare_174 ?_
        refine lv_goto (tgt := 182) hx hb d_M_bare_175 (by decide) ?_
        refine lv_iconst (v := 1) hx hb d_M_bare_182 (by decide) ?_
        refine va_zast (n := 64) (f := m2) hx hb hK hP (wM_D hAd) hS 12 4 rfl rfl (bk_k hG hok (by omega) (by assumption)) d_M_bare_183 (fun H locs hP _ hS => ?_)
        have hP : va_P D cls (wM ad dA ho wo Q G (upd m2 (((nI i) + (1 : Int32)) + ((m_M_k G (nI i)).toInt32)).toNatClampNeg (1 : Int32)) X) H := hP
        refine lv_iinc (v := (nI i) + 1) hx hb d_M_bare_184 hl (k := 2) rfl rfl (by decide) rfl (fun ls hl => ?_)
        have hl : lv_has ls 7 [(4, .int ((nI i) + 1)), (6, .int (0 : Int32)), (5, .int (m_M_code G (nI i))), (0, .ref (ad 0)), (1, .int to), (2, .long cell)] := hl
        refine lv_goto (tgt := 38) hx hb d_M_bare_187 (by decide) ?_
        exact ih2 (i + 1) (upd m2 (((nI i) + (1 : Int32)) + ((m_M_k G (nI i)).toInt32)).toNatClampNeg (1 : Int32)) _ _ _ ⟨(by omega), (by rw [hm2, m_M_bare_l2, if_neg h2, if_neg h3, if_pos h10, if_neg h15, if_neg h16, if_pos h17, if_pos h18, if_pos h19]), (by have h9 := lv_sub hl [0, 3, 4, 5] rfl; rw [nI_1] at h9; exact h9), hP, hS, (by omega), (by first | exact b01_upd hb2 | exact b01_upd (b01_upd hb2))⟩
      refine lv_aload_n hx hb d_M_bare_114 rfl (lv_at hl 3 rfl) ?_
      refine va_get (D := D) (ci := 9) (v := .ref (ad 12)) (C := R_M) (T := F_M) (N := 20) hx hb hts in_M hown hK hP 0 rfl rfl 14 (by decide) (hts _ wd_514) (fun _ h9 => h9) rfl d_M_bare_115 ?_
      refine lv_iload hx hb d_M_bare_118 (lv_at hl 2 rfl) ?_
      refine lv_iconst (v := 1) hx hb d_M_bare_120 (by decide) ?_
      refine lv_iadd hx hb d_M_bare_121 ?_
      refine lv_aload_n hx hb d_M_bare_122 rfl (lv_at hl 3 rfl) ?_
      refine lv_iload hx hb d_M_bare_123 (lv_at hl 2 rfl) ?_
      refine lv_iconst (v := 1) hx hb d_M_bare_125 (by decide) ?_
      refine vp_callSi (va_Run.run (va_runV (As := [.int (nI i), .int (1 : Int32)]) (rest := [.int ((nI i) + (1 : Int32)), .ref (ad 12)]) ⟨hx, hb, hml, hown, hts⟩ (c_M_jump l D dA ad ho wo Q G m2 X (nI i) (1 : Int32) (vp_in_nI (by omega) (by decide))) (cwV 2 hts (g_V wd_666 wd_668 wd_19 wd_35 wd_669) rfl rfl rfl (by decide +kernel) ⟨Nat.le_of_ble_eq_true rfl, Nat.le_of_ble_eq_true rfl⟩) ⟨MG_fb, (va_recv (ci := 9) (q := (R_M, F_M, 20)) (q0 := 0) hK hP rfl rfl), fun U hU hW => ⟨rfl, MG_at hP hK hU hW⟩⟩ rfl rfl hl.1 rfl (lv_room (Nat.le_of_ble_eq_true rfl)) d_M_bare_126 ⟨Nat.le_of_ble_eq_true rfl, Nat.le_of_ble_eq_true rfl⟩)) (fun r17 e17 => ?_)
      subst e17
      refine lv_iadd hx hb d_M_bare_129 ?_
      refine lv_iconst (v := 1) hx hb d_M_bare_130 (by decide) ?_
      refine va_zast (n := 64) (f := m2) hx hb hK hP (wM_D hAd) hS 12 4 rfl rfl (bk_t hG hok (by omega) (by assumption)) d_M_bare_131 (fun H locs hP _ hS => ?_)
      have hP : va_P D cls (wM ad dA ho wo Q G (upd m2 (((nI i) + (1 : Int32)) + (m_M_jump G (nI i) (1 : Int32))).toNatClampNeg (1 : Int32)) X) H := hP
      refine lv_aload_n hx hb d_M_bare_132 rfl (lv_at hl 3 rfl) ?_
      refine va_get (D := D) (ci := 9) (v := .ref (ad 12)) (C := R_M) (T := F_M) (N := 20) hx hb hts in_M hown hK hP 0 rfl rfl 14 (by decide) (hts _ wd_514) (fun _ h9 => h9) rfl d_M_bare_133 ?_
      refine lv_iload hx hb d_M_bare_136 (lv_at hl 2 rfl) ?_
      refine lv_iconst (v := 1) hx hb d_M_bare_138 (by decide) ?_
      refine lv_iadd hx hb d_M_bare_139 ?_
      refine lv_aload_n hx hb d_M_bare_140 rfl (lv_at hl 3 rfl) ?_
      refine lv_iload hx hb d_M_bare_141 (lv_at hl 2 rfl) ?_
      refine lv_iconst (v := 0) hx hb d_M_bare_143 (by decide) ?_
      refine vp_callSi (va_Run.run (va_runV (As := [.int (nI i), .int (0 : Int32)]) (rest := [.int ((nI i) + (1 : Int32)), .ref (ad 12)]) ⟨hx, hb, hml, hown, hts⟩ (c_M_jump l D dA ad ho wo Q G (upd m2 (((nI i) + (1 : Int32)) + (m_M_jump G (nI i) (1 : Int32))).toNatClampNeg (1 : Int32)) X (nI i) (0 : Int32) (vp_in_nI (by omega) (by decide))) (cwV 2 hts (g_V wd_666 wd_668 wd_19 wd_35 wd_669) rfl rfl rfl (by decide +kernel) ⟨Nat.le_of_ble_eq_true rfl, Nat.le_of_ble_eq_true rfl⟩) ⟨MG_fb, (va_recv (ci := 9) (q := (R_M, F_M, 20)) (q0 := 0) hK hP rfl rfl), fun U hU hW => ⟨rfl, MG_at hP hK hU hW⟩⟩ rfl rfl hl.1 rfl (lv_room (Nat.le_of_ble_eq_true rfl)) d_M_bare_144 ⟨Nat.le_of_ble_eq_true rfl, Nat.le_of_ble_eq_true rfl⟩)) (fun r18 e18 => ?_)
      subst e18
      refine lv_iadd hx hb d_M_bare_147 ?_
      refine lv_iconst (v := 1) hx hb d_M_bare_148 (by decide) ?_
      refine va_zast (n := 64) (f := upd m2 (((nI i) + (1 : Int32)) + (m_M_jump G (nI i) (1 : Int32))).toNatClampNeg (1 : Int32)) hx hb hK hP (wM_D hAd) hS 12 4 rfl rfl (bk_f hG hok (by omega) (by assumption)) d_M_bare_149 (fun H locs hP _ hS => ?_)
      have hP : va_P D cls (wM ad dA ho wo Q G (upd (upd m2 (((nI i) + (1 : Int32)) + (m_M_jump G (nI i) (1 : Int32))).toNatClampNeg (1 : Int32)) (((nI i) + (1 : Int32)) + (m_M_jump G (nI i) (0 : Int32))).toNatClampNeg (1 : Int32)) X) H := hP
      refine lv_goto (tgt := 184) hx hb d_M_bare_150 (by decide) ?_
      refine lv_iinc (v := (nI i) + 1) hx hb d_M_bare_184 hl (k := 2) rfl rfl (by decide) rfl (fun ls hl => ?_)
      have hl : lv_has ls 7 [(4, .int ((nI i) + 1)), (6, .int (0 : Int32)), (5, .int (m_M_code G (nI i))), (0, .ref (ad 0)), (1, .int to), (2, .long cell)] := hl
      refine lv_goto (tgt := 38) hx hb d_M_bare_187 (by decide) ?_
      exact ih2 (i + 1) (upd (upd m2 (((nI i) + (1 : Int32)) + (m_M_jump G (nI i) (1 : Int32))).toNatClampNeg (1 : Int32)) (((nI i) + (1 : Int32)) + (m_M_jump G (nI i) (0 : Int32))).toNatClampNeg (1 : Int32)) _ _ _ ⟨(by omega), (by rw [hm2, m_M_bare_l2, if_neg h2, if_neg h3, if_pos h10, if_neg h15, if_neg h16, if_pos h17, if_neg h18]), (by have h9 := lv_sub hl [0, 3, 4, 5] rfl; rw [nI_1] at h9; exact h9), hP, hS, (by omega), (by first | exact b01_upd hb2 | exact b01_upd (b01_upd hb2))⟩
    refine lv_iconst (v := 1) hx hb d_M_bare_75 (by decide) ?_
    refine lv_goto (tgt := 80) hx hb d_M_bare_76 (by decide) ?_
    refine lv_istore hx hb d_M_bare_80 hl (by decide) rfl (fun ls hl => ?_)
    have hl : lv_has ls 7 [(6, .int (1 : Int32)), (5, .int (m_M_code G (nI i))), (4, .int (nI i)), (0, .ref (ad 0)), (1, .int to), (2, .long cell)] := hl
    refine lv_aload_n hx hb d_M_bare_82 rfl (lv_at hl 3 rfl) ?_
    refine va_get (D := D) (ci := 9) (v := .ref (ad 12)) (C := R_M) (T := F_M) (N := 20) hx hb hts in_M hown hK hP 0 rfl rfl 14 (by decide) (hts _ wd_514) (fun _ h9 => h9) rfl d_M_bare_83 ?_
    refine lv_iload hx hb d_M_bare_86 (lv_at hl 2 rfl) ?_
    refine va_zald (n := 64) (f := m2) hx hb hK hP 12 4 rfl rfl (vp_in_nI (by omega) (by decide)) d_M_bare_88 ?_
    refine lv_if_eq (tgt := 184) hx hb d_M_bare_89 (by decide) (fun h20 => ?_) (fun h20 => ?_)
    · refine lv_iinc (v := (nI i) + 1) hx hb d_M_bare_184 hl (k := 2) rfl rfl (by decide) rfl (fun ls hl => ?_)
      have hl : lv_has ls 7 [(4, .int ((nI i) + 1)), (6, .int (1 : Int32)), (5, .int (m_M_code G (nI i))), (0, .ref (ad 0)), (1, .int to), (2, .long cell)] := hl
      refine lv_goto (tgt := 38) hx hb d_M_bare_187 (by decide) ?_
      exact ih2 (i + 1) m2 _ _ _ ⟨(by omega), (by rw [hm2, m_M_bare_l2, if_neg h2, if_neg h3, if_pos h10, if_pos h15, if_pos h20]), (by have h9 := lv_sub hl [0, 3, 4, 5] rfl; rw [nI_1] at h9; exact h9), hP, hS, (by omega), hb2⟩
    refine lv_iload hx hb d_M_bare_92 (lv_at hl 0 rfl) ?_
    refine lv_if_ne (tgt := 184) hx hb d_M_bare_94 (by decide) (fun _ => ?_) (fun h => absurd h (by decide))
    refine lv_iinc (v := (nI i) + 1) hx hb d_M_bare_184 hl (k := 2) rfl rfl (by decide) rfl (fun ls hl => ?_)
    have hl : lv_has ls 7 [(4, .int ((nI i) + 1)), (6, .int (1 : Int32)), (5, .int (m_M_code G (nI i))), (0, .ref (ad 0)), (1, .int to), (2, .long cell)] := hl
    refine lv_goto (tgt := 38) hx hb d_M_bare_187 (by decide) ?_
    exact ih2 (i + 1) m2 _ _ _ ⟨(by omega), (by rw [hm2, m_M_bare_l2, if_neg h2, if_neg h3, if_pos h10, if_pos h15, if_neg h20]), (by have h9 := lv_sub hl [0, 3, 4, 5] rfl; rw [nI_1] at h9; exact h9), hP, hS, (by omega), hb2⟩
  have hjl : j < 64 := Nat.lt_of_lt_of_le (nj_lt hG (by decide) hj h1) hG
  refine lv_aload_n hx hb d_M_bare_12 rfl (lv_at hl 1 rfl) ?_
  refine va_get (D := D) (ci := 9) (v := .ref (ad 12)) (C := R_M) (T := F_M) (N := 20) hx hb hts in_M hown hK hP 0 rfl rfl 14 (by decide) (hts _ wd_514) (fun _ h9 => h9) rfl d_M_bare_13 ?_
  refine lv_iload hx hb d_M_bare_16 (lv_at hl 0 rfl) ?_
  refine lv_iload hx hb d_M_bare_18 (lv_at hl 0 rfl) ?_
  refine lv_if_ne (tgt := 27) hx hb d_M_bare_20 (by decide) (fun h21 => ?_) (fun h21 => ?_)
  · refine lv_iconst (v := 0) hx hb d_M_bare_27 (by decide) ?_
    refine va_zast (n := 64) (f := m1) hx hb hK hP (wM_D hAd) hS 12 4 rfl rfl (vp_in_nI (by omega) (by decide)) d_M_bare_28 (fun H locs hP _ hS => ?_)
    have hP : va_P D cls (wM ad dA ho wo Q G (upd m1 (nI j).toNatClampNeg (0 : Int32)) X) H := hP
    refine lv_iinc (v := (nI j) + 1) hx hb d_M_bare_29 hl (k := 0) rfl rfl (by decide) rfl (fun ls hl => ?_)
    have hl : lv_has ls 7 [(4, .int ((nI j) + 1)), (0, .ref (ad 0)), (1, .int to), (2, .long cell)] := hl
    refine lv_goto (tgt := 3) hx hb d_M_bare_32 (by decide) ?_
    exact ih1 (j + 1) (upd m1 (nI j).toNatClampNeg (0 : Int32)) _ _ _ ⟨(by omega), (by rw [hm1, m_M_bare_l1, if_neg h1, if_neg h21]), (by have h9 := lv_sub hl [0, 1, 2, 3] rfl; rw [nI_1] at h9; exact h9), hP, hS, (by omega), (b01_upd hb1)⟩
  refine lv_iconst (v := 1) hx hb d_M_bare_23 (by decide) ?_
  refine lv_goto (tgt := 28) hx hb d_M_bare_24 (by decide) ?_
  refine va_zast (n := 64) (f := m1) hx hb hK hP (wM_D hAd) hS 12 4 rfl rfl (vp_in_nI (by omega) (by decide)) d_M_bare_28 (fun H locs hP _ hS => ?_)
  have hP : va_P D cls (wM ad dA ho wo Q G (upd m1 (nI j).toNatClampNeg (1 : Int32)) X) H := hP
  refine lv_iinc (v := (nI j) + 1) hx hb d_M_bare_29 hl (k := 0) rfl rfl (by decide) rfl (fun ls hl => ?_)
  have hl : lv_has ls 7 [(4, .int ((nI j) + 1)), (0, .ref (ad 0)), (1, .int to), (2, .long cell)] := hl
  refine lv_goto (tgt := 3) hx hb d_M_bare_32 (by decide) ?_
  exact ih1 (j + 1) (upd m1 (nI j).toNatClampNeg (1 : Int32)) _ _ _ ⟨(by omega), (by rw [hm1, m_M_bare_l1, if_neg h1, if_pos h21]), (by have h9 := lv_sub hl [0, 1, 2, 3] rfl; rw [nI_1] at h9; exact h9), hP, hS, (by omega), (b01_upd hb1)⟩
theorem bl2_b {G : GT} {mk : Nat → Int32} {to : Int32} {cell : Int64} (h0 : ∀ i, b01 (mk i)) : ∀ (n i : Nat) (m2 : Nat → Int32), (∀ i, b01 (m2 i)) → ∀ j, b01 ((m_M_bare_l2 G mk to cell n i m2).2 j) := by
  intro n
  induction n with
  | zero => intro i m2 h; exact h0
  | succ n ih =>
    intro i m2 h
    rw [m_M_bare_l2]
    repeat' split
    all_goals first | exact h | exact ih _ _ h | exact ih _ _ (b01_upd h) | exact ih _ _ (b01_upd (b01_upd h))
theorem bl1_b {G : GT} {mk : Nat → Int32} {to : Int32} {cell : Int64} (h0 : ∀ i, b01 (mk i)) : ∀ (n i : Nat) (m1 : Nat → Int32), (∀ i, b01 (m1 i)) → ∀ j, b01 ((m_M_bare_l1 G mk to cell n i m1).2 j) := by
  intro n
  induction n with
  | zero => intro i m1 h; exact h0
  | succ n ih =>
    intro i m1 h
    rw [m_M_bare_l1]
    repeat' split
    all_goals first | exact bl2_b h0 _ _ _ h | exact ih _ _ (b01_upd h)
theorem bare_b {G : GT} {mk : Nat → Int32} {to : Int32} {cell : Int64} (h : ∀ i, b01 (mk i)) : ∀ j, b01 ((m_M_bare G mk to cell).2 j) := bl1_b h _ _ _ h
theorem wd_16 : Cond.selects R_M y_M_fault y_M_fault ∈ lw_g := wd_in (i := 16) (by decide +kernel) (by decide +kernel)
theorem wd_21 : Cond.selects R_M y_M_bare y_M_bare ∈ lw_g := wd_in (i := 21) (by decide +kernel) (by decide +kernel)
theorem wd_637 : Cond.methodLink R_M 141 y_M_fault ∈ lw_g := wd_in (i := 637) (by decide +kernel) (by decide +kernel)
theorem wd_639 : Cond.instanceMethod y_M_fault ∈ lw_g := wd_in (i := 639) (by decide +kernel) (by decide +kernel)
theorem wd_640 : Cond.code y_M_fault prog_12_method_24_code 7 (Option.some Jvm.ClassFile.FieldType.int) ∈ lw_g := wd_in (i := 640) (by decide +kernel) (by decide +kernel)
theorem wd_675 : Cond.methodLink R_M 144 y_M_bare ∈ lw_g := wd_in (i := 675) (by decide +kernel) (by decide +kernel)
theorem wd_677 : Cond.instanceMethod y_M_bare ∈ lw_g := wd_in (i := 677) (by decide +kernel) (by decide +kernel)
theorem wd_678 : Cond.code y_M_bare prog_12_method_26_code 7 (Option.some Jvm.ClassFile.FieldType.boolean) ∈ lw_g := wd_in (i := 678) (by decide +kernel) (by decide +kernel)
theorem d_M_check_0 : decode b_M_check 0 = .ok (.aload_n 0, 1) := by decide +kernel
theorem d_M_check_1 : decode b_M_check 1 = .ok (.getfield 100, 3) := by decide +kernel
theorem d_M_check_4 : decode b_M_check 4 = .ok (.ifCond .ne 6, 3) := by decide +kernel
theorem d_M_check_7 : decode b_M_check 7 = .ok (.bipush 100, 2) := by decide +kernel
theorem d_M_check_9 : decode b_M_check 9 = .ok (.ireturn, 1) := by decide +kernel
theorem d_M_check_10 : decode b_M_check 10 = .ok (.iconst 0, 1) := by decide +kernel
theorem d_M_check_11 : decode b_M_check 11 = .ok (.istore_n 1, 1) := by decide +kernel
theorem d_M_check_12 : decode b_M_check 12 = .ok (.iload_n 1, 1) := by decide +kernel
theorem d_M_check_13 : decode b_M_check 13 = .ok (.aload_n 0, 1) := by decide +kernel
theorem d_M_check_14 : decode b_M_check 14 = .ok (.getfield 100, 3) := by decide +kernel
theorem d_M_check_17 : decode b_M_check 17 = .ok (.if_icmp .ge 26, 3) := by decide +kernel
theorem d_M_check_20 : decode b_M_check 20 = .ok (.aload_n 0, 1) := by decide +kernel
theorem d_M_check_21 : decode b_M_check 21 = .ok (.iload_n 1, 1) := by decide +kernel
theorem d_M_check_22 : decode b_M_check 22 = .ok (.invokevirtual 141, 3) := by decide +kernel
theorem d_M_check_25 : decode b_M_check 25 = .ok (.istore_n 2, 1) := by decide +kernel
theorem d_M_check_26 : decode b_M_check 26 = .ok (.iload_n 2, 1) := by decide +kernel
theorem d_M_check_27 : decode b_M_check 27 = .ok (.ifCond .eq 10, 3) := by decide +kernel
theorem d_M_check_30 : decode b_M_check 30 = .ok (.bipush 100, 2) := by decide +kernel
theorem d_M_check_32 : decode b_M_check 32 = .ok (.iload_n 2, 1) := by decide +kernel
theorem d_M_check_33 : decode b_M_check 33 = .ok (.imul, 1) := by decide +kernel
theorem d_M_check_34 : decode b_M_check 34 = .ok (.iload_n 1, 1) := by decide +kernel
theorem d_M_check_35 : decode b_M_check 35 = .ok (.iadd, 1) := by decide +kernel
theorem d_M_check_36 : decode b_M_check 36 = .ok (.ireturn, 1) := by decide +kernel
theorem d_M_check_37 : decode b_M_check 37 = .ok (.iinc 1 1, 3) := by decide +kernel
theorem d_M_check_40 : decode b_M_check 40 = .ok (.goto (-28), 3) := by decide +kernel
theorem d_M_check_43 : decode b_M_check 43 = .ok (.aload_n 0, 1) := by decide +kernel
theorem d_M_check_44 : decode b_M_check 44 = .ok (.aload_n 0, 1) := by decide +kernel
theorem d_M_check_45 : decode b_M_check 45 = .ok (.getfield 100, 3) := by decide +kernel
theorem d_M_check_48 : decode b_M_check 48 = .ok (.iconst 1, 1) := by decide +kernel
theorem d_M_check_49 : decode b_M_check 49 = .ok (.isub, 1) := by decide +kernel
theorem d_M_check_50 : decode b_M_check 50 = .ok (.invokevirtual 138, 3) := by decide +kernel
theorem d_M_check_53 : decode b_M_check 53 = .ok (.ifCond .ne 14, 3) := by decide +kernel
theorem d_M_check_56 : decode b_M_check 56 = .ok (.sipush 500, 3) := by decide +kernel
theorem d_M_check_59 : decode b_M_check 59 = .ok (.aload_n 0, 1) := by decide +kernel
theorem d_M_check_60 : decode b_M_check 60 = .ok (.getfield 100, 3) := by decide +kernel
theorem d_M_check_63 : decode b_M_check 63 = .ok (.iadd, 1) := by decide +kernel
theorem d_M_check_64 : decode b_M_check 64 = .ok (.iconst 1, 1) := by decide +kernel
theorem d_M_check_65 : decode b_M_check 65 = .ok (.isub, 1) := by decide +kernel
theorem d_M_check_66 : decode b_M_check 66 = .ok (.ireturn, 1) := by decide +kernel
theorem d_M_check_67 : decode b_M_check 67 = .ok (.iconst 0, 1) := by decide +kernel
theorem d_M_check_68 : decode b_M_check 68 = .ok (.istore_n 1, 1) := by decide +kernel
theorem d_M_check_69 : decode b_M_check 69 = .ok (.iload_n 1, 1) := by decide +kernel
theorem d_M_check_70 : decode b_M_check 70 = .ok (.aload_n 0, 1) := by decide +kernel
theorem d_M_check_71 : decode b_M_check 71 = .ok (.getfield 100, 3) := by decide +kernel
theorem d_M_check_74 : decode b_M_check 74 = .ok (.if_icmp .ge 48, 3) := by decide +kernel
theorem d_M_check_77 : decode b_M_check 77 = .ok (.aload_n 0, 1) := by decide +kernel
theorem d_M_check_78 : decode b_M_check 78 = .ok (.iload_n 1, 1) := by decide +kernel
theorem d_M_check_79 : decode b_M_check 79 = .ok (.invokevirtual 107, 3) := by decide +kernel
theorem d_M_check_82 : decode b_M_check 82 = .ok (.bipush 96, 2) := by decide +kernel
theorem d_M_check_84 : decode b_M_check 84 = .ok (.if_icmp .eq 13, 3) := by decide +kernel
theorem d_M_check_87 : decode b_M_check 87 = .ok (.aload_n 0, 1) := by decide +kernel
theorem d_M_check_88 : decode b_M_check 88 = .ok (.iload_n 1, 1) := by decide +kernel
theorem d_M_check_89 : decode b_M_check 89 = .ok (.invokevirtual 107, 3) := by decide +kernel
theorem d_M_check_92 : decode b_M_check 92 = .ok (.bipush 97, 2) := by decide +kernel
theorem d_M_check_94 : decode b_M_check 94 = .ok (.if_icmp .ne 22, 3) := by decide +kernel
theorem d_M_check_97 : decode b_M_check 97 = .ok (.aload_n 0, 1) := by decide +kernel
theorem d_M_check_98 : decode b_M_check 98 = .ok (.iload_n 1, 1) := by decide +kernel
theorem d_M_check_99 : decode b_M_check 99 = .ok (.aload_n 0, 1) := by decide +kernel
theorem d_M_check_100 : decode b_M_check 100 = .ok (.iload_n 1, 1) := by decide +kernel
theorem d_M_check_101 : decode b_M_check 101 = .ok (.invokevirtual 111, 3) := by decide +kernel
theorem d_M_check_104 : decode b_M_check 104 = .ok (.invokevirtual 144, 3) := by decide +kernel
theorem d_M_check_107 : decode b_M_check 107 = .ok (.ifCond .eq 9, 3) := by decide +kernel
theorem d_M_check_110 : decode b_M_check 110 = .ok (.sipush 600, 3) := by decide +kernel
theorem d_M_check_113 : decode b_M_check 113 = .ok (.iload_n 1, 1) := by decide +kernel
theorem d_M_check_114 : decode b_M_check 114 = .ok (.iadd, 1) := by decide +kernel
theorem d_M_check_115 : decode b_M_check 115 = .ok (.ireturn, 1) := by decide +kernel
theorem d_M_check_116 : decode b_M_check 116 = .ok (.iinc 1 1, 3) := by decide +kernel
theorem d_M_check_119 : decode b_M_check 119 = .ok (.goto (-50), 3) := by decide +kernel
theorem d_M_check_122 : decode b_M_check 122 = .ok (.iconst 0, 1) := by decide +kernel
theorem d_M_check_123 : decode b_M_check 123 = .ok (.ireturn, 1) := by decide +kernel
def m_M_check_l2 (G : GT) (mk : Nat → Int32) : Nat → Nat → (Nat → Int32) → Int32 × (Nat → Int32)
  | 0, _, _ => (0, mk)
  | n2 + 1, i, m2 => if G.1 ≤ (nI i) then ((0 : Int32), m2) else if (m_M_code G (nI i)) = (96 : Int32) then if ((m_M_bare G m2 (nI i) (m_M_k G (nI i))).1) = (0 : Int32) then m_M_check_l2 G mk n2 (i + 1) ((m_M_bare G m2 (nI i) (m_M_k G (nI i))).2) else ((600 : Int32) + (nI i), ((m_M_bare G m2 (nI i) (m_M_k G (nI i))).2)) else if (m_M_code G (nI i)) = (97 : Int32) then if ((m_M_bare G m2 (nI i) (m_M_k G (nI i))).1) = (0 : Int32) then m_M_check_l2 G mk n2 (i + 1) ((m_M_bare G m2 (nI i) (m_M_k G (nI i))).2) else ((600 : Int32) + (nI i), ((m_M_bare G m2 (nI i) (m_M_k G (nI i))).2)) else m_M_check_l2 G mk n2 (i + 1) m2
def m_M_check_l1 (G : GT) (mk : Nat → Int32) : Nat → Nat → Int32 × (Nat → Int32)
  | 0, _ => (0, mk)
  | n1 + 1, j => if G.1 ≤ (nI j) then if (m_M_ends G (G.1 - (1 : Int32))) = (0 : Int32) then (((500 : Int32) + G.1) - (1 : Int32), mk) else m_M_check_l2 G mk (65) 0 mk else if (m_M_fault G (nI j)) = (0 : Int32) then m_M_check_l1 G mk n1 (j + 1) else (((100 : Int32) * (m_M_fault G (nI j))) + (nI j), mk)
def m_M_check (G : GT) (mk : Nat → Int32) : Int32 × (Nat → Int32) := if G.1 = (0 : Int32) then ((100 : Int32), mk) else m_M_check_l1 G mk (65) 0
set_option maxHeartbeats 4000000 in
set_option maxRecDepth 100000 in
theorem c_M_check (l : Launch) (D : va_G) (dA : Nat → ClassId) (ad : Nat → Nat) (A : Nat → Prop) (hAd : AdOK 15 ad A) (ho : Int32) (wo : Nat → Int32) (Q : QT) (G : GT) (mk : Nat → Int32) (X : XT) (hG : iN G.1 ≤ 64) (hmk : ∀ i, b01 (mk i)) : Met l y_M_check (mW y_M_check b_M_check 3 (some .int)) { frames := 3, cells := 0, slots := 0, locals := 68 } (va_Pc [.ref (ad 0)] (fun U => MG D dA ad ho wo Q G mk X U)) (va_Qi (fun (r : Int32) (u : (Nat → Int32)) => r = (m_M_check G mk).1 ∧ u = (m_M_check G mk).2) (fun u t => MG D dA ad ho wo Q G u X t) A) 0 0 A := by
  refine Met.ofW (cc := b_M_check) (maxL := 3) (ret := (some .int)) (by decide) rfl ?_
  intro p e s m args below meth c s₁ B hml hv
  obtain ⟨rfl, hP, hK⟩ := hv
  have hx := B.exec
  have hb := B.bytes
  have hr := B.returns
  have hlocks := B.notSynchronized
  have hts := fun (w : Cond) (h : w ∈ lw_g) => atoms_spec (ws := mW y_M_check b_M_check 3 (some .int)) B.pre w (List.mem_cons_of_mem _ h)
  have hown : s.vm.findClass R_M = some m.cls := findClass_of_methodNamed B.named
  have hS : va_S A s.heap s.heap [] := va_S.rf
  have hl := lv_entry ([.ref (ad 0)]) (n := 3) (Nat.le_of_ble_eq_true rfl)
  rw [lg_entry_eq]
  generalize (lg_sl ([.ref (ad 0)]) ++ List.replicate (3 - (lg_sl ([.ref (ad 0)])).length) Slot.unset).toArray = ls at hl ⊢
  have hl : lv_has ls 3 [(0, .ref (ad 0))] := hl
  refine lv_aload_n hx hb d_M_check_0 rfl (lv_at hl 0 rfl) ?_
  refine va_get (D := D) (ci := 9) (v := .int G.1) (C := R_M) (T := F_M) (N := 20) hx hb hts in_M hown hK hP 0 rfl rfl 12 (by decide) (hts _ wd_512) (fun _ h9 => h9) rfl d_M_check_1 ?_
  refine lv_if_ne (tgt := 10) hx hb d_M_check_4 (by decide) (fun h1 => ?_) (fun h1 => ?_)
  · refine lv_iconst (v := 0) hx hb d_M_check_10 (by decide) ?_
    refine lv_istore_n hx hb d_M_check_11 rfl hl (by decide) rfl (fun ls hl => ?_)
    have hl : lv_has ls 3 [(1, .int (0 : Int32)), (0, .ref (ad 0))] := hl
    refine W_loop1 (X := fun (n1 : Nat) (j : Nat) (H : Heap) (locs : List Loc) (ls : Array Slot) => 64 - j < n1 ∧ m_M_check G mk = m_M_check_l1 G mk n1 j ∧ lv_has ls 3 [(1, .int (nI j)), (0, .ref (ad 0))] ∧ va_P D cls (wM ad dA ho wo Q G mk X) H ∧ va_S A s.heap H locs ∧ j ≤ 64 ∧ (∀ i, i < j → m_M_fault G (nI i) = 0)) (65) 0 ⟨(by decide), (by rw [m_M_check, if_neg h1]), (lv_sub hl [0, 1] rfl), hP, hS, (by decide), (fun i h => absurd h (Nat.not_lt_zero i))⟩ (fun _ _ _ _ h => absurd h.1 (Nat.not_lt_zero _)) (fun n1 ih1 j H locs ls h => ?_)
    obtain ⟨hn1, hm1, hl, hP, hS, hj, hok⟩ := h
    refine lv_iload_n hx hb d_M_check_12 rfl (lv_at hl 0 rfl) ?_
    refine lv_aload_n hx hb d_M_check_13 rfl (lv_at hl 1 rfl) ?_
    refine va_get (D := D) (ci := 9) (v := .int G.1) (C := R_M) (T := F_M) (N := 20) hx hb hts in_M hown hK hP 0 rfl rfl 12 (by decide) (hts _ wd_512) (fun _ h9 => h9) rfl d_M_check_14 ?_
    refine lv_icmp_ge (tgt := 43) hx hb d_M_check_17 (by decide) (fun h2 => ?_) (fun h2 => ?_)
    · refine lv_aload_n hx hb d_M_check_43 rfl (lv_at hl 1 rfl) ?_
      refine lv_aload_n hx hb d_M_check_44 rfl (lv_at hl 1 rfl) ?_
      refine va_get (D := D) (ci := 9) (v := .int G.1) (C := R_M) (T := F_M) (N := 20) hx hb hts in_M hown hK hP 0 rfl rfl 12 (by decide) (hts _ wd_512) (fun _ h9 => h9) rfl d_M_check_45 ?_
      refine lv_iconst (v := 1) hx hb d_M_check_48 (by decide) ?_
      refine lv_isub hx hb d_M_check_49 ?_
      refine vp_callSi (va_Run.run (va_runV (As := [.int (G.1 - (1 : Int32))]) (rest := []) ⟨hx, hb, hml, hown, hts⟩ (c_M_ends l D dA ad ho wo Q G mk X (G.1 - (1 : Int32)) (ix_lastI hG (by assumption))) (cwV 1 hts (g_V wd_671 wd_673 wd_20 wd_35 wd_674) rfl rfl rfl (by decide +kernel) ⟨Nat.le_of_ble_eq_true rfl, Nat.le_of_ble_eq_true rfl⟩) ⟨MG_fb, (va_recv (ci := 9) (q := (R_M, F_M, 20)) (q0 := 0) hK hP rfl rfl), fun U hU hW => ⟨rfl, MG_at hP hK hU hW⟩⟩ rfl rfl hl.1 rfl (lv_room (Nat.le_of_ble_eq_true rfl)) d_M_check_50 ⟨Nat.le_of_ble_eq_true rfl, Nat.le_of_ble_eq_true rfl⟩)) (fun r1 e1 => ?_)
      subst e1
      refine lv_if_ne (tgt := 67) hx hb d_M_check_53 (by decide) (fun h3 => ?_) (fun h3 => ?_)
      · refine lv_iconst (v := 0) hx hb d_M_check_67 (by decide) ?_
        refine lv_istore_n hx hb d_M_check_68 rfl hl (by decide) rfl (fun ls hl => ?_)
        have hl : lv_has ls 3 [(1, .int (0 : Int32)), (0, .ref (ad 0))] := hl
        refine W_loop2 (X := fun (n2 : Nat) (i : Nat) (m2 : Nat → Int32) (H : Heap) (locs : List Loc) (ls : Array Slot) => 64 - i < n2 ∧ m_M_check G mk = m_M_check_l2 G mk n2 i m2 ∧ lv_has ls 3 [(1, .int (nI i)), (0, .ref (ad 0))] ∧ va_P D cls (wM ad dA ho wo Q G m2 X) H ∧ va_S A s.heap H locs ∧ i ≤ 64 ∧ (∀ i, b01 (m2 i))) (65) 0 mk ⟨(by decide), (by rw [hm1, m_M_check_l1, if_pos h2, if_neg h3]), (lv_sub hl [0, 1] rfl), hP, hS, (by decide), hmk⟩ (fun _ _ _ _ _ h => absurd h.1 (Nat.not_lt_zero _)) (fun n2 ih2 i m2 H locs ls h => ?_)
        obtain ⟨hn2, hm2, hl, hP, hS, hi, hb2⟩ := h
        refine lv_iload_n hx hb d_M_check_69 rfl (lv_at hl 0 rfl) ?_
        refine lv_aload_n hx hb d_M_check_70 rfl (lv_at hl 1 rfl) ?_
        refine va_get (D := D) (ci := 9) (v := .int G.1) (C := R_M) (T := F_M) (N := 20) hx hb hts in_M hown hK hP 0 rfl rfl 12 (by decide) (hts _ wd_512) (fun _ h9 => h9) rfl d_M_check_71 ?_
        refine lv_icmp_ge (tgt := 122) hx hb d_M_check_74 (by decide) (fun h4 => ?_) (fun h4 => ?_)
        · refine lv_iconst (v := 0) hx hb d_M_check_122 (by decide) ?_
          exact W.iret hx hb hr (fun t ht hW => ⟨⟨_, _, rfl, ⟨(by rw [hm2, m_M_check_l2, if_pos h4]), (by rw [hm2, m_M_check_l2, if_pos h4])⟩, MG_at hP hK ht hW⟩, hS.F ht⟩) hS.2.2 d_M_check_123
        have hil : i < iN G.1 := nj_lt hG (by decide) hi h4
        refine lv_aload_n hx hb d_M_check_77 rfl (lv_at hl 1 rfl) ?_
        refine lv_iload_n hx hb d_M_check_78 rfl (lv_at hl 0 rfl) ?_
        refine vp_callSi (va_Run.run (va_runV (As := [.int (nI i)]) (rest := []) ⟨hx, hb, hml, hown, hts⟩ (c_M_code l D dA ad ho wo Q G m2 X (nI i) (vp_in_nI (by omega) (by decide))) (cwV 1 hts (g_V wd_641 wd_643 wd_17 wd_35 wd_644) rfl rfl rfl (by decide +kernel) ⟨Nat.le_of_ble_eq_true rfl, Nat.le_of_ble_eq_true rfl⟩) ⟨MG_fb, (va_recv (ci := 9) (q := (R_M, F_M, 20)) (q0 := 0) hK hP rfl rfl), fun U hU hW => ⟨rfl, MG_at hP hK hU hW⟩⟩ rfl rfl hl.1 rfl (lv_room (Nat.le_of_ble_eq_true rfl)) d_M_check_79 ⟨Nat.le_of_ble_eq_true rfl, Nat.le_of_ble_eq_true rfl⟩)) (fun r2 e2 => ?_)
        subst e2
        refine lv_bipush (v := 96) hx hb d_M_check_82 (by decide) ?_
        refine lv_icmp_eq (tgt := 97) hx hb d_M_check_84 (by decide) (fun h5 => ?_) (fun h5 => ?_)
        · refine lv_aload_n hx hb d_M_check_97 rfl (lv_at hl 1 rfl) ?_
          refine lv_iload_n hx hb d_M_check_98 rfl (lv_at hl 0 rfl) ?_
          refine lv_aload_n hx hb d_M_check_99 rfl (lv_at hl 1 rfl) ?_
          refine lv_iload_n hx hb d_M_check_100 rfl (lv_at hl 0 rfl) ?_
          refine vp_callSl (va_Run.run (va_runV (As := [.int (nI i)]) (rest := [.int (nI i), .ref (ad 0)]) ⟨hx, hb, hml, hown, hts⟩ (c_M_k l D dA ad ho wo Q G m2 X (nI i) (vp_in_nI (by omega) (by decide))) (cwV 1 hts (g_V wd_646 wd_648 wd_18 wd_35 wd_649) rfl rfl rfl (by decide +kernel) ⟨Nat.le_of_ble_eq_true rfl, Nat.le_of_ble_eq_true rfl⟩) ⟨MG_fb, (va_recv (ci := 9) (q := (R_M, F_M, 20)) (q0 := 0) hK hP rfl rfl), fun U hU hW => ⟨rfl, MG_at hP hK hU hW⟩⟩ rfl rfl hl.1 rfl (lv_room (Nat.le_of_ble_eq_true rfl)) d_M_check_101 ⟨Nat.le_of_ble_eq_true rfl, Nat.le_of_ble_eq_true rfl⟩)) (fun r3 e3 => ?_)
          subst e3
          refine va_calli (va_runV (As := [.int (nI i), .long (m_M_k G (nI i))]) (rest := []) ⟨hx, hb, hml, hown, hts⟩ (c_M_bare l D dA ad A hAd ho wo Q G m2 X (nI i) (m_M_k G (nI i)) hG (by rw [iN_nIs (by omega)]; omega) (okM_all hG hj hok (by assumption)) (endM_of hG (by assumption) (by assumption)) hb2) (cwV 2 hts (g_V wd_675 wd_677 wd_21 wd_35 wd_678) rfl rfl rfl (by decide +kernel) ⟨Nat.le_of_ble_eq_true rfl, Nat.le_of_ble_eq_true rfl⟩) ⟨MG_fb, (va_recv (ci := 9) (q := (R_M, F_M, 20)) (q0 := 0) hK hP rfl rfl), fun U hU hW => ⟨rfl, MG_at hP hK hU hW⟩⟩ rfl rfl hl.1 rfl (lv_room (Nat.le_of_ble_eq_true rfl)) d_M_check_104 ⟨Nat.le_of_ble_eq_true rfl, Nat.le_of_ble_eq_true rfl⟩) hS (fun _ _ h => h) (fun _ h => h) (fun r4 u1 t H locs ht hvm hu hB hz hk hS => ?_)
          obtain ⟨rfl, rfl⟩ := hu
          obtain ⟨hP, -⟩ := hB
          rw [ht] at hP
          have hP : va_P D cls (wM ad dA ho wo Q G ((m_M_bare G m2 (nI i) (m_M_k G (nI i))).2) X) H := hP
          refine lv_if_eq (tgt := 116) hx hb d_M_check_107 (by decide) (fun h6 => ?_) (fun h6 => ?_)
          · refine lv_iinc (v := (nI i) + 1) hx hb d_M_check_116 hl (k := 0) rfl rfl (by decide) rfl (fun ls hl => ?_)
            have hl : lv_has ls 3 [(1, .int ((nI i) + 1)), (0, .ref (ad 0))] := hl
            refine lv_goto (tgt := 69) hx hb d_M_check_119 (by decide) ?_
            exact ih2 (i + 1) ((m_M_bare G m2 (nI i) (m_M_k G (nI i))).2) _ _ _ ⟨(by omega), (by rw [hm2, m_M_check_l2, if_neg h4, if_pos h5, if_pos h6]), (by have h9 := lv_sub hl [0, 1] rfl; rw [nI_1] at h9; exact h9), hP, hS, (by omega), (bare_b hb2)⟩
          refine lv_sipush (v := 600) hx hb d_M_check_110 (by decide) ?_
          refine lv_iload_n hx hb d_M_check_113 rfl (lv_at hl 0 rfl) ?_
          refine lv_iadd hx hb d_M_check_114 ?_
          exact W.iret hx hb hr (fun t ht hW => ⟨⟨_, _, rfl, ⟨(by rw [hm2, m_M_check_l2, if_neg h4, if_pos h5, if_neg h6]), (by rw [hm2, m_M_check_l2, if_neg h4, if_pos h5, if_neg h6])⟩, MG_at hP hK ht hW⟩, hS.F ht⟩) hS.2.2 d_M_check_115
        refine lv_aload_n hx hb d_M_check_87 rfl (lv_at hl 1 rfl) ?_
        refine lv_iload_n hx hb d_M_check_88 rfl (lv_at hl 0 rfl) ?_
        refine vp_callSi (va_Run.run (va_runV (As := [.int (nI i)]) (rest := []) ⟨hx, hb, hml, hown, hts⟩ (c_M_code l D dA ad ho wo Q G m2 X (nI i) (vp_in_nI (by omega) (by decide))) (cwV 1 hts (g_V wd_641 wd_643 wd_17 wd_35 wd_644) rfl rfl rfl (by decide +kernel) ⟨Nat.le_of_ble_eq_true rfl, Nat.le_of_ble_eq_true rfl⟩) ⟨MG_fb, (va_recv (ci := 9) (q := (R_M, F_M, 20)) (q0 := 0) hK hP rfl rfl), fun U hU hW => ⟨rfl, MG_at hP hK hU hW⟩⟩ rfl rfl hl.1 rfl (lv_room (Nat.le_of_ble_eq_true rfl)) d_M_check_89 ⟨Nat.le_of_ble_eq_true rfl, Nat.le_of_ble_eq_true rfl⟩)) (fun r5 e4 => ?_)
        subst e4
        refine lv_bipush (v := 97) hx hb d_M_check_92 (by decide) ?_
        refine lv_icmp_ne (tgt := 116) hx hb d_M_check_94 (by decide) (fun h7 => ?_) (fun h7 => ?_)
        · refine lv_iinc (v := (nI i) + 1) hx hb d_M_check_116 hl (k := 0) rfl rfl (by decide) rfl (fun ls hl => ?_)
          have hl : lv_has ls 3 [(1, .int ((nI i) + 1)), (0, .ref (ad 0))] := hl
          refine lv_goto (tgt := 69) hx hb d_M_check_119 (by decide) ?_
          exact ih2 (i + 1) m2 _ _ _ ⟨(by omega), (by rw [hm2, m_M_check_l2, if_neg h4, if_neg h5, if_neg h7]), (by have h9 := lv_sub hl [0, 1] rfl; rw [nI_1] at h9; exact h9), hP, hS, (by omega), hb2⟩
        refine lv_aload_n hx hb d_M_check_97 rfl (lv_at hl 1 rfl) ?_
        refine lv_iload_n hx hb d_M_check_98 rfl (lv_at hl 0 rfl) ?_
        refine lv_aload_n hx hb d_M_check_99 rfl (lv_at hl 1 rfl) ?_
        refine lv_iload_n hx hb d_M_check_100 rfl (lv_at hl 0 rfl) ?_
        refine vp_callSl (va_Run.run (va_runV (As := [.int (nI i)]) (rest := [.int (nI i), .ref (ad 0)]) ⟨hx, hb, hml, hown, hts⟩ (c_M_k l D dA ad ho wo Q G m2 X (nI i) (vp_in_nI (by omega) (by decide))) (cwV 1 hts (g_V wd_646 wd_648 wd_18 wd_35 wd_649) rfl rfl rfl (by decide +kernel) ⟨Nat.le_of_ble_eq_true rfl, Nat.le_of_ble_eq_true rfl⟩) ⟨MG_fb, (va_recv (ci := 9) (q := (R_M, F_M, 20)) (q0 := 0) hK hP rfl rfl), fun U hU hW => ⟨rfl, MG_at hP hK hU hW⟩⟩ rfl rfl hl.1 rfl (lv_room (Nat.le_of_ble_eq_true rfl)) d_M_check_101 ⟨Nat.le_of_ble_eq_true rfl, Nat.le_of_ble_eq_true rfl⟩)) (fun r6 e5 => ?_)
        subst e5
        refine va_calli (va_runV (As := [.int (nI i), .long (m_M_k G (nI i))]) (rest := []) ⟨hx, hb, hml, hown, hts⟩ (c_M_bare l D dA ad A hAd ho wo Q G m2 X (nI i) (m_M_k G (nI i)) hG (by rw [iN_nIs (by omega)]; omega) (okM_all hG hj hok (by assumption)) (endM_of hG (by assumption) (by assumption)) hb2) (cwV 2 hts (g_V wd_675 wd_677 wd_21 wd_35 wd_678) rfl rfl rfl (by decide +kernel) ⟨Nat.le_of_ble_eq_true rfl, Nat.le_of_ble_eq_true rfl⟩) ⟨MG_fb, (va_recv (ci := 9) (q := (R_M, F_M, 20)) (q0 := 0) hK hP rfl rfl), fun U hU hW => ⟨rfl, MG_at hP hK hU hW⟩⟩ rfl rfl hl.1 rfl (lv_room (Nat.le_of_ble_eq_true rfl)) d_M_check_104 ⟨Nat.le_of_ble_eq_true rfl, Nat.le_of_ble_eq_true rfl⟩) hS (fun _ _ h => h) (fun _ h => h) (fun r7 u2 t H locs ht hvm hu hB hz hk hS => ?_)
        obtain ⟨rfl, rfl⟩ := hu
        obtain ⟨hP, -⟩ := hB
        rw [ht] at hP
        have hP : va_P D cls (wM ad dA ho wo Q G ((m_M_bare G m2 (nI i) (m_M_k G (nI i))).2) X) H := hP
        refine lv_if_eq (tgt := 116) hx hb d_M_check_107 (by decide) (fun h8 => ?_) (fun h8 => ?_)
        · refine lv_iinc (v := (nI i) + 1) hx hb d_M_check_116 hl (k := 0) rfl rfl (by decide) rfl (fun ls hl => ?_)
          have hl : lv_has ls 3 [(1, .int ((nI i) + 1)), (0, .ref (ad 0))] := hl
          refine lv_goto (tgt := 69) hx hb d_M_check_119 (by decide) ?_
          exact ih2 (i + 1) ((m_M_bare G m2 (nI i) (m_M_k G (nI i))).2) _ _ _ ⟨(by omega), (by rw [hm2, m_M_check_l2, if_neg h4, if_neg h5, if_pos h7, if_pos h8]), (by have h9 := lv_sub hl [0, 1] rfl; rw [nI_1] at h9; exact h9), hP, hS, (by omega), (bare_b hb2)⟩
        refine lv_sipush (v := 600) hx hb d_M_check_110 (by decide) ?_
        refine lv_iload_n hx hb d_M_check_113 rfl (lv_at hl 0 rfl) ?_
        refine lv_iadd hx hb d_M_check_114 ?_
        exact W.iret hx hb hr (fun t ht hW => ⟨⟨_, _, rfl, ⟨(by rw [hm2, m_M_check_l2, if_neg h4, if_neg h5, if_pos h7, if_neg h8]), (by rw [hm2, m_M_check_l2, if_neg h4, if_neg h5, if_pos h7, if_neg h8])⟩, MG_at hP hK ht hW⟩, hS.F ht⟩) hS.2.2 d_M_check_115
      refine lv_sipush (v := 500) hx hb d_M_check_56 (by decide) ?_
      refine lv_aload_n hx hb d_M_check_59 rfl (lv_at hl 1 rfl) ?_
      refine va_get (D := D) (ci := 9) (v := .int G.1) (C := R_M) (T := F_M) (N := 20) hx hb hts in_M hown hK hP 0 rfl rfl 12 (by decide) (hts _ wd_512) (fun _ h9 => h9) rfl d_M_check_60 ?_
      refine lv_iadd hx hb d_M_check_63 ?_
      refine lv_iconst (v := 1) hx hb d_M_check_64 (by decide) ?_
      refine lv_isub hx hb d_M_check_65 ?_
      exact W.iret hx hb hr (fun t ht hW => ⟨⟨_, _, rfl, ⟨(by rw [hm1, m_M_check_l1, if_pos h2, if_pos h3]), (by rw [hm1, m_M_check_l1, if_pos h2, if_pos h3])⟩, MG_at hP hK ht hW⟩, hS.F ht⟩) hS.2.2 d_M_check_66
    have hjl : j < iN G.1 := nj_lt hG (by decide) hj h2
    refine lv_aload_n hx hb d_M_check_20 rfl (lv_at hl 1 rfl) ?_
    refine lv_iload_n hx hb d_M_check_21 rfl (lv_at hl 0 rfl) ?_
    refine vp_callSi (va_Run.run (va_runV (As := [.int (nI j)]) (rest := []) ⟨hx, hb, hml, hown, hts⟩ (c_M_fault l D dA ad ho wo Q G mk X (nI j) (vp_in_nI (by omega) (by decide))) (cwV 1 hts (g_V wd_637 wd_639 wd_16 wd_35 wd_640) rfl rfl rfl (by decide +kernel) ⟨Nat.le_of_ble_eq_true rfl, Nat.le_of_ble_eq_true rfl⟩) ⟨MG_fb, (va_recv (ci := 9) (q := (R_M, F_M, 20)) (q0 := 0) hK hP rfl rfl), fun U hU hW => ⟨rfl, MG_at hP hK hU hW⟩⟩ rfl rfl hl.1 rfl (lv_room (Nat.le_of_ble_eq_true rfl)) d_M_check_22 ⟨Nat.le_of_ble_eq_true rfl, Nat.le_of_ble_eq_true rfl⟩)) (fun r8 e6 => ?_)
    subst e6
    refine lv_istore_n hx hb d_M_check_25 rfl hl (by decide) rfl (fun ls hl => ?_)
    have hl : lv_has ls 3 [(2, .int (m_M_fault G (nI j))), (1, .int (nI j)), (0, .ref (ad 0))] := hl
    refine lv_iload_n hx hb d_M_check_26 rfl (lv_at hl 0 rfl) ?_
    refine lv_if_eq (tgt := 37) hx hb d_M_check_27 (by decide) (fun h9 => ?_) (fun h9 => ?_)
    · refine lv_iinc (v := (nI j) + 1) hx hb d_M_check_37 hl (k := 1) rfl rfl (by decide) rfl (fun ls hl => ?_)
      have hl : lv_has ls 3 [(1, .int ((nI j) + 1)), (2, .int (m_M_fault G (nI j))), (0, .ref (ad 0))] := hl
      refine lv_goto (tgt := 12) hx hb d_M_check_40 (by decide) ?_
      exact ih1 (j + 1) _ _ _ ⟨(by omega), (by rw [hm1, m_M_check_l1, if_neg h2, if_pos h9]), (by have h9 := lv_sub hl [0, 2] rfl; rw [nI_1] at h9; exact h9), hP, hS, (by omega), (okM_step hok h9)⟩
    refine lv_bipush (v := 100) hx hb d_M_check_30 (by decide) ?_
    refine lv_iload_n hx hb d_M_check_32 rfl (lv_at hl 0 rfl) ?_
    refine lv_imul hx hb d_M_check_33 ?_
    refine lv_iload_n hx hb d_M_check_34 rfl (lv_at hl 1 rfl) ?_
    refine lv_iadd hx hb d_M_check_35 ?_
    exact W.iret hx hb hr (fun t ht hW => ⟨⟨_, _, rfl, ⟨(by rw [hm1, m_M_check_l1, if_neg h2, if_neg h9]), (by rw [hm1, m_M_check_l1, if_neg h2, if_neg h9])⟩, MG_at hP hK ht hW⟩, hS.F ht⟩) hS.2.2 d_M_check_36
  refine lv_bipush (v := 100) hx hb d_M_check_7 (by decide) ?_
  exact W.iret hx hb hr (fun t ht hW => ⟨⟨_, _, rfl, ⟨(by rw [m_M_check, if_pos h1]), (by rw [m_M_check, if_pos h1])⟩, MG_at hP hK ht hW⟩, hS.F ht⟩) hS.2.2 d_M_check_9
