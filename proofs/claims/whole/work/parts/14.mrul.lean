theorem wd_13 : Cond.selects R_M y_M_plain y_M_plain ∈ lw_g := wd_in (i := 13) (by decide +kernel) (by decide +kernel)
theorem wd_14 : Cond.selects R_M y_M_matches y_M_matches ∈ lw_g := wd_in (i := 14) (by decide +kernel) (by decide +kernel)
theorem wd_15 : Cond.selects R_M y_M_holds y_M_holds ∈ lw_g := wd_in (i := 15) (by decide +kernel) (by decide +kernel)
theorem wd_35 : Cond.initialized R_M ∈ lw_g := wd_in (i := 35) (by decide +kernel) (by decide +kernel)
theorem wd_500 : Cond.fieldLink R_M 54 R_M "home" "I" ∈ lw_g := wd_in (i := 500) (by decide +kernel) (by decide +kernel)
theorem wd_592 : Cond.methodLink R_M 65 y_M_plain ∈ lw_g := wd_in (i := 592) (by decide +kernel) (by decide +kernel)
theorem wd_594 : Cond.instanceMethod y_M_plain ∈ lw_g := wd_in (i := 594) (by decide +kernel) (by decide +kernel)
theorem wd_595 : Cond.code y_M_plain prog_12_method_4_code 2 (Option.some Jvm.ClassFile.FieldType.long) ∈ lw_g := wd_in (i := 595) (by decide +kernel) (by decide +kernel)
theorem wd_597 : Cond.constantLong R_M 79 1073741824 ∈ lw_g := wd_in (i := 597) (by decide +kernel) (by decide +kernel)
theorem wd_598 : Cond.methodLink R_M 81 y_M_matches ∈ lw_g := wd_in (i := 598) (by decide +kernel) (by decide +kernel)
theorem wd_600 : Cond.instanceMethod y_M_matches ∈ lw_g := wd_in (i := 600) (by decide +kernel) (by decide +kernel)
theorem wd_601 : Cond.code y_M_matches prog_12_method_11_code 4 (Option.some Jvm.ClassFile.FieldType.boolean) ∈ lw_g := wd_in (i := 601) (by decide +kernel) (by decide +kernel)
theorem wd_602 : Cond.methodLink R_M 75 y_M_holds ∈ lw_g := wd_in (i := 602) (by decide +kernel) (by decide +kernel)
theorem wd_604 : Cond.instanceMethod y_M_holds ∈ lw_g := wd_in (i := 604) (by decide +kernel) (by decide +kernel)
theorem wd_605 : Cond.code y_M_holds prog_12_method_10_code 6 (Option.some Jvm.ClassFile.FieldType.boolean) ∈ lw_g := wd_in (i := 605) (by decide +kernel) (by decide +kernel)
theorem wd_606 : Cond.constantLong R_M 69 4294967296 ∈ lw_g := wd_in (i := 606) (by decide +kernel) (by decide +kernel)
theorem wd_607 : Cond.methodLink R_M 71 y_M_below ∈ lw_g := wd_in (i := 607) (by decide +kernel) (by decide +kernel)
theorem wd_608 : Cond.static y_M_below ∈ lw_g := wd_in (i := 608) (by decide +kernel) (by decide +kernel)
theorem wd_609 : Cond.code y_M_below prog_12_method_9_code 8 (Option.some Jvm.ClassFile.FieldType.boolean) ∈ lw_g := wd_in (i := 609) (by decide +kernel) (by decide +kernel)
theorem d_M_holds_0 : decode b_M_holds 0 = .ok (.aload_n 0, 1) := by decide +kernel
theorem d_M_holds_1 : decode b_M_holds 1 = .ok (.iconst 5, 1) := by decide +kernel
theorem d_M_holds_2 : decode b_M_holds 2 = .ok (.iconst 2, 1) := by decide +kernel
theorem d_M_holds_3 : decode b_M_holds 3 = .ok (.aload_n 0, 1) := by decide +kernel
theorem d_M_holds_4 : decode b_M_holds 4 = .ok (.getfield 28, 3) := by decide +kernel
theorem d_M_holds_7 : decode b_M_holds 7 = .ok (.iload_n 1, 1) := by decide +kernel
theorem d_M_holds_8 : decode b_M_holds 8 = .ok (.iaload, 1) := by decide +kernel
theorem d_M_holds_9 : decode b_M_holds 9 = .ok (.imul, 1) := by decide +kernel
theorem d_M_holds_10 : decode b_M_holds 10 = .ok (.iadd, 1) := by decide +kernel
theorem d_M_holds_11 : decode b_M_holds 11 = .ok (.invokevirtual 65, 3) := by decide +kernel
theorem d_M_holds_14 : decode b_M_holds 14 = .ok (.ldc2_w 69, 3) := by decide +kernel
theorem d_M_holds_17 : decode b_M_holds 17 = .ok (.lmul, 1) := by decide +kernel
theorem d_M_holds_18 : decode b_M_holds 18 = .ok (.aload_n 0, 1) := by decide +kernel
theorem d_M_holds_19 : decode b_M_holds 19 = .ok (.iconst 4, 1) := by decide +kernel
theorem d_M_holds_20 : decode b_M_holds 20 = .ok (.iconst 2, 1) := by decide +kernel
theorem d_M_holds_21 : decode b_M_holds 21 = .ok (.aload_n 0, 1) := by decide +kernel
theorem d_M_holds_22 : decode b_M_holds 22 = .ok (.getfield 28, 3) := by decide +kernel
theorem d_M_holds_25 : decode b_M_holds 25 = .ok (.iload_n 1, 1) := by decide +kernel
theorem d_M_holds_26 : decode b_M_holds 26 = .ok (.iaload, 1) := by decide +kernel
theorem d_M_holds_27 : decode b_M_holds 27 = .ok (.imul, 1) := by decide +kernel
theorem d_M_holds_28 : decode b_M_holds 28 = .ok (.iadd, 1) := by decide +kernel
theorem d_M_holds_29 : decode b_M_holds 29 = .ok (.invokevirtual 65, 3) := by decide +kernel
theorem d_M_holds_32 : decode b_M_holds 32 = .ok (.ladd, 1) := by decide +kernel
theorem d_M_holds_33 : decode b_M_holds 33 = .ok (.lstore_n 2, 1) := by decide +kernel
theorem d_M_holds_34 : decode b_M_holds 34 = .ok (.aload_n 0, 1) := by decide +kernel
theorem d_M_holds_35 : decode b_M_holds 35 = .ok (.getfield 34, 3) := by decide +kernel
theorem d_M_holds_38 : decode b_M_holds 38 = .ok (.iload_n 1, 1) := by decide +kernel
theorem d_M_holds_39 : decode b_M_holds 39 = .ok (.laload, 1) := by decide +kernel
theorem d_M_holds_40 : decode b_M_holds 40 = .ok (.lstore 4, 2) := by decide +kernel
theorem d_M_holds_42 : decode b_M_holds 42 = .ok (.aload_n 0, 1) := by decide +kernel
theorem d_M_holds_43 : decode b_M_holds 43 = .ok (.getfield 31, 3) := by decide +kernel
theorem d_M_holds_46 : decode b_M_holds 46 = .ok (.iload_n 1, 1) := by decide +kernel
theorem d_M_holds_47 : decode b_M_holds 47 = .ok (.iaload, 1) := by decide +kernel
theorem d_M_holds_48 : decode b_M_holds 48 = .ok (.tableswitch 110 0 5 #[40, 53, 66, 73, 88, 95], 40) := by decide +kernel
theorem d_M_holds_88 : decode b_M_holds 88 = .ok (.lload_n 2, 1) := by decide +kernel
theorem d_M_holds_89 : decode b_M_holds 89 = .ok (.lload 4, 2) := by decide +kernel
theorem d_M_holds_91 : decode b_M_holds 91 = .ok (.lcmp, 1) := by decide +kernel
theorem d_M_holds_92 : decode b_M_holds 92 = .ok (.ifCond .ne 7, 3) := by decide +kernel
theorem d_M_holds_95 : decode b_M_holds 95 = .ok (.iconst 1, 1) := by decide +kernel
theorem d_M_holds_96 : decode b_M_holds 96 = .ok (.goto 4, 3) := by decide +kernel
theorem d_M_holds_99 : decode b_M_holds 99 = .ok (.iconst 0, 1) := by decide +kernel
theorem d_M_holds_100 : decode b_M_holds 100 = .ok (.ireturn, 1) := by decide +kernel
theorem d_M_holds_101 : decode b_M_holds 101 = .ok (.lload_n 2, 1) := by decide +kernel
theorem d_M_holds_102 : decode b_M_holds 102 = .ok (.lload 4, 2) := by decide +kernel
theorem d_M_holds_104 : decode b_M_holds 104 = .ok (.lcmp, 1) := by decide +kernel
theorem d_M_holds_105 : decode b_M_holds 105 = .ok (.ifCond .eq 7, 3) := by decide +kernel
theorem d_M_holds_108 : decode b_M_holds 108 = .ok (.iconst 1, 1) := by decide +kernel
theorem d_M_holds_109 : decode b_M_holds 109 = .ok (.goto 4, 3) := by decide +kernel
theorem d_M_holds_112 : decode b_M_holds 112 = .ok (.iconst 0, 1) := by decide +kernel
theorem d_M_holds_113 : decode b_M_holds 113 = .ok (.ireturn, 1) := by decide +kernel
theorem d_M_holds_114 : decode b_M_holds 114 = .ok (.lload_n 2, 1) := by decide +kernel
theorem d_M_holds_115 : decode b_M_holds 115 = .ok (.lload 4, 2) := by decide +kernel
theorem d_M_holds_117 : decode b_M_holds 117 = .ok (.invokestatic 71, 3) := by decide +kernel
theorem d_M_holds_120 : decode b_M_holds 120 = .ok (.ireturn, 1) := by decide +kernel
theorem d_M_holds_121 : decode b_M_holds 121 = .ok (.lload 4, 2) := by decide +kernel
theorem d_M_holds_123 : decode b_M_holds 123 = .ok (.lload_n 2, 1) := by decide +kernel
theorem d_M_holds_124 : decode b_M_holds 124 = .ok (.invokestatic 71, 3) := by decide +kernel
theorem d_M_holds_127 : decode b_M_holds 127 = .ok (.ifCond .ne 7, 3) := by decide +kernel
theorem d_M_holds_130 : decode b_M_holds 130 = .ok (.iconst 1, 1) := by decide +kernel
theorem d_M_holds_131 : decode b_M_holds 131 = .ok (.goto 4, 3) := by decide +kernel
theorem d_M_holds_134 : decode b_M_holds 134 = .ok (.iconst 0, 1) := by decide +kernel
theorem d_M_holds_135 : decode b_M_holds 135 = .ok (.ireturn, 1) := by decide +kernel
theorem d_M_holds_136 : decode b_M_holds 136 = .ok (.lload 4, 2) := by decide +kernel
theorem d_M_holds_138 : decode b_M_holds 138 = .ok (.lload_n 2, 1) := by decide +kernel
theorem d_M_holds_139 : decode b_M_holds 139 = .ok (.invokestatic 71, 3) := by decide +kernel
theorem d_M_holds_142 : decode b_M_holds 142 = .ok (.ireturn, 1) := by decide +kernel
theorem d_M_holds_143 : decode b_M_holds 143 = .ok (.lload_n 2, 1) := by decide +kernel
theorem d_M_holds_144 : decode b_M_holds 144 = .ok (.lload 4, 2) := by decide +kernel
theorem d_M_holds_146 : decode b_M_holds 146 = .ok (.invokestatic 71, 3) := by decide +kernel
theorem d_M_holds_149 : decode b_M_holds 149 = .ok (.ifCond .ne 7, 3) := by decide +kernel
theorem d_M_holds_152 : decode b_M_holds 152 = .ok (.iconst 1, 1) := by decide +kernel
theorem d_M_holds_153 : decode b_M_holds 153 = .ok (.goto 4, 3) := by decide +kernel
theorem d_M_holds_156 : decode b_M_holds 156 = .ok (.iconst 0, 1) := by decide +kernel
theorem d_M_holds_157 : decode b_M_holds 157 = .ok (.ireturn, 1) := by decide +kernel
theorem d_M_holds_158 : decode b_M_holds 158 = .ok (.lload_n 2, 1) := by decide +kernel
theorem d_M_holds_159 : decode b_M_holds 159 = .ok (.aload_n 0, 1) := by decide +kernel
theorem d_M_holds_160 : decode b_M_holds 160 = .ok (.getfield 38, 3) := by decide +kernel
theorem d_M_holds_163 : decode b_M_holds 163 = .ok (.iload_n 1, 1) := by decide +kernel
theorem d_M_holds_164 : decode b_M_holds 164 = .ok (.laload, 1) := by decide +kernel
theorem d_M_holds_165 : decode b_M_holds 165 = .ok (.land, 1) := by decide +kernel
theorem d_M_holds_166 : decode b_M_holds 166 = .ok (.lload 4, 2) := by decide +kernel
theorem d_M_holds_168 : decode b_M_holds 168 = .ok (.lcmp, 1) := by decide +kernel
theorem d_M_holds_169 : decode b_M_holds 169 = .ok (.ifCond .ne 7, 3) := by decide +kernel
theorem d_M_holds_172 : decode b_M_holds 172 = .ok (.iconst 1, 1) := by decide +kernel
theorem d_M_holds_173 : decode b_M_holds 173 = .ok (.goto 4, 3) := by decide +kernel
theorem d_M_holds_176 : decode b_M_holds 176 = .ok (.iconst 0, 1) := by decide +kernel
theorem d_M_holds_177 : decode b_M_holds 177 = .ok (.ireturn, 1) := by decide +kernel
theorem d_M_matches_0 : decode b_M_matches 0 = .ok (.aload_n 0, 1) := by decide +kernel
theorem d_M_matches_1 : decode b_M_matches 1 = .ok (.iconst 0, 1) := by decide +kernel
theorem d_M_matches_2 : decode b_M_matches 2 = .ok (.invokevirtual 65, 3) := by decide +kernel
theorem d_M_matches_5 : decode b_M_matches 5 = .ok (.aload_n 0, 1) := by decide +kernel
theorem d_M_matches_6 : decode b_M_matches 6 = .ok (.getfield 13, 3) := by decide +kernel
theorem d_M_matches_9 : decode b_M_matches 9 = .ok (.iload_n 1, 1) := by decide +kernel
theorem d_M_matches_10 : decode b_M_matches 10 = .ok (.iaload, 1) := by decide +kernel
theorem d_M_matches_11 : decode b_M_matches 11 = .ok (.i2l, 1) := by decide +kernel
theorem d_M_matches_12 : decode b_M_matches 12 = .ok (.lcmp, 1) := by decide +kernel
theorem d_M_matches_13 : decode b_M_matches 13 = .ok (.ifCond .lt 23, 3) := by decide +kernel
theorem d_M_matches_16 : decode b_M_matches 16 = .ok (.aload_n 0, 1) := by decide +kernel
theorem d_M_matches_17 : decode b_M_matches 17 = .ok (.iconst 0, 1) := by decide +kernel
theorem d_M_matches_18 : decode b_M_matches 18 = .ok (.invokevirtual 65, 3) := by decide +kernel
theorem d_M_matches_21 : decode b_M_matches 21 = .ok (.aload_n 0, 1) := by decide +kernel
theorem d_M_matches_22 : decode b_M_matches 22 = .ok (.getfield 16, 3) := by decide +kernel
theorem d_M_matches_25 : decode b_M_matches 25 = .ok (.iload_n 1, 1) := by decide +kernel
theorem d_M_matches_26 : decode b_M_matches 26 = .ok (.iaload, 1) := by decide +kernel
theorem d_M_matches_27 : decode b_M_matches 27 = .ok (.i2l, 1) := by decide +kernel
theorem d_M_matches_28 : decode b_M_matches 28 = .ok (.lcmp, 1) := by decide +kernel
theorem d_M_matches_29 : decode b_M_matches 29 = .ok (.ifCond .gt 7, 3) := by decide +kernel
theorem d_M_matches_32 : decode b_M_matches 32 = .ok (.iconst 1, 1) := by decide +kernel
theorem d_M_matches_33 : decode b_M_matches 33 = .ok (.goto 4, 3) := by decide +kernel
theorem d_M_matches_36 : decode b_M_matches 36 = .ok (.iconst 0, 1) := by decide +kernel
theorem d_M_matches_37 : decode b_M_matches 37 = .ok (.istore_n 2, 1) := by decide +kernel
theorem d_M_matches_38 : decode b_M_matches 38 = .ok (.iconst 3, 1) := by decide +kernel
theorem d_M_matches_39 : decode b_M_matches 39 = .ok (.iload_n 1, 1) := by decide +kernel
theorem d_M_matches_40 : decode b_M_matches 40 = .ok (.imul, 1) := by decide +kernel
theorem d_M_matches_41 : decode b_M_matches 41 = .ok (.istore_n 3, 1) := by decide +kernel
theorem d_M_matches_42 : decode b_M_matches 42 = .ok (.iload_n 3, 1) := by decide +kernel
theorem d_M_matches_43 : decode b_M_matches 43 = .ok (.iconst 3, 1) := by decide +kernel
theorem d_M_matches_44 : decode b_M_matches 44 = .ok (.iload_n 1, 1) := by decide +kernel
theorem d_M_matches_45 : decode b_M_matches 45 = .ok (.imul, 1) := by decide +kernel
theorem d_M_matches_46 : decode b_M_matches 46 = .ok (.aload_n 0, 1) := by decide +kernel
theorem d_M_matches_47 : decode b_M_matches 47 = .ok (.getfield 25, 3) := by decide +kernel
theorem d_M_matches_50 : decode b_M_matches 50 = .ok (.iload_n 1, 1) := by decide +kernel
theorem d_M_matches_51 : decode b_M_matches 51 = .ok (.iaload, 1) := by decide +kernel
theorem d_M_matches_52 : decode b_M_matches 52 = .ok (.iadd, 1) := by decide +kernel
theorem d_M_matches_53 : decode b_M_matches 53 = .ok (.if_icmp .ge 27, 3) := by decide +kernel
theorem d_M_matches_56 : decode b_M_matches 56 = .ok (.iload_n 2, 1) := by decide +kernel
theorem d_M_matches_57 : decode b_M_matches 57 = .ok (.ifCond .eq 15, 3) := by decide +kernel
theorem d_M_matches_60 : decode b_M_matches 60 = .ok (.aload_n 0, 1) := by decide +kernel
theorem d_M_matches_61 : decode b_M_matches 61 = .ok (.iload_n 3, 1) := by decide +kernel
theorem d_M_matches_62 : decode b_M_matches 62 = .ok (.invokevirtual 75, 3) := by decide +kernel
theorem d_M_matches_65 : decode b_M_matches 65 = .ok (.ifCond .eq 7, 3) := by decide +kernel
theorem d_M_matches_68 : decode b_M_matches 68 = .ok (.iconst 1, 1) := by decide +kernel
theorem d_M_matches_69 : decode b_M_matches 69 = .ok (.goto 4, 3) := by decide +kernel
theorem d_M_matches_72 : decode b_M_matches 72 = .ok (.iconst 0, 1) := by decide +kernel
theorem d_M_matches_73 : decode b_M_matches 73 = .ok (.istore_n 2, 1) := by decide +kernel
theorem d_M_matches_74 : decode b_M_matches 74 = .ok (.iinc 3 1, 3) := by decide +kernel
theorem d_M_matches_77 : decode b_M_matches 77 = .ok (.goto (-35), 3) := by decide +kernel
theorem d_M_matches_80 : decode b_M_matches 80 = .ok (.iload_n 2, 1) := by decide +kernel
theorem d_M_matches_81 : decode b_M_matches 81 = .ok (.ireturn, 1) := by decide +kernel
theorem d_M_ruling_0 : decode b_M_ruling 0 = .ok (.aload_n 0, 1) := by decide +kernel
theorem d_M_ruling_1 : decode b_M_ruling 1 = .ok (.getfield 7, 3) := by decide +kernel
theorem d_M_ruling_4 : decode b_M_ruling 4 = .ok (.iconst 1, 1) := by decide +kernel
theorem d_M_ruling_5 : decode b_M_ruling 5 = .ok (.iaload, 1) := by decide +kernel
theorem d_M_ruling_6 : decode b_M_ruling 6 = .ok (.aload_n 0, 1) := by decide +kernel
theorem d_M_ruling_7 : decode b_M_ruling 7 = .ok (.getfield 54, 3) := by decide +kernel
theorem d_M_ruling_10 : decode b_M_ruling 10 = .ok (.if_icmp .ne 15, 3) := by decide +kernel
theorem d_M_ruling_13 : decode b_M_ruling 13 = .ok (.aload_n 0, 1) := by decide +kernel
theorem d_M_ruling_14 : decode b_M_ruling 14 = .ok (.iconst 0, 1) := by decide +kernel
theorem d_M_ruling_15 : decode b_M_ruling 15 = .ok (.invokevirtual 65, 3) := by decide +kernel
theorem d_M_ruling_18 : decode b_M_ruling 18 = .ok (.ldc2_w 79, 3) := by decide +kernel
theorem d_M_ruling_21 : decode b_M_ruling 21 = .ok (.lcmp, 1) := by decide +kernel
theorem d_M_ruling_22 : decode b_M_ruling 22 = .ok (.ifCond .lt 6, 3) := by decide +kernel
theorem d_M_ruling_25 : decode b_M_ruling 25 = .ok (.bipush (-2), 2) := by decide +kernel
theorem d_M_ruling_27 : decode b_M_ruling 27 = .ok (.ireturn, 1) := by decide +kernel
theorem d_M_ruling_28 : decode b_M_ruling 28 = .ok (.iconst 0, 1) := by decide +kernel
theorem d_M_ruling_29 : decode b_M_ruling 29 = .ok (.istore_n 1, 1) := by decide +kernel
theorem d_M_ruling_30 : decode b_M_ruling 30 = .ok (.iload_n 1, 1) := by decide +kernel
theorem d_M_ruling_31 : decode b_M_ruling 31 = .ok (.bipush 7, 2) := by decide +kernel
theorem d_M_ruling_33 : decode b_M_ruling 33 = .ok (.if_icmp .ge 45, 3) := by decide +kernel
theorem d_M_ruling_36 : decode b_M_ruling 36 = .ok (.iconst 0, 1) := by decide +kernel
theorem d_M_ruling_37 : decode b_M_ruling 37 = .ok (.istore_n 2, 1) := by decide +kernel
theorem d_M_ruling_38 : decode b_M_ruling 38 = .ok (.iload_n 2, 1) := by decide +kernel
theorem d_M_ruling_39 : decode b_M_ruling 39 = .ok (.aload_n 0, 1) := by decide +kernel
theorem d_M_ruling_40 : decode b_M_ruling 40 = .ok (.getfield 62, 3) := by decide +kernel
theorem d_M_ruling_43 : decode b_M_ruling 43 = .ok (.if_icmp .ge 29, 3) := by decide +kernel
theorem d_M_ruling_46 : decode b_M_ruling 46 = .ok (.aload_n 0, 1) := by decide +kernel
theorem d_M_ruling_47 : decode b_M_ruling 47 = .ok (.getfield 19, 3) := by decide +kernel
theorem d_M_ruling_50 : decode b_M_ruling 50 = .ok (.iload_n 2, 1) := by decide +kernel
theorem d_M_ruling_51 : decode b_M_ruling 51 = .ok (.iaload, 1) := by decide +kernel
theorem d_M_ruling_52 : decode b_M_ruling 52 = .ok (.iload_n 1, 1) := by decide +kernel
theorem d_M_ruling_53 : decode b_M_ruling 53 = .ok (.if_icmp .ne 13, 3) := by decide +kernel
theorem d_M_ruling_56 : decode b_M_ruling 56 = .ok (.aload_n 0, 1) := by decide +kernel
theorem d_M_ruling_57 : decode b_M_ruling 57 = .ok (.iload_n 2, 1) := by decide +kernel
theorem d_M_ruling_58 : decode b_M_ruling 58 = .ok (.invokevirtual 81, 3) := by decide +kernel
theorem d_M_ruling_61 : decode b_M_ruling 61 = .ok (.ifCond .eq 5, 3) := by decide +kernel
theorem d_M_ruling_64 : decode b_M_ruling 64 = .ok (.iload_n 2, 1) := by decide +kernel
theorem d_M_ruling_65 : decode b_M_ruling 65 = .ok (.ireturn, 1) := by decide +kernel
theorem d_M_ruling_66 : decode b_M_ruling 66 = .ok (.iinc 2 1, 3) := by decide +kernel
theorem d_M_ruling_69 : decode b_M_ruling 69 = .ok (.goto (-31), 3) := by decide +kernel
theorem d_M_ruling_72 : decode b_M_ruling 72 = .ok (.iinc 1 1, 3) := by decide +kernel
theorem d_M_ruling_75 : decode b_M_ruling 75 = .ok (.goto (-45), 3) := by decide +kernel
theorem d_M_ruling_78 : decode b_M_ruling 78 = .ok (.iconst (-1), 1) := by decide +kernel
theorem d_M_ruling_79 : decode b_M_ruling 79 = .ok (.ireturn, 1) := by decide +kernel
def m_M_holds (wo : Nat → Int32) (Q : QT) (cn : Int32) : Int32 := if (Q.2.2.2.2.2.2.2.1 cn.toNatClampNeg) = (0 : Int32) then if (lg_cmp (((m_M_plain wo ((5 : Int32) + ((2 : Int32) * (Q.2.2.2.2.2.2.1 cn.toNatClampNeg)))) * (4294967296 : Int64)) + (m_M_plain wo ((4 : Int32) + ((2 : Int32) * (Q.2.2.2.2.2.2.1 cn.toNatClampNeg))))) (Q.2.2.2.2.2.2.2.2.1 cn.toNatClampNeg)) = (0 : Int32) then (1 : Int32) else (0 : Int32) else if (Q.2.2.2.2.2.2.2.1 cn.toNatClampNeg) = (1 : Int32) then if (lg_cmp (((m_M_plain wo ((5 : Int32) + ((2 : Int32) * (Q.2.2.2.2.2.2.1 cn.toNatClampNeg)))) * (4294967296 : Int64)) + (m_M_plain wo ((4 : Int32) + ((2 : Int32) * (Q.2.2.2.2.2.2.1 cn.toNatClampNeg))))) (Q.2.2.2.2.2.2.2.2.1 cn.toNatClampNeg)) = (0 : Int32) then (0 : Int32) else (1 : Int32) else if (Q.2.2.2.2.2.2.2.1 cn.toNatClampNeg) = (2 : Int32) then m_M_below (((m_M_plain wo ((5 : Int32) + ((2 : Int32) * (Q.2.2.2.2.2.2.1 cn.toNatClampNeg)))) * (4294967296 : Int64)) + (m_M_plain wo ((4 : Int32) + ((2 : Int32) * (Q.2.2.2.2.2.2.1 cn.toNatClampNeg))))) (Q.2.2.2.2.2.2.2.2.1 cn.toNatClampNeg) else if (Q.2.2.2.2.2.2.2.1 cn.toNatClampNeg) = (3 : Int32) then if (m_M_below (Q.2.2.2.2.2.2.2.2.1 cn.toNatClampNeg) (((m_M_plain wo ((5 : Int32) + ((2 : Int32) * (Q.2.2.2.2.2.2.1 cn.toNatClampNeg)))) * (4294967296 : Int64)) + (m_M_plain wo ((4 : Int32) + ((2 : Int32) * (Q.2.2.2.2.2.2.1 cn.toNatClampNeg)))))) = (0 : Int32) then (1 : Int32) else (0 : Int32) else if (Q.2.2.2.2.2.2.2.1 cn.toNatClampNeg) = (4 : Int32) then m_M_below (Q.2.2.2.2.2.2.2.2.1 cn.toNatClampNeg) (((m_M_plain wo ((5 : Int32) + ((2 : Int32) * (Q.2.2.2.2.2.2.1 cn.toNatClampNeg)))) * (4294967296 : Int64)) + (m_M_plain wo ((4 : Int32) + ((2 : Int32) * (Q.2.2.2.2.2.2.1 cn.toNatClampNeg))))) else if (Q.2.2.2.2.2.2.2.1 cn.toNatClampNeg) = (5 : Int32) then if (m_M_below (((m_M_plain wo ((5 : Int32) + ((2 : Int32) * (Q.2.2.2.2.2.2.1 cn.toNatClampNeg)))) * (4294967296 : Int64)) + (m_M_plain wo ((4 : Int32) + ((2 : Int32) * (Q.2.2.2.2.2.2.1 cn.toNatClampNeg))))) (Q.2.2.2.2.2.2.2.2.1 cn.toNatClampNeg)) = (0 : Int32) then (1 : Int32) else (0 : Int32) else if (lg_cmp ((((m_M_plain wo ((5 : Int32) + ((2 : Int32) * (Q.2.2.2.2.2.2.1 cn.toNatClampNeg)))) * (4294967296 : Int64)) + (m_M_plain wo ((4 : Int32) + ((2 : Int32) * (Q.2.2.2.2.2.2.1 cn.toNatClampNeg))))) &&& (Q.2.2.2.2.2.2.2.2.2 cn.toNatClampNeg)) (Q.2.2.2.2.2.2.2.2.1 cn.toNatClampNeg)) = (0 : Int32) then (1 : Int32) else (0 : Int32)
set_option maxHeartbeats 4000000 in
set_option maxRecDepth 100000 in
theorem c_M_holds (l : Launch) (D : va_G) (dA : Nat → ClassId) (ad : Nat → Nat) (ho : Int32) (wo : Nat → Int32) (Q : QT) (G : GT) (mk : Nat → Int32) (X : XT) (cn : Int32) (hc : vp_in cn 18) (hw : vp_in (Q.2.2.2.2.2.2.1 cn.toNatClampNeg) 6) : Met l y_M_holds (mW y_M_holds b_M_holds 6 (some .boolean)) { frames := 1, cells := 0, slots := 0, locals := 27 } (va_Pc [.ref (ad 0), .int cn] (fun U => MG D dA ad ho wo Q G mk X U)) (vp_Si (fun r => r = m_M_holds wo Q cn)) 0 0 (fun _ => False) := by
  refine Met.ofW (cc := b_M_holds) (maxL := 6) (ret := (some .boolean)) (by decide) rfl ?_
  intro p e s m args below meth c s₁ B hml hv
  obtain ⟨rfl, hP, hK⟩ := hv
  have hx := B.exec
  have hb := B.bytes
  have hr := B.returns
  have hlocks := B.notSynchronized
  have hts := fun (w : Cond) (h : w ∈ lw_g) => atoms_spec (ws := mW y_M_holds b_M_holds 6 (some .boolean)) B.pre w (List.mem_cons_of_mem _ h)
  have hown : s.vm.findClass R_M = some m.cls := findClass_of_methodNamed B.named
  have hl := lv_entry ([.ref (ad 0), .int cn]) (n := 6) (Nat.le_of_ble_eq_true rfl)
  rw [lg_entry_eq]
  generalize (lg_sl ([.ref (ad 0), .int cn]) ++ List.replicate (6 - (lg_sl ([.ref (ad 0), .int cn])).length) Slot.unset).toArray = ls at hl ⊢
  have hl : lv_has ls 6 [(0, .ref (ad 0)), (1, .int cn)] := hl
  refine lv_aload_n hx hb d_M_holds_0 rfl (lv_at hl 0 rfl) ?_
  refine lv_iconst (v := 5) hx hb d_M_holds_1 (by decide) ?_
  refine lv_iconst (v := 2) hx hb d_M_holds_2 (by decide) ?_
  refine lv_aload_n hx hb d_M_holds_3 rfl (lv_at hl 0 rfl) ?_
  refine va_get (D := D) (ci := 9) (v := .ref (ad 7)) (C := R_M) (T := F_M) (N := 20) hx hb hts in_M hown hK hP 0 rfl rfl 8 (by decide) (hts _ wd_508) (fun _ h9 => h9) rfl d_M_holds_4 ?_
  refine lv_iload_n hx hb d_M_holds_7 rfl (lv_at hl 1 rfl) ?_
  refine va_iald (n := 18) (f := Q.2.2.2.2.2.2.1) hx hb hK hP 7 0 rfl rfl hc d_M_holds_8 ?_
  refine lv_imul hx hb d_M_holds_9 ?_
  refine lv_iadd hx hb d_M_holds_10 ?_
  refine vp_callSl (va_Run.run (va_runV (As := [.int ((5 : Int32) + ((2 : Int32) * (Q.2.2.2.2.2.2.1 cn.toNatClampNeg)))]) (rest := []) ⟨hx, hb, hml, hown, hts⟩ (c_M_plain l D dA ad ho wo Q G mk X ((5 : Int32) + ((2 : Int32) * (Q.2.2.2.2.2.2.1 cn.toNatClampNeg))) (ix_p5 hw)) (cwV 1 hts (g_V wd_592 wd_594 wd_13 wd_35 wd_595) rfl rfl rfl (by decide +kernel) ⟨Nat.le_of_ble_eq_true rfl, Nat.le_of_ble_eq_true rfl⟩) ⟨MG_fb, (va_recv (ci := 9) (q := (R_M, F_M, 20)) (q0 := 0) hK hP rfl rfl), fun U hU hW => ⟨rfl, MG_at hP hK hU hW⟩⟩ rfl rfl hl.1 rfl (lv_room (Nat.le_of_ble_eq_true rfl)) d_M_holds_11 ⟨Nat.le_of_ble_eq_true rfl, Nat.le_of_ble_eq_true rfl⟩)) (fun r1 e1 => ?_)
  subst e1
  refine lv_ldc2 (v := 4294967296) hx hb hown (hts _ wd_606) d_M_holds_14 ?_
  refine lv_lmul hx hb d_M_holds_17 ?_
  refine lv_aload_n hx hb d_M_holds_18 rfl (lv_at hl 0 rfl) ?_
  refine lv_iconst (v := 4) hx hb d_M_holds_19 (by decide) ?_
  refine lv_iconst (v := 2) hx hb d_M_holds_20 (by decide) ?_
  refine lv_aload_n hx hb d_M_holds_21 rfl (lv_at hl 0 rfl) ?_
  refine va_get (D := D) (ci := 9) (v := .ref (ad 7)) (C := R_M) (T := F_M) (N := 20) hx hb hts in_M hown hK hP 0 rfl rfl 8 (by decide) (hts _ wd_508) (fun _ h9 => h9) rfl d_M_holds_22 ?_
  refine lv_iload_n hx hb d_M_holds_25 rfl (lv_at hl 1 rfl) ?_
  refine va_iald (n := 18) (f := Q.2.2.2.2.2.2.1) hx hb hK hP 7 0 rfl rfl hc d_M_holds_26 ?_
  refine lv_imul hx hb d_M_holds_27 ?_
  refine lv_iadd hx hb d_M_holds_28 ?_
  refine vp_callSl (va_Run.run (va_runV (As := [.int ((4 : Int32) + ((2 : Int32) * (Q.2.2.2.2.2.2.1 cn.toNatClampNeg)))]) (rest := [.long ((m_M_plain wo ((5 : Int32) + ((2 : Int32) * (Q.2.2.2.2.2.2.1 cn.toNatClampNeg)))) * (4294967296 : Int64))]) ⟨hx, hb, hml, hown, hts⟩ (c_M_plain l D dA ad ho wo Q G mk X ((4 : Int32) + ((2 : Int32) * (Q.2.2.2.2.2.2.1 cn.toNatClampNeg))) (ix_4 hw)) (cwV 1 hts (g_V wd_592 wd_594 wd_13 wd_35 wd_595) rfl rfl rfl (by decide +kernel) ⟨Nat.le_of_ble_eq_true rfl, Nat.le_of_ble_eq_true rfl⟩) ⟨MG_fb, (va_recv (ci := 9) (q := (R_M, F_M, 20)) (q0 := 0) hK hP rfl rfl), fun U hU hW => ⟨rfl, MG_at hP hK hU hW⟩⟩ rfl rfl hl.1 rfl (lv_room (Nat.le_of_ble_eq_true rfl)) d_M_holds_29 ⟨Nat.le_of_ble_eq_true rfl, Nat.le_of_ble_eq_true rfl⟩)) (fun r2 e2 => ?_)
  subst e2
  refine lv_ladd hx hb d_M_holds_32 ?_
  refine lv_lstore_n hx hb d_M_holds_33 rfl hl (by decide) rfl (fun ls hl => ?_)
  have hl : lv_has ls 6 [(2, .long (((m_M_plain wo ((5 : Int32) + ((2 : Int32) * (Q.2.2.2.2.2.2.1 cn.toNatClampNeg)))) * (4294967296 : Int64)) + (m_M_plain wo ((4 : Int32) + ((2 : Int32) * (Q.2.2.2.2.2.2.1 cn.toNatClampNeg)))))), (0, .ref (ad 0)), (1, .int cn)] := hl
  refine lv_aload_n hx hb d_M_holds_34 rfl (lv_at hl 1 rfl) ?_
  refine va_get (D := D) (ci := 9) (v := .ref (ad 9)) (C := R_M) (T := F_M) (N := 20) hx hb hts in_M hown hK hP 0 rfl rfl 10 (by decide) (hts _ wd_510) (fun _ h9 => h9) rfl d_M_holds_35 ?_
  refine lv_iload_n hx hb d_M_holds_38 rfl (lv_at hl 2 rfl) ?_
  refine va_lald (n := 18) (f := Q.2.2.2.2.2.2.2.2.1) hx hb hK hP 9 1 rfl rfl hc d_M_holds_39 ?_
  refine lv_lstore hx hb d_M_holds_40 hl (by decide) rfl (fun ls hl => ?_)
  have hl : lv_has ls 6 [(4, .long (Q.2.2.2.2.2.2.2.2.1 cn.toNatClampNeg)), (2, .long (((m_M_plain wo ((5 : Int32) + ((2 : Int32) * (Q.2.2.2.2.2.2.1 cn.toNatClampNeg)))) * (4294967296 : Int64)) + (m_M_plain wo ((4 : Int32) + ((2 : Int32) * (Q.2.2.2.2.2.2.1 cn.toNatClampNeg)))))), (0, .ref (ad 0)), (1, .int cn)] := hl
  refine lv_aload_n hx hb d_M_holds_42 rfl (lv_at hl 2 rfl) ?_
  refine va_get (D := D) (ci := 9) (v := .ref (ad 8)) (C := R_M) (T := F_M) (N := 20) hx hb hts in_M hown hK hP 0 rfl rfl 9 (by decide) (hts _ wd_509) (fun _ h9 => h9) rfl d_M_holds_43 ?_
  refine lv_iload_n hx hb d_M_holds_46 rfl (lv_at hl 3 rfl) ?_
  refine va_iald (n := 18) (f := Q.2.2.2.2.2.2.2.1) hx hb hK hP 8 0 rfl rfl hc d_M_holds_47 ?_
  by_cases h1 : Q.2.2.2.2.2.2.2.1 cn.toNatClampNeg = (0 : Int32)
  · refine lv_tableIn (tgt := 88) (off := 40) hx hb d_M_holds_48 (by rw [h1]; decide) (by rw [h1]; decide) (by rw [h1] <;> rfl) (by decide) ?_
    refine lv_lload_n hx hb d_M_holds_88 rfl (lv_at hl 1 rfl) ?_
    refine lv_lload hx hb d_M_holds_89 (lv_at hl 0 rfl) ?_
    refine W.lcmp hx hb d_M_holds_91 ?_
    refine lv_if_ne (tgt := 99) hx hb d_M_holds_92 (by decide) (fun h2 => ?_) (fun h2 => ?_)
    · refine lv_iconst (v := 0) hx hb d_M_holds_99 (by decide) ?_
      exact W.zret hx hb hr rfl (fun t ht hW => ⟨_, rfl, (by rw [m_M_holds, if_pos h1, if_neg h2]), ht⟩) (fun _ h => by cases h) d_M_holds_100
    refine lv_iconst (v := 1) hx hb d_M_holds_95 (by decide) ?_
    refine lv_goto (tgt := 100) hx hb d_M_holds_96 (by decide) ?_
    exact W.zret hx hb hr rfl (fun t ht hW => ⟨_, rfl, (by rw [m_M_holds, if_pos h1, if_pos h2]), ht⟩) (fun _ h => by cases h) d_M_holds_100
  by_cases h3 : Q.2.2.2.2.2.2.2.1 cn.toNatClampNeg = (1 : Int32)
  · refine lv_tableIn (tgt := 101) (off := 53) hx hb d_M_holds_48 (by rw [h3]; decide) (by rw [h3]; decide) (by rw [h3] <;> rfl) (by decide) ?_
    refine lv_lload_n hx hb d_M_holds_101 rfl (lv_at hl 1 rfl) ?_
    refine lv_lload hx hb d_M_holds_102 (lv_at hl 0 rfl) ?_
    refine W.lcmp hx hb d_M_holds_104 ?_
    refine lv_if_eq (tgt := 112) hx hb d_M_holds_105 (by decide) (fun h4 => ?_) (fun h4 => ?_)
    · refine lv_iconst (v := 0) hx hb d_M_holds_112 (by decide) ?_
      exact W.zret hx hb hr rfl (fun t ht hW => ⟨_, rfl, (by rw [m_M_holds, if_neg h1, if_pos h3, if_pos h4]), ht⟩) (fun _ h => by cases h) d_M_holds_113
    refine lv_iconst (v := 1) hx hb d_M_holds_108 (by decide) ?_
    refine lv_goto (tgt := 113) hx hb d_M_holds_109 (by decide) ?_
    exact W.zret hx hb hr rfl (fun t ht hW => ⟨_, rfl, (by rw [m_M_holds, if_neg h1, if_pos h3, if_neg h4]), ht⟩) (fun _ h => by cases h) d_M_holds_113
  by_cases h5 : Q.2.2.2.2.2.2.2.1 cn.toNatClampNeg = (2 : Int32)
  · refine lv_tableIn (tgt := 114) (off := 66) hx hb d_M_holds_48 (by rw [h5]; decide) (by rw [h5]; decide) (by rw [h5] <;> rfl) (by decide) ?_
    refine lv_lload_n hx hb d_M_holds_114 rfl (lv_at hl 1 rfl) ?_
    refine lv_lload hx hb d_M_holds_115 (lv_at hl 0 rfl) ?_
    refine vp_callSi (va_Run.run (va_runS (As := [.long (((m_M_plain wo ((5 : Int32) + ((2 : Int32) * (Q.2.2.2.2.2.2.1 cn.toNatClampNeg)))) * (4294967296 : Int64)) + (m_M_plain wo ((4 : Int32) + ((2 : Int32) * (Q.2.2.2.2.2.2.1 cn.toNatClampNeg))))), .long (Q.2.2.2.2.2.2.2.2.1 cn.toNatClampNeg)]) (rest := []) ⟨hx, hb, hml, hown, hts⟩ (c_M_below l (((m_M_plain wo ((5 : Int32) + ((2 : Int32) * (Q.2.2.2.2.2.2.1 cn.toNatClampNeg)))) * (4294967296 : Int64)) + (m_M_plain wo ((4 : Int32) + ((2 : Int32) * (Q.2.2.2.2.2.2.1 cn.toNatClampNeg))))) (Q.2.2.2.2.2.2.2.2.1 cn.toNatClampNeg)) (va_cwS 2 hts (g_S wd_607 wd_608 wd_35 wd_609) rfl rfl rfl (by decide +kernel) ⟨Nat.le_of_ble_eq_true rfl, Nat.le_of_ble_eq_true rfl⟩) ⟨fun _ _ _ _ q => q, fun _ _ _ => ⟨rfl, trivial⟩⟩ rfl rfl hl.1 rfl (lv_room (Nat.le_of_ble_eq_true rfl)) d_M_holds_117 ⟨Nat.le_of_ble_eq_true rfl, Nat.le_of_ble_eq_true rfl⟩)) (fun r3 e3 => ?_)
    subst e3
    exact W.zret hx hb hr (z_belowM _ _) (fun t ht hW => ⟨_, rfl, (by rw [m_M_holds, if_neg h1, if_neg h3, if_pos h5]), ht⟩) (fun _ h => by cases h) d_M_holds_120
  by_cases h6 : Q.2.2.2.2.2.2.2.1 cn.toNatClampNeg = (3 : Int32)
  · refine lv_tableIn (tgt := 121) (off := 73) hx hb d_M_holds_48 (by rw [h6]; decide) (by rw [h6]; decide) (by rw [h6] <;> rfl) (by decide) ?_
    refine lv_lload hx hb d_M_holds_121 (lv_at hl 0 rfl) ?_
    refine lv_lload_n hx hb d_M_holds_123 rfl (lv_at hl 1 rfl) ?_
    refine vp_callSi (va_Run.run (va_runS (As := [.long (Q.2.2.2.2.2.2.2.2.1 cn.toNatClampNeg), .long (((m_M_plain wo ((5 : Int32) + ((2 : Int32) * (Q.2.2.2.2.2.2.1 cn.toNatClampNeg)))) * (4294967296 : Int64)) + (m_M_plain wo ((4 : Int32) + ((2 : Int32) * (Q.2.2.2.2.2.2.1 cn.toNatClampNeg)))))]) (rest := []) ⟨hx, hb, hml, hown, hts⟩ (c_M_below l (Q.2.2.2.2.2.2.2.2.1 cn.toNatClampNeg) (((m_M_plain wo ((5 : Int32) + ((2 : Int32) * (Q.2.2.2.2.2.2.1 cn.toNatClampNeg)))) * (4294967296 : Int64)) + (m_M_plain wo ((4 : Int32) + ((2 : Int32) * (Q.2.2.2.2.2.2.1 cn.toNatClampNeg)))))) (va_cwS 2 hts (g_S wd_607 wd_608 wd_35 wd_609) rfl rfl rfl (by decide +kernel) ⟨Nat.le_of_ble_eq_true rfl, Nat.le_of_ble_eq_true rfl⟩) ⟨fun _ _ _ _ q => q, fun _ _ _ => ⟨rfl, trivial⟩⟩ rfl rfl hl.1 rfl (lv_room (Nat.le_of_ble_eq_true rfl)) d_M_holds_124 ⟨Nat.le_of_ble_eq_true rfl, Nat.le_of_ble_eq_true rfl⟩)) (fun r4 e4 => ?_)
    subst e4
    refine lv_if_ne (tgt := 134) hx hb d_M_holds_127 (by decide) (fun h7 => ?_) (fun h7 => ?_)
    · refine lv_iconst (v := 0) hx hb d_M_holds_134 (by decide) ?_
      exact W.zret hx hb hr rfl (fun t ht hW => ⟨_, rfl, (by rw [m_M_holds, if_neg h1, if_neg h3, if_neg h5, if_pos h6, if_neg h7]), ht⟩) (fun _ h => by cases h) d_M_holds_135
    refine lv_iconst (v := 1) hx hb d_M_holds_130 (by decide) ?_
    refine lv_goto (tgt := 135) hx hb d_M_holds_131 (by decide) ?_
    exact W.zret hx hb hr rfl (fun t ht hW => ⟨_, rfl, (by rw [m_M_holds, if_neg h1, if_neg h3, if_neg h5, if_pos h6, if_pos h7]), ht⟩) (fun _ h => by cases h) d_M_holds_135
  by_cases h8 : Q.2.2.2.2.2.2.2.1 cn.toNatClampNeg = (4 : Int32)
  · refine lv_tableIn (tgt := 136) (off := 88) hx hb d_M_holds_48 (by rw [h8]; decide) (by rw [h8]; decide) (by rw [h8] <;> rfl) (by decide) ?_
    refine lv_lload hx hb d_M_holds_136 (lv_at hl 0 rfl) ?_
    refine lv_lload_n hx hb d_M_holds_138 rfl (lv_at hl 1 rfl) ?_
    refine vp_callSi (va_Run.run (va_runS (As := [.long (Q.2.2.2.2.2.2.2.2.1 cn.toNatClampNeg), .long (((m_M_plain wo ((5 : Int32) + ((2 : Int32) * (Q.2.2.2.2.2.2.1 cn.toNatClampNeg)))) * (4294967296 : Int64)) + (m_M_plain wo ((4 : Int32) + ((2 : Int32) * (Q.2.2.2.2.2.2.1 cn.toNatClampNeg)))))]) (rest := []) ⟨hx, hb, hml, hown, hts⟩ (c_M_below l (Q.2.2.2.2.2.2.2.2.1 cn.toNatClampNeg) (((m_M_plain wo ((5 : Int32) + ((2 : Int32) * (Q.2.2.2.2.2.2.1 cn.toNatClampNeg)))) * (4294967296 : Int64)) + (m_M_plain wo ((4 : Int32) + ((2 : Int32) * (Q.2.2.2.2.2.2.1 cn.toNatClampNeg)))))) (va_cwS 2 hts (g_S wd_607 wd_608 wd_35 wd_609) rfl rfl rfl (by decide +kernel) ⟨Nat.le_of_ble_eq_true rfl, Nat.le_of_ble_eq_true rfl⟩) ⟨fun _ _ _ _ q => q, fun _ _ _ => ⟨rfl, trivial⟩⟩ rfl rfl hl.1 rfl (lv_room (Nat.le_of_ble_eq_true rfl)) d_M_holds_139 ⟨Nat.le_of_ble_eq_true rfl, Nat.le_of_ble_eq_true rfl⟩)) (fun r5 e5 => ?_)
    subst e5
    exact W.zret hx hb hr (z_belowM _ _) (fun t ht hW => ⟨_, rfl, (by rw [m_M_holds, if_neg h1, if_neg h3, if_neg h5, if_neg h6, if_pos h8]), ht⟩) (fun _ h => by cases h) d_M_holds_142
  by_cases h9 : Q.2.2.2.2.2.2.2.1 cn.toNatClampNeg = (5 : Int32)
  · refine lv_tableIn (tgt := 143) (off := 95) hx hb d_M_holds_48 (by rw [h9]; decide) (by rw [h9]; decide) (by rw [h9] <;> rfl) (by decide) ?_
    refine lv_lload_n hx hb d_M_holds_143 rfl (lv_at hl 1 rfl) ?_
    refine lv_lload hx hb d_M_holds_144 (lv_at hl 0 rfl) ?_
    refine vp_callSi (va_Run.run (va_runS (As := [.long (((m_M_plain wo ((5 : Int32) + ((2 : Int32) * (Q.2.2.2.2.2.2.1 cn.toNatClampNeg)))) * (4294967296 : Int64)) + (m_M_plain wo ((4 : Int32) + ((2 : Int32) * (Q.2.2.2.2.2.2.1 cn.toNatClampNeg))))), .long (Q.2.2.2.2.2.2.2.2.1 cn.toNatClampNeg)]) (rest := []) ⟨hx, hb, hml, hown, hts⟩ (c_M_below l (((m_M_plain wo ((5 : Int32) + ((2 : Int32) * (Q.2.2.2.2.2.2.1 cn.toNatClampNeg)))) * (4294967296 : Int64)) + (m_M_plain wo ((4 : Int32) + ((2 : Int32) * (Q.2.2.2.2.2.2.1 cn.toNatClampNeg))))) (Q.2.2.2.2.2.2.2.2.1 cn.toNatClampNeg)) (va_cwS 2 hts (g_S wd_607 wd_608 wd_35 wd_609) rfl rfl rfl (by decide +kernel) ⟨Nat.le_of_ble_eq_true rfl, Nat.le_of_ble_eq_true rfl⟩) ⟨fun _ _ _ _ q => q, fun _ _ _ => ⟨rfl, trivial⟩⟩ rfl rfl hl.1 rfl (lv_room (Nat.le_of_ble_eq_true rfl)) d_M_holds_146 ⟨Nat.le_of_ble_eq_true rfl, Nat.le_of_ble_eq_true rfl⟩)) (fun r6 e6 => ?_)
    subst e6
    refine lv_if_ne (tgt := 156) hx hb d_M_holds_149 (by decide) (fun h10 => ?_) (fun h10 => ?_)
    · refine lv_iconst (v := 0) hx hb d_M_holds_156 (by decide) ?_
      exact W.zret hx hb hr rfl (fun t ht hW => ⟨_, rfl, (by rw [m_M_holds, if_neg h1, if_neg h3, if_neg h5, if_neg h6, if_neg h8, if_pos h9, if_neg h10]), ht⟩) (fun _ h => by cases h) d_M_holds_157
    refine lv_iconst (v := 1) hx hb d_M_holds_152 (by decide) ?_
    refine lv_goto (tgt := 157) hx hb d_M_holds_153 (by decide) ?_
    exact W.zret hx hb hr rfl (fun t ht hW => ⟨_, rfl, (by rw [m_M_holds, if_neg h1, if_neg h3, if_neg h5, if_neg h6, if_neg h8, if_pos h9, if_pos h10]), ht⟩) (fun _ h => by cases h) d_M_holds_157
  refine lv_tableOut (tgt := 158) hx hb d_M_holds_48 (by have z0 := lv_neT (a := 0) h1 (by decide); have z1 := lv_neT (a := 1) h3 (by decide); have z2 := lv_neT (a := 2) h5 (by decide); have z3 := lv_neT (a := 3) h6 (by decide); have z4 := lv_neT (a := 4) h8 (by decide); have z5 := lv_neT (a := 5) h9 (by decide); omega) (by decide) ?_
  refine lv_lload_n hx hb d_M_holds_158 rfl (lv_at hl 1 rfl) ?_
  refine lv_aload_n hx hb d_M_holds_159 rfl (lv_at hl 2 rfl) ?_
  refine va_get (D := D) (ci := 9) (v := .ref (ad 10)) (C := R_M) (T := F_M) (N := 20) hx hb hts in_M hown hK hP 0 rfl rfl 11 (by decide) (hts _ wd_511) (fun _ h9 => h9) rfl d_M_holds_160 ?_
  refine lv_iload_n hx hb d_M_holds_163 rfl (lv_at hl 3 rfl) ?_
  refine va_lald (n := 18) (f := Q.2.2.2.2.2.2.2.2.2) hx hb hK hP 10 1 rfl rfl hc d_M_holds_164 ?_
  refine lv_land hx hb d_M_holds_165 ?_
  refine lv_lload hx hb d_M_holds_166 (lv_at hl 0 rfl) ?_
  refine W.lcmp hx hb d_M_holds_168 ?_
  refine lv_if_ne (tgt := 176) hx hb d_M_holds_169 (by decide) (fun h11 => ?_) (fun h11 => ?_)
  · refine lv_iconst (v := 0) hx hb d_M_holds_176 (by decide) ?_
    exact W.zret hx hb hr rfl (fun t ht hW => ⟨_, rfl, (by rw [m_M_holds, if_neg h1, if_neg h3, if_neg h5, if_neg h6, if_neg h8, if_neg h9, if_neg h11]), ht⟩) (fun _ h => by cases h) d_M_holds_177
  refine lv_iconst (v := 1) hx hb d_M_holds_172 (by decide) ?_
  refine lv_goto (tgt := 177) hx hb d_M_holds_173 (by decide) ?_
  exact W.zret hx hb hr rfl (fun t ht hW => ⟨_, rfl, (by rw [m_M_holds, if_neg h1, if_neg h3, if_neg h5, if_neg h6, if_neg h8, if_neg h9, if_pos h11]), ht⟩) (fun _ h => by cases h) d_M_holds_177
def m_M_matches_l1 (wo : Nat → Int32) (Q : QT) (i : Nat) : Nat → Int32 → Nat → Int32
  | 0, _, _ => 0
  | n1 + 1, ok, cn => if (((3 : Int32) * (nI i)) + (Q.2.2.2.2.2.1 (nI i).toNatClampNeg)) ≤ (nI cn) then ok else if ok = (0 : Int32) then m_M_matches_l1 wo Q i n1 (0 : Int32) (cn + 1) else if (m_M_holds wo Q (nI cn)) = (0 : Int32) then m_M_matches_l1 wo Q i n1 (0 : Int32) (cn + 1) else m_M_matches_l1 wo Q i n1 (1 : Int32) (cn + 1)
def m_M_matches (wo : Nat → Int32) (Q : QT) (i : Nat) : Int32 := if (lg_cmp (m_M_plain wo (0 : Int32)) ((Q.2.1 (nI i).toNatClampNeg).toInt64)) < (0 : Int32) then m_M_matches_l1 wo Q i (4) (0 : Int32) (3 * i) else if (0 : Int32) < (lg_cmp (m_M_plain wo (0 : Int32)) ((Q.2.2.1 (nI i).toNatClampNeg).toInt64)) then m_M_matches_l1 wo Q i (4) (0 : Int32) (3 * i) else m_M_matches_l1 wo Q i (4) (1 : Int32) (3 * i)
set_option maxHeartbeats 4000000 in
set_option maxRecDepth 100000 in
theorem c_M_matches (l : Launch) (D : va_G) (dA : Nat → ClassId) (ad : Nat → Nat) (ho : Int32) (wo : Nat → Int32) (Q : QT) (G : GT) (mk : Nat → Int32) (X : XT) (i : Nat) (hi : i < 6) (hc : ∀ i, i < 6 → iN (Q.2.2.2.2.2.1 i) ≤ 3) (hw : ∀ c, c < 18 → vp_in (Q.2.2.2.2.2.2.1 c) 6) : Met l y_M_matches (mW y_M_matches b_M_matches 4 (some .boolean)) { frames := 2, cells := 0, slots := 0, locals := 52 } (va_Pc [.ref (ad 0), .int (nI i)] (fun U => MG D dA ad ho wo Q G mk X U)) (vp_Si (fun r => r = m_M_matches wo Q i)) 0 0 (fun _ => False) := by
  refine Met.ofW (cc := b_M_matches) (maxL := 4) (ret := (some .boolean)) (by decide) rfl ?_
  intro p e s m args below meth c s₁ B hml hv
  obtain ⟨rfl, hP, hK⟩ := hv
  have hx := B.exec
  have hb := B.bytes
  have hr := B.returns
  have hlocks := B.notSynchronized
  have hts := fun (w : Cond) (h : w ∈ lw_g) => atoms_spec (ws := mW y_M_matches b_M_matches 4 (some .boolean)) B.pre w (List.mem_cons_of_mem _ h)
  have hown : s.vm.findClass R_M = some m.cls := findClass_of_methodNamed B.named
  have hl := lv_entry ([.ref (ad 0), .int (nI i)]) (n := 4) (Nat.le_of_ble_eq_true rfl)
  rw [lg_entry_eq]
  generalize (lg_sl ([.ref (ad 0), .int (nI i)]) ++ List.replicate (4 - (lg_sl ([.ref (ad 0), .int (nI i)])).length) Slot.unset).toArray = ls at hl ⊢
  have hl : lv_has ls 4 [(0, .ref (ad 0)), (1, .int (nI i))] := hl
  refine lv_aload_n hx hb d_M_matches_0 rfl (lv_at hl 0 rfl) ?_
  refine lv_iconst (v := 0) hx hb d_M_matches_1 (by decide) ?_
  refine vp_callSl (va_Run.run (va_runV (As := [.int (0 : Int32)]) (rest := []) ⟨hx, hb, hml, hown, hts⟩ (c_M_plain l D dA ad ho wo Q G mk X (0 : Int32) (vp_in_nI (n := 0) (by decide) (by decide))) (cwV 1 hts (g_V wd_592 wd_594 wd_13 wd_35 wd_595) rfl rfl rfl (by decide +kernel) ⟨Nat.le_of_ble_eq_true rfl, Nat.le_of_ble_eq_true rfl⟩) ⟨MG_fb, (va_recv (ci := 9) (q := (R_M, F_M, 20)) (q0 := 0) hK hP rfl rfl), fun U hU hW => ⟨rfl, MG_at hP hK hU hW⟩⟩ rfl rfl hl.1 rfl (lv_room (Nat.le_of_ble_eq_true rfl)) d_M_matches_2 ⟨Nat.le_of_ble_eq_true rfl, Nat.le_of_ble_eq_true rfl⟩)) (fun r1 e1 => ?_)
  subst e1
  refine lv_aload_n hx hb d_M_matches_5 rfl (lv_at hl 0 rfl) ?_
  refine va_get (D := D) (ci := 9) (v := .ref (ad 2)) (C := R_M) (T := F_M) (N := 20) hx hb hts in_M hown hK hP 0 rfl rfl 3 (by decide) (hts _ wd_503) (fun _ h9 => h9) rfl d_M_matches_6 ?_
  refine lv_iload_n hx hb d_M_matches_9 rfl (lv_at hl 1 rfl) ?_
  refine va_iald (n := 6) (f := Q.2.1) hx hb hK hP 2 0 rfl rfl (vp_in_nI hi (by decide)) d_M_matches_10 ?_
  refine lv_i2l hx hb d_M_matches_11 rfl ?_
  refine W.lcmp hx hb d_M_matches_12 ?_
  refine lv_if_lt (tgt := 36) hx hb d_M_matches_13 (by decide) (fun h1 => ?_) (fun h1 => ?_)
  · refine lv_iconst (v := 0) hx hb d_M_matches_36 (by decide) ?_
    refine lv_istore_n hx hb d_M_matches_37 rfl hl (by decide) rfl (fun ls hl => ?_)
    have hl : lv_has ls 4 [(2, .int (0 : Int32)), (0, .ref (ad 0)), (1, .int (nI i))] := hl
    refine lv_iconst (v := 3) hx hb d_M_matches_38 (by decide) ?_
    refine lv_iload_n hx hb d_M_matches_39 rfl (lv_at hl 2 rfl) ?_
    refine lv_imul hx hb d_M_matches_40 ?_
    refine lv_istore_n hx hb d_M_matches_41 rfl hl (by decide) rfl (fun ls hl => ?_)
    have hl : lv_has ls 4 [(3, .int ((3 : Int32) * (nI i))), (2, .int (0 : Int32)), (0, .ref (ad 0)), (1, .int (nI i))] := hl
    refine W_loopR2 (X := fun (n1 : Nat) (ok : Int32) (cn : Nat) (ls : Array Slot) => 3 * i + 3 - cn < n1 ∧ m_M_matches wo Q i = m_M_matches_l1 wo Q i n1 ok cn ∧ lv_has ls 4 [(3, .int (nI cn)), (2, .int ok), (0, .ref (ad 0)), (1, .int (nI i))] ∧ (3 * i ≤ cn ∧ cn ≤ 3 * i + 3) ∧ b01 ok) (4) (0 : Int32) (3 * i) ⟨(by omega), (by rw [m_M_matches, if_pos h1]), (by have h9 := lv_sub hl [0, 1, 2, 3] rfl; rw [show (3 : Int32) * nI i = nI (3 * i) from nI_mul 3 i] at h9; exact h9), (by omega), (by first | exact Or.inl rfl | exact Or.inr rfl)⟩ (fun _ _ _ h => absurd h.1 (Nat.not_lt_zero _)) (fun n1 ih1 ok cn ls h => ?_)
    obtain ⟨hn1, hm1, hl, hcl, hb1⟩ := h
    refine lv_iload_n hx hb d_M_matches_42 rfl (lv_at hl 0 rfl) ?_
    refine lv_iconst (v := 3) hx hb d_M_matches_43 (by decide) ?_
    refine lv_iload_n hx hb d_M_matches_44 rfl (lv_at hl 3 rfl) ?_
    refine lv_imul hx hb d_M_matches_45 ?_
    refine lv_aload_n hx hb d_M_matches_46 rfl (lv_at hl 2 rfl) ?_
    refine va_get (D := D) (ci := 9) (v := .ref (ad 6)) (C := R_M) (T := F_M) (N := 20) hx hb hts in_M hown hK hP 0 rfl rfl 7 (by decide) (hts _ wd_507) (fun _ h9 => h9) rfl d_M_matches_47 ?_
    refine lv_iload_n hx hb d_M_matches_50 rfl (lv_at hl 3 rfl) ?_
    refine va_iald (n := 6) (f := Q.2.2.2.2.2.1) hx hb hK hP 6 0 rfl rfl (vp_in_nI hi (by decide)) d_M_matches_51 ?_
    refine lv_iadd hx hb d_M_matches_52 ?_
    refine lv_icmp_ge (tgt := 80) hx hb d_M_matches_53 (by decide) (fun h2 => ?_) (fun h2 => ?_)
    · refine lv_iload_n hx hb d_M_matches_80 rfl (lv_at hl 1 rfl) ?_
      exact W.zret hx hb hr (z_b01 hb1) (fun t ht hW => ⟨_, rfl, (by rw [hm1, m_M_matches_l1, if_pos h2]), ht⟩) (fun _ h => by cases h) d_M_matches_81
    have hcl2 : cn < 3 * i + 3 := mt_lt hi (by rw [nI_clamp (show i < 2 ^ 31 by omega)]; exact hc i hi) hcl.2 h2
    refine lv_iload_n hx hb d_M_matches_56 rfl (lv_at hl 1 rfl) ?_
    refine lv_if_eq (tgt := 72) hx hb d_M_matches_57 (by decide) (fun h3 => ?_) (fun h3 => ?_)
    · refine lv_iconst (v := 0) hx hb d_M_matches_72 (by decide) ?_
      refine lv_istore_n hx hb d_M_matches_73 rfl hl (by decide) rfl (fun ls hl => ?_)
      have hl : lv_has ls 4 [(2, .int (0 : Int32)), (3, .int (nI cn)), (0, .ref (ad 0)), (1, .int (nI i))] := hl
      refine lv_iinc (v := (nI cn) + 1) hx hb d_M_matches_74 hl (k := 1) rfl rfl (by decide) rfl (fun ls hl => ?_)
      have hl : lv_has ls 4 [(3, .int ((nI cn) + 1)), (2, .int (0 : Int32)), (0, .ref (ad 0)), (1, .int (nI i))] := hl
      refine lv_goto (tgt := 42) hx hb d_M_matches_77 (by decide) ?_
      exact ih1 (0 : Int32) (cn + 1) _ ⟨(by omega), (by rw [hm1, m_M_matches_l1, if_neg h2, if_pos h3]), (by have h9 := lv_sub hl [0, 1, 2, 3] rfl; rw [nI_1] at h9; exact h9), (by omega), (by first | exact Or.inl rfl | exact Or.inr rfl)⟩
    refine lv_aload_n hx hb d_M_matches_60 rfl (lv_at hl 2 rfl) ?_
    refine lv_iload_n hx hb d_M_matches_61 rfl (lv_at hl 0 rfl) ?_
    refine vp_callSi (va_Run.run (va_runV (As := [.int (nI cn)]) (rest := []) ⟨hx, hb, hml, hown, hts⟩ (c_M_holds l D dA ad ho wo Q G mk X (nI cn) (vp_in_nI (by omega) (by decide)) (by rw [nI_clamp (show cn < 2 ^ 31 by omega)]; exact hw cn (by omega))) (cwV 1 hts (g_V wd_602 wd_604 wd_15 wd_35 wd_605) rfl rfl rfl (by decide +kernel) ⟨Nat.le_of_ble_eq_true rfl, Nat.le_of_ble_eq_true rfl⟩) ⟨MG_fb, (va_recv (ci := 9) (q := (R_M, F_M, 20)) (q0 := 0) hK hP rfl rfl), fun U hU hW => ⟨rfl, MG_at hP hK hU hW⟩⟩ rfl rfl hl.1 rfl (lv_room (Nat.le_of_ble_eq_true rfl)) d_M_matches_62 ⟨Nat.le_of_ble_eq_true rfl, Nat.le_of_ble_eq_true rfl⟩)) (fun r2 e2 => ?_)
    subst e2
    refine lv_if_eq (tgt := 72) hx hb d_M_matches_65 (by decide) (fun h4 => ?_) (fun h4 => ?_)
    · refine lv_iconst (v := 0) hx hb d_M_matches_72 (by decide) ?_
      refine lv_istore_n hx hb d_M_matches_73 rfl hl (by decide) rfl (fun ls hl => ?_)
      have hl : lv_has ls 4 [(2, .int (0 : Int32)), (3, .int (nI cn)), (0, .ref (ad 0)), (1, .int (nI i))] := hl
      refine lv_iinc (v := (nI cn) + 1) hx hb d_M_matches_74 hl (k := 1) rfl rfl (by decide) rfl (fun ls hl => ?_)
      have hl : lv_has ls 4 [(3, .int ((nI cn) + 1)), (2, .int (0 : Int32)), (0, .ref (ad 0)), (1, .int (nI i))] := hl
      refine lv_goto (tgt := 42) hx hb d_M_matches_77 (by decide) ?_
      exact ih1 (0 : Int32) (cn + 1) _ ⟨(by omega), (by rw [hm1, m_M_matches_l1, if_neg h2, if_neg h3, if_pos h4]), (by have h9 := lv_sub hl [0, 1, 2, 3] rfl; rw [nI_1] at h9; exact h9), (by omega), (by first | exact Or.inl rfl | exact Or.inr rfl)⟩
    refine lv_iconst (v := 1) hx hb d_M_matches_68 (by decide) ?_
    refine lv_goto (tgt := 73) hx hb d_M_matches_69 (by decide) ?_
    refine lv_istore_n hx hb d_M_matches_73 rfl hl (by decide) rfl (fun ls hl => ?_)
    have hl : lv_has ls 4 [(2, .int (1 : Int32)), (3, .int (nI cn)), (0, .ref (ad 0)), (1, .int (nI i))] := hl
    refine lv_iinc (v := (nI cn) + 1) hx hb d_M_matches_74 hl (k := 1) rfl rfl (by decide) rfl (fun ls hl => ?_)
    have hl : lv_has ls 4 [(3, .int ((nI cn) + 1)), (2, .int (1 : Int32)), (0, .ref (ad 0)), (1, .int (nI i))] := hl
    refine lv_goto (tgt := 42) hx hb d_M_matches_77 (by decide) ?_
    exact ih1 (1 : Int32) (cn + 1) _ ⟨(by omega), (by rw [hm1, m_M_matches_l1, if_neg h2, if_neg h3, if_neg h4]), (by have h9 := lv_sub hl [0, 1, 2, 3] rfl; rw [nI_1] at h9; exact h9), (by omega), (by first | exact Or.inl rfl | exact Or.inr rfl)⟩
  refine lv_aload_n hx hb d_M_matches_16 rfl (lv_at hl 0 rfl) ?_
  refine lv_iconst (v := 0) hx hb d_M_matches_17 (by decide) ?_
  refine vp_callSl (va_Run.run (va_runV (As := [.int (0 : Int32)]) (rest := []) ⟨hx, hb, hml, hown, hts⟩ (c_M_plain l D dA ad ho wo Q G mk X (0 : Int32) (vp_in_nI (n := 0) (by decide) (by decide))) (cwV 1 hts (g_V wd_592 wd_594 wd_13 wd_35 wd_595) rfl rfl rfl (by decide +kernel) ⟨Nat.le_of_ble_eq_true rfl, Nat.le_of_ble_eq_true rfl⟩) ⟨MG_fb, (va_recv (ci := 9) (q := (R_M, F_M, 20)) (q0 := 0) hK hP rfl rfl), fun U hU hW => ⟨rfl, MG_at hP hK hU hW⟩⟩ rfl rfl hl.1 rfl (lv_room (Nat.le_of_ble_eq_true rfl)) d_M_matches_18 ⟨Nat.le_of_ble_eq_true rfl, Nat.le_of_ble_eq_true rfl⟩)) (fun r3 e3 => ?_)
  subst e3
  refine lv_aload_n hx hb d_M_matches_21 rfl (lv_at hl 0 rfl) ?_
  refine va_get (D := D) (ci := 9) (v := .ref (ad 3)) (C := R_M) (T := F_M) (N := 20) hx hb hts in_M hown hK hP 0 rfl rfl 4 (by decide) (hts _ wd_504) (fun _ h9 => h9) rfl d_M_matches_22 ?_
  refine lv_iload_n hx hb d_M_matches_25 rfl (lv_at hl 1 rfl) ?_
  refine va_iald (n := 6) (f := Q.2.2.1) hx hb hK hP 3 0 rfl rfl (vp_in_nI hi (by decide)) d_M_matches_26 ?_
  refine lv_i2l hx hb d_M_matches_27 rfl ?_
  refine W.lcmp hx hb d_M_matches_28 ?_
  refine lv_if_gt (tgt := 36) hx hb d_M_matches_29 (by decide) (fun h5 => ?_) (fun h5 => ?_)
  · refine lv_iconst (v := 0) hx hb d_M_matches_36 (by decide) ?_
    refine lv_istore_n hx hb d_M_matches_37 rfl hl (by decide) rfl (fun ls hl => ?_)
    have hl : lv_has ls 4 [(2, .int (0 : Int32)), (0, .ref (ad 0)), (1, .int (nI i))] := hl
    refine lv_iconst (v := 3) hx hb d_M_matches_38 (by decide) ?_
    refine lv_iload_n hx hb d_M_matches_39 rfl (lv_at hl 2 rfl) ?_
    refine lv_imul hx hb d_M_matches_40 ?_
    refine lv_istore_n hx hb d_M_matches_41 rfl hl (by decide) rfl (fun ls hl => ?_)
    have hl : lv_has ls 4 [(3, .int ((3 : Int32) * (nI i))), (2, .int (0 : Int32)), (0, .ref (ad 0)), (1, .int (nI i))] := hl
    refine W_loopR2 (X := fun (n1 : Nat) (ok : Int32) (cn : Nat) (ls : Array Slot) => 3 * i + 3 - cn < n1 ∧ m_M_matches wo Q i = m_M_matches_l1 wo Q i n1 ok cn ∧ lv_has ls 4 [(3, .int (nI cn)), (2, .int ok), (0, .ref (ad 0)), (1, .int (nI i))] ∧ (3 * i ≤ cn ∧ cn ≤ 3 * i + 3) ∧ b01 ok) (4) (0 : Int32) (3 * i) ⟨(by omega), (by rw [m_M_matches, if_neg h1, if_pos h5]), (by have h9 := lv_sub hl [0, 1, 2, 3] rfl; rw [show (3 : Int32) * nI i = nI (3 * i) from nI_mul 3 i] at h9; exact h9), (by omega), (by first | exact Or.inl rfl | exact Or.inr rfl)⟩ (fun _ _ _ h => absurd h.1 (Nat.not_lt_zero _)) (fun n1 ih1 ok cn ls h => ?_)
    obtain ⟨hn1, hm1, hl, hcl, hb1⟩ := h
    refine lv_iload_n hx hb d_M_matches_42 rfl (lv_at hl 0 rfl) ?_
    refine lv_iconst (v := 3) hx hb d_M_matches_43 (by decide) ?_
    refine lv_iload_n hx hb d_M_matches_44 rfl (lv_at hl 3 rfl) ?_
    refine lv_imul hx hb d_M_matches_45 ?_
    refine lv_aload_n hx hb d_M_matches_46 rfl (lv_at hl 2 rfl) ?_
    refine va_get (D := D) (ci := 9) (v := .ref (ad 6)) (C := R_M) (T := F_M) (N := 20) hx hb hts in_M hown hK hP 0 rfl rfl 7 (by decide) (hts _ wd_507) (fun _ h9 => h9) rfl d_M_matches_47 ?_
    refine lv_iload_n hx hb d_M_matches_50 rfl (lv_at hl 3 rfl) ?_
    refine va_iald (n := 6) (f := Q.2.2.2.2.2.1) hx hb hK hP 6 0 rfl rfl (vp_in_nI hi (by decide)) d_M_matches_51 ?_
    refine lv_iadd hx hb d_M_matches_52 ?_
    refine lv_icmp_ge (tgt := 80) hx hb d_M_matches_53 (by decide) (fun h6 => ?_) (fun h6 => ?_)
    · refine lv_iload_n hx hb d_M_matches_80 rfl (lv_at hl 1 rfl) ?_
      exact W.zret hx hb hr (z_b01 hb1) (fun t ht hW => ⟨_, rfl, (by rw [hm1, m_M_matches_l1, if_pos h6]), ht⟩) (fun _ h => by cases h) d_M_matches_81
    have hcl2 : cn < 3 * i + 3 := mt_lt hi (by rw [nI_clamp (show i < 2 ^ 31 by omega)]; exact hc i hi) hcl.2 h6
    refine lv_iload_n hx hb d_M_matches_56 rfl (lv_at hl 1 rfl) ?_
    refine lv_if_eq (tgt := 72) hx hb d_M_matches_57 (by decide) (fun h7 => ?_) (fun h7 => ?_)
    · refine lv_iconst (v := 0) hx hb d_M_matches_72 (by decide) ?_
      refine lv_istore_n hx hb d_M_matches_73 rfl hl (by decide) rfl (fun ls hl => ?_)
      have hl : lv_has ls 4 [(2, .int (0 : Int32)), (3, .int (nI cn)), (0, .ref (ad 0)), (1, .int (nI i))] := hl
      refine lv_iinc (v := (nI cn) + 1) hx hb d_M_matches_74 hl (k := 1) rfl rfl (by decide) rfl (fun ls hl => ?_)
      have hl : lv_has ls 4 [(3, .int ((nI cn) + 1)), (2, .int (0 : Int32)), (0, .ref (ad 0)), (1, .int (nI i))] := hl
      refine lv_goto (tgt := 42) hx hb d_M_matches_77 (by decide) ?_
      exact ih1 (0 : Int32) (cn + 1) _ ⟨(by omega), (by rw [hm1, m_M_matches_l1, if_neg h6, if_pos h7]), (by have h9 := lv_sub hl [0, 1, 2, 3] rfl; rw [nI_1] at h9; exact h9), (by omega), (by first | exact Or.inl rfl | exact Or.inr rfl)⟩
    refine lv_aload_n hx hb d_M_matches_60 rfl (lv_at hl 2 rfl) ?_
    refine lv_iload_n hx hb d_M_matches_61 rfl (lv_at hl 0 rfl) ?_
    refine vp_callSi (va_Run.run (va_runV (As := [.int (nI cn)]) (rest := []) ⟨hx, hb, hml, hown, hts⟩ (c_M_holds l D dA ad ho wo Q G mk X (nI cn) (vp_in_nI (by omega) (by decide)) (by rw [nI_clamp (show cn < 2 ^ 31 by omega)]; exact hw cn (by omega))) (cwV 1 hts (g_V wd_602 wd_604 wd_15 wd_35 wd_605) rfl rfl rfl (by decide +kernel) ⟨Nat.le_of_ble_eq_true rfl, Nat.le_of_ble_eq_true rfl⟩) ⟨MG_fb, (va_recv (ci := 9) (q := (R_M, F_M, 20)) (q0 := 0) hK hP rfl rfl), fun U hU hW => ⟨rfl, MG_at hP hK hU hW⟩⟩ rfl rfl hl.1 rfl (lv_room (Nat.le_of_ble_eq_true rfl)) d_M_matches_62 ⟨Nat.le_of_ble_eq_true rfl, Nat.le_of_ble_eq_true rfl⟩)) (fun r4 e4 => ?_)
    subst e4
    refine lv_if_eq (tgt := 72) hx hb d_M_matches_65 (by decide) (fun h8 => ?_) (fun h8 => ?_)
    · refine lv_iconst (v := 0) hx hb d_M_matches_72 (by decide) ?_
      refine lv_istore_n hx hb d_M_matches_73 rfl hl (by decide) rfl (fun ls hl => ?_)
      have hl : lv_has ls 4 [(2, .int (0 : Int32)), (3, .int (nI cn)), (0, .ref (ad 0)), (1, .int (nI i))] := hl
      refine lv_iinc (v := (nI cn) + 1) hx hb d_M_matches_74 hl (k := 1) rfl rfl (by decide) rfl (fun ls hl => ?_)
      have hl : lv_has ls 4 [(3, .int ((nI cn) + 1)), (2, .int (0 : Int32)), (0, .ref (ad 0)), (1, .int (nI i))] := hl
      refine lv_goto (tgt := 42) hx hb d_M_matches_77 (by decide) ?_
      exact ih1 (0 : Int32) (cn + 1) _ ⟨(by omega), (by rw [hm1, m_M_matches_l1, if_neg h6, if_neg h7, if_pos h8]), (by have h9 := lv_sub hl [0, 1, 2, 3] rfl; rw [nI_1] at h9; exact h9), (by omega), (by first | exact Or.inl rfl | exact Or.inr rfl)⟩
    refine lv_iconst (v := 1) hx hb d_M_matches_68 (by decide) ?_
    refine lv_goto (tgt := 73) hx hb d_M_matches_69 (by decide) ?_
    refine lv_istore_n hx hb d_M_matches_73 rfl hl (by decide) rfl (fun ls hl => ?_)
    have hl : lv_has ls 4 [(2, .int (1 : Int32)), (3, .int (nI cn)), (0, .ref (ad 0)), (1, .int (nI i))] := hl
    refine lv_iinc (v := (nI cn) + 1) hx hb d_M_matches_74 hl (k := 1) rfl rfl (by decide) rfl (fun ls hl => ?_)
    have hl : lv_has ls 4 [(3, .int ((nI cn) + 1)), (2, .int (1 : Int32)), (0, .ref (ad 0)), (1, .int (nI i))] := hl
    refine lv_goto (tgt := 42) hx hb d_M_matches_77 (by decide) ?_
    exact ih1 (1 : Int32) (cn + 1) _ ⟨(by omega), (by rw [hm1, m_M_matches_l1, if_neg h6, if_neg h7, if_neg h8]), (by have h9 := lv_sub hl [0, 1, 2, 3] rfl; rw [nI_1] at h9; exact h9), (by omega), (by first | exact Or.inl rfl | exact Or.inr rfl)⟩
  refine lv_iconst (v := 1) hx hb d_M_matches_32 (by decide) ?_
  refine lv_goto (tgt := 37) hx hb d_M_matches_33 (by decide) ?_
  refine lv_istore_n hx hb d_M_matches_37 rfl hl (by decide) rfl (fun ls hl => ?_)
  have hl : lv_has ls 4 [(2, .int (1 : Int32)), (0, .ref (ad 0)), (1, .int (nI i))] := hl
  refine lv_iconst (v := 3) hx hb d_M_matches_38 (by decide) ?_
  refine lv_iload_n hx hb d_M_matches_39 rfl (lv_at hl 2 rfl) ?_
  refine lv_imul hx hb d_M_matches_40 ?_
  refine lv_istore_n hx hb d_M_matches_41 rfl hl (by decide) rfl (fun ls hl => ?_)
  have hl : lv_has ls 4 [(3, .int ((3 : Int32) * (nI i))), (2, .int (1 : Int32)), (0, .ref (ad 0)), (1, .int (nI i))] := hl
  refine W_loopR2 (X := fun (n1 : Nat) (ok : Int32) (cn : Nat) (ls : Array Slot) => 3 * i + 3 - cn < n1 ∧ m_M_matches wo Q i = m_M_matches_l1 wo Q i n1 ok cn ∧ lv_has ls 4 [(3, .int (nI cn)), (2, .int ok), (0, .ref (ad 0)), (1, .int (nI i))] ∧ (3 * i ≤ cn ∧ cn ≤ 3 * i + 3) ∧ b01 ok) (4) (1 : Int32) (3 * i) ⟨(by omega), (by rw [m_M_matches, if_neg h1, if_neg h5]), (by have h9 := lv_sub hl [0, 1, 2, 3] rfl; rw [show (3 : Int32) * nI i = nI (3 * i) from nI_mul 3 i] at h9; exact h9), (by omega), (by first | exact Or.inl rfl | exact Or.inr rfl)⟩ (fun _ _ _ h => absurd h.1 (Nat.not_lt_zero _)) (fun n1 ih1 ok cn ls h => ?_)
  obtain ⟨hn1, hm1, hl, hcl, hb1⟩ := h
  refine lv_iload_n hx hb d_M_matches_42 rfl (lv_at hl 0 rfl) ?_
  refine lv_iconst (v := 3) hx hb d_M_matches_43 (by decide) ?_
  refine lv_iload_n hx hb d_M_matches_44 rfl (lv_at hl 3 rfl) ?_
  refine lv_imul hx hb d_M_matches_45 ?_
  refine lv_aload_n hx hb d_M_matches_46 rfl (lv_at hl 2 rfl) ?_
  refine va_get (D := D) (ci := 9) (v := .ref (ad 6)) (C := R_M) (T := F_M) (N := 20) hx hb hts in_M hown hK hP 0 rfl rfl 7 (by decide) (hts _ wd_507) (fun _ h9 => h9) rfl d_M_matches_47 ?_
  refine lv_iload_n hx hb d_M_matches_50 rfl (lv_at hl 3 rfl) ?_
  refine va_iald (n := 6) (f := Q.2.2.2.2.2.1) hx hb hK hP 6 0 rfl rfl (vp_in_nI hi (by decide)) d_M_matches_51 ?_
  refine lv_iadd hx hb d_M_matches_52 ?_
  refine lv_icmp_ge (tgt := 80) hx hb d_M_matches_53 (by decide) (fun h9 => ?_) (fun h9 => ?_)
  · refine lv_iload_n hx hb d_M_matches_80 rfl (lv_at hl 1 rfl) ?_
    exact W.zret hx hb hr (z_b01 hb1) (fun t ht hW => ⟨_, rfl, (by rw [hm1, m_M_matches_l1, if_pos h9]), ht⟩) (fun _ h => by cases h) d_M_matches_81
  have hcl2 : cn < 3 * i + 3 := mt_lt hi (by rw [nI_clamp (show i < 2 ^ 31 by omega)]; exact hc i hi) hcl.2 h9
  refine lv_iload_n hx hb d_M_matches_56 rfl (lv_at hl 1 rfl) ?_
  refine lv_if_eq (tgt := 72) hx hb d_M_matches_57 (by decide) (fun h10 => ?_) (fun h10 => ?_)
  · refine lv_iconst (v := 0) hx hb d_M_matches_72 (by decide) ?_
    refine lv_istore_n hx hb d_M_matches_73 rfl hl (by decide) rfl (fun ls hl => ?_)
    have hl : lv_has ls 4 [(2, .int (0 : Int32)), (3, .int (nI cn)), (0, .ref (ad 0)), (1, .int (nI i))] := hl
    refine lv_iinc (v := (nI cn) + 1) hx hb d_M_matches_74 hl (k := 1) rfl rfl (by decide) rfl (fun ls hl => ?_)
    have hl : lv_has ls 4 [(3, .int ((nI cn) + 1)), (2, .int (0 : Int32)), (0, .ref (ad 0)), (1, .int (nI i))] := hl
    refine lv_goto (tgt := 42) hx hb d_M_matches_77 (by decide) ?_
    exact ih1 (0 : Int32) (cn + 1) _ ⟨(by omega), (by rw [hm1, m_M_matches_l1, if_neg h9, if_pos h10]), (by have h9 := lv_sub hl [0, 1, 2, 3] rfl; rw [nI_1] at h9; exact h9), (by omega), (by first | exact Or.inl rfl | exact Or.inr rfl)⟩
  refine lv_aload_n hx hb d_M_matches_60 rfl (lv_at hl 2 rfl) ?_
  refine lv_iload_n hx hb d_M_matches_61 rfl (lv_at hl 0 rfl) ?_
  refine vp_callSi (va_Run.run (va_runV (As := [.int (nI cn)]) (rest := []) ⟨hx, hb, hml, hown, hts⟩ (c_M_holds l D dA ad ho wo Q G mk X (nI cn) (vp_in_nI (by omega) (by decide)) (by rw [nI_clamp (show cn < 2 ^ 31 by omega)]; exact hw cn (by omega))) (cwV 1 hts (g_V wd_602 wd_604 wd_15 wd_35 wd_605) rfl rfl rfl (by decide +kernel) ⟨Nat.le_of_ble_eq_true rfl, Nat.le_of_ble_eq_true rfl⟩) ⟨MG_fb, (va_recv (ci := 9) (q := (R_M, F_M, 20)) (q0 := 0) hK hP rfl rfl), fun U hU hW => ⟨rfl, MG_at hP hK hU hW⟩⟩ rfl rfl hl.1 rfl (lv_room (Nat.le_of_ble_eq_true rfl)) d_M_matches_62 ⟨Nat.le_of_ble_eq_true rfl, Nat.le_of_ble_eq_true rfl⟩)) (fun r5 e5 => ?_)
  subst e5
  refine lv_if_eq (tgt := 72) hx hb d_M_matches_65 (by decide) (fun h11 => ?_) (fun h11 => ?_)
  · refine lv_iconst (v := 0) hx hb d_M_matches_72 (by decide) ?_
    refine lv_istore_n hx hb d_M_matches_73 rfl hl (by decide) rfl (fun ls hl => ?_)
    have hl : lv_has ls 4 [(2, .int (0 : Int32)), (3, .int (nI cn)), (0, .ref (ad 0)), (1, .int (nI i))] := hl
    refine lv_iinc (v := (nI cn) + 1) hx hb d_M_matches_74 hl (k := 1) rfl rfl (by decide) rfl (fun ls hl => ?_)
    have hl : lv_has ls 4 [(3, .int ((nI cn) + 1)), (2, .int (0 : Int32)), (0, .ref (ad 0)), (1, .int (nI i))] := hl
    refine lv_goto (tgt := 42) hx hb d_M_matches_77 (by decide) ?_
    exact ih1 (0 : Int32) (cn + 1) _ ⟨(by omega), (by rw [hm1, m_M_matches_l1, if_neg h9, if_neg h10, if_pos h11]), (by have h9 := lv_sub hl [0, 1, 2, 3] rfl; rw [nI_1] at h9; exact h9), (by omega), (by first | exact Or.inl rfl | exact Or.inr rfl)⟩
  refine lv_iconst (v := 1) hx hb d_M_matches_68 (by decide) ?_
  refine lv_goto (tgt := 73) hx hb d_M_matches_69 (by decide) ?_
  refine lv_istore_n hx hb d_M_matches_73 rfl hl (by decide) rfl (fun ls hl => ?_)
  have hl : lv_has ls 4 [(2, .int (1 : Int32)), (3, .int (nI cn)), (0, .ref (ad 0)), (1, .int (nI i))] := hl
  refine lv_iinc (v := (nI cn) + 1) hx hb d_M_matches_74 hl (k := 1) rfl rfl (by decide) rfl (fun ls hl => ?_)
  have hl : lv_has ls 4 [(3, .int ((nI cn) + 1)), (2, .int (1 : Int32)), (0, .ref (ad 0)), (1, .int (nI i))] := hl
  refine lv_goto (tgt := 42) hx hb d_M_matches_77 (by decide) ?_
  exact ih1 (1 : Int32) (cn + 1) _ ⟨(by omega), (by rw [hm1, m_M_matches_l1, if_neg h9, if_neg h10, if_neg h11]), (by have h9 := lv_sub hl [0, 1, 2, 3] rfl; rw [nI_1] at h9; exact h9), (by omega), (by first | exact Or.inl rfl | exact Or.inr rfl)⟩
def m_M_ruling_l2 (ho : Int32) (wo : Nat → Int32) (Q : QT) (kd : Nat) (d : Int32) : Nat → Nat → Int32
  | 0, _ => 0
  | n2 + 1, r => if Q.1 ≤ (nI r) then d else if (Q.2.2.2.1 (nI r).toNatClampNeg) = (nI kd) then if (m_M_matches wo Q r) = (0 : Int32) then m_M_ruling_l2 ho wo Q kd d n2 (r + 1) else nI r else m_M_ruling_l2 ho wo Q kd d n2 (r + 1)
def m_M_ruling_l1 (ho : Int32) (wo : Nat → Int32) (Q : QT) : Nat → Nat → Int32
  | 0, _ => 0
  | n1 + 1, kd => if (7 : Int32) ≤ (nI kd) then (-1 : Int32) else m_M_ruling_l2 ho wo Q kd (m_M_ruling_l1 ho wo Q n1 (kd + 1)) (7) 0
def m_M_ruling (ho : Int32) (wo : Nat → Int32) (Q : QT) : Int32 := if (wo 1) = ho then if (lg_cmp (m_M_plain wo (0 : Int32)) (1073741824 : Int64)) < (0 : Int32) then m_M_ruling_l1 ho wo Q (8) 0 else (-2 : Int32) else (-2 : Int32)
set_option maxHeartbeats 4000000 in
set_option maxRecDepth 100000 in
theorem c_M_ruling (l : Launch) (D : va_G) (dA : Nat → ClassId) (ad : Nat → Nat) (ho : Int32) (wo : Nat → Int32) (Q : QT) (G : GT) (mk : Nat → Int32) (X : XT) (hn : iN Q.1 ≤ 6) (hc : ∀ i, i < 6 → iN (Q.2.2.2.2.2.1 i) ≤ 3) (hw : ∀ c, c < 18 → vp_in (Q.2.2.2.2.2.2.1 c) 6) : Met l y_M_ruling (mW y_M_ruling b_M_ruling 3 (some .int)) { frames := 3, cells := 0, slots := 0, locals := 75 } (va_Pc [.ref (ad 0)] (fun U => MG D dA ad ho wo Q G mk X U)) (vp_Si (fun r => r = m_M_ruling ho wo Q)) 0 0 (fun _ => False) := by
  refine Met.ofW (cc := b_M_ruling) (maxL := 3) (ret := (some .int)) (by decide) rfl ?_
  intro p e s m args below meth c s₁ B hml hv
  obtain ⟨rfl, hP, hK⟩ := hv
  have hx := B.exec
  have hb := B.bytes
  have hr := B.returns
  have hlocks := B.notSynchronized
  have hts := fun (w : Cond) (h : w ∈ lw_g) => atoms_spec (ws := mW y_M_ruling b_M_ruling 3 (some .int)) B.pre w (List.mem_cons_of_mem _ h)
  have hown : s.vm.findClass R_M = some m.cls := findClass_of_methodNamed B.named
  have hl := lv_entry ([.ref (ad 0)]) (n := 3) (Nat.le_of_ble_eq_true rfl)
  rw [lg_entry_eq]
  generalize (lg_sl ([.ref (ad 0)]) ++ List.replicate (3 - (lg_sl ([.ref (ad 0)])).length) Slot.unset).toArray = ls at hl ⊢
  have hl : lv_has ls 3 [(0, .ref (ad 0))] := hl
  refine lv_aload_n hx hb d_M_ruling_0 rfl (lv_at hl 0 rfl) ?_
  refine va_get (D := D) (ci := 9) (v := .ref (ad 1)) (C := R_M) (T := F_M) (N := 20) hx hb hts in_M hown hK hP 0 rfl rfl 1 (by decide) (hts _ wd_501) (fun _ h9 => h9) rfl d_M_ruling_1 ?_
  refine lv_iconst (v := 1) hx hb d_M_ruling_4 (by decide) ?_
  refine va_iald (n := 16) (f := wo) hx hb hK hP 1 0 rfl rfl (vp_in_nI (n := 1) (by decide) (by decide)) d_M_ruling_5 ?_
  refine W.eq (g2 := F0 m 6 ls [.int (wo 1)]) rfl ?_
  refine lv_aload_n hx hb d_M_ruling_6 rfl (lv_at hl 0 rfl) ?_
  refine va_get (D := D) (ci := 9) (v := .int ho) (C := R_M) (T := F_M) (N := 20) hx hb hts in_M hown hK hP 0 rfl rfl 0 (by decide) (hts _ wd_500) (fun _ h9 => h9) rfl d_M_ruling_7 ?_
  refine lv_icmp_ne (tgt := 25) hx hb d_M_ruling_10 (by decide) (fun h1 => ?_) (fun h1 => ?_)
  · refine lv_bipush (v := -2) hx hb d_M_ruling_25 (by decide) ?_
    exact W.iret hx hb hr (fun t ht hW => ⟨_, rfl, (by rw [m_M_ruling, if_neg h1]), ht⟩) (fun _ h => by cases h) d_M_ruling_27
  refine lv_aload_n hx hb d_M_ruling_13 rfl (lv_at hl 0 rfl) ?_
  refine lv_iconst (v := 0) hx hb d_M_ruling_14 (by decide) ?_
  refine vp_callSl (va_Run.run (va_runV (As := [.int (0 : Int32)]) (rest := []) ⟨hx, hb, hml, hown, hts⟩ (c_M_plain l D dA ad ho wo Q G mk X (0 : Int32) (vp_in_nI (n := 0) (by decide) (by decide))) (cwV 1 hts (g_V wd_592 wd_594 wd_13 wd_35 wd_595) rfl rfl rfl (by decide +kernel) ⟨Nat.le_of_ble_eq_true rfl, Nat.le_of_ble_eq_true rfl⟩) ⟨MG_fb, (va_recv (ci := 9) (q := (R_M, F_M, 20)) (q0 := 0) hK hP rfl rfl), fun U hU hW => ⟨rfl, MG_at hP hK hU hW⟩⟩ rfl rfl hl.1 rfl (lv_room (Nat.le_of_ble_eq_true rfl)) d_M_ruling_15 ⟨Nat.le_of_ble_eq_true rfl, Nat.le_of_ble_eq_true rfl⟩)) (fun r1 e1 => ?_)
  subst e1
  refine lv_ldc2 (v := 1073741824) hx hb hown (hts _ wd_597) d_M_ruling_18 ?_
  refine W.lcmp hx hb d_M_ruling_21 ?_
  refine lv_if_lt (tgt := 28) hx hb d_M_ruling_22 (by decide) (fun h2 => ?_) (fun h2 => ?_)
  · refine lv_iconst (v := 0) hx hb d_M_ruling_28 (by decide) ?_
    refine lv_istore_n hx hb d_M_ruling_29 rfl hl (by decide) rfl (fun ls hl => ?_)
    have hl : lv_has ls 3 [(1, .int (0 : Int32)), (0, .ref (ad 0))] := hl
    refine W_loopR1 (X := fun (n1 : Nat) (kd : Nat) (ls : Array Slot) => 7 - kd < n1 ∧ m_M_ruling ho wo Q = m_M_ruling_l1 ho wo Q n1 kd ∧ lv_has ls 3 [(1, .int (nI kd)), (0, .ref (ad 0))] ∧ kd ≤ 7) (8) 0 ⟨(by decide), (by rw [m_M_ruling, if_pos h1, if_pos h2]), (lv_sub hl [0, 1] rfl), (by decide)⟩ (fun _ _ h => absurd h.1 (Nat.not_lt_zero _)) (fun n1 ih1 kd ls h => ?_)
    obtain ⟨hn1, hm1, hl, hkd⟩ := h
    refine lv_iload_n hx hb d_M_ruling_30 rfl (lv_at hl 0 rfl) ?_
    refine lv_bipush (v := 7) hx hb d_M_ruling_31 (by decide) ?_
    refine lv_icmp_ge (tgt := 78) hx hb d_M_ruling_33 (by decide) (fun h3 => ?_) (fun h3 => ?_)
    · refine lv_iconst (v := -1) hx hb d_M_ruling_78 (by decide) ?_
      exact W.iret hx hb hr (fun t ht hW => ⟨_, rfl, (by rw [hm1, m_M_ruling_l1, if_pos h3]), ht⟩) (fun _ h => by cases h) d_M_ruling_79
    have hkl : kd < 7 := n7_lt hkd h3
    refine lv_iconst (v := 0) hx hb d_M_ruling_36 (by decide) ?_
    refine lv_istore_n hx hb d_M_ruling_37 rfl hl (by decide) rfl (fun ls hl => ?_)
    have hl : lv_has ls 3 [(2, .int (0 : Int32)), (1, .int (nI kd)), (0, .ref (ad 0))] := hl
    refine W_loopR1 (X := fun (n2 : Nat) (r : Nat) (ls : Array Slot) => 6 - r < n2 ∧ m_M_ruling ho wo Q = m_M_ruling_l2 ho wo Q kd (m_M_ruling_l1 ho wo Q n1 (kd + 1)) n2 r ∧ lv_has ls 3 [(2, .int (nI r)), (1, .int (nI kd)), (0, .ref (ad 0))] ∧ r ≤ 6) (7) 0 ⟨(by decide), (by rw [hm1, m_M_ruling_l1, if_neg h3]), (lv_sub hl [0, 1, 2] rfl), (by decide)⟩ (fun _ _ h => absurd h.1 (Nat.not_lt_zero _)) (fun n2 ih2 r ls h => ?_)
    obtain ⟨hn2, hm2, hl, hr6⟩ := h
    refine lv_iload_n hx hb d_M_ruling_38 rfl (lv_at hl 0 rfl) ?_
    refine lv_aload_n hx hb d_M_ruling_39 rfl (lv_at hl 2 rfl) ?_
    refine va_get (D := D) (ci := 9) (v := .int Q.1) (C := R_M) (T := F_M) (N := 20) hx hb hts in_M hown hK hP 0 rfl rfl 2 (by decide) (hts _ wd_502) (fun _ h9 => h9) rfl d_M_ruling_40 ?_
    refine lv_icmp_ge (tgt := 72) hx hb d_M_ruling_43 (by decide) (fun h4 => ?_) (fun h4 => ?_)
    · refine lv_iinc (v := (nI kd) + 1) hx hb d_M_ruling_72 hl (k := 1) rfl rfl (by decide) rfl (fun ls hl => ?_)
      have hl : lv_has ls 3 [(1, .int ((nI kd) + 1)), (2, .int (nI r)), (0, .ref (ad 0))] := hl
      refine lv_goto (tgt := 30) hx hb d_M_ruling_75 (by decide) ?_
      exact ih1 (kd + 1) _ ⟨(by omega), (by rw [hm2, m_M_ruling_l2, if_pos h4]), (by have h9 := lv_sub hl [0, 2] rfl; rw [nI_1] at h9; exact h9), (by omega)⟩
    have hrl : r < 6 := Nat.lt_of_lt_of_le (nj_lt hn (by decide) hr6 h4) hn
    refine lv_aload_n hx hb d_M_ruling_46 rfl (lv_at hl 2 rfl) ?_
    refine va_get (D := D) (ci := 9) (v := .ref (ad 4)) (C := R_M) (T := F_M) (N := 20) hx hb hts in_M hown hK hP 0 rfl rfl 5 (by decide) (hts _ wd_505) (fun _ h9 => h9) rfl d_M_ruling_47 ?_
    refine lv_iload_n hx hb d_M_ruling_50 rfl (lv_at hl 0 rfl) ?_
    refine va_iald (n := 8) (f := Q.2.2.2.1) hx hb hK hP 4 0 rfl rfl (vp_in_nI (by omega) (by decide)) d_M_ruling_51 ?_
    refine lv_iload_n hx hb d_M_ruling_52 rfl (lv_at hl 1 rfl) ?_
    refine lv_icmp_ne (tgt := 66) hx hb d_M_ruling_53 (by decide) (fun h5 => ?_) (fun h5 => ?_)
    · refine lv_iinc (v := (nI r) + 1) hx hb d_M_ruling_66 hl (k := 0) rfl rfl (by decide) rfl (fun ls hl => ?_)
      have hl : lv_has ls 3 [(2, .int ((nI r) + 1)), (1, .int (nI kd)), (0, .ref (ad 0))] := hl
      refine lv_goto (tgt := 38) hx hb d_M_ruling_69 (by decide) ?_
      exact ih2 (r + 1) _ ⟨(by omega), (by rw [hm2, m_M_ruling_l2, if_neg h4, if_neg h5]), (by have h9 := lv_sub hl [0, 1, 2] rfl; rw [nI_1] at h9; exact h9), (by omega)⟩
    refine lv_aload_n hx hb d_M_ruling_56 rfl (lv_at hl 2 rfl) ?_
    refine lv_iload_n hx hb d_M_ruling_57 rfl (lv_at hl 0 rfl) ?_
    refine vp_callSi (va_Run.run (va_runV (As := [.int (nI r)]) (rest := []) ⟨hx, hb, hml, hown, hts⟩ (c_M_matches l D dA ad ho wo Q G mk X r hrl hc hw) (cwV 1 hts (g_V wd_598 wd_600 wd_14 wd_35 wd_601) rfl rfl rfl (by decide +kernel) ⟨Nat.le_of_ble_eq_true rfl, Nat.le_of_ble_eq_true rfl⟩) ⟨MG_fb, (va_recv (ci := 9) (q := (R_M, F_M, 20)) (q0 := 0) hK hP rfl rfl), fun U hU hW => ⟨rfl, MG_at hP hK hU hW⟩⟩ rfl rfl hl.1 rfl (lv_room (Nat.le_of_ble_eq_true rfl)) d_M_ruling_58 ⟨Nat.le_of_ble_eq_true rfl, Nat.le_of_ble_eq_true rfl⟩)) (fun r2 e2 => ?_)
    subst e2
    refine lv_if_eq (tgt := 66) hx hb d_M_ruling_61 (by decide) (fun h6 => ?_) (fun h6 => ?_)
    · refine lv_iinc (v := (nI r) + 1) hx hb d_M_ruling_66 hl (k := 0) rfl rfl (by decide) rfl (fun ls hl => ?_)
      have hl : lv_has ls 3 [(2, .int ((nI r) + 1)), (1, .int (nI kd)), (0, .ref (ad 0))] := hl
      refine lv_goto (tgt := 38) hx hb d_M_ruling_69 (by decide) ?_
      exact ih2 (r + 1) _ ⟨(by omega), (by rw [hm2, m_M_ruling_l2, if_neg h4, if_pos h5, if_pos h6]), (by have h9 := lv_sub hl [0, 1, 2] rfl; rw [nI_1] at h9; exact h9), (by omega)⟩
    refine lv_iload_n hx hb d_M_ruling_64 rfl (lv_at hl 0 rfl) ?_
    exact W.iret hx hb hr (fun t ht hW => ⟨_, rfl, (by rw [hm2, m_M_ruling_l2, if_neg h4, if_pos h5, if_neg h6]), ht⟩) (fun _ h => by cases h) d_M_ruling_65
  refine lv_bipush (v := -2) hx hb d_M_ruling_25 (by decide) ?_
  exact W.iret hx hb hr (fun t ht hW => ⟨_, rfl, (by rw [m_M_ruling, if_pos h1, if_neg h2]), ht⟩) (fun _ h => by cases h) d_M_ruling_27
theorem rl2_rng {ho : Int32} {wo : Nat → Int32} {Q : QT} {kd : Nat} {d : Int32} (hn : iN Q.1 ≤ 6) (hd : ¬ d = (-1 : Int32) → vp_in d 8) : ∀ n r : Nat, 6 - r < n → r ≤ 6 → ¬ m_M_ruling_l2 ho wo Q kd d n r = (-1 : Int32) → vp_in (m_M_ruling_l2 ho wo Q kd d n r) 8 := by
  intro n
  induction n with
  | zero => intro r h; exact absurd h (Nat.not_lt_zero _)
  | succ n ih =>
    intro r h hr
    rw [m_M_ruling_l2]
    by_cases h1 : Q.1 ≤ nI r
    · rw [if_pos h1]
      exact hd
    · rw [if_neg h1]
      have hrl : r < 6 := Nat.lt_of_lt_of_le (nj_lt hn (by decide) hr h1) hn
      by_cases h2 : (Q.2.2.2.1 (nI r).toNatClampNeg) = (nI kd)
      · rw [if_pos h2]
        by_cases h3 : m_M_matches wo Q r = (0 : Int32)
        · rw [if_pos h3]
          exact ih (r + 1) (by omega) (by omega)
        · rw [if_neg h3]
          exact fun _ => vp_in_nI (by omega) (by decide)
      · rw [if_neg h2]
        exact ih (r + 1) (by omega) (by omega)
theorem rl1_rng {ho : Int32} {wo : Nat → Int32} {Q : QT} (hn : iN Q.1 ≤ 6) : ∀ n kd : Nat, 7 - kd < n → kd ≤ 7 → ¬ m_M_ruling_l1 ho wo Q n kd = (-1 : Int32) → vp_in (m_M_ruling_l1 ho wo Q n kd) 8 := by
  intro n
  induction n with
  | zero => intro r h; exact absurd h (Nat.not_lt_zero _)
  | succ n ih =>
    intro kd h hk
    rw [m_M_ruling_l1]
    by_cases h1 : (7 : Int32) ≤ nI kd
    · rw [if_pos h1]
      exact fun q => absurd rfl q
    · rw [if_neg h1]
      have hkl := n7_lt hk h1
      exact rl2_rng hn (ih (kd + 1) (by omega) (by omega)) 7 0 (by decide) (by decide)
theorem rul_rng {ho : Int32} {wo : Nat → Int32} {Q : QT} (hn : iN Q.1 ≤ 6) (h1 : ¬ m_M_ruling ho wo Q = (-2 : Int32)) (h2 : ¬ m_M_ruling ho wo Q = (-1 : Int32)) : vp_in (m_M_ruling ho wo Q) 8 := by
  unfold m_M_ruling at h1 h2 ⊢
  by_cases c1 : (wo 1) = ho
  · rw [if_pos c1] at h1 h2 ⊢
    by_cases c2 : (lg_cmp (m_M_plain wo (0 : Int32)) (1073741824 : Int64)) < (0 : Int32)
    · rw [if_pos c2] at h1 h2 ⊢
      exact rl1_rng hn 8 0 (by decide) (by decide) h2
    · rw [if_neg c2] at h1
      exact absurd rfl h1
  · rw [if_neg c1] at h1
    exact absurd rfl h1
theorem wd_589 : Cond.instanceMethod y_M_ruling ∈ lw_g := wd_in (i := 589) (by decide +kernel) (by decide +kernel)
theorem wd_590 : Cond.selects R_M y_M_ruling y_M_ruling ∈ lw_g := wd_in (i := 590) (by decide +kernel) (by decide +kernel)
theorem wd_591 : Cond.code y_M_ruling prog_12_method_12_code 3 (Option.some Jvm.ClassFile.FieldType.int) ∈ lw_g := wd_in (i := 591) (by decide +kernel) (by decide +kernel)
theorem wd_614 : Cond.methodLink R_M 84 y_M_ruling ∈ lw_g := wd_in (i := 614) (by decide +kernel) (by decide +kernel)
theorem wd_615 : Cond.constantLong R_M 88 2147483648 ∈ lw_g := wd_in (i := 615) (by decide +kernel) (by decide +kernel)
theorem wd_616 : Cond.constantLong R_M 90 196608 ∈ lw_g := wd_in (i := 616) (by decide +kernel) (by decide +kernel)
theorem wd_617 : Cond.constantLong R_M 92 327680 ∈ lw_g := wd_in (i := 617) (by decide +kernel) (by decide +kernel)
theorem wd_618 : Cond.constantLong R_M 94 2146435072 ∈ lw_g := wd_in (i := 618) (by decide +kernel) (by decide +kernel)
theorem wd_619 : Cond.constantLong R_M 96 2147221504 ∈ lw_g := wd_in (i := 619) (by decide +kernel) (by decide +kernel)
theorem wd_620 : Cond.constantLong R_M 98 2147418112 ∈ lw_g := wd_in (i := 620) (by decide +kernel) (by decide +kernel)
theorem d_M_decide_0 : decode b_M_decide 0 = .ok (.aload_n 0, 1) := by decide +kernel
theorem d_M_decide_1 : decode b_M_decide 1 = .ok (.invokevirtual 84, 3) := by decide +kernel
theorem d_M_decide_4 : decode b_M_decide 4 = .ok (.istore_n 1, 1) := by decide +kernel
theorem d_M_decide_5 : decode b_M_decide 5 = .ok (.iload_n 1, 1) := by decide +kernel
theorem d_M_decide_6 : decode b_M_decide 6 = .ok (.bipush (-2), 2) := by decide +kernel
theorem d_M_decide_8 : decode b_M_decide 8 = .ok (.if_icmp .ne 8, 3) := by decide +kernel
theorem d_M_decide_11 : decode b_M_decide 11 = .ok (.bipush 7, 2) := by decide +kernel
theorem d_M_decide_13 : decode b_M_decide 13 = .ok (.goto 14, 3) := by decide +kernel
theorem d_M_decide_16 : decode b_M_decide 16 = .ok (.iload_n 1, 1) := by decide +kernel
theorem d_M_decide_17 : decode b_M_decide 17 = .ok (.iconst (-1), 1) := by decide +kernel
theorem d_M_decide_18 : decode b_M_decide 18 = .ok (.if_icmp .ne 8, 3) := by decide +kernel
theorem d_M_decide_21 : decode b_M_decide 21 = .ok (.bipush 6, 2) := by decide +kernel
theorem d_M_decide_23 : decode b_M_decide 23 = .ok (.goto 4, 3) := by decide +kernel
theorem d_M_decide_26 : decode b_M_decide 26 = .ok (.iload_n 1, 1) := by decide +kernel
theorem d_M_decide_27 : decode b_M_decide 27 = .ok (.istore_n 1, 1) := by decide +kernel
theorem d_M_decide_28 : decode b_M_decide 28 = .ok (.aload_n 0, 1) := by decide +kernel
theorem d_M_decide_29 : decode b_M_decide 29 = .ok (.getfield 19, 3) := by decide +kernel
theorem d_M_decide_32 : decode b_M_decide 32 = .ok (.iload_n 1, 1) := by decide +kernel
theorem d_M_decide_33 : decode b_M_decide 33 = .ok (.iaload, 1) := by decide +kernel
theorem d_M_decide_34 : decode b_M_decide 34 = .ok (.tableswitch 84 0 5 #[38, 42, 44, 56, 68, 80], 38) := by decide +kernel
theorem d_M_decide_72 : decode b_M_decide 72 = .ok (.ldc2_w 88, 3) := by decide +kernel
theorem d_M_decide_75 : decode b_M_decide 75 = .ok (.lreturn, 1) := by decide +kernel
theorem d_M_decide_76 : decode b_M_decide 76 = .ok (.lconst 0, 1) := by decide +kernel
theorem d_M_decide_77 : decode b_M_decide 77 = .ok (.lreturn, 1) := by decide +kernel
theorem d_M_decide_78 : decode b_M_decide 78 = .ok (.ldc2_w 90, 3) := by decide +kernel
theorem d_M_decide_81 : decode b_M_decide 81 = .ok (.aload_n 0, 1) := by decide +kernel
theorem d_M_decide_82 : decode b_M_decide 82 = .ok (.getfield 22, 3) := by decide +kernel
theorem d_M_decide_85 : decode b_M_decide 85 = .ok (.iload_n 1, 1) := by decide +kernel
theorem d_M_decide_86 : decode b_M_decide 86 = .ok (.iaload, 1) := by decide +kernel
theorem d_M_decide_87 : decode b_M_decide 87 = .ok (.i2l, 1) := by decide +kernel
theorem d_M_decide_88 : decode b_M_decide 88 = .ok (.ladd, 1) := by decide +kernel
theorem d_M_decide_89 : decode b_M_decide 89 = .ok (.lreturn, 1) := by decide +kernel
theorem d_M_decide_90 : decode b_M_decide 90 = .ok (.ldc2_w 92, 3) := by decide +kernel
theorem d_M_decide_93 : decode b_M_decide 93 = .ok (.aload_n 0, 1) := by decide +kernel
theorem d_M_decide_94 : decode b_M_decide 94 = .ok (.getfield 22, 3) := by decide +kernel
theorem d_M_decide_97 : decode b_M_decide 97 = .ok (.iload_n 1, 1) := by decide +kernel
theorem d_M_decide_98 : decode b_M_decide 98 = .ok (.iaload, 1) := by decide +kernel
theorem d_M_decide_99 : decode b_M_decide 99 = .ok (.i2l, 1) := by decide +kernel
theorem d_M_decide_100 : decode b_M_decide 100 = .ok (.ladd, 1) := by decide +kernel
theorem d_M_decide_101 : decode b_M_decide 101 = .ok (.lreturn, 1) := by decide +kernel
theorem d_M_decide_102 : decode b_M_decide 102 = .ok (.ldc2_w 94, 3) := by decide +kernel
theorem d_M_decide_105 : decode b_M_decide 105 = .ok (.aload_n 0, 1) := by decide +kernel
theorem d_M_decide_106 : decode b_M_decide 106 = .ok (.getfield 22, 3) := by decide +kernel
theorem d_M_decide_109 : decode b_M_decide 109 = .ok (.iload_n 1, 1) := by decide +kernel
theorem d_M_decide_110 : decode b_M_decide 110 = .ok (.iaload, 1) := by decide +kernel
theorem d_M_decide_111 : decode b_M_decide 111 = .ok (.i2l, 1) := by decide +kernel
theorem d_M_decide_112 : decode b_M_decide 112 = .ok (.ladd, 1) := by decide +kernel
theorem d_M_decide_113 : decode b_M_decide 113 = .ok (.lreturn, 1) := by decide +kernel
theorem d_M_decide_114 : decode b_M_decide 114 = .ok (.ldc2_w 96, 3) := by decide +kernel
theorem d_M_decide_117 : decode b_M_decide 117 = .ok (.lreturn, 1) := by decide +kernel
theorem d_M_decide_118 : decode b_M_decide 118 = .ok (.ldc2_w 98, 3) := by decide +kernel
theorem d_M_decide_121 : decode b_M_decide 121 = .ok (.lreturn, 1) := by decide +kernel
def m_M_decide (ho : Int32) (wo : Nat → Int32) (Q : QT) : Int64 := if (m_M_ruling ho wo Q) = (-2 : Int32) then if (Q.2.2.2.1 7) = (0 : Int32) then (2147483648 : Int64) else if (Q.2.2.2.1 7) = (1 : Int32) then (0 : Int64) else if (Q.2.2.2.1 7) = (2 : Int32) then (196608 : Int64) + ((Q.2.2.2.2.1 7).toInt64) else if (Q.2.2.2.1 7) = (3 : Int32) then (327680 : Int64) + ((Q.2.2.2.2.1 7).toInt64) else if (Q.2.2.2.1 7) = (4 : Int32) then (2146435072 : Int64) + ((Q.2.2.2.2.1 7).toInt64) else if (Q.2.2.2.1 7) = (5 : Int32) then (2147221504 : Int64) else (2147418112 : Int64) else if (m_M_ruling ho wo Q) = (-1 : Int32) then if (Q.2.2.2.1 6) = (0 : Int32) then (2147483648 : Int64) else if (Q.2.2.2.1 6) = (1 : Int32) then (0 : Int64) else if (Q.2.2.2.1 6) = (2 : Int32) then (196608 : Int64) + ((Q.2.2.2.2.1 6).toInt64) else if (Q.2.2.2.1 6) = (3 : Int32) then (327680 : Int64) + ((Q.2.2.2.2.1 6).toInt64) else if (Q.2.2.2.1 6) = (4 : Int32) then (2146435072 : Int64) + ((Q.2.2.2.2.1 6).toInt64) else if (Q.2.2.2.1 6) = (5 : Int32) then (2147221504 : Int64) else (2147418112 : Int64) else if (Q.2.2.2.1 (m_M_ruling ho wo Q).toNatClampNeg) = (0 : Int32) then (2147483648 : Int64) else if (Q.2.2.2.1 (m_M_ruling ho wo Q).toNatClampNeg) = (1 : Int32) then (0 : Int64) else if (Q.2.2.2.1 (m_M_ruling ho wo Q).toNatClampNeg) = (2 : Int32) then (196608 : Int64) + ((Q.2.2.2.2.1 (m_M_ruling ho wo Q).toNatClampNeg).toInt64) else if (Q.2.2.2.1 (m_M_ruling ho wo Q).toNatClampNeg) = (3 : Int32) then (327680 : Int64) + ((Q.2.2.2.2.1 (m_M_ruling ho wo Q).toNatClampNeg).toInt64) else if (Q.2.2.2.1 (m_M_ruling ho wo Q).toNatClampNeg) = (4 : Int32) then (2146435072 : Int64) + ((Q.2.2.2.2.1 (m_M_ruling ho wo Q).toNatClampNeg).toInt64) else if (Q.2.2.2.1 (m_M_ruling ho wo Q).toNatClampNeg) = (5 : Int32) then (2147221504 : Int64) else (2147418112 : Int64)
set_option maxHeartbeats 4000000 in
set_option maxRecDepth 100000 in
theorem c_M_decide (l : Launch) (D : va_G) (dA : Nat → ClassId) (ad : Nat → Nat) (ho : Int32) (wo : Nat → Int32) (Q : QT) (G : GT) (mk : Nat → Int32) (X : XT) (hn : iN Q.1 ≤ 6) (hc : ∀ i, i < 6 → iN (Q.2.2.2.2.2.1 i) ≤ 3) (hw : ∀ c, c < 18 → vp_in (Q.2.2.2.2.2.2.1 c) 6) : Met l y_M_decide (mW y_M_decide b_M_decide 2 (some .long)) { frames := 4, cells := 0, slots := 0, locals := 97 } (va_Pc [.ref (ad 0)] (fun U => MG D dA ad ho wo Q G mk X U)) (vp_Sl (fun r => r = m_M_decide ho wo Q)) 0 0 (fun _ => False) := by
  refine Met.ofW (cc := b_M_decide) (maxL := 2) (ret := (some .long)) (by decide) rfl ?_
  intro p e s m args below meth c s₁ B hml hv
  obtain ⟨rfl, hP, hK⟩ := hv
  have hx := B.exec
  have hb := B.bytes
  have hr := B.returns
  have hlocks := B.notSynchronized
  have hts := fun (w : Cond) (h : w ∈ lw_g) => atoms_spec (ws := mW y_M_decide b_M_decide 2 (some .long)) B.pre w (List.mem_cons_of_mem _ h)
  have hown : s.vm.findClass R_M = some m.cls := findClass_of_methodNamed B.named
  have hl := lv_entry ([.ref (ad 0)]) (n := 2) (Nat.le_of_ble_eq_true rfl)
  rw [lg_entry_eq]
  generalize (lg_sl ([.ref (ad 0)]) ++ List.replicate (2 - (lg_sl ([.ref (ad 0)])).length) Slot.unset).toArray = ls at hl ⊢
  have hl : lv_has ls 2 [(0, .ref (ad 0))] := hl
  refine lv_aload_n hx hb d_M_decide_0 rfl (lv_at hl 0 rfl) ?_
  refine vp_callSi (va_Run.run (va_runV (As := []) (rest := []) ⟨hx, hb, hml, hown, hts⟩ (c_M_ruling l D dA ad ho wo Q G mk X hn hc hw) (cwV 0 hts (g_V wd_614 wd_589 wd_590 wd_35 wd_591) rfl rfl rfl (by decide +kernel) ⟨Nat.le_of_ble_eq_true rfl, Nat.le_of_ble_eq_true rfl⟩) ⟨MG_fb, (va_recv (ci := 9) (q := (R_M, F_M, 20)) (q0 := 0) hK hP rfl rfl), fun U hU hW => ⟨rfl, MG_at hP hK hU hW⟩⟩ rfl rfl hl.1 rfl (lv_room (Nat.le_of_ble_eq_true rfl)) d_M_decide_1 ⟨Nat.le_of_ble_eq_true rfl, Nat.le_of_ble_eq_true rfl⟩)) (fun r1 e1 => ?_)
  subst e1
  refine lv_istore_n hx hb d_M_decide_4 rfl hl (by decide) rfl (fun ls hl => ?_)
  have hl : lv_has ls 2 [(1, .int (m_M_ruling ho wo Q)), (0, .ref (ad 0))] := hl
  refine lv_iload_n hx hb d_M_decide_5 rfl (lv_at hl 0 rfl) ?_
  refine lv_bipush (v := -2) hx hb d_M_decide_6 (by decide) ?_
  refine lv_icmp_ne (tgt := 16) hx hb d_M_decide_8 (by decide) (fun h1 => ?_) (fun h1 => ?_)
  · refine lv_iload_n hx hb d_M_decide_16 rfl (lv_at hl 0 rfl) ?_
    refine lv_iconst (v := -1) hx hb d_M_decide_17 (by decide) ?_
    refine lv_icmp_ne (tgt := 26) hx hb d_M_decide_18 (by decide) (fun h2 => ?_) (fun h2 => ?_)
    · refine lv_iload_n hx hb d_M_decide_26 rfl (lv_at hl 0 rfl) ?_
      refine lv_istore_n hx hb d_M_decide_27 rfl hl (by decide) rfl (fun ls hl => ?_)
      have hl : lv_has ls 2 [(1, .int (m_M_ruling ho wo Q)), (0, .ref (ad 0))] := hl
      refine lv_aload_n hx hb d_M_decide_28 rfl (lv_at hl 1 rfl) ?_
      refine va_get (D := D) (ci := 9) (v := .ref (ad 4)) (C := R_M) (T := F_M) (N := 20) hx hb hts in_M hown hK hP 0 rfl rfl 5 (by decide) (hts _ wd_505) (fun _ h9 => h9) rfl d_M_decide_29 ?_
      refine lv_iload_n hx hb d_M_decide_32 rfl (lv_at hl 0 rfl) ?_
      refine va_iald (n := 8) (f := Q.2.2.2.1) hx hb hK hP 4 0 rfl rfl (rul_rng hn (by assumption) (by assumption)) d_M_decide_33 ?_
      by_cases h3 : Q.2.2.2.1 (m_M_ruling ho wo Q).toNatClampNeg = (0 : Int32)
      · refine lv_tableIn (tgt := 72) (off := 38) hx hb d_M_decide_34 (by rw [h3]; decide) (by rw [h3]; decide) (by rw [h3] <;> rfl) (by decide) ?_
        refine lv_ldc2 (v := 2147483648) hx hb hown (hts _ wd_615) d_M_decide_72 ?_
        exact W.lret hx hb hr (fun t ht hW => ⟨_, rfl, (by rw [m_M_decide, if_neg h1, if_neg h2, if_pos h3]), ht⟩) (fun _ h => by cases h) d_M_decide_75
      by_cases h4 : Q.2.2.2.1 (m_M_ruling ho wo Q).toNatClampNeg = (1 : Int32)
      · refine lv_tableIn (tgt := 76) (off := 42) hx hb d_M_decide_34 (by rw [h4]; decide) (by rw [h4]; decide) (by rw [h4] <;> rfl) (by decide) ?_
        refine lv_lconst (v := 0) hx hb d_M_decide_76 (by decide) ?_
        exact W.lret hx hb hr (fun t ht hW => ⟨_, rfl, (by rw [m_M_decide, if_neg h1, if_neg h2, if_neg h3, if_pos h4]), ht⟩) (fun _ h => by cases h) d_M_decide_77
      by_cases h5 : Q.2.2.2.1 (m_M_ruling ho wo Q).toNatClampNeg = (2 : Int32)
      · refine lv_tableIn (tgt := 78) (off := 44) hx hb d_M_decide_34 (by rw [h5]; decide) (by rw [h5]; decide) (by rw [h5] <;> rfl) (by decide) ?_
        refine lv_ldc2 (v := 196608) hx hb hown (hts _ wd_616) d_M_decide_78 ?_
        refine lv_aload_n hx hb d_M_decide_81 rfl (lv_at hl 1 rfl) ?_
        refine va_get (D := D) (ci := 9) (v := .ref (ad 5)) (C := R_M) (T := F_M) (N := 20) hx hb hts in_M hown hK hP 0 rfl rfl 6 (by decide) (hts _ wd_506) (fun _ h9 => h9) rfl d_M_decide_82 ?_
        refine lv_iload_n hx hb d_M_decide_85 rfl (lv_at hl 0 rfl) ?_
        refine va_iald (n := 8) (f := Q.2.2.2.2.1) hx hb hK hP 5 0 rfl rfl (rul_rng hn (by assumption) (by assumption)) d_M_decide_86 ?_
        refine lv_i2l hx hb d_M_decide_87 rfl ?_
        refine lv_ladd hx hb d_M_decide_88 ?_
        exact W.lret hx hb hr (fun t ht hW => ⟨_, rfl, (by rw [m_M_decide, if_neg h1, if_neg h2, if_neg h3, if_neg h4, if_pos h5]), ht⟩) (fun _ h => by cases h) d_M_decide_89
      by_cases h6 : Q.2.2.2.1 (m_M_ruling ho wo Q).toNatClampNeg = (3 : Int32)
      · refine lv_tableIn (tgt := 90) (off := 56) hx hb d_M_decide_34 (by rw [h6]; decide) (by rw [h6]; decide) (by rw [h6] <;> rfl) (by decide) ?_
        refine lv_ldc2 (v := 327680) hx hb hown (hts _ wd_617) d_M_decide_90 ?_
        refine lv_aload_n hx hb d_M_decide_93 rfl (lv_at hl 1 rfl) ?_
        refine va_get (D := D) (ci := 9) (v := .ref (ad 5)) (C := R_M) (T := F_M) (N := 20) hx hb hts in_M hown hK hP 0 rfl rfl 6 (by decide) (hts _ wd_506) (fun _ h9 => h9) rfl d_M_decide_94 ?_
        refine lv_iload_n hx hb d_M_decide_97 rfl (lv_at hl 0 rfl) ?_
        refine va_iald (n := 8) (f := Q.2.2.2.2.1) hx hb hK hP 5 0 rfl rfl (rul_rng hn (by assumption) (by assumption)) d_M_decide_98 ?_
        refine lv_i2l hx hb d_M_decide_99 rfl ?_
        refine lv_ladd hx hb d_M_decide_100 ?_
        exact W.lret hx hb hr (fun t ht hW => ⟨_, rfl, (by rw [m_M_decide, if_neg h1, if_neg h2, if_neg h3, if_neg h4, if_neg h5, if_pos h6]), ht⟩) (fun _ h => by cases h) d_M_decide_101
      by_cases h7 : Q.2.2.2.1 (m_M_ruling ho wo Q).toNatClampNeg = (4 : Int32)
      · refine lv_tableIn (tgt := 102) (off := 68) hx hb d_M_decide_34 (by rw [h7]; decide) (by rw [h7]; decide) (by rw [h7] <;> rfl) (by decide) ?_
        refine lv_ldc2 (v := 2146435072) hx hb hown (hts _ wd_618) d_M_decide_102 ?_
        refine lv_aload_n hx hb d_M_decide_105 rfl (lv_at hl 1 rfl) ?_
        refine va_get (D := D) (ci := 9) (v := .ref (ad 5)) (C := R_M) (T := F_M) (N := 20) hx hb hts in_M hown hK hP 0 rfl rfl 6 (by decide) (hts _ wd_506) (fun _ h9 => h9) rfl d_M_decide_106 ?_
        refine lv_iload_n hx hb d_M_decide_109 rfl (lv_at hl 0 rfl) ?_
        refine va_iald (n := 8) (f := Q.2.2.2.2.1) hx hb hK hP 5 0 rfl rfl (rul_rng hn (by assumption) (by assumption)) d_M_decide_110 ?_
        refine lv_i2l hx hb d_M_decide_111 rfl ?_
        refine lv_ladd hx hb d_M_decide_112 ?_
        exact W.lret hx hb hr (fun t ht hW => ⟨_, rfl, (by rw [m_M_decide, if_neg h1, if_neg h2, if_neg h3, if_neg h4, if_neg h5, if_neg h6, if_pos h7]), ht⟩) (fun _ h => by cases h) d_M_decide_113
      by_cases h8 : Q.2.2.2.1 (m_M_ruling ho wo Q).toNatClampNeg = (5 : Int32)
      · refine lv_tableIn (tgt := 114) (off := 80) hx hb d_M_decide_34 (by rw [h8]; decide) (by rw [h8]; decide) (by rw [h8] <;> rfl) (by decide) ?_
        refine lv_ldc2 (v := 2147221504) hx hb hown (hts _ wd_619) d_M_decide_114 ?_
        exact W.lret hx hb hr (fun t ht hW => ⟨_, rfl, (by rw [m_M_decide, if_neg h1, if_neg h2, if_neg h3, if_neg h4, if_neg h5, if_neg h6, if_neg h7, if_pos h8]), ht⟩) (fun _ h => by cases h) d_M_decide_117
      refine lv_tableOut (tgt := 118) hx hb d_M_decide_34 (by have z0 := lv_neT (a := 0) h3 (by decide); have z1 := lv_neT (a := 1) h4 (by decide); have z2 := lv_neT (a := 2) h5 (by decide); have z3 := lv_neT (a := 3) h6 (by decide); have z4 := lv_neT (a := 4) h7 (by decide); have z5 := lv_neT (a := 5) h8 (by decide); omega) (by decide) ?_
      refine lv_ldc2 (v := 2147418112) hx hb hown (hts _ wd_620) d_M_decide_118 ?_
      exact W.lret hx hb hr (fun t ht hW => ⟨_, rfl, (by rw [m_M_decide, if_neg h1, if_neg h2, if_neg h3, if_neg h4, if_neg h5, if_neg h6, if_neg h7, if_neg h8]), ht⟩) (fun _ h => by cases h) d_M_decide_121
    refine lv_bipush (v := 6) hx hb d_M_decide_21 (by decide) ?_
    refine lv_goto (tgt := 27) hx hb d_M_decide_23 (by decide) ?_
    refine lv_istore_n hx hb d_M_decide_27 rfl hl (by decide) rfl (fun ls hl => ?_)
    have hl : lv_has ls 2 [(1, .int (6 : Int32)), (0, .ref (ad 0))] := hl
    refine lv_aload_n hx hb d_M_decide_28 rfl (lv_at hl 1 rfl) ?_
    refine va_get (D := D) (ci := 9) (v := .ref (ad 4)) (C := R_M) (T := F_M) (N := 20) hx hb hts in_M hown hK hP 0 rfl rfl 5 (by decide) (hts _ wd_505) (fun _ h9 => h9) rfl d_M_decide_29 ?_
    refine lv_iload_n hx hb d_M_decide_32 rfl (lv_at hl 0 rfl) ?_
    refine va_iald (n := 8) (f := Q.2.2.2.1) hx hb hK hP 4 0 rfl rfl (vp_in_nI (n := 6) (by decide) (by decide)) d_M_decide_33 ?_
    refine W.eq (g2 := F0 m 34 ls [.int (Q.2.2.2.1 6)]) rfl ?_
    by_cases h9 : Q.2.2.2.1 6 = (0 : Int32)
    · refine lv_tableIn (tgt := 72) (off := 38) hx hb d_M_decide_34 (by rw [h9]; decide) (by rw [h9]; decide) (by rw [h9] <;> rfl) (by decide) ?_
      refine lv_ldc2 (v := 2147483648) hx hb hown (hts _ wd_615) d_M_decide_72 ?_
      exact W.lret hx hb hr (fun t ht hW => ⟨_, rfl, (by rw [m_M_decide, if_neg h1, if_pos h2, if_pos h9]), ht⟩) (fun _ h => by cases h) d_M_decide_75
    by_cases h10 : Q.2.2.2.1 6 = (1 : Int32)
    · refine lv_tableIn (tgt := 76) (off := 42) hx hb d_M_decide_34 (by rw [h10]; decide) (by rw [h10]; decide) (by rw [h10] <;> rfl) (by decide) ?_
      refine lv_lconst (v := 0) hx hb d_M_decide_76 (by decide) ?_
      exact W.lret hx hb hr (fun t ht hW => ⟨_, rfl, (by rw [m_M_decide, if_neg h1, if_pos h2, if_neg h9, if_pos h10]), ht⟩) (fun _ h => by cases h) d_M_decide_77
    by_cases h11 : Q.2.2.2.1 6 = (2 : Int32)
    · refine lv_tableIn (tgt := 78) (off := 44) hx hb d_M_decide_34 (by rw [h11]; decide) (by rw [h11]; decide) (by rw [h11] <;> rfl) (by decide) ?_
      refine lv_ldc2 (v := 196608) hx hb hown (hts _ wd_616) d_M_decide_78 ?_
      refine lv_aload_n hx hb d_M_decide_81 rfl (lv_at hl 1 rfl) ?_
      refine va_get (D := D) (ci := 9) (v := .ref (ad 5)) (C := R_M) (T := F_M) (N := 20) hx hb hts in_M hown hK hP 0 rfl rfl 6 (by decide) (hts _ wd_506) (fun _ h9 => h9) rfl d_M_decide_82 ?_
      refine lv_iload_n hx hb d_M_decide_85 rfl (lv_at hl 0 rfl) ?_
      refine va_iald (n := 8) (f := Q.2.2.2.2.1) hx hb hK hP 5 0 rfl rfl (vp_in_nI (n := 6) (by decide) (by decide)) d_M_decide_86 ?_
      refine W.eq (g2 := F0 m 87 ls [.int (Q.2.2.2.2.1 6), .long (196608 : Int64)]) rfl ?_
      refine lv_i2l hx hb d_M_decide_87 rfl ?_
      refine lv_ladd hx hb d_M_decide_88 ?_
      exact W.lret hx hb hr (fun t ht hW => ⟨_, rfl, (by rw [m_M_decide, if_neg h1, if_pos h2, if_neg h9, if_neg h10, if_pos h11]), ht⟩) (fun _ h => by cases h) d_M_decide_89
    by_cases h12 : Q.2.2.2.1 6 = (3 : Int32)
    · refine lv_tableIn (tgt := 90) (off := 56) hx hb d_M_decide_34 (by rw [h12]; decide) (by rw [h12]; decide) (by rw [h12] <;> rfl) (by decide) ?_
      refine lv_ldc2 (v := 327680) hx hb hown (hts _ wd_617) d_M_decide_90 ?_
      refine lv_aload_n hx hb d_M_decide_93 rfl (lv_at hl 1 rfl) ?_
      refine va_get (D := D) (ci := 9) (v := .ref (ad 5)) (C := R_M) (T := F_M) (N := 20) hx hb hts in_M hown hK hP 0 rfl rfl 6 (by decide) (hts _ wd_506) (fun _ h9 => h9) rfl d_M_decide_94 ?_
      refine lv_iload_n hx hb d_M_decide_97 rfl (lv_at hl 0 rfl) ?_
      refine va_iald (n := 8) (f := Q.2.2.2.2.1) hx hb hK hP 5 0 rfl rfl (vp_in_nI (n := 6) (by decide) (by decide)) d_M_decide_98 ?_
      refine W.eq (g2 := F0 m 99 ls [.int (Q.2.2.2.2.1 6), .long (327680 : Int64)]) rfl ?_
      refine lv_i2l hx hb d_M_decide_99 rfl ?_
      refine lv_ladd hx hb d_M_decide_100 ?_
      exact W.lret hx hb hr (fun t ht hW => ⟨_, rfl, (by rw [m_M_decide, if_neg h1, if_pos h2, if_neg h9, if_neg h10, if_neg h11, if_pos h12]), ht⟩) (fun _ h => by cases h) d_M_decide_101
    by_cases h13 : Q.2.2.2.1 6 = (4 : Int32)
    · refine lv_tableIn (tgt := 102) (off := 68) hx hb d_M_decide_34 (by rw [h13]; decide) (by rw [h13]; decide) (by rw [h13] <;> rfl) (by decide) ?_
      refine lv_ldc2 (v := 2146435072) hx hb hown (hts _ wd_618) d_M_decide_102 ?_
      refine lv_aload_n hx hb d_M_decide_105 rfl (lv_at hl 1 rfl) ?_
      refine va_get (D := D) (ci := 9) (v := .ref (ad 5)) (C := R_M) (T := F_M) (N := 20) hx hb hts in_M hown hK hP 0 rfl rfl 6 (by decide) (hts _ wd_506) (fun _ h9 => h9) rfl d_M_decide_106 ?_
      refine lv_iload_n hx hb d_M_decide_109 rfl (lv_at hl 0 rfl) ?_
      refine va_iald (n := 8) (f := Q.2.2.2.2.1) hx hb hK hP 5 0 rfl rfl (vp_in_nI (n := 6) (by decide) (by decide)) d_M_decide_110 ?_
      refine W.eq (g2 := F0 m 111 ls [.int (Q.2.2.2.2.1 6), .long (2146435072 : Int64)]) rfl ?_
      refine lv_i2l hx hb d_M_decide_111 rfl ?_
      refine lv_ladd hx hb d_M_decide_112 ?_
      exact W.lret hx hb hr (fun t ht hW => ⟨_, rfl, (by rw [m_M_decide, if_neg h1, if_pos h2, if_neg h9, if_neg h10, if_neg h11, if_neg h12, if_pos h13]), ht⟩) (fun _ h => by cases h) d_M_decide_113
    by_cases h14 : Q.2.2.2.1 6 = (5 : Int32)
    · refine lv_tableIn (tgt := 114) (off := 80) hx hb d_M_decide_34 (by rw [h14]; decide) (by rw [h14]; decide) (by rw [h14] <;> rfl) (by decide) ?_
      refine lv_ldc2 (v := 2147221504) hx hb hown (hts _ wd_619) d_M_decide_114 ?_
      exact W.lret hx hb hr (fun t ht hW => ⟨_, rfl, (by rw [m_M_decide, if_neg h1, if_pos h2, if_neg h9, if_neg h10, if_neg h11, if_neg h12, if_neg h13, if_pos h14]), ht⟩) (fun _ h => by cases h) d_M_decide_117
    refine lv_tableOut (tgt := 118) hx hb d_M_decide_34 (by have z0 := lv_neT (a := 0) h9 (by decide); have z1 := lv_neT (a := 1) h10 (by decide); have z2 := lv_neT (a := 2) h11 (by decide); have z3 := lv_neT (a := 3) h12 (by decide); have z4 := lv_neT (a := 4) h13 (by decide); have z5 := lv_neT (a := 5) h14 (by decide); omega) (by decide) ?_
    refine lv_ldc2 (v := 2147418112) hx hb hown (hts _ wd_620) d_M_decide_118 ?_
    exact W.lret hx hb hr (fun t ht hW => ⟨_, rfl, (by rw [m_M_decide, if_neg h1, if_pos h2, if_neg h9, if_neg h10, if_neg h11, if_neg h12, if_neg h13, if_neg h14]), ht⟩) (fun _ h => by cases h) d_M_decide_121
  refine lv_bipush (v := 7) hx hb d_M_decide_11 (by decide) ?_
  refine lv_goto (tgt := 27) hx hb d_M_decide_13 (by decide) ?_
  refine lv_istore_n hx hb d_M_decide_27 rfl hl (by decide) rfl (fun ls hl => ?_)
  have hl : lv_has ls 2 [(1, .int (7 : Int32)), (0, .ref (ad 0))] := hl
  refine lv_aload_n hx hb d_M_decide_28 rfl (lv_at hl 1 rfl) ?_
  refine va_get (D := D) (ci := 9) (v := .ref (ad 4)) (C := R_M) (T := F_M) (N := 20) hx hb hts in_M hown hK hP 0 rfl rfl 5 (by decide) (hts _ wd_505) (fun _ h9 => h9) rfl d_M_decide_29 ?_
  refine lv_iload_n hx hb d_M_decide_32 rfl (lv_at hl 0 rfl) ?_
  refine va_iald (n := 8) (f := Q.2.2.2.1) hx hb hK hP 4 0 rfl rfl (vp_in_nI (n := 7) (by decide) (by decide)) d_M_decide_33 ?_
  refine W.eq (g2 := F0 m 34 ls [.int (Q.2.2.2.1 7)]) rfl ?_
  by_cases h15 : Q.2.2.2.1 7 = (0 : Int32)
  · refine lv_tableIn (tgt := 72) (off := 38) hx hb d_M_decide_34 (by rw [h15]; decide) (by rw [h15]; decide) (by rw [h15] <;> rfl) (by decide) ?_
    refine lv_ldc2 (v := 2147483648) hx hb hown (hts _ wd_615) d_M_decide_72 ?_
    exact W.lret hx hb hr (fun t ht hW => ⟨_, rfl, (by rw [m_M_decide, if_pos h1, if_pos h15]), ht⟩) (fun _ h => by cases h) d_M_decide_75
  by_cases h16 : Q.2.2.2.1 7 = (1 : Int32)
  · refine lv_tableIn (tgt := 76) (off := 42) hx hb d_M_decide_34 (by rw [h16]; decide) (by rw [h16]; decide) (by rw [h16] <;> rfl) (by decide) ?_
    refine lv_lconst (v := 0) hx hb d_M_decide_76 (by decide) ?_
    exact W.lret hx hb hr (fun t ht hW => ⟨_, rfl, (by rw [m_M_decide, if_pos h1, if_neg h15, if_pos h16]), ht⟩) (fun _ h => by cases h) d_M_decide_77
  by_cases h17 : Q.2.2.2.1 7 = (2 : Int32)
  · refine lv_tableIn (tgt := 78) (off := 44) hx hb d_M_decide_34 (by rw [h17]; decide) (by rw [h17]; decide) (by rw [h17] <;> rfl) (by decide) ?_
    refine lv_ldc2 (v := 196608) hx hb hown (hts _ wd_616) d_M_decide_78 ?_
    refine lv_aload_n hx hb d_M_decide_81 rfl (lv_at hl 1 rfl) ?_
    refine va_get (D := D) (ci := 9) (v := .ref (ad 5)) (C := R_M) (T := F_M) (N := 20) hx hb hts in_M hown hK hP 0 rfl rfl 6 (by decide) (hts _ wd_506) (fun _ h9 => h9) rfl d_M_decide_82 ?_
    refine lv_iload_n hx hb d_M_decide_85 rfl (lv_at hl 0 rfl) ?_
    refine va_iald (n := 8) (f := Q.2.2.2.2.1) hx hb hK hP 5 0 rfl rfl (vp_in_nI (n := 7) (by decide) (by decide)) d_M_decide_86 ?_
    refine W.eq (g2 := F0 m 87 ls [.int (Q.2.2.2.2.1 7), .long (196608 : Int64)]) rfl ?_
    refine lv_i2l hx hb d_M_decide_87 rfl ?_
    refine lv_ladd hx hb d_M_decide_88 ?_
    exact W.lret hx hb hr (fun t ht hW => ⟨_, rfl, (by rw [m_M_decide, if_pos h1, if_neg h15, if_neg h16, if_pos h17]), ht⟩) (fun _ h => by cases h) d_M_decide_89
  by_cases h18 : Q.2.2.2.1 7 = (3 : Int32)
  · refine lv_tableIn (tgt := 90) (off := 56) hx hb d_M_decide_34 (by rw [h18]; decide) (by rw [h18]; decide) (by rw [h18] <;> rfl) (by decide) ?_
    refine lv_ldc2 (v := 327680) hx hb hown (hts _ wd_617) d_M_decide_90 ?_
    refine lv_aload_n hx hb d_M_decide_93 rfl (lv_at hl 1 rfl) ?_
    refine va_get (D := D) (ci := 9) (v := .ref (ad 5)) (C := R_M) (T := F_M) (N := 20) hx hb hts in_M hown hK hP 0 rfl rfl 6 (by decide) (hts _ wd_506) (fun _ h9 => h9) rfl d_M_decide_94 ?_
    refine lv_iload_n hx hb d_M_decide_97 rfl (lv_at hl 0 rfl) ?_
    refine va_iald (n := 8) (f := Q.2.2.2.2.1) hx hb hK hP 5 0 rfl rfl (vp_in_nI (n := 7) (by decide) (by decide)) d_M_decide_98 ?_
    refine W.eq (g2 := F0 m 99 ls [.int (Q.2.2.2.2.1 7), .long (327680 : Int64)]) rfl ?_
    refine lv_i2l hx hb d_M_decide_99 rfl ?_
    refine lv_ladd hx hb d_M_decide_100 ?_
    exact W.lret hx hb hr (fun t ht hW => ⟨_, rfl, (by rw [m_M_decide, if_pos h1, if_neg h15, if_neg h16, if_neg h17, if_pos h18]), ht⟩) (fun _ h => by cases h) d_M_decide_101
  by_cases h19 : Q.2.2.2.1 7 = (4 : Int32)
  · refine lv_tableIn (tgt := 102) (off := 68) hx hb d_M_decide_34 (by rw [h19]; decide) (by rw [h19]; decide) (by rw [h19] <;> rfl) (by decide) ?_
    refine lv_ldc2 (v := 2146435072) hx hb hown (hts _ wd_618) d_M_decide_102 ?_
    refine lv_aload_n hx hb d_M_decide_105 rfl (lv_at hl 1 rfl) ?_
    refine va_get (D := D) (ci := 9) (v := .ref (ad 5)) (C := R_M) (T := F_M) (N := 20) hx hb hts in_M hown hK hP 0 rfl rfl 6 (by decide) (hts _ wd_506) (fun _ h9 => h9) rfl d_M_decide_106 ?_
    refine lv_iload_n hx hb d_M_decide_109 rfl (lv_at hl 0 rfl) ?_
    refine va_iald (n := 8) (f := Q.2.2.2.2.1) hx hb hK hP 5 0 rfl rfl (vp_in_nI (n := 7) (by decide) (by decide)) d_M_decide_110 ?_
    refine W.eq (g2 := F0 m 111 ls [.int (Q.2.2.2.2.1 7), .long (2146435072 : Int64)]) rfl ?_
    refine lv_i2l hx hb d_M_decide_111 rfl ?_
    refine lv_ladd hx hb d_M_decide_112 ?_
    exact W.lret hx hb hr (fun t ht hW => ⟨_, rfl, (by rw [m_M_decide, if_pos h1, if_neg h15, if_neg h16, if_neg h17, if_neg h18, if_pos h19]), ht⟩) (fun _ h => by cases h) d_M_decide_113
  by_cases h20 : Q.2.2.2.1 7 = (5 : Int32)
  · refine lv_tableIn (tgt := 114) (off := 80) hx hb d_M_decide_34 (by rw [h20]; decide) (by rw [h20]; decide) (by rw [h20] <;> rfl) (by decide) ?_
    refine lv_ldc2 (v := 2147221504) hx hb hown (hts _ wd_619) d_M_decide_114 ?_
    exact W.lret hx hb hr (fun t ht hW => ⟨_, rfl, (by rw [m_M_decide, if_pos h1, if_neg h15, if_neg h16, if_neg h17, if_neg h18, if_neg h19, if_pos h20]), ht⟩) (fun _ h => by cases h) d_M_decide_117
  refine lv_tableOut (tgt := 118) hx hb d_M_decide_34 (by have z0 := lv_neT (a := 0) h15 (by decide); have z1 := lv_neT (a := 1) h16 (by decide); have z2 := lv_neT (a := 2) h17 (by decide); have z3 := lv_neT (a := 3) h18 (by decide); have z4 := lv_neT (a := 4) h19 (by decide); have z5 := lv_neT (a := 5) h20 (by decide); omega) (by decide) ?_
  refine lv_ldc2 (v := 2147418112) hx hb hown (hts _ wd_620) d_M_decide_118 ?_
  exact W.lret hx hb hr (fun t ht hW => ⟨_, rfl, (by rw [m_M_decide, if_pos h1, if_neg h15, if_neg h16, if_neg h17, if_neg h18, if_neg h19, if_neg h20]), ht⟩) (fun _ h => by cases h) d_M_decide_121
