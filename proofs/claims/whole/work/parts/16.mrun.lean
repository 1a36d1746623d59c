theorem wd_516 : Cond.fieldLink R_M 148 R_M "a" "J" ∈ lw_g := wd_in (i := 516) (by decide +kernel) (by decide +kernel)
theorem wd_517 : Cond.fieldLink R_M 156 R_M "x" "J" ∈ lw_g := wd_in (i := 517) (by decide +kernel) (by decide +kernel)
theorem wd_689 : Cond.constantLong R_M 152 32 ∈ lw_g := wd_in (i := 689) (by decide +kernel) (by decide +kernel)
theorem wd_698 : Cond.constantLong R_M 154 64 ∈ lw_g := wd_in (i := 698) (by decide +kernel) (by decide +kernel)
theorem d_M_combine_0 : decode b_M_combine 0 = .ok (.iload_n 1, 1) := by decide +kernel
theorem d_M_combine_1 : decode b_M_combine 1 = .ok (.lookupswitch 157 #[(4, 75), (20, 86), (36, 97), (52, 108), (68, 115), (84, 122), (100, 129), (116, 145)], 75) := by decide +kernel
theorem d_M_combine_76 : decode b_M_combine 76 = .ok (.aload_n 0, 1) := by decide +kernel
theorem d_M_combine_77 : decode b_M_combine 77 = .ok (.getfield 148, 3) := by decide +kernel
theorem d_M_combine_80 : decode b_M_combine 80 = .ok (.lload_n 2, 1) := by decide +kernel
theorem d_M_combine_81 : decode b_M_combine 81 = .ok (.ladd, 1) := by decide +kernel
theorem d_M_combine_82 : decode b_M_combine 82 = .ok (.ldc2_w 58, 3) := by decide +kernel
theorem d_M_combine_85 : decode b_M_combine 85 = .ok (.land, 1) := by decide +kernel
theorem d_M_combine_86 : decode b_M_combine 86 = .ok (.lreturn, 1) := by decide +kernel
theorem d_M_combine_87 : decode b_M_combine 87 = .ok (.aload_n 0, 1) := by decide +kernel
theorem d_M_combine_88 : decode b_M_combine 88 = .ok (.getfield 148, 3) := by decide +kernel
theorem d_M_combine_91 : decode b_M_combine 91 = .ok (.lload_n 2, 1) := by decide +kernel
theorem d_M_combine_92 : decode b_M_combine 92 = .ok (.lsub, 1) := by decide +kernel
theorem d_M_combine_93 : decode b_M_combine 93 = .ok (.ldc2_w 58, 3) := by decide +kernel
theorem d_M_combine_96 : decode b_M_combine 96 = .ok (.land, 1) := by decide +kernel
theorem d_M_combine_97 : decode b_M_combine 97 = .ok (.lreturn, 1) := by decide +kernel
theorem d_M_combine_98 : decode b_M_combine 98 = .ok (.aload_n 0, 1) := by decide +kernel
theorem d_M_combine_99 : decode b_M_combine 99 = .ok (.getfield 148, 3) := by decide +kernel
theorem d_M_combine_102 : decode b_M_combine 102 = .ok (.lload_n 2, 1) := by decide +kernel
theorem d_M_combine_103 : decode b_M_combine 103 = .ok (.lmul, 1) := by decide +kernel
theorem d_M_combine_104 : decode b_M_combine 104 = .ok (.ldc2_w 58, 3) := by decide +kernel
theorem d_M_combine_107 : decode b_M_combine 107 = .ok (.land, 1) := by decide +kernel
theorem d_M_combine_108 : decode b_M_combine 108 = .ok (.lreturn, 1) := by decide +kernel
theorem d_M_combine_109 : decode b_M_combine 109 = .ok (.aload_n 0, 1) := by decide +kernel
theorem d_M_combine_110 : decode b_M_combine 110 = .ok (.getfield 148, 3) := by decide +kernel
theorem d_M_combine_113 : decode b_M_combine 113 = .ok (.lload_n 2, 1) := by decide +kernel
theorem d_M_combine_114 : decode b_M_combine 114 = .ok (.ldiv, 1) := by decide +kernel
theorem d_M_combine_115 : decode b_M_combine 115 = .ok (.lreturn, 1) := by decide +kernel
theorem d_M_combine_116 : decode b_M_combine 116 = .ok (.aload_n 0, 1) := by decide +kernel
theorem d_M_combine_117 : decode b_M_combine 117 = .ok (.getfield 148, 3) := by decide +kernel
theorem d_M_combine_120 : decode b_M_combine 120 = .ok (.lload_n 2, 1) := by decide +kernel
theorem d_M_combine_121 : decode b_M_combine 121 = .ok (.lor, 1) := by decide +kernel
theorem d_M_combine_122 : decode b_M_combine 122 = .ok (.lreturn, 1) := by decide +kernel
theorem d_M_combine_123 : decode b_M_combine 123 = .ok (.aload_n 0, 1) := by decide +kernel
theorem d_M_combine_124 : decode b_M_combine 124 = .ok (.getfield 148, 3) := by decide +kernel
theorem d_M_combine_127 : decode b_M_combine 127 = .ok (.lload_n 2, 1) := by decide +kernel
theorem d_M_combine_128 : decode b_M_combine 128 = .ok (.land, 1) := by decide +kernel
theorem d_M_combine_129 : decode b_M_combine 129 = .ok (.lreturn, 1) := by decide +kernel
theorem d_M_combine_130 : decode b_M_combine 130 = .ok (.aload_n 0, 1) := by decide +kernel
theorem d_M_combine_131 : decode b_M_combine 131 = .ok (.getfield 148, 3) := by decide +kernel
theorem d_M_combine_134 : decode b_M_combine 134 = .ok (.lload_n 2, 1) := by decide +kernel
theorem d_M_combine_135 : decode b_M_combine 135 = .ok (.ldc2_w 152, 3) := by decide +kernel
theorem d_M_combine_138 : decode b_M_combine 138 = .ok (.lrem, 1) := by decide +kernel
theorem d_M_combine_139 : decode b_M_combine 139 = .ok (.l2i, 1) := by decide +kernel
theorem d_M_combine_140 : decode b_M_combine 140 = .ok (.lshl, 1) := by decide +kernel
theorem d_M_combine_141 : decode b_M_combine 141 = .ok (.ldc2_w 58, 3) := by decide +kernel
theorem d_M_combine_144 : decode b_M_combine 144 = .ok (.land, 1) := by decide +kernel
theorem d_M_combine_145 : decode b_M_combine 145 = .ok (.lreturn, 1) := by decide +kernel
theorem d_M_combine_146 : decode b_M_combine 146 = .ok (.aload_n 0, 1) := by decide +kernel
theorem d_M_combine_147 : decode b_M_combine 147 = .ok (.getfield 148, 3) := by decide +kernel
theorem d_M_combine_150 : decode b_M_combine 150 = .ok (.lload_n 2, 1) := by decide +kernel
theorem d_M_combine_151 : decode b_M_combine 151 = .ok (.ldc2_w 152, 3) := by decide +kernel
theorem d_M_combine_154 : decode b_M_combine 154 = .ok (.lrem, 1) := by decide +kernel
theorem d_M_combine_155 : decode b_M_combine 155 = .ok (.l2i, 1) := by decide +kernel
theorem d_M_combine_156 : decode b_M_combine 156 = .ok (.lshr, 1) := by decide +kernel
theorem d_M_combine_157 : decode b_M_combine 157 = .ok (.lreturn, 1) := by decide +kernel
theorem d_M_combine_158 : decode b_M_combine 158 = .ok (.aload_n 0, 1) := by decide +kernel
theorem d_M_combine_159 : decode b_M_combine 159 = .ok (.getfield 148, 3) := by decide +kernel
theorem d_M_combine_162 : decode b_M_combine 162 = .ok (.lload_n 2, 1) := by decide +kernel
theorem d_M_combine_163 : decode b_M_combine 163 = .ok (.lxor, 1) := by decide +kernel
theorem d_M_combine_164 : decode b_M_combine 164 = .ok (.lreturn, 1) := by decide +kernel
theorem d_M_asks_0 : decode b_M_asks 0 = .ok (.iload_n 1, 1) := by decide +kernel
theorem d_M_asks_1 : decode b_M_asks 1 = .ok (.bipush 21, 2) := by decide +kernel
theorem d_M_asks_3 : decode b_M_asks 3 = .ok (.if_icmp .ne 20, 3) := by decide +kernel
theorem d_M_asks_6 : decode b_M_asks 6 = .ok (.aload_n 0, 1) := by decide +kernel
theorem d_M_asks_7 : decode b_M_asks 7 = .ok (.getfield 148, 3) := by decide +kernel
theorem d_M_asks_10 : decode b_M_asks 10 = .ok (.lload_n 2, 1) := by decide +kernel
theorem d_M_asks_11 : decode b_M_asks 11 = .ok (.lcmp, 1) := by decide +kernel
theorem d_M_asks_12 : decode b_M_asks 12 = .ok (.ifCond .ne 7, 3) := by decide +kernel
theorem d_M_asks_15 : decode b_M_asks 15 = .ok (.iconst 1, 1) := by decide +kernel
theorem d_M_asks_16 : decode b_M_asks 16 = .ok (.goto 69, 3) := by decide +kernel
theorem d_M_asks_19 : decode b_M_asks 19 = .ok (.iconst 0, 1) := by decide +kernel
theorem d_M_asks_20 : decode b_M_asks 20 = .ok (.goto 65, 3) := by decide +kernel
theorem d_M_asks_23 : decode b_M_asks 23 = .ok (.iload_n 1, 1) := by decide +kernel
theorem d_M_asks_24 : decode b_M_asks 24 = .ok (.bipush 37, 2) := by decide +kernel
theorem d_M_asks_26 : decode b_M_asks 26 = .ok (.if_icmp .ne 20, 3) := by decide +kernel
theorem d_M_asks_29 : decode b_M_asks 29 = .ok (.aload_n 0, 1) := by decide +kernel
theorem d_M_asks_30 : decode b_M_asks 30 = .ok (.getfield 148, 3) := by decide +kernel
theorem d_M_asks_33 : decode b_M_asks 33 = .ok (.lload_n 2, 1) := by decide +kernel
theorem d_M_asks_34 : decode b_M_asks 34 = .ok (.lcmp, 1) := by decide +kernel
theorem d_M_asks_35 : decode b_M_asks 35 = .ok (.ifCond .le 7, 3) := by decide +kernel
theorem d_M_asks_38 : decode b_M_asks 38 = .ok (.iconst 1, 1) := by decide +kernel
theorem d_M_asks_39 : decode b_M_asks 39 = .ok (.goto 46, 3) := by decide +kernel
theorem d_M_asks_42 : decode b_M_asks 42 = .ok (.iconst 0, 1) := by decide +kernel
theorem d_M_asks_43 : decode b_M_asks 43 = .ok (.goto 42, 3) := by decide +kernel
theorem d_M_asks_46 : decode b_M_asks 46 = .ok (.iload_n 1, 1) := by decide +kernel
theorem d_M_asks_47 : decode b_M_asks 47 = .ok (.bipush 53, 2) := by decide +kernel
theorem d_M_asks_49 : decode b_M_asks 49 = .ok (.if_icmp .ne 20, 3) := by decide +kernel
theorem d_M_asks_52 : decode b_M_asks 52 = .ok (.aload_n 0, 1) := by decide +kernel
theorem d_M_asks_53 : decode b_M_asks 53 = .ok (.getfield 148, 3) := by decide +kernel
theorem d_M_asks_56 : decode b_M_asks 56 = .ok (.lload_n 2, 1) := by decide +kernel
theorem d_M_asks_57 : decode b_M_asks 57 = .ok (.lcmp, 1) := by decide +kernel
theorem d_M_asks_58 : decode b_M_asks 58 = .ok (.ifCond .lt 7, 3) := by decide +kernel
theorem d_M_asks_61 : decode b_M_asks 61 = .ok (.iconst 1, 1) := by decide +kernel
theorem d_M_asks_62 : decode b_M_asks 62 = .ok (.goto 23, 3) := by decide +kernel
theorem d_M_asks_65 : decode b_M_asks 65 = .ok (.iconst 0, 1) := by decide +kernel
theorem d_M_asks_66 : decode b_M_asks 66 = .ok (.goto 19, 3) := by decide +kernel
theorem d_M_asks_69 : decode b_M_asks 69 = .ok (.aload_n 0, 1) := by decide +kernel
theorem d_M_asks_70 : decode b_M_asks 70 = .ok (.getfield 148, 3) := by decide +kernel
theorem d_M_asks_73 : decode b_M_asks 73 = .ok (.lload_n 2, 1) := by decide +kernel
theorem d_M_asks_74 : decode b_M_asks 74 = .ok (.land, 1) := by decide +kernel
theorem d_M_asks_75 : decode b_M_asks 75 = .ok (.lconst 0, 1) := by decide +kernel
theorem d_M_asks_76 : decode b_M_asks 76 = .ok (.lcmp, 1) := by decide +kernel
theorem d_M_asks_77 : decode b_M_asks 77 = .ok (.ifCond .eq 7, 3) := by decide +kernel
theorem d_M_asks_80 : decode b_M_asks 80 = .ok (.iconst 1, 1) := by decide +kernel
theorem d_M_asks_81 : decode b_M_asks 81 = .ok (.goto 4, 3) := by decide +kernel
theorem d_M_asks_84 : decode b_M_asks 84 = .ok (.iconst 0, 1) := by decide +kernel
theorem d_M_asks_85 : decode b_M_asks 85 = .ok (.ireturn, 1) := by decide +kernel
theorem d_M_move_0 : decode b_M_move 0 = .ok (.iload_n 1, 1) := by decide +kernel
theorem d_M_move_1 : decode b_M_move 1 = .ok (.lookupswitch 234 #[(0, 99), (1, 146), (2, 178), (3, 178), (7, 212), (32, 107), (96, 122), (97, 154), (128, 136), (129, 168), (135, 223)], 99) := by decide +kernel
theorem d_M_move_100 : decode b_M_move 100 = .ok (.aload_n 0, 1) := by decide +kernel
theorem d_M_move_101 : decode b_M_move 101 = .ok (.lload_n 2, 1) := by decide +kernel
theorem d_M_move_102 : decode b_M_move 102 = .ok (.putfield 148, 3) := by decide +kernel
theorem d_M_move_105 : decode b_M_move 105 = .ok (.goto 144, 3) := by decide +kernel
theorem d_M_move_108 : decode b_M_move 108 = .ok (.aload_n 0, 1) := by decide +kernel
theorem d_M_move_109 : decode b_M_move 109 = .ok (.aload_n 0, 1) := by decide +kernel
theorem d_M_move_110 : decode b_M_move 110 = .ok (.lload_n 2, 1) := by decide +kernel
theorem d_M_move_111 : decode b_M_move 111 = .ok (.l2i, 1) := by decide +kernel
theorem d_M_move_112 : decode b_M_move 112 = .ok (.iconst 4, 1) := by decide +kernel
theorem d_M_move_113 : decode b_M_move 113 = .ok (.idiv, 1) := by decide +kernel
theorem d_M_move_114 : decode b_M_move 114 = .ok (.invokevirtual 65, 3) := by decide +kernel
theorem d_M_move_117 : decode b_M_move 117 = .ok (.putfield 148, 3) := by decide +kernel
theorem d_M_move_120 : decode b_M_move 120 = .ok (.goto 129, 3) := by decide +kernel
theorem d_M_move_123 : decode b_M_move 123 = .ok (.aload_n 0, 1) := by decide +kernel
theorem d_M_move_124 : decode b_M_move 124 = .ok (.aload_n 0, 1) := by decide +kernel
theorem d_M_move_125 : decode b_M_move 125 = .ok (.getfield 48, 3) := by decide +kernel
theorem d_M_move_128 : decode b_M_move 128 = .ok (.lload_n 2, 1) := by decide +kernel
theorem d_M_move_129 : decode b_M_move 129 = .ok (.l2i, 1) := by decide +kernel
theorem d_M_move_130 : decode b_M_move 130 = .ok (.laload, 1) := by decide +kernel
theorem d_M_move_131 : decode b_M_move 131 = .ok (.putfield 148, 3) := by decide +kernel
theorem d_M_move_134 : decode b_M_move 134 = .ok (.goto 115, 3) := by decide +kernel
theorem d_M_move_137 : decode b_M_move 137 = .ok (.aload_n 0, 1) := by decide +kernel
theorem d_M_move_138 : decode b_M_move 138 = .ok (.ldc2_w 154, 3) := by decide +kernel
theorem d_M_move_141 : decode b_M_move 141 = .ok (.putfield 148, 3) := by decide +kernel
theorem d_M_move_144 : decode b_M_move 144 = .ok (.goto 105, 3) := by decide +kernel
theorem d_M_move_147 : decode b_M_move 147 = .ok (.aload_n 0, 1) := by decide +kernel
theorem d_M_move_148 : decode b_M_move 148 = .ok (.lload_n 2, 1) := by decide +kernel
theorem d_M_move_149 : decode b_M_move 149 = .ok (.putfield 156, 3) := by decide +kernel
theorem d_M_move_152 : decode b_M_move 152 = .ok (.goto 97, 3) := by decide +kernel
theorem d_M_move_155 : decode b_M_move 155 = .ok (.aload_n 0, 1) := by decide +kernel
theorem d_M_move_156 : decode b_M_move 156 = .ok (.aload_n 0, 1) := by decide +kernel
theorem d_M_move_157 : decode b_M_move 157 = .ok (.getfield 48, 3) := by decide +kernel
theorem d_M_move_160 : decode b_M_move 160 = .ok (.lload_n 2, 1) := by decide +kernel
theorem d_M_move_161 : decode b_M_move 161 = .ok (.l2i, 1) := by decide +kernel
theorem d_M_move_162 : decode b_M_move 162 = .ok (.laload, 1) := by decide +kernel
theorem d_M_move_163 : decode b_M_move 163 = .ok (.putfield 156, 3) := by decide +kernel
theorem d_M_move_166 : decode b_M_move 166 = .ok (.goto 83, 3) := by decide +kernel
theorem d_M_move_169 : decode b_M_move 169 = .ok (.aload_n 0, 1) := by decide +kernel
theorem d_M_move_170 : decode b_M_move 170 = .ok (.ldc2_w 154, 3) := by decide +kernel
theorem d_M_move_173 : decode b_M_move 173 = .ok (.putfield 156, 3) := by decide +kernel
theorem d_M_move_176 : decode b_M_move 176 = .ok (.goto 73, 3) := by decide +kernel
theorem d_M_move_179 : decode b_M_move 179 = .ok (.aload_n 0, 1) := by decide +kernel
theorem d_M_move_180 : decode b_M_move 180 = .ok (.getfield 48, 3) := by decide +kernel
theorem d_M_move_183 : decode b_M_move 183 = .ok (.lload_n 2, 1) := by decide +kernel
theorem d_M_move_184 : decode b_M_move 184 = .ok (.l2i, 1) := by decide +kernel
theorem d_M_move_185 : decode b_M_move 185 = .ok (.iload_n 1, 1) := by decide +kernel
theorem d_M_move_186 : decode b_M_move 186 = .ok (.iconst 2, 1) := by decide +kernel
theorem d_M_move_187 : decode b_M_move 187 = .ok (.if_icmp .ne 10, 3) := by decide +kernel
theorem d_M_move_190 : decode b_M_move 190 = .ok (.aload_n 0, 1) := by decide +kernel
theorem d_M_move_191 : decode b_M_move 191 = .ok (.getfield 148, 3) := by decide +kernel
theorem d_M_move_194 : decode b_M_move 194 = .ok (.goto 7, 3) := by decide +kernel
theorem d_M_move_197 : decode b_M_move 197 = .ok (.aload_n 0, 1) := by decide +kernel
theorem d_M_move_198 : decode b_M_move 198 = .ok (.getfield 156, 3) := by decide +kernel
theorem d_M_move_201 : decode b_M_move 201 = .ok (.lastore, 1) := by decide +kernel
theorem d_M_move_202 : decode b_M_move 202 = .ok (.aload_n 0, 1) := by decide +kernel
theorem d_M_move_203 : decode b_M_move 203 = .ok (.getfield 51, 3) := by decide +kernel
theorem d_M_move_206 : decode b_M_move 206 = .ok (.lload_n 2, 1) := by decide +kernel
theorem d_M_move_207 : decode b_M_move 207 = .ok (.l2i, 1) := by decide +kernel
theorem d_M_move_208 : decode b_M_move 208 = .ok (.iconst 1, 1) := by decide +kernel
theorem d_M_move_209 : decode b_M_move 209 = .ok (.bastore, 1) := by decide +kernel
theorem d_M_move_210 : decode b_M_move 210 = .ok (.goto 39, 3) := by decide +kernel
theorem d_M_move_213 : decode b_M_move 213 = .ok (.aload_n 0, 1) := by decide +kernel
theorem d_M_move_214 : decode b_M_move 214 = .ok (.aload_n 0, 1) := by decide +kernel
theorem d_M_move_215 : decode b_M_move 215 = .ok (.getfield 148, 3) := by decide +kernel
theorem d_M_move_218 : decode b_M_move 218 = .ok (.putfield 156, 3) := by decide +kernel
theorem d_M_move_221 : decode b_M_move 221 = .ok (.goto 28, 3) := by decide +kernel
theorem d_M_move_224 : decode b_M_move 224 = .ok (.aload_n 0, 1) := by decide +kernel
theorem d_M_move_225 : decode b_M_move 225 = .ok (.aload_n 0, 1) := by decide +kernel
theorem d_M_move_226 : decode b_M_move 226 = .ok (.getfield 156, 3) := by decide +kernel
theorem d_M_move_229 : decode b_M_move 229 = .ok (.putfield 148, 3) := by decide +kernel
theorem d_M_move_232 : decode b_M_move 232 = .ok (.goto 17, 3) := by decide +kernel
theorem d_M_move_235 : decode b_M_move 235 = .ok (.aload_n 0, 1) := by decide +kernel
theorem d_M_move_236 : decode b_M_move 236 = .ok (.lconst 0, 1) := by decide +kernel
theorem d_M_move_237 : decode b_M_move 237 = .ok (.aload_n 0, 1) := by decide +kernel
theorem d_M_move_238 : decode b_M_move 238 = .ok (.getfield 148, 3) := by decide +kernel
theorem d_M_move_241 : decode b_M_move 241 = .ok (.lsub, 1) := by decide +kernel
theorem d_M_move_242 : decode b_M_move 242 = .ok (.ldc2_w 58, 3) := by decide +kernel
theorem d_M_move_245 : decode b_M_move 245 = .ok (.land, 1) := by decide +kernel
theorem d_M_move_246 : decode b_M_move 246 = .ok (.putfield 148, 3) := by decide +kernel
theorem d_M_move_249 : decode b_M_move 249 = .ok (.return_, 1) := by decide +kernel
def m_M_combine (X : XT) (q : Int32) (y : Int64) : Int64 := if q = (4 : Int32) then (X.2.1 + y) &&& (4294967295 : Int64) else if q = (20 : Int32) then (X.2.1 - y) &&& (4294967295 : Int64) else if q = (36 : Int32) then (X.2.1 * y) &&& (4294967295 : Int64) else if q = (52 : Int32) then X.2.1 / y else if q = (68 : Int32) then X.2.1 ||| y else if q = (84 : Int32) then X.2.1 &&& y else if q = (100 : Int32) then (X.2.1 <<< (((y - y / (32 : Int64) * (32 : Int64)).toInt32).toInt64 &&& 63)) &&& (4294967295 : Int64) else if q = (116 : Int32) then X.2.1 >>> (((y - y / (32 : Int64) * (32 : Int64)).toInt32).toInt64 &&& 63) else X.2.1 ^^^ y
set_option maxHeartbeats 4000000 in
set_option maxRecDepth 100000 in
theorem c_M_combine (l : Launch) (D : va_G) (dA : Nat → ClassId) (ad : Nat → Nat) (ho : Int32) (wo : Nat → Int32) (Q : QT) (G : GT) (mk : Nat → Int32) (X : XT) (q : Int32) (y : Int64) (hq : q = (52 : Int32) → ¬ y = 0) : Met l y_M_combine (mW y_M_combine b_M_combine 4 (some .long)) { frames := 0, cells := 0, slots := 0, locals := 0 } (va_Pc [.ref (ad 0), .int q, .long y] (fun U => MG D dA ad ho wo Q G mk X U)) (vp_Sl (fun r => r = m_M_combine X q y)) 0 0 (fun _ => False) := by
  refine Met.ofW (cc := b_M_combine) (maxL := 4) (ret := (some .long)) (by decide) rfl ?_
  intro p e s m args below meth c s₁ B hml hv
  obtain ⟨rfl, hP, hK⟩ := hv
  have hx := B.exec
  have hb := B.bytes
  have hr := B.returns
  have hlocks := B.notSynchronized
  have hts := fun (w : Cond) (h : w ∈ lw_g) => atoms_spec (ws := mW y_M_combine b_M_combine 4 (some .long)) B.pre w (List.mem_cons_of_mem _ h)
  have hown : s.vm.findClass R_M = some m.cls := findClass_of_methodNamed B.named
  have hl := lv_entry ([.ref (ad 0), .int q, .long y]) (n := 4) (Nat.le_of_ble_eq_true rfl)
  rw [lg_entry_eq]
  generalize (lg_sl ([.ref (ad 0), .int q, .long y]) ++ List.replicate (4 - (lg_sl ([.ref (ad 0), .int q, .long y])).length) Slot.unset).toArray = ls at hl ⊢
  have hl : lv_has ls 4 [(0, .ref (ad 0)), (1, .int q), (2, .long y)] := hl
  refine lv_iload_n hx hb d_M_combine_0 rfl (lv_at hl 1 rfl) ?_
  by_cases h1 : q = (4 : Int32)
  · refine lv_lookup (tgt := 76) (off := 75) hx hb d_M_combine_1 (by decide) (by rw [h1] <;> rfl) (by decide) ?_
    refine lv_aload_n hx hb d_M_combine_76 rfl (lv_at hl 0 rfl) ?_
    refine va_get (D := D) (ci := 9) (v := .long X.2.1) (C := R_M) (T := F_M) (N := 20) hx hb hts in_M hown hK hP 0 rfl rfl 16 (by decide) (hts _ wd_516) (fun _ h9 => h9) rfl d_M_combine_77 ?_
    refine lv_lload_n hx hb d_M_combine_80 rfl (lv_at hl 2 rfl) ?_
    refine lv_ladd hx hb d_M_combine_81 ?_
    refine lv_ldc2 (v := 4294967295) hx hb hown (hts _ wd_596) d_M_combine_82 ?_
    refine lv_land hx hb d_M_combine_85 ?_
    exact W.lret hx hb hr (fun t ht hW => ⟨_, rfl, (by rw [m_M_combine, if_pos h1]), ht⟩) (fun _ h => by cases h) d_M_combine_86
  by_cases h2 : q = (20 : Int32)
  · refine lv_lookup (tgt := 87) (off := 86) hx hb d_M_combine_1 (by decide) (by rw [h2] <;> rfl) (by decide) ?_
    refine lv_aload_n hx hb d_M_combine_87 rfl (lv_at hl 0 rfl) ?_
    refine va_get (D := D) (ci := 9) (v := .long X.2.1) (C := R_M) (T := F_M) (N := 20) hx hb hts in_M hown hK hP 0 rfl rfl 16 (by decide) (hts _ wd_516) (fun _ h9 => h9) rfl d_M_combine_88 ?_
    refine lv_lload_n hx hb d_M_combine_91 rfl (lv_at hl 2 rfl) ?_
    refine lv_lsub hx hb d_M_combine_92 ?_
    refine lv_ldc2 (v := 4294967295) hx hb hown (hts _ wd_596) d_M_combine_93 ?_
    refine lv_land hx hb d_M_combine_96 ?_
    exact W.lret hx hb hr (fun t ht hW => ⟨_, rfl, (by rw [m_M_combine, if_neg h1, if_pos h2]), ht⟩) (fun _ h => by cases h) d_M_combine_97
  by_cases h3 : q = (36 : Int32)
  · refine lv_lookup (tgt := 98) (off := 97) hx hb d_M_combine_1 (by decide) (by rw [h3] <;> rfl) (by decide) ?_
    refine lv_aload_n hx hb d_M_combine_98 rfl (lv_at hl 0 rfl) ?_
    refine va_get (D := D) (ci := 9) (v := .long X.2.1) (C := R_M) (T := F_M) (N := 20) hx hb hts in_M hown hK hP 0 rfl rfl 16 (by decide) (hts _ wd_516) (fun _ h9 => h9) rfl d_M_combine_99 ?_
    refine lv_lload_n hx hb d_M_combine_102 rfl (lv_at hl 2 rfl) ?_
    refine lv_lmul hx hb d_M_combine_103 ?_
    refine lv_ldc2 (v := 4294967295) hx hb hown (hts _ wd_596) d_M_combine_104 ?_
    refine lv_land hx hb d_M_combine_107 ?_
    exact W.lret hx hb hr (fun t ht hW => ⟨_, rfl, (by rw [m_M_combine, if_neg h1, if_neg h2, if_pos h3]), ht⟩) (fun _ h => by cases h) d_M_combine_108
  by_cases h4 : q = (52 : Int32)
  · refine lv_lookup (tgt := 109) (off := 108) hx hb d_M_combine_1 (by decide) (by rw [h4] <;> rfl) (by decide) ?_
    refine lv_aload_n hx hb d_M_combine_109 rfl (lv_at hl 0 rfl) ?_
    refine va_get (D := D) (ci := 9) (v := .long X.2.1) (C := R_M) (T := F_M) (N := 20) hx hb hts in_M hown hK hP 0 rfl rfl 16 (by decide) (hts _ wd_516) (fun _ h9 => h9) rfl d_M_combine_110 ?_
    refine lv_lload_n hx hb d_M_combine_113 rfl (lv_at hl 2 rfl) ?_
    refine lv_ldiv hx hb d_M_combine_114 (hq (by assumption)) ?_
    exact W.lret hx hb hr (fun t ht hW => ⟨_, rfl, (by rw [m_M_combine, if_neg h1, if_neg h2, if_neg h3, if_pos h4]), ht⟩) (fun _ h => by cases h) d_M_combine_115
  by_cases h5 : q = (68 : Int32)
  · refine lv_lookup (tgt := 116) (off := 115) hx hb d_M_combine_1 (by decide) (by rw [h5] <;> rfl) (by decide) ?_
    refine lv_aload_n hx hb d_M_combine_116 rfl (lv_at hl 0 rfl) ?_
    refine va_get (D := D) (ci := 9) (v := .long X.2.1) (C := R_M) (T := F_M) (N := 20) hx hb hts in_M hown hK hP 0 rfl rfl 16 (by decide) (hts _ wd_516) (fun _ h9 => h9) rfl d_M_combine_117 ?_
    refine lv_lload_n hx hb d_M_combine_120 rfl (lv_at hl 2 rfl) ?_
    refine lv_lor hx hb d_M_combine_121 ?_
    exact W.lret hx hb hr (fun t ht hW => ⟨_, rfl, (by rw [m_M_combine, if_neg h1, if_neg h2, if_neg h3, if_neg h4, if_pos h5]), ht⟩) (fun _ h => by cases h) d_M_combine_122
  by_cases h6 : q = (84 : Int32)
  · refine lv_lookup (tgt := 123) (off := 122) hx hb d_M_combine_1 (by decide) (by rw [h6] <;> rfl) (by decide) ?_
    refine lv_aload_n hx hb d_M_combine_123 rfl (lv_at hl 0 rfl) ?_
    refine va_get (D := D) (ci := 9) (v := .long X.2.1) (C := R_M) (T := F_M) (N := 20) hx hb hts in_M hown hK hP 0 rfl rfl 16 (by decide) (hts _ wd_516) (fun _ h9 => h9) rfl d_M_combine_124 ?_
    refine lv_lload_n hx hb d_M_combine_127 rfl (lv_at hl 2 rfl) ?_
    refine lv_land hx hb d_M_combine_128 ?_
    exact W.lret hx hb hr (fun t ht hW => ⟨_, rfl, (by rw [m_M_combine, if_neg h1, if_neg h2, if_neg h3, if_neg h4, if_neg h5, if_pos h6]), ht⟩) (fun _ h => by cases h) d_M_combine_129
  by_cases h7 : q = (100 : Int32)
  · refine lv_lookup (tgt := 130) (off := 129) hx hb d_M_combine_1 (by decide) (by rw [h7] <;> rfl) (by decide) ?_
    refine lv_aload_n hx hb d_M_combine_130 rfl (lv_at hl 0 rfl) ?_
    refine va_get (D := D) (ci := 9) (v := .long X.2.1) (C := R_M) (T := F_M) (N := 20) hx hb hts in_M hown hK hP 0 rfl rfl 16 (by decide) (hts _ wd_516) (fun _ h9 => h9) rfl d_M_combine_131 ?_
    refine lv_lload_n hx hb d_M_combine_134 rfl (lv_at hl 2 rfl) ?_
    refine lv_ldc2 (v := 32) hx hb hown (hts _ wd_689) d_M_combine_135 ?_
    refine lv_lrem hx hb d_M_combine_138 (by decide) ?_
    refine lv_l2i hx hb d_M_combine_139 rfl ?_
    refine lv_lshl hx hb d_M_combine_140 rfl ?_
    refine lv_ldc2 (v := 4294967295) hx hb hown (hts _ wd_596) d_M_combine_141 ?_
    refine lv_land hx hb d_M_combine_144 ?_
    exact W.lret hx hb hr (fun t ht hW => ⟨_, rfl, (by rw [m_M_combine, if_neg h1, if_neg h2, if_neg h3, if_neg h4, if_neg h5, if_neg h6, if_pos h7]), ht⟩) (fun _ h => by cases h) d_M_combine_145
  by_cases h8 : q = (116 : Int32)
  · refine lv_lookup (tgt := 146) (off := 145) hx hb d_M_combine_1 (by decide) (by rw [h8] <;> rfl) (by decide) ?_
    refine lv_aload_n hx hb d_M_combine_146 rfl (lv_at hl 0 rfl) ?_
    refine va_get (D := D) (ci := 9) (v := .long X.2.1) (C := R_M) (T := F_M) (N := 20) hx hb hts in_M hown hK hP 0 rfl rfl 16 (by decide) (hts _ wd_516) (fun _ h9 => h9) rfl d_M_combine_147 ?_
    refine lv_lload_n hx hb d_M_combine_150 rfl (lv_at hl 2 rfl) ?_
    refine lv_ldc2 (v := 32) hx hb hown (hts _ wd_689) d_M_combine_151 ?_
    refine lv_lrem hx hb d_M_combine_154 (by decide) ?_
    refine lv_l2i hx hb d_M_combine_155 rfl ?_
    refine lv_lshr hx hb d_M_combine_156 rfl ?_
    exact W.lret hx hb hr (fun t ht hW => ⟨_, rfl, (by rw [m_M_combine, if_neg h1, if_neg h2, if_neg h3, if_neg h4, if_neg h5, if_neg h6, if_neg h7, if_pos h8]), ht⟩) (fun _ h => by cases h) d_M_combine_157
  refine lv_lookup (tgt := 158) (off := 157) hx hb d_M_combine_1 (by decide) ((lv_osw h1 (by decide)).trans ((lv_osw h2 (by decide)).trans ((lv_osw h3 (by decide)).trans ((lv_osw h4 (by decide)).trans ((lv_osw h5 (by decide)).trans ((lv_osw h6 (by decide)).trans ((lv_osw h7 (by decide)).trans ((lv_osw h8 (by decide)).trans rfl)))))))) (by decide) ?_
  refine lv_aload_n hx hb d_M_combine_158 rfl (lv_at hl 0 rfl) ?_
  refine va_get (D := D) (ci := 9) (v := .long X.2.1) (C := R_M) (T := F_M) (N := 20) hx hb hts in_M hown hK hP 0 rfl rfl 16 (by decide) (hts _ wd_516) (fun _ h9 => h9) rfl d_M_combine_159 ?_
  refine lv_lload_n hx hb d_M_combine_162 rfl (lv_at hl 2 rfl) ?_
  refine lv_lxor hx hb d_M_combine_163 ?_
  exact W.lret hx hb hr (fun t ht hW => ⟨_, rfl, (by rw [m_M_combine, if_neg h1, if_neg h2, if_neg h3, if_neg h4, if_neg h5, if_neg h6, if_neg h7, if_neg h8]), ht⟩) (fun _ h => by cases h) d_M_combine_164
def m_M_asks (X : XT) (q : Int32) (y : Int64) : Int32 := if q = (21 : Int32) then if (lg_cmp X.2.1 y) = (0 : Int32) then (1 : Int32) else (0 : Int32) else if q = (37 : Int32) then if (lg_cmp X.2.1 y) ≤ (0 : Int32) then (0 : Int32) else (1 : Int32) else if q = (53 : Int32) then if (lg_cmp X.2.1 y) < (0 : Int32) then (0 : Int32) else (1 : Int32) else if (lg_cmp (X.2.1 &&& y) (0 : Int64)) = (0 : Int32) then (0 : Int32) else (1 : Int32)
set_option maxHeartbeats 4000000 in
set_option maxRecDepth 100000 in
theorem c_M_asks (l : Launch) (D : va_G) (dA : Nat → ClassId) (ad : Nat → Nat) (ho : Int32) (wo : Nat → Int32) (Q : QT) (G : GT) (mk : Nat → Int32) (X : XT) (q : Int32) (y : Int64) : Met l y_M_asks (mW y_M_asks b_M_asks 4 (some .boolean)) { frames := 0, cells := 0, slots := 0, locals := 0 } (va_Pc [.ref (ad 0), .int q, .long y] (fun U => MG D dA ad ho wo Q G mk X U)) (vp_Si (fun r => r = m_M_asks X q y)) 0 0 (fun _ => False) := by
  refine Met.ofW (cc := b_M_asks) (maxL := 4) (ret := (some .boolean)) (by decide) rfl ?_
  intro p e s m args below meth c s₁ B hml hv
  obtain ⟨rfl, hP, hK⟩ := hv
  have hx := B.exec
  have hb := B.bytes
  have hr := B.returns
  have hlocks := B.notSynchronized
  have hts := fun (w : Cond) (h : w ∈ lw_g) => atoms_spec (ws := mW y_M_asks b_M_asks 4 (some .boolean)) B.pre w (List.mem_cons_of_mem _ h)
  have hown : s.vm.findClass R_M = some m.cls := findClass_of_methodNamed B.named
  have hl := lv_entry ([.ref (ad 0), .int q, .long y]) (n := 4) (Nat.le_of_ble_eq_true rfl)
  rw [lg_entry_eq]
  generalize (lg_sl ([.ref (ad 0), .int q, .long y]) ++ List.replicate (4 - (lg_sl ([.ref (ad 0), .int q, .long y])).length) Slot.unset).toArray = ls at hl ⊢
  have hl : lv_has ls 4 [(0, .ref (ad 0)), (1, .int q), (2, .long y)] := hl
  refine lv_iload_n hx hb d_M_asks_0 rfl (lv_at hl 1 rfl) ?_
  refine lv_bipush (v := 21) hx hb d_M_asks_1 (by decide) ?_
  refine lv_icmp_ne (tgt := 23) hx hb d_M_asks_3 (by decide) (fun h1 => ?_) (fun h1 => ?_)
  · refine lv_iload_n hx hb d_M_asks_23 rfl (lv_at hl 1 rfl) ?_
    refine lv_bipush (v := 37) hx hb d_M_asks_24 (by decide) ?_
    refine lv_icmp_ne (tgt := 46) hx hb d_M_asks_26 (by decide) (fun h2 => ?_) (fun h2 => ?_)
    · refine lv_iload_n hx hb d_M_asks_46 rfl (lv_at hl 1 rfl) ?_
      refine lv_bipush (v := 53) hx hb d_M_asks_47 (by decide) ?_
      refine lv_icmp_ne (tgt := 69) hx hb d_M_asks_49 (by decide) (fun h3 => ?_) (fun h3 => ?_)
      · refine lv_aload_n hx hb d_M_asks_69 rfl (lv_at hl 0 rfl) ?_
        refine va_get (D := D) (ci := 9) (v := .long X.2.1) (C := R_M) (T := F_M) (N := 20) hx hb hts in_M hown hK hP 0 rfl rfl 16 (by decide) (hts _ wd_516) (fun _ h9 => h9) rfl d_M_asks_70 ?_
        refine lv_lload_n hx hb d_M_asks_73 rfl (lv_at hl 2 rfl) ?_
        refine lv_land hx hb d_M_asks_74 ?_
        refine lv_lconst (v := 0) hx hb d_M_asks_75 (by decide) ?_
        refine W.lcmp hx hb d_M_asks_76 ?_
        refine lv_if_eq (tgt := 84) hx hb d_M_asks_77 (by decide) (fun h4 => ?_) (fun h4 => ?_)
        · refine lv_iconst (v := 0) hx hb d_M_asks_84 (by decide) ?_
          exact W.zret hx hb hr rfl (fun t ht hW => ⟨_, rfl, (by rw [m_M_asks, if_neg h1, if_neg h2, if_neg h3, if_pos h4]), ht⟩) (fun _ h => by cases h) d_M_asks_85
        refine lv_iconst (v := 1) hx hb d_M_asks_80 (by decide) ?_
        refine lv_goto (tgt := 85) hx hb d_M_asks_81 (by decide) ?_
        exact W.zret hx hb hr rfl (fun t ht hW => ⟨_, rfl, (by rw [m_M_asks, if_neg h1, if_neg h2, if_neg h3, if_neg h4]), ht⟩) (fun _ h => by cases h) d_M_asks_85
      refine lv_aload_n hx hb d_M_asks_52 rfl (lv_at hl 0 rfl) ?_
      refine va_get (D := D) (ci := 9) (v := .long X.2.1) (C := R_M) (T := F_M) (N := 20) hx hb hts in_M hown hK hP 0 rfl rfl 16 (by decide) (hts _ wd_516) (fun _ h9 => h9) rfl d_M_asks_53 ?_
      refine lv_lload_n hx hb d_M_asks_56 rfl (lv_at hl 2 rfl) ?_
      refine W.lcmp hx hb d_M_asks_57 ?_
      refine lv_if_lt (tgt := 65) hx hb d_M_asks_58 (by decide) (fun h5 => ?_) (fun h5 => ?_)
      · refine lv_iconst (v := 0) hx hb d_M_asks_65 (by decide) ?_
        refine lv_goto (tgt := 85) hx hb d_M_asks_66 (by decide) ?_
        exact W.zret hx hb hr rfl (fun t ht hW => ⟨_, rfl, (by rw [m_M_asks, if_neg h1, if_neg h2, if_pos h3, if_pos h5]), ht⟩) (fun _ h => by cases h) d_M_asks_85
      refine lv_iconst (v := 1) hx hb d_M_asks_61 (by decide) ?_
      refine lv_goto (tgt := 85) hx hb d_M_asks_62 (by decide) ?_
      exact W.zret hx hb hr rfl (fun t ht hW => ⟨_, rfl, (by rw [m_M_asks, if_neg h1, if_neg h2, if_pos h3, if_neg h5]), ht⟩) (fun _ h => by cases h) d_M_asks_85
    refine lv_aload_n hx hb d_M_asks_29 rfl (lv_at hl 0 rfl) ?_
    refine va_get (D := D) (ci := 9) (v := .long X.2.1) (C := R_M) (T := F_M) (N := 20) hx hb hts in_M hown hK hP 0 rfl rfl 16 (by decide) (hts _ wd_516) (fun _ h9 => h9) rfl d_M_asks_30 ?_
    refine lv_lload_n hx hb d_M_asks_33 rfl (lv_at hl 2 rfl) ?_
    refine W.lcmp hx hb d_M_asks_34 ?_
    refine lv_if_le (tgt := 42) hx hb d_M_asks_35 (by decide) (fun h6 => ?_) (fun h6 => ?_)
    · refine lv_iconst (v := 0) hx hb d_M_asks_42 (by decide) ?_
      refine lv_goto (tgt := 85) hx hb d_M_asks_43 (by decide) ?_
      exact W.zret hx hb hr rfl (fun t ht hW => ⟨_, rfl, (by rw [m_M_asks, if_neg h1, if_pos h2, if_pos h6]), ht⟩) (fun _ h => by cases h) d_M_asks_85
    refine lv_iconst (v := 1) hx hb d_M_asks_38 (by decide) ?_
    refine lv_goto (tgt := 85) hx hb d_M_asks_39 (by decide) ?_
    exact W.zret hx hb hr rfl (fun t ht hW => ⟨_, rfl, (by rw [m_M_asks, if_neg h1, if_pos h2, if_neg h6]), ht⟩) (fun _ h => by cases h) d_M_asks_85
  refine lv_aload_n hx hb d_M_asks_6 rfl (lv_at hl 0 rfl) ?_
  refine va_get (D := D) (ci := 9) (v := .long X.2.1) (C := R_M) (T := F_M) (N := 20) hx hb hts in_M hown hK hP 0 rfl rfl 16 (by decide) (hts _ wd_516) (fun _ h9 => h9) rfl d_M_asks_7 ?_
  refine lv_lload_n hx hb d_M_asks_10 rfl (lv_at hl 2 rfl) ?_
  refine W.lcmp hx hb d_M_asks_11 ?_
  refine lv_if_ne (tgt := 19) hx hb d_M_asks_12 (by decide) (fun h7 => ?_) (fun h7 => ?_)
  · refine lv_iconst (v := 0) hx hb d_M_asks_19 (by decide) ?_
    refine lv_goto (tgt := 85) hx hb d_M_asks_20 (by decide) ?_
    exact W.zret hx hb hr rfl (fun t ht hW => ⟨_, rfl, (by rw [m_M_asks, if_pos h1, if_neg h7]), ht⟩) (fun _ h => by cases h) d_M_asks_85
  refine lv_iconst (v := 1) hx hb d_M_asks_15 (by decide) ?_
  refine lv_goto (tgt := 85) hx hb d_M_asks_16 (by decide) ?_
  exact W.zret hx hb hr rfl (fun t ht hW => ⟨_, rfl, (by rw [m_M_asks, if_pos h1, if_pos h7]), ht⟩) (fun _ h => by cases h) d_M_asks_85
def m_M_move (wo : Nat → Int32) (X : XT) (cd : Int32) (kk : Int64) : XT := if cd = (0 : Int32) then (X.1, kk, X.2.2.1, X.2.2.2.1, X.2.2.2.2) else if cd = (1 : Int32) then (X.1, X.2.1, kk, X.2.2.2.1, X.2.2.2.2) else if cd = (2 : Int32) then if cd = (2 : Int32) then (X.1, X.2.1, X.2.2.1, vp_updL X.2.2.2.1 kk.toInt32.toNatClampNeg X.2.1, upd X.2.2.2.2 kk.toInt32.toNatClampNeg (1 : Int32)) else (X.1, X.2.1, X.2.2.1, vp_updL X.2.2.2.1 kk.toInt32.toNatClampNeg X.2.2.1, upd X.2.2.2.2 kk.toInt32.toNatClampNeg (1 : Int32)) else if cd = (3 : Int32) then if cd = (2 : Int32) then (X.1, X.2.1, X.2.2.1, vp_updL X.2.2.2.1 kk.toInt32.toNatClampNeg X.2.1, upd X.2.2.2.2 kk.toInt32.toNatClampNeg (1 : Int32)) else (X.1, X.2.1, X.2.2.1, vp_updL X.2.2.2.1 kk.toInt32.toNatClampNeg X.2.2.1, upd X.2.2.2.2 kk.toInt32.toNatClampNeg (1 : Int32)) else if cd = (7 : Int32) then (X.1, X.2.1, X.2.1, X.2.2.2.1, X.2.2.2.2) else if cd = (32 : Int32) then (X.1, m_M_plain wo (kk.toInt32 / (4 : Int32)), X.2.2.1, X.2.2.2.1, X.2.2.2.2) else if cd = (96 : Int32) then (X.1, X.2.2.2.1 kk.toInt32.toNatClampNeg, X.2.2.1, X.2.2.2.1, X.2.2.2.2) else if cd = (97 : Int32) then (X.1, X.2.1, X.2.2.2.1 kk.toInt32.toNatClampNeg, X.2.2.2.1, X.2.2.2.2) else if cd = (128 : Int32) then (X.1, (64 : Int64), X.2.2.1, X.2.2.2.1, X.2.2.2.2) else if cd = (129 : Int32) then (X.1, X.2.1, (64 : Int64), X.2.2.2.1, X.2.2.2.2) else if cd = (135 : Int32) then (X.1, X.2.2.1, X.2.2.1, X.2.2.2.1, X.2.2.2.2) else (X.1, ((0 : Int64) - X.2.1) &&& (4294967295 : Int64), X.2.2.1, X.2.2.2.1, X.2.2.2.2)
set_option maxHeartbeats 4000000 in
set_option maxRecDepth 100000 in
theorem c_M_move (l : Launch) (D : va_G) (dA : Nat → ClassId) (ad : Nat → Nat) (A : Nat → Prop) (hAd : AdOK 15 ad A) (ho : Int32) (wo : Nat → Int32) (Q : QT) (G : GT) (mk : Nat → Int32) (X : XT) (cd : Int32) (kk : Int64) (hw : cd = (32 : Int32) → vp_in (kk.toInt32 / (4 : Int32)) 16) (hs : (cd = (96 : Int32) ∨ cd = (97 : Int32) ∨ cd = (2 : Int32) ∨ cd = (3 : Int32)) → vp_in kk.toInt32 16) : Met l y_M_move (mW y_M_move b_M_move 4 none) { frames := 1, cells := 0, slots := 0, locals := 21 } (va_Pc [.ref (ad 0), .int cd, .long kk] (fun U => MG D dA ad ho wo Q G mk X U)) (va_Qv (fun u : XT => u = m_M_move wo X cd kk) (fun u t => MG D dA ad ho wo Q G mk u t) A) 0 0 A := by
  refine Met.ofW (cc := b_M_move) (maxL := 4) (ret := none) (by decide) rfl ?_
  intro p e s m args below meth c s₁ B hml hv
  obtain ⟨rfl, hP, hK⟩ := hv
  have hx := B.exec
  have hb := B.bytes
  have hr := B.returns
  have hlocks := B.notSynchronized
  have hts := fun (w : Cond) (h : w ∈ lw_g) => atoms_spec (ws := mW y_M_move b_M_move 4 none) B.pre w (List.mem_cons_of_mem _ h)
  have hown : s.vm.findClass R_M = some m.cls := findClass_of_methodNamed B.named
  have hS : va_S A s.heap s.heap [] := va_S.rf
  have hl := lv_entry ([.ref (ad 0), .int cd, .long kk]) (n := 4) (Nat.le_of_ble_eq_true rfl)
  rw [lg_entry_eq]
  generalize (lg_sl ([.ref (ad 0), .int cd, .long kk]) ++ List.replicate (4 - (lg_sl ([.ref (ad 0), .int cd, .long kk])).length) Slot.unset).toArray = ls at hl ⊢
  have hl : lv_has ls 4 [(0, .ref (ad 0)), (1, .int cd), (2, .long kk)] := hl
  refine lv_iload_n hx hb d_M_move_0 rfl (lv_at hl 1 rfl) ?_
  by_cases h1 : cd = (0 : Int32)
  · refine lv_lookup (tgt := 100) (off := 99) hx hb d_M_move_1 (by decide) (by rw [h1] <;> rfl) (by decide) ?_
    refine lv_aload_n hx hb d_M_move_100 rfl (lv_at hl 0 rfl) ?_
    refine lv_lload_n hx hb d_M_move_101 rfl (lv_at hl 2 rfl) ?_
    refine va_put (D := D) (ci := 9) (v := .long kk) (ty := .long) (C := R_M) (T := F_M) (N := 20) hx hb hts in_M t_M k_M n_M hown hK hP (wM_D hAd) hS 0 rfl rfl 16 (by decide) (hts _ wd_516) (fun _ h9 => h9) rfl (by decide +kernel) rfl rfl (Nat.le_of_ble_eq_true rfl) d_M_move_102 (fun H locs hP _ hS => ?_)
    have hP : va_P D cls (wM ad dA ho wo Q G mk (X.1, kk, X.2.2.1, X.2.2.2.1, X.2.2.2.2)) H := hP
    refine lv_goto (tgt := 249) hx hb d_M_move_105 (by decide) ?_
    exact W.vret hx hb hr (fun t ht hW => ⟨⟨_, rfl, (by rw [m_M_move, if_pos h1]), MG_at hP hK ht hW⟩, hS.F ht⟩) hS.2.2 d_M_move_249
  by_cases h2 : cd = (1 : Int32)
  · refine lv_lookup (tgt := 147) (off := 146) hx hb d_M_move_1 (by decide) (by rw [h2] <;> rfl) (by decide) ?_
    refine lv_aload_n hx hb d_M_move_147 rfl (lv_at hl 0 rfl) ?_
    refine lv_lload_n hx hb d_M_move_148 rfl (lv_at hl 2 rfl) ?_
    refine va_put (D := D) (ci := 9) (v := .long kk) (ty := .long) (C := R_M) (T := F_M) (N := 20) hx hb hts in_M t_M k_M n_M hown hK hP (wM_D hAd) hS 0 rfl rfl 17 (by decide) (hts _ wd_517) (fun _ h9 => h9) rfl (by decide +kernel) rfl rfl (Nat.le_of_ble_eq_true rfl) d_M_move_149 (fun H locs hP _ hS => ?_)
    have hP : va_P D cls (wM ad dA ho wo Q G mk (X.1, X.2.1, kk, X.2.2.2.1, X.2.2.2.2)) H := hP
    refine lv_goto (tgt := 249) hx hb d_M_move_152 (by decide) ?_
    exact W.vret hx hb hr (fun t ht hW => ⟨⟨_, rfl, (by rw [m_M_move, if_neg h1, if_pos h2]), MG_at hP hK ht hW⟩, hS.F ht⟩) hS.2.2 d_M_move_249
  by_cases h3 : cd = (2 : Int32)
  · refine lv_lookup (tgt := 179) (off := 178) hx hb d_M_move_1 (by decide) (by rw [h3] <;> rfl) (by decide) ?_
    refine lv_aload_n hx hb d_M_move_179 rfl (lv_at hl 0 rfl) ?_
    refine va_get (D := D) (ci := 9) (v := .ref (ad 13)) (C := R_M) (T := F_M) (N := 20) hx hb hts in_M hown hK hP 0 rfl rfl 18 (by decide) (hts _ wd_518) (fun _ h9 => h9) rfl d_M_move_180 ?_
    refine lv_lload_n hx hb d_M_move_183 rfl (lv_at hl 2 rfl) ?_
    refine lv_l2i hx hb d_M_move_184 rfl ?_
    refine lv_iload_n hx hb d_M_move_185 rfl (lv_at hl 1 rfl) ?_
    refine lv_iconst (v := 2) hx hb d_M_move_186 (by decide) ?_
    refine lv_icmp_ne (tgt := 197) hx hb d_M_move_187 (by decide) (fun h4 => ?_) (fun h4 => ?_)
    · refine lv_aload_n hx hb d_M_move_197 rfl (lv_at hl 0 rfl) ?_
      refine va_get (D := D) (ci := 9) (v := .long X.2.2.1) (C := R_M) (T := F_M) (N := 20) hx hb hts in_M hown hK hP 0 rfl rfl 17 (by decide) (hts _ wd_517) (fun _ h9 => h9) rfl d_M_move_198 ?_
      refine va_last (n := 16) (f := X.2.2.2.1) hx hb hK hP (wM_D hAd) hS 13 1 rfl rfl (hs (by first | exact Or.inl (by assumption) | exact Or.inr (Or.inl (by assumption)) | exact Or.inr (Or.inr (Or.inl (by assumption))) | exact Or.inr (Or.inr (Or.inr (by assumption))))) d_M_move_201 (fun H locs hP _ hS => ?_)
      have hP : va_P D cls (wM ad dA ho wo Q G mk (X.1, X.2.1, X.2.2.1, vp_updL X.2.2.2.1 kk.toInt32.toNatClampNeg X.2.2.1, X.2.2.2.2)) H := hP
      refine lv_aload_n hx hb d_M_move_202 rfl (lv_at hl 0 rfl) ?_
      refine va_get (D := D) (ci := 9) (v := .ref (ad 14)) (C := R_M) (T := F_M) (N := 20) hx hb hts in_M hown hK hP 0 rfl rfl 19 (by decide) (hts _ wd_519) (fun _ h9 => h9) rfl d_M_move_203 ?_
      refine lv_lload_n hx hb d_M_move_206 rfl (lv_at hl 2 rfl) ?_
      refine lv_l2i hx hb d_M_move_207 rfl ?_
      refine lv_iconst (v := 1) hx hb d_M_move_208 (by decide) ?_
      refine va_zast (n := 16) (f := X.2.2.2.2) hx hb hK hP (wM_D hAd) hS 14 4 rfl rfl (hs (by first | exact Or.inl (by assumption) | exact Or.inr (Or.inl (by assumption)) | exact Or.inr (Or.inr (Or.inl (by assumption))) | exact Or.inr (Or.inr (Or.inr (by assumption))))) d_M_move_209 (fun H locs hP _ hS => ?_)
      have hP : va_P D cls (wM ad dA ho wo Q G mk (X.1, X.2.1, X.2.2.1, vp_updL X.2.2.2.1 kk.toInt32.toNatClampNeg X.2.2.1, upd X.2.2.2.2 kk.toInt32.toNatClampNeg (1 : Int32))) H := hP
      refine lv_goto (tgt := 249) hx hb d_M_move_210 (by decide) ?_
      exact W.vret hx hb hr (fun t ht hW => ⟨⟨_, rfl, (by rw [m_M_move, if_neg h1, if_neg h2, if_pos h3, if_neg h4]), MG_at hP hK ht hW⟩, hS.F ht⟩) hS.2.2 d_M_move_249
    refine lv_aload_n hx hb d_M_move_190 rfl (lv_at hl 0 rfl) ?_
    refine va_get (D := D) (ci := 9) (v := .long X.2.1) (C := R_M) (T := F_M) (N := 20) hx hb hts in_M hown hK hP 0 rfl rfl 16 (by decide) (hts _ wd_516) (fun _ h9 => h9) rfl d_M_move_191 ?_
    refine lv_goto (tgt := 201) hx hb d_M_move_194 (by decide) ?_
    refine va_last (n := 16) (f := X.2.2.2.1) hx hb hK hP (wM_D hAd) hS 13 1 rfl rfl (hs (by first | exact Or.inl (by assumption) | exact Or.inr (Or.inl (by assumption)) | exact Or.inr (Or.inr (Or.inl (by assumption))) | exact Or.inr (Or.inr (Or.inr (by assumption))))) d_M_move_201 (fun H locs hP _ hS => ?_)
    have hP : va_P D cls (wM ad dA ho wo Q G mk (X.1, X.2.1, X.2.2.1, vp_updL X.2.2.2.1 kk.toInt32.toNatClampNeg X.2.1, X.2.2.2.2)) H := hP
    refine lv_aload_n hx hb d_M_move_202 rfl (lv_at hl 0 rfl) ?_
    refine va_get (D := D) (ci := 9) (v := .ref (ad 14)) (C := R_M) (T := F_M) (N := 20) hx hb hts in_M hown hK hP 0 rfl rfl 19 (by decide) (hts _ wd_519) (fun _ h9 => h9) rfl d_M_move_203 ?_
    refine lv_lload_n hx hb d_M_move_206 rfl (lv_at hl 2 rfl) ?_
    refine lv_l2i hx hb d_M_move_207 rfl ?_
    refine lv_iconst (v := 1) hx hb d_M_move_208 (by decide) ?_
    refine va_zast (n := 16) (f := X.2.2.2.2) hx hb hK hP (wM_D hAd) hS 14 4 rfl rfl (hs (by first | exact Or.inl (by assumption) | exact Or.inr (Or.inl (by assumption)) | exact Or.inr (Or.inr (Or.inl (by assumption))) | exact Or.inr (Or.inr (Or.inr (by assumption))))) d_M_move_209 (fun H locs hP _ hS => ?_)
    have hP : va_P D cls (wM ad dA ho wo Q G mk (X.1, X.2.1, X.2.2.1, vp_updL X.2.2.2.1 kk.toInt32.toNatClampNeg X.2.1, upd X.2.2.2.2 kk.toInt32.toNatClampNeg (1 : Int32))) H := hP
    refine lv_goto (tgt := 249) hx hb d_M_move_210 (by decide) ?_
    exact W.vret hx hb hr (fun t ht hW => ⟨⟨_, rfl, (by rw [m_M_move, if_neg h1, if_neg h2, if_pos h3, if_pos h4]), MG_at hP hK ht hW⟩, hS.F ht⟩) hS.2.2 d_M_move_249
  by_cases h5 : cd = (3 : Int32)
  · refine lv_lookup (tgt := 179) (off := 178) hx hb d_M_move_1 (by decide) (by rw [h5] <;> rfl) (by decide) ?_
    refine lv_aload_n hx hb d_M_move_179 rfl (lv_at hl 0 rfl) ?_
    refine va_get (D := D) (ci := 9) (v := .ref (ad 13)) (C := R_M) (T := F_M) (N := 20) hx hb hts in_M hown hK hP 0 rfl rfl 18 (by decide) (hts _ wd_518) (fun _ h9 => h9) rfl d_M_move_180 ?_
    refine lv_lload_n hx hb d_M_move_183 rfl (lv_at hl 2 rfl) ?_
    refine lv_l2i hx hb d_M_move_184 rfl ?_
    refine lv_iload_n hx hb d_M_move_185 rfl (lv_at hl 1 rfl) ?_
    refine lv_iconst (v := 2) hx hb d_M_move_186 (by decide) ?_
    refine lv_icmp_ne (tgt := 197) hx hb d_M_move_187 (by decide) (fun h6 => ?_) (fun h6 => ?_)
    · refine lv_aload_n hx hb d_M_move_197 rfl (lv_at hl 0 rfl) ?_
      refine va_get (D := D) (ci := 9) (v := .long X.2.2.1) (C := R_M) (T := F_M) (N := 20) hx hb hts in_M hown hK hP 0 rfl rfl 17 (by decide) (hts _ wd_517) (fun _ h9 => h9) rfl d_M_move_198 ?_
      refine va_last (n := 16) (f := X.2.2.2.1) hx hb hK hP (wM_D hAd) hS 13 1 rfl rfl (hs (by first | exact Or.inl (by assumption) | exact Or.inr (Or.inl (by assumption)) | exact Or.inr (Or.inr (Or.inl (by assumption))) | exact Or.inr (Or.inr (Or.inr (by assumption))))) d_M_move_201 (fun H locs hP _ hS => ?_)
      have hP : va_P D cls (wM ad dA ho wo Q G mk (X.1, X.2.1, X.2.2.1, vp_updL X.2.2.2.1 kk.toInt32.toNatClampNeg X.2.2.1, X.2.2.2.2)) H := hP
      refine lv_aload_n hx hb d_M_move_202 rfl (lv_at hl 0 rfl) ?_
      refine va_get (D := D) (ci := 9) (v := .ref (ad 14)) (C := R_M) (T := F_M) (N := 20) hx hb hts in_M hown hK hP 0 rfl rfl 19 (by decide) (hts _ wd_519) (fun _ h9 => h9) rfl d_M_move_203 ?_
      refine lv_lload_n hx hb d_M_move_206 rfl (lv_at hl 2 rfl) ?_
      refine lv_l2i hx hb d_M_move_207 rfl ?_
      refine lv_iconst (v := 1) hx hb d_M_move_208 (by decide) ?_
      refine va_zast (n := 16) (f := X.2.2.2.2) hx hb hK hP (wM_D hAd) hS 14 4 rfl rfl (hs (by first | exact Or.inl (by assumption) | exact Or.inr (Or.inl (by assumption)) | exact Or.inr (Or.inr (Or.inl (by assumption))) | exact Or.inr (Or.inr (Or.inr (by assumption))))) d_M_move_209 (fun H locs hP _ hS => ?_)
      have hP : va_P D cls (wM ad dA ho wo Q G mk (X.1, X.2.1, X.2.2.1, vp_updL X.2.2.2.1 kk.toInt32.toNatClampNeg X.2.2.1, upd X.2.2.2.2 kk.toInt32.toNatClampNeg (1 : Int32))) H := hP
      refine lv_goto (tgt := 249) hx hb d_M_move_210 (by decide) ?_
      exact W.vret hx hb hr (fun t ht hW => ⟨⟨_, rfl, (by rw [m_M_move, if_neg h1, if_neg h2, if_neg h3, if_pos h5, if_neg h6]), MG_at hP hK ht hW⟩, hS.F ht⟩) hS.2.2 d_M_move_249
    refine lv_aload_n hx hb d_M_move_190 rfl (lv_at hl 0 rfl) ?_
    refine va_get (D := D) (ci := 9) (v := .long X.2.1) (C := R_M) (T := F_M) (N := 20) hx hb hts in_M hown hK hP 0 rfl rfl 16 (by decide) (hts _ wd_516) (fun _ h9 => h9) rfl d_M_move_191 ?_
    refine lv_goto (tgt := 201) hx hb d_M_move_194 (by decide) ?_
    refine va_last (n := 16) (f := X.2.2.2.1) hx hb hK hP (wM_D hAd) hS 13 1 rfl rfl (hs (by first | exact Or.inl (by assumption) | exact Or.inr (Or.inl (by assumption)) | exact Or.inr (Or.inr (Or.inl (by assumption))) | exact Or.inr (Or.inr (Or.inr (by assumption))))) d_M_move_201 (fun H locs hP _ hS => ?_)
    have hP : va_P D cls (wM ad dA ho wo Q G mk (X.1, X.2.1, X.2.2.1, vp_updL X.2.2.2.1 kk.toInt32.toNatClampNeg X.2.1, X.2.2.2.2)) H := hP
    refine lv_aload_n hx hb d_M_move_202 rfl (lv_at hl 0 rfl) ?_
    refine va_get (D := D) (ci := 9) (v := .ref (ad 14)) (C := R_M) (T := F_M) (N := 20) hx hb hts in_M hown hK hP 0 rfl rfl 19 (by decide) (hts _ wd_519) (fun _ h9 => h9) rfl d_M_move_203 ?_
    refine lv_lload_n hx hb d_M_move_206 rfl (lv_at hl 2 rfl) ?_
    refine lv_l2i hx hb d_M_move_207 rfl ?_
    refine lv_iconst (v := 1) hx hb d_M_move_208 (by decide) ?_
    refine va_zast (n := 16) (f := X.2.2.2.2) hx hb hK hP (wM_D hAd) hS 14 4 rfl rfl (hs (by first | exact Or.inl (by assumption) | exact Or.inr (Or.inl (by assumption)) | exact Or.inr (Or.inr (Or.inl (by assumption))) | exact Or.inr (Or.inr (Or.inr (by assumption))))) d_M_move_209 (fun H locs hP _ hS => ?_)
    have hP : va_P D cls (wM ad dA ho wo Q G mk (X.1, X.2.1, X.2.2.1, vp_updL X.2.2.2.1 kk.toInt32.toNatClampNeg X.2.1, upd X.2.2.2.2 kk.toInt32.toNatClampNeg (1 : Int32))) H := hP
    refine lv_goto (tgt := 249) hx hb d_M_move_210 (by decide) ?_
    exact W.vret hx hb hr (fun t ht hW => ⟨⟨_, rfl, (by rw [m_M_move, if_neg h1, if_neg h2, if_neg h3, if_pos h5, if_pos h6]), MG_at hP hK ht hW⟩, hS.F ht⟩) hS.2.2 d_M_move_249
  by_cases h7 : cd = (7 : Int32)
  · refine lv_lookup (tgt := 213) (off := 212) hx hb d_M_move_1 (by decide) (by rw [h7] <;> rfl) (by decide) ?_
    refine lv_aload_n hx hb d_M_move_213 rfl (lv_at hl 0 rfl) ?_
    refine lv_aload_n hx hb d_M_move_214 rfl (lv_at hl 0 rfl) ?_
    refine va_get (D := D) (ci := 9) (v := .long X.2.1) (C := R_M) (T := F_M) (N := 20) hx hb hts in_M hown hK hP 0 rfl rfl 16 (by decide) (hts _ wd_516) (fun _ h9 => h9) rfl d_M_move_215 ?_
    refine va_put (D := D) (ci := 9) (v := .long X.2.1) (ty := .long) (C := R_M) (T := F_M) (N := 20) hx hb hts in_M t_M k_M n_M hown hK hP (wM_D hAd) hS 0 rfl rfl 17 (by decide) (hts _ wd_517) (fun _ h9 => h9) rfl (by decide +kernel) rfl rfl (Nat.le_of_ble_eq_true rfl) d_M_move_218 (fun H locs hP _ hS => ?_)
    have hP : va_P D cls (wM ad dA ho wo Q G mk (X.1, X.2.1, X.2.1, X.2.2.2.1, X.2.2.2.2)) H := hP
    refine lv_goto (tgt := 249) hx hb d_M_move_221 (by decide) ?_
    exact W.vret hx hb hr (fun t ht hW => ⟨⟨_, rfl, (by rw [m_M_move, if_neg h1, if_neg h2, if_neg h3, if_neg h5, if_pos h7]), MG_at hP hK ht hW⟩, hS.F ht⟩) hS.2.2 d_M_move_249
  by_cases h8 : cd = (32 : Int32)
  · refine lv_lookup (tgt := 108) (off := 107) hx hb d_M_move_1 (by decide) (by rw [h8] <;> rfl) (by decide) ?_
    refine lv_aload_n hx hb d_M_move_108 rfl (lv_at hl 0 rfl) ?_
    refine lv_aload_n hx hb d_M_move_109 rfl (lv_at hl 0 rfl) ?_
    refine lv_lload_n hx hb d_M_move_110 rfl (lv_at hl 2 rfl) ?_
    refine lv_l2i hx hb d_M_move_111 rfl ?_
    refine lv_iconst (v := 4) hx hb d_M_move_112 (by decide) ?_
    refine lv_idiv hx hb d_M_move_113 (by decide) ?_
    refine vp_callSl (va_Run.run (va_runV (As := [.int (kk.toInt32 / (4 : Int32))]) (rest := [.ref (ad 0)]) ⟨hx, hb, hml, hown, hts⟩ (c_M_plain l D dA ad ho wo Q G mk X (kk.toInt32 / (4 : Int32)) (hw (by assumption))) (cwV 1 hts (g_V wd_592 wd_594 wd_13 wd_35 wd_595) rfl rfl rfl (by decide +kernel) ⟨Nat.le_of_ble_eq_true rfl, Nat.le_of_ble_eq_true rfl⟩) ⟨MG_fb, (va_recv (ci := 9) (q := (R_M, F_M, 20)) (q0 := 0) hK hP rfl rfl), fun U hU hW => ⟨rfl, MG_at hP hK hU hW⟩⟩ rfl rfl hl.1 rfl (lv_room (Nat.le_of_ble_eq_true rfl)) d_M_move_114 ⟨Nat.le_of_ble_eq_true rfl, Nat.le_of_ble_eq_true rfl⟩)) (fun r1 e1 => ?_)
    subst e1
    refine va_put (D := D) (ci := 9) (v := .long (m_M_plain wo (kk.toInt32 / (4 : Int32)))) (ty := .long) (C := R_M) (T := F_M) (N := 20) hx hb hts in_M t_M k_M n_M hown hK hP (wM_D hAd) hS 0 rfl rfl 16 (by decide) (hts _ wd_516) (fun _ h9 => h9) rfl (by decide +kernel) rfl rfl (Nat.le_of_ble_eq_true rfl) d_M_move_117 (fun H locs hP _ hS => ?_)
    have hP : va_P D cls (wM ad dA ho wo Q G mk (X.1, m_M_plain wo (kk.toInt32 / (4 : Int32)), X.2.2.1, X.2.2.2.1, X.2.2.2.2)) H := hP
    refine lv_goto (tgt := 249) hx hb d_M_move_120 (by decide) ?_
    exact W.vret hx hb hr (fun t ht hW => ⟨⟨_, rfl, (by rw [m_M_move, if_neg h1, if_neg h2, if_neg h3, if_neg h5, if_neg h7, if_pos h8]), MG_at hP hK ht hW⟩, hS.F ht⟩) hS.2.2 d_M_move_249
  by_cases h9 : cd = (96 : Int32)
  · refine lv_lookup (tgt := 123) (off := 122) hx hb d_M_move_1 (by decide) (by rw [h9] <;> rfl) (by decide) ?_
    refine lv_aload_n hx hb d_M_move_123 rfl (lv_at hl 0 rfl) ?_
    refine lv_aload_n hx hb d_M_move_124 rfl (lv_at hl 0 rfl) ?_
    refine va_get (D := D) (ci := 9) (v := .ref (ad 13)) (C := R_M) (T := F_M) (N := 20) hx hb hts in_M hown hK hP 0 rfl rfl 18 (by decide) (hts _ wd_518) (fun _ h9 => h9) rfl d_M_move_125 ?_
    refine lv_lload_n hx hb d_M_move_128 rfl (lv_at hl 2 rfl) ?_
    refine lv_l2i hx hb d_M_move_129 rfl ?_
    refine va_lald (n := 16) (f := X.2.2.2.1) hx hb hK hP 13 1 rfl rfl (hs (by first | exact Or.inl (by assumption) | exact Or.inr (Or.inl (by assumption)) | exact Or.inr (Or.inr (Or.inl (by assumption))) | exact Or.inr (Or.inr (Or.inr (by assumption))))) d_M_move_130 ?_
    refine va_put (D := D) (ci := 9) (v := .long (X.2.2.2.1 kk.toInt32.toNatClampNeg)) (ty := .long) (C := R_M) (T := F_M) (N := 20) hx hb hts in_M t_M k_M n_M hown hK hP (wM_D hAd) hS 0 rfl rfl 16 (by decide) (hts _ wd_516) (fun _ h9 => h9) rfl (by decide +kernel) rfl rfl (Nat.le_of_ble_eq_true rfl) d_M_move_131 (fun H locs hP _ hS => ?_)
    have hP : va_P D cls (wM ad dA ho wo Q G mk (X.1, X.2.2.2.1 kk.toInt32.toNatClampNeg, X.2.2.1, X.2.2.2.1, X.2.2.2.2)) H := hP
    refine lv_goto (tgt := 249) hx hb d_M_move_134 (by decide) ?_
    exact W.vret hx hb hr (fun t ht hW => ⟨⟨_, rfl, (by rw [m_M_move, if_neg h1, if_neg h2, if_neg h3, if_neg h5, if_neg h7, if_neg h8, if_pos h9]), MG_at hP hK ht hW⟩, hS.F ht⟩) hS.2.2 d_M_move_249
  by_cases h10 : cd = (97 : Int32)
  · refine lv_lookup (tgt := 155) (off := 154) hx hb d_M_move_1 (by decide) (by rw [h10] <;> rfl) (by decide) ?_
    refine lv_aload_n hx hb d_M_move_155 rfl (lv_at hl 0 rfl) ?_
    refine lv_aload_n hx hb d_M_move_156 rfl (lv_at hl 0 rfl) ?_
    refine va_get (D := D) (ci := 9) (v := .ref (ad 13)) (C := R_M) (T := F_M) (N := 20) hx hb hts in_M hown hK hP 0 rfl rfl 18 (by decide) (hts _ wd_518) (fun _ h9 => h9) rfl d_M_move_157 ?_
    refine lv_lload_n hx hb d_M_move_160 rfl (lv_at hl 2 rfl) ?_
    refine lv_l2i hx hb d_M_move_161 rfl ?_
    refine va_lald (n := 16) (f := X.2.2.2.1) hx hb hK hP 13 1 rfl rfl (hs (by first | exact Or.inl (by assumption) | exact Or.inr (Or.inl (by assumption)) | exact Or.inr (Or.inr (Or.inl (by assumption))) | exact Or.inr (Or.inr (Or.inr (by assumption))))) d_M_move_162 ?_
    refine va_put (D := D) (ci := 9) (v := .long (X.2.2.2.1 kk.toInt32.toNatClampNeg)) (ty := .long) (C := R_M) (T := F_M) (N := 20) hx hb hts in_M t_M k_M n_M hown hK hP (wM_D hAd) hS 0 rfl rfl 17 (by decide) (hts _ wd_517) (fun _ h9 => h9) rfl (by decide +kernel) rfl rfl (Nat.le_of_ble_eq_true rfl) d_M_move_163 (fun H locs hP _ hS => ?_)
    have hP : va_P D cls (wM ad dA ho wo Q G mk (X.1, X.2.1, X.2.2.2.1 kk.toInt32.toNatClampNeg, X.2.2.2.1, X.2.2.2.2)) H := hP
    refine lv_goto (tgt := 249) hx hb d_M_move_166 (by decide) ?_
    exact W.vret hx hb hr (fun t ht hW => ⟨⟨_, rfl, (by rw [m_M_move, if_neg h1, if_neg h2, if_neg h3, if_neg h5, if_neg h7, if_neg h8, if_neg h9, if_pos h10]), MG_at hP hK ht hW⟩, hS.F ht⟩) hS.2.2 d_M_move_249
  by_cases h11 : cd = (128 : Int32)
  · refine lv_lookup (tgt := 137) (off := 136) hx hb d_M_move_1 (by decide) (by rw [h11] <;> rfl) (by decide) ?_
    refine lv_aload_n hx hb d_M_move_137 rfl (lv_at hl 0 rfl) ?_
    refine lv_ldc2 (v := 64) hx hb hown (hts _ wd_698) d_M_move_138 ?_
    refine va_put (D := D) (ci := 9) (v := .long (64 : Int64)) (ty := .long) (C := R_M) (T := F_M) (N := 20) hx hb hts in_M t_M k_M n_M hown hK hP (wM_D hAd) hS 0 rfl rfl 16 (by decide) (hts _ wd_516) (fun _ h9 => h9) rfl (by decide +kernel) rfl rfl (Nat.le_of_ble_eq_true rfl) d_M_move_141 (fun H locs hP _ hS => ?_)
    have hP : va_P D cls (wM ad dA ho wo Q G mk (X.1, (64 : Int64), X.2.2.1, X.2.2.2.1, X.2.2.2.2)) H := hP
    refine lv_goto (tgt := 249) hx hb d_M_move_144 (by decide) ?_
    exact W.vret hx hb hr (fun t ht hW => ⟨⟨_, rfl, (by rw [m_M_move, if_neg h1, if_neg h2, if_neg h3, if_neg h5, if_neg h7, if_neg h8, if_neg h9, if_neg h10, if_pos h11]), MG_at hP hK ht hW⟩, hS.F ht⟩) hS.2.2 d_M_move_249
  by_cases h12 : cd = (129 : Int32)
  · refine lv_lookup (tgt := 169) (off := 168) hx hb d_M_move_1 (by decide) (by rw [h12] <;> rfl) (by decide) ?_
    refine lv_aload_n hx hb d_M_move_169 rfl (lv_at hl 0 rfl) ?_
    refine lv_ldc2 (v := 64) hx hb hown (hts _ wd_698) d_M_move_170 ?_
    refine va_put (D := D) (ci := 9) (v := .long (64 : Int64)) (ty := .long) (C := R_M) (T := F_M) (N := 20) hx hb hts in_M t_M k_M n_M hown hK hP (wM_D hAd) hS 0 rfl rfl 17 (by decide) (hts _ wd_517) (fun _ h9 => h9) rfl (by decide +kernel) rfl rfl (Nat.le_of_ble_eq_true rfl) d_M_move_173 (fun H locs hP _ hS => ?_)
    have hP : va_P D cls (wM ad dA ho wo Q G mk (X.1, X.2.1, (64 : Int64), X.2.2.2.1, X.2.2.2.2)) H := hP
    refine lv_goto (tgt := 249) hx hb d_M_move_176 (by decide) ?_
    exact W.vret hx hb hr (fun t ht hW => ⟨⟨_, rfl, (by rw [m_M_move, if_neg h1, if_neg h2, if_neg h3, if_neg h5, if_neg h7, if_neg h8, if_neg h9, if_neg h10, if_neg h11, if_pos h12]), MG_at hP hK ht hW⟩, hS.F ht⟩) hS.2.2 d_M_move_249
  by_cases h13 : cd = (135 : Int32)
  · refine lv_lookup (tgt := 224) (off := 223) hx hb d_M_move_1 (by decide) (by rw [h13] <;> rfl) (by decide) ?_
    refine lv_aload_n hx hb d_M_move_224 rfl (lv_at hl 0 rfl) ?_
    refine lv_aload_n hx hb d_M_move_225 rfl (lv_at hl 0 rfl) ?_
    refine va_get (D := D) (ci := 9) (v := .long X.2.2.1) (C := R_M) (T := F_M) (N := 20) hx hb hts in_M hown hK hP 0 rfl rfl 17 (by decide) (hts _ wd_517) (fun _ h9 => h9) rfl d_M_move_226 ?_
    refine va_put (D := D) (ci := 9) (v := .long X.2.2.1) (ty := .long) (C := R_M) (T := F_M) (N := 20) hx hb hts in_M t_M k_M n_M hown hK hP (wM_D hAd) hS 0 rfl rfl 16 (by decide) (hts _ wd_516) (fun _ h9 => h9) rfl (by decide +kernel) rfl rfl (Nat.le_of_ble_eq_true rfl) d_M_move_229 (fun H locs hP _ hS => ?_)
    have hP : va_P D cls (wM ad dA ho wo Q G mk (X.1, X.2.2.1, X.2.2.1, X.2.2.2.1, X.2.2.2.2)) H := hP
    refine lv_goto (tgt := 249) hx hb d_M_move_232 (by decide) ?_
    exact W.vret hx hb hr (fun t ht hW => ⟨⟨_, rfl, (by rw [m_M_move, if_neg h1, if_neg h2, if_neg h3, if_neg h5, if_neg h7, if_neg h8, if_neg h9, if_neg h10, if_neg h11, if_neg h12, if_pos h13]), MG_at hP hK ht hW⟩, hS.F ht⟩) hS.2.2 d_M_move_249
  refine lv_lookup (tgt := 235) (off := 234) hx hb d_M_move_1 (by decide) ((lv_osw h1 (by decide)).trans ((lv_osw h2 (by decide)).trans ((lv_osw h3 (by decide)).trans ((lv_osw h5 (by decide)).trans ((lv_osw h7 (by decide)).trans ((lv_osw h8 (by decide)).trans ((lv_osw h9 (by decide)).trans ((lv_osw h10 (by decide)).trans ((lv_osw h11 (by decide)).trans ((lv_osw h12 (by decide)).trans ((lv_osw h13 (by decide)).trans rfl))))))))))) (by decide) ?_
  refine lv_aload_n hx hb d_M_move_235 rfl (lv_at hl 0 rfl) ?_
  refine lv_lconst (v := 0) hx hb d_M_move_236 (by decide) ?_
  refine lv_aload_n hx hb d_M_move_237 rfl (lv_at hl 0 rfl) ?_
  refine va_get (D := D) (ci := 9) (v := .long X.2.1) (C := R_M) (T := F_M) (N := 20) hx hb hts in_M hown hK hP 0 rfl rfl 16 (by decide) (hts _ wd_516) (fun _ h9 => h9) rfl d_M_move_238 ?_
  refine lv_lsub hx hb d_M_move_241 ?_
  refine lv_ldc2 (v := 4294967295) hx hb hown (hts _ wd_596) d_M_move_242 ?_
  refine lv_land hx hb d_M_move_245 ?_
  refine va_put (D := D) (ci := 9) (v := .long (((0 : Int64) - X.2.1) &&& (4294967295 : Int64))) (ty := .long) (C := R_M) (T := F_M) (N := 20) hx hb hts in_M t_M k_M n_M hown hK hP (wM_D hAd) hS 0 rfl rfl 16 (by decide) (hts _ wd_516) (fun _ h9 => h9) rfl (by decide +kernel) rfl rfl (Nat.le_of_ble_eq_true rfl) d_M_move_246 (fun H locs hP _ hS => ?_)
  have hP : va_P D cls (wM ad dA ho wo Q G mk (X.1, ((0 : Int64) - X.2.1) &&& (4294967295 : Int64), X.2.2.1, X.2.2.2.1, X.2.2.2.2)) H := hP
  exact W.vret hx hb hr (fun t ht hW => ⟨⟨_, rfl, (by rw [m_M_move, if_neg h1, if_neg h2, if_neg h3, if_neg h5, if_neg h7, if_neg h8, if_neg h9, if_neg h10, if_neg h11, if_neg h12, if_neg h13]), MG_at hP hK ht hW⟩, hS.F ht⟩) hS.2.2 d_M_move_249
/-! A check without fault, in the reference -/
theorem ckl {G : GT} {mk : Nat → Int32} (hG : iN G.1 ≤ 64) (h0 : ¬ G.1 = (0 : Int32)) : ∀ n j : Nat, 64 - j < n → j ≤ 64 → (m_M_check_l1 G mk n j).1 = (0 : Int32) → (∀ i, j ≤ i → i < iN G.1 → m_M_fault G (nI i) = 0) ∧ ¬ m_M_ends G (G.1 - (1 : Int32)) = (0 : Int32) := by
  intro n
  induction n with
  | zero => intro j h; exact absurd h (Nat.not_lt_zero _)
  | succ n ih =>
    intro j h hj
    rw [m_M_check_l1]
    by_cases h1 : G.1 ≤ nI j
    · rw [if_pos h1]
      have e := iN_nIs (n := j) (by omega)
      rw [le_n (by omega) (by omega), e] at h1
      by_cases h2 : m_M_ends G (G.1 - (1 : Int32)) = (0 : Int32)
      · rw [if_pos h2]
        intro q
        have q : ((500 : Int32) + G.1) - (1 : Int32) = 0 := q
        have hp := n_pos h0
        have e2 := congrArg iN q
        rw [iN_sub, iN_add, show iN (500 : Int32) = 500 from rfl, show iN (1 : Int32) = 1 from rfl, show iN (0 : Int32) = 0 from rfl] at e2
        omega
      · intro _
        exact ⟨fun i hi hl => by omega, h2⟩
    · rw [if_neg h1]
      have hjl : j < iN G.1 := nj_lt hG (by decide) hj h1
      by_cases h2 : m_M_fault G (nI j) = (0 : Int32)
      · rw [if_pos h2]
        intro q
        obtain ⟨a, b⟩ := ih (j + 1) (by omega) (by omega) q
        refine ⟨fun i hi hl => ?_, b⟩
        by_cases e : i = j
        · rw [e]
          exact h2
        · exact a i (by omega) hl
      · rw [if_neg h2]
        intro q
        have q : ((100 : Int32) * (m_M_fault G (nI j))) + nI j = 0 := q
        have e := fault_eq (i := nI j) hG (by rw [iN_nIs (by omega)]; exact hjl)
        rw [e] at q h2
        exact absurd q (own_ne hj h2)
theorem ck_all {G : GT} {mk : Nat → Int32} (hG : iN G.1 ≤ 64) (h : (m_M_check G mk).1 = (0 : Int32)) : ¬ G.1 = (0 : Int32) ∧ (∀ i, i < iN G.1 → m_M_fault G (nI i) = 0) ∧ ¬ m_M_ends G (nI (iN G.1 - 1)) = 0 := by
  unfold m_M_check at h
  by_cases h0 : G.1 = (0 : Int32)
  · rw [if_pos h0] at h
    have h : (100 : Int32) = 0 := h
    exact absurd h (by decide)
  · rw [if_neg h0] at h
    obtain ⟨a, b⟩ := ckl hG h0 65 0 (by decide) (by decide) h
    exact ⟨h0, fun i hi => a i (Nat.zero_le _) hi, endM_of hG h0 b⟩
theorem ck_pos {G : GT} {mk : Nat → Int32} (hG : iN G.1 ≤ 64) (h : (m_M_check G mk).1 = (0 : Int32)) : iN (0 : Int32) < iN G.1 := n_pos (ck_all hG h).1
theorem ck_ok {G : GT} {mk : Nat → Int32} (hG : iN G.1 ≤ 64) (h : (m_M_check G mk).1 = (0 : Int32)) : ∀ i, i < iN G.1 → m_M_fault G (nI i) = 0 := (ck_all hG h).2.1
theorem ck_end {G : GT} {mk : Nat → Int32} (hG : iN G.1 ≤ 64) (h : (m_M_check G mk).1 = (0 : Int32)) : ¬ m_M_ends G (nI (iN G.1 - 1)) = 0 := (ck_all hG h).2.2
theorem n16_lt {k : Nat} (hk : k ≤ 16) (h : ¬ (16 : Int32) ≤ nI k) : k < 16 := by
  have e1 : iN (nI k) = k := by rw [iN_nI]; omega
  have e : iN (16 : Int32) = 16 := rfl
  rw [le_n (by decide) (by omega), e1] at h
  omega
theorem n64_le {k : Nat} (hk : k ≤ 65) (h : ¬ (64 : Int32) < nI k) : k ≤ 64 := by
  have e1 : iN (nI k) = k := by rw [iN_nI]; omega
  have e : iN (64 : Int32) = 64 := rfl
  rw [lt_n (by decide) (by omega), e1] at h
  omega
theorem cmp_ne0 {y : Int64} (h : ¬ lg_cmp y (0 : Int64) = (0 : Int32)) : ¬ y = 0 := fun q => h ((cmp_eq _ _).mpr q)
theorem rn_n {G : GT} {x : Int32} (hG : iN G.1 ≤ 64) (hend : ¬ m_M_ends G (nI (iN G.1 - 1)) = 0) (hx : iN x < iN G.1) (h : m_M_ends G x = (0 : Int32)) : iN (x + 1) < iN G.1 := by
  rw [in_1 (by omega)]
  by_cases e : iN x = iN G.1 - 1
  · rw [← e, nI_iN] at hend
    exact absurd h hend
  · omega
theorem jmp_any (G : GT) (x tk : Int32) : m_M_jump G x tk = m_M_jump G x 0 ∨ m_M_jump G x tk = m_M_jump G x 1 := by
  by_cases h : tk = (0 : Int32)
  · rw [h]
    exact Or.inl rfl
  · right
    unfold m_M_jump
    rw [if_neg h, if_neg (by decide)]
theorem jmp_lt (G : GT) (x tk : Int32) : iN (m_M_jump G x tk) < 256 := by
  rcases jmp_any G x tk with h | h
  · rw [h, jF_eq, dF_n]
    omega
  · rw [h, jT_eq, dT_n]
    omega
theorem rn_j {G : GT} {x tk : Int32} (hG : iN G.1 ≤ 64) (hok : ∀ i, i < iN G.1 → m_M_fault G (nI i) = 0) (hx : iN x < iN G.1) (h : ¬ m_M_branch (m_M_code G x) = (0 : Int32)) : iN ((x + m_M_jump G x tk) + 1) < iN G.1 := by
  have hf := (farM hG hok hx).2 h
  have hl := jmp_lt G x tk
  have e : iN (x + m_M_jump G x tk) = iN x + iN (m_M_jump G x tk) := by
    rw [iN_add]
    omega
  rw [iN_add, e, show iN (1 : Int32) = 1 from rfl]
  rcases jmp_any G x tk with q | q
  · rw [q] at e hl ⊢
    omega
  · rw [q] at e hl ⊢
    omega
theorem rn_k {G : GT} {x : Int32} (hG : iN G.1 ≤ 64) (hok : ∀ i, i < iN G.1 → m_M_fault G (nI i) = 0) (hx : iN x < iN G.1) (h : m_M_code G x = (5 : Int32)) : iN ((x + (m_M_k G x).toInt32) + 1) < iN G.1 := by
  have hf := (farM hG hok hx).1 h
  have e : iN (x + (m_M_k G x).toInt32) = iN x + uN (m_M_k G x) := by
    rw [iN_add, iN_tr]
    omega
  rw [iN_add, e, show iN (1 : Int32) = 1 from rfl]
  omega
theorem nbad {G : GT} {x : Int32} (hG : iN G.1 ≤ 64) (hok : ∀ i, i < iN G.1 → m_M_fault G (nI i) = 0) (hx : iN x < iN G.1) : ¬ bad (m_M_code G x) (uN (m_M_k G x)) := by
  have h := okM_C hG hok (iN x) hx
  rw [nI_iN] at h
  have h2 := (of_ok h).2.1
  exact fun q => h2 ((fitC (opnd_lt _)).mpr q)
theorem k_tr (G : GT) (x : Int32) : iN (m_M_k G x).toInt32 = uN (m_M_k G x) := by
  have : uN (m_M_k G x) < 4294967296 := opnd_lt _
  rw [iN_tr]
  omega
theorem mv_w {G : GT} {x : Int32} (hG : iN G.1 ≤ 64) (hok : ∀ i, i < iN G.1 → m_M_fault G (nI i) = 0) (hx : iN x < iN G.1) : m_M_code G x = (32 : Int32) → vp_in ((m_M_k G x).toInt32 / (4 : Int32)) 16 := by
  intro h
  have hb := nbad hG hok hx
  have e := k_tr G x
  have hl : uN (m_M_k G x) < 64 := Nat.lt_of_not_le (fun q => hb (Or.inr (Or.inl ⟨h, Or.inr q⟩)))
  refine in_iN (by decide) ?_
  rw [iN_d4 (by omega), e]
  omega
theorem mv_s {G : GT} {x : Int32} (hG : iN G.1 ≤ 64) (hok : ∀ i, i < iN G.1 → m_M_fault G (nI i) = 0) (hx : iN x < iN G.1) : (m_M_code G x = (96 : Int32) ∨ m_M_code G x = (97 : Int32) ∨ m_M_code G x = (2 : Int32) ∨ m_M_code G x = (3 : Int32)) → vp_in (m_M_k G x).toInt32 16 := by
  intro h
  have hb := nbad hG hok hx
  have e := k_tr G x
  have hl : uN (m_M_k G x) < 16 := Nat.lt_of_not_le (fun q => hb (Or.inl ⟨h, q⟩))
  exact in_iN (by decide) (by omega)
theorem wd_22 : Cond.selects R_M y_M_combine y_M_combine ∈ lw_g := wd_in (i := 22) (by decide +kernel) (by decide +kernel)
theorem wd_23 : Cond.selects R_M y_M_asks y_M_asks ∈ lw_g := wd_in (i := 23) (by decide +kernel) (by decide +kernel)
theorem wd_24 : Cond.selects R_M y_M_move y_M_move ∈ lw_g := wd_in (i := 24) (by decide +kernel) (by decide +kernel)
theorem wd_634 : Cond.instanceMethod y_M_check ∈ lw_g := wd_in (i := 634) (by decide +kernel) (by decide +kernel)
theorem wd_635 : Cond.selects R_M y_M_check y_M_check ∈ lw_g := wd_in (i := 635) (by decide +kernel) (by decide +kernel)
theorem wd_636 : Cond.code y_M_check prog_12_method_27_code 3 (Option.some Jvm.ClassFile.FieldType.int) ∈ lw_g := wd_in (i := 636) (by decide +kernel) (by decide +kernel)
theorem wd_683 : Cond.methodLink R_M 162 y_M_check ∈ lw_g := wd_in (i := 683) (by decide +kernel) (by decide +kernel)
theorem wd_685 : Cond.methodLink R_M 167 y_M_combine ∈ lw_g := wd_in (i := 685) (by decide +kernel) (by decide +kernel)
theorem wd_687 : Cond.instanceMethod y_M_combine ∈ lw_g := wd_in (i := 687) (by decide +kernel) (by decide +kernel)
theorem wd_688 : Cond.code y_M_combine prog_12_method_28_code 4 (Option.some Jvm.ClassFile.FieldType.long) ∈ lw_g := wd_in (i := 688) (by decide +kernel) (by decide +kernel)
theorem wd_690 : Cond.methodLink R_M 171 y_M_asks ∈ lw_g := wd_in (i := 690) (by decide +kernel) (by decide +kernel)
theorem wd_692 : Cond.instanceMethod y_M_asks ∈ lw_g := wd_in (i := 692) (by decide +kernel) (by decide +kernel)
theorem wd_693 : Cond.code y_M_asks prog_12_method_29_code 4 (Option.some Jvm.ClassFile.FieldType.boolean) ∈ lw_g := wd_in (i := 693) (by decide +kernel) (by decide +kernel)
theorem wd_694 : Cond.methodLink R_M 174 y_M_move ∈ lw_g := wd_in (i := 694) (by decide +kernel) (by decide +kernel)
theorem wd_696 : Cond.instanceMethod y_M_move ∈ lw_g := wd_in (i := 696) (by decide +kernel) (by decide +kernel)
theorem wd_697 : Cond.code y_M_move prog_12_method_30_code 4 (Option.none : Option Jvm.ClassFile.FieldType) ∈ lw_g := wd_in (i := 697) (by decide +kernel) (by decide +kernel)
theorem d_M_run_0 : decode b_M_run 0 = .ok (.aload_n 0, 1) := by decide +kernel
theorem d_M_run_1 : decode b_M_run 1 = .ok (.iconst 0, 1) := by decide +kernel
theorem d_M_run_2 : decode b_M_run 2 = .ok (.putfield 159, 3) := by decide +kernel
theorem d_M_run_5 : decode b_M_run 5 = .ok (.aload_n 0, 1) := by decide +kernel
theorem d_M_run_6 : decode b_M_run 6 = .ok (.invokevirtual 162, 3) := by decide +kernel
theorem d_M_run_9 : decode b_M_run 9 = .ok (.ifCond .eq 7, 3) := by decide +kernel
theorem d_M_run_12 : decode b_M_run 12 = .ok (.ldc2_w 165, 3) := by decide +kernel
theorem d_M_run_15 : decode b_M_run 15 = .ok (.lreturn, 1) := by decide +kernel
theorem d_M_run_16 : decode b_M_run 16 = .ok (.aload_n 0, 1) := by decide +kernel
theorem d_M_run_17 : decode b_M_run 17 = .ok (.lconst 0, 1) := by decide +kernel
theorem d_M_run_18 : decode b_M_run 18 = .ok (.putfield 148, 3) := by decide +kernel
theorem d_M_run_21 : decode b_M_run 21 = .ok (.aload_n 0, 1) := by decide +kernel
theorem d_M_run_22 : decode b_M_run 22 = .ok (.lconst 0, 1) := by decide +kernel
theorem d_M_run_23 : decode b_M_run 23 = .ok (.putfield 156, 3) := by decide +kernel
theorem d_M_run_26 : decode b_M_run 26 = .ok (.iconst 0, 1) := by decide +kernel
theorem d_M_run_27 : decode b_M_run 27 = .ok (.istore_n 1, 1) := by decide +kernel
theorem d_M_run_28 : decode b_M_run 28 = .ok (.iload_n 1, 1) := by decide +kernel
theorem d_M_run_29 : decode b_M_run 29 = .ok (.bipush 16, 2) := by decide +kernel
theorem d_M_run_31 : decode b_M_run 31 = .ok (.if_icmp .ge 16, 3) := by decide +kernel
theorem d_M_run_34 : decode b_M_run 34 = .ok (.aload_n 0, 1) := by decide +kernel
theorem d_M_run_35 : decode b_M_run 35 = .ok (.getfield 51, 3) := by decide +kernel
theorem d_M_run_38 : decode b_M_run 38 = .ok (.iload_n 1, 1) := by decide +kernel
theorem d_M_run_39 : decode b_M_run 39 = .ok (.iconst 0, 1) := by decide +kernel
theorem d_M_run_40 : decode b_M_run 40 = .ok (.bastore, 1) := by decide +kernel
theorem d_M_run_41 : decode b_M_run 41 = .ok (.iinc 1 1, 3) := by decide +kernel
theorem d_M_run_44 : decode b_M_run 44 = .ok (.goto (-16), 3) := by decide +kernel
theorem d_M_run_47 : decode b_M_run 47 = .ok (.iconst 0, 1) := by decide +kernel
theorem d_M_run_48 : decode b_M_run 48 = .ok (.istore_n 1, 1) := by decide +kernel
theorem d_M_run_49 : decode b_M_run 49 = .ok (.iconst 1, 1) := by decide +kernel
theorem d_M_run_50 : decode b_M_run 50 = .ok (.istore_n 2, 1) := by decide +kernel
theorem d_M_run_51 : decode b_M_run 51 = .ok (.iload_n 2, 1) := by decide +kernel
theorem d_M_run_52 : decode b_M_run 52 = .ok (.bipush 64, 2) := by decide +kernel
theorem d_M_run_54 : decode b_M_run 54 = .ok (.if_icmp .gt 163, 3) := by decide +kernel
theorem d_M_run_57 : decode b_M_run 57 = .ok (.aload_n 0, 1) := by decide +kernel
theorem d_M_run_58 : decode b_M_run 58 = .ok (.iload_n 1, 1) := by decide +kernel
theorem d_M_run_59 : decode b_M_run 59 = .ok (.invokevirtual 107, 3) := by decide +kernel
theorem d_M_run_62 : decode b_M_run 62 = .ok (.istore_n 3, 1) := by decide +kernel
theorem d_M_run_63 : decode b_M_run 63 = .ok (.aload_n 0, 1) := by decide +kernel
theorem d_M_run_64 : decode b_M_run 64 = .ok (.iload_n 1, 1) := by decide +kernel
theorem d_M_run_65 : decode b_M_run 65 = .ok (.invokevirtual 111, 3) := by decide +kernel
theorem d_M_run_68 : decode b_M_run 68 = .ok (.lstore 4, 2) := by decide +kernel
theorem d_M_run_70 : decode b_M_run 70 = .ok (.aload_n 0, 1) := by decide +kernel
theorem d_M_run_71 : decode b_M_run 71 = .ok (.iload_n 2, 1) := by decide +kernel
theorem d_M_run_72 : decode b_M_run 72 = .ok (.putfield 159, 3) := by decide +kernel
theorem d_M_run_75 : decode b_M_run 75 = .ok (.aload_n 0, 1) := by decide +kernel
theorem d_M_run_76 : decode b_M_run 76 = .ok (.iload_n 1, 1) := by decide +kernel
theorem d_M_run_77 : decode b_M_run 77 = .ok (.invokevirtual 138, 3) := by decide +kernel
theorem d_M_run_80 : decode b_M_run 80 = .ok (.ifCond .eq 19, 3) := by decide +kernel
theorem d_M_run_83 : decode b_M_run 83 = .ok (.iload_n 3, 1) := by decide +kernel
theorem d_M_run_84 : decode b_M_run 84 = .ok (.bipush 6, 2) := by decide +kernel
theorem d_M_run_86 : decode b_M_run 86 = .ok (.if_icmp .ne 8, 3) := by decide +kernel
theorem d_M_run_89 : decode b_M_run 89 = .ok (.lload 4, 2) := by decide +kernel
theorem d_M_run_91 : decode b_M_run 91 = .ok (.goto 7, 3) := by decide +kernel
theorem d_M_run_94 : decode b_M_run 94 = .ok (.aload_n 0, 1) := by decide +kernel
theorem d_M_run_95 : decode b_M_run 95 = .ok (.getfield 148, 3) := by decide +kernel
theorem d_M_run_98 : decode b_M_run 98 = .ok (.lreturn, 1) := by decide +kernel
theorem d_M_run_99 : decode b_M_run 99 = .ok (.iload_n 3, 1) := by decide +kernel
theorem d_M_run_100 : decode b_M_run 100 = .ok (.bipush 8, 2) := by decide +kernel
theorem d_M_run_102 : decode b_M_run 102 = .ok (.iand, 1) := by decide +kernel
theorem d_M_run_103 : decode b_M_run 103 = .ok (.ifCond .eq 10, 3) := by decide +kernel
theorem d_M_run_106 : decode b_M_run 106 = .ok (.aload_n 0, 1) := by decide +kernel
theorem d_M_run_107 : decode b_M_run 107 = .ok (.getfield 156, 3) := by decide +kernel
theorem d_M_run_110 : decode b_M_run 110 = .ok (.goto 5, 3) := by decide +kernel
theorem d_M_run_113 : decode b_M_run 113 = .ok (.lload 4, 2) := by decide +kernel
theorem d_M_run_115 : decode b_M_run 115 = .ok (.lstore 6, 2) := by decide +kernel
theorem d_M_run_117 : decode b_M_run 117 = .ok (.iload_n 3, 1) := by decide +kernel
theorem d_M_run_118 : decode b_M_run 118 = .ok (.invokestatic 114, 3) := by decide +kernel
theorem d_M_run_121 : decode b_M_run 121 = .ok (.ifCond .eq 38, 3) := by decide +kernel
theorem d_M_run_124 : decode b_M_run 124 = .ok (.iload_n 3, 1) := by decide +kernel
theorem d_M_run_125 : decode b_M_run 125 = .ok (.bipush (-9), 2) := by decide +kernel
theorem d_M_run_127 : decode b_M_run 127 = .ok (.iand, 1) := by decide +kernel
theorem d_M_run_128 : decode b_M_run 128 = .ok (.bipush 52, 2) := by decide +kernel
theorem d_M_run_130 : decode b_M_run 130 = .ok (.if_icmp .ne 12, 3) := by decide +kernel
theorem d_M_run_133 : decode b_M_run 133 = .ok (.lload 6, 2) := by decide +kernel
theorem d_M_run_135 : decode b_M_run 135 = .ok (.lconst 0, 1) := by decide +kernel
theorem d_M_run_136 : decode b_M_run 136 = .ok (.lcmp, 1) := by decide +kernel
theorem d_M_run_137 : decode b_M_run 137 = .ok (.ifCond .ne 5, 3) := by decide +kernel
theorem d_M_run_140 : decode b_M_run 140 = .ok (.lconst 0, 1) := by decide +kernel
theorem d_M_run_141 : decode b_M_run 141 = .ok (.lreturn, 1) := by decide +kernel
theorem d_M_run_142 : decode b_M_run 142 = .ok (.aload_n 0, 1) := by decide +kernel
theorem d_M_run_143 : decode b_M_run 143 = .ok (.aload_n 0, 1) := by decide +kernel
theorem d_M_run_144 : decode b_M_run 144 = .ok (.iload_n 3, 1) := by decide +kernel
theorem d_M_run_145 : decode b_M_run 145 = .ok (.bipush (-9), 2) := by decide +kernel
theorem d_M_run_147 : decode b_M_run 147 = .ok (.iand, 1) := by decide +kernel
theorem d_M_run_148 : decode b_M_run 148 = .ok (.lload 6, 2) := by decide +kernel
theorem d_M_run_150 : decode b_M_run 150 = .ok (.invokevirtual 167, 3) := by decide +kernel
theorem d_M_run_153 : decode b_M_run 153 = .ok (.putfield 148, 3) := by decide +kernel
theorem d_M_run_156 : decode b_M_run 156 = .ok (.goto 52, 3) := by decide +kernel
theorem d_M_run_159 : decode b_M_run 159 = .ok (.iload_n 3, 1) := by decide +kernel
theorem d_M_run_160 : decode b_M_run 160 = .ok (.invokestatic 117, 3) := by decide +kernel
theorem d_M_run_163 : decode b_M_run 163 = .ok (.ifCond .eq 24, 3) := by decide +kernel
theorem d_M_run_166 : decode b_M_run 166 = .ok (.iload_n 1, 1) := by decide +kernel
theorem d_M_run_167 : decode b_M_run 167 = .ok (.aload_n 0, 1) := by decide +kernel
theorem d_M_run_168 : decode b_M_run 168 = .ok (.iload_n 1, 1) := by decide +kernel
theorem d_M_run_169 : decode b_M_run 169 = .ok (.aload_n 0, 1) := by decide +kernel
theorem d_M_run_170 : decode b_M_run 170 = .ok (.iload_n 3, 1) := by decide +kernel
theorem d_M_run_171 : decode b_M_run 171 = .ok (.bipush (-9), 2) := by decide +kernel
theorem d_M_run_173 : decode b_M_run 173 = .ok (.iand, 1) := by decide +kernel
theorem d_M_run_174 : decode b_M_run 174 = .ok (.lload 6, 2) := by decide +kernel
theorem d_M_run_176 : decode b_M_run 176 = .ok (.invokevirtual 171, 3) := by decide +kernel
theorem d_M_run_179 : decode b_M_run 179 = .ok (.invokevirtual 134, 3) := by decide +kernel
theorem d_M_run_182 : decode b_M_run 182 = .ok (.iadd, 1) := by decide +kernel
theorem d_M_run_183 : decode b_M_run 183 = .ok (.istore_n 1, 1) := by decide +kernel
theorem d_M_run_184 : decode b_M_run 184 = .ok (.goto 24, 3) := by decide +kernel
theorem d_M_run_187 : decode b_M_run 187 = .ok (.iload_n 3, 1) := by decide +kernel
theorem d_M_run_188 : decode b_M_run 188 = .ok (.iconst 5, 1) := by decide +kernel
theorem d_M_run_189 : decode b_M_run 189 = .ok (.if_icmp .ne 12, 3) := by decide +kernel
theorem d_M_run_192 : decode b_M_run 192 = .ok (.iload_n 1, 1) := by decide +kernel
theorem d_M_run_193 : decode b_M_run 193 = .ok (.lload 4, 2) := by decide +kernel
theorem d_M_run_195 : decode b_M_run 195 = .ok (.l2i, 1) := by decide +kernel
theorem d_M_run_196 : decode b_M_run 196 = .ok (.iadd, 1) := by decide +kernel
theorem d_M_run_197 : decode b_M_run 197 = .ok (.istore_n 1, 1) := by decide +kernel
theorem d_M_run_198 : decode b_M_run 198 = .ok (.goto 10, 3) := by decide +kernel
theorem d_M_run_201 : decode b_M_run 201 = .ok (.aload_n 0, 1) := by decide +kernel
theorem d_M_run_202 : decode b_M_run 202 = .ok (.iload_n 3, 1) := by decide +kernel
theorem d_M_run_203 : decode b_M_run 203 = .ok (.lload 4, 2) := by decide +kernel
theorem d_M_run_205 : decode b_M_run 205 = .ok (.invokevirtual 174, 3) := by decide +kernel
theorem d_M_run_208 : decode b_M_run 208 = .ok (.iinc 1 1, 3) := by decide +kernel
theorem d_M_run_211 : decode b_M_run 211 = .ok (.iinc 2 1, 3) := by decide +kernel
theorem d_M_run_214 : decode b_M_run 214 = .ok (.goto (-163), 3) := by decide +kernel
theorem d_M_run_217 : decode b_M_run 217 = .ok (.lconst 0, 1) := by decide +kernel
theorem d_M_run_218 : decode b_M_run 218 = .ok (.lreturn, 1) := by decide +kernel
def m_M_run_j99 (wo : Nat → Int32) (G : GT) (mk : Nat → Int32) (X : XT) (at_ : Int32) (sp : Nat) (X2 : XT) : Int64 := if ((m_M_code G at_) &&& (8 : Int32)) = (0 : Int32) then m_M_k G at_ else X2.2.2.1
def m_M_run_l2 (wo : Nat → Int32) (G : GT) (mk : Nat → Int32) (X : XT) : Nat → Int32 → Nat → XT → Int64 × (Nat → Int32) × XT
  | 0, _, _, _ => (0, mk, X)
  | n2 + 1, at_, sp, X2 => if (64 : Int32) < (nI sp) then ((0 : Int64), ((m_M_check G mk).2), X2) else if (m_M_ends G at_) = (0 : Int32) then if (m_M_operation (m_M_code G at_)) = (0 : Int32) then if (m_M_branch (m_M_code G at_)) = (0 : Int32) then if (m_M_code G at_) = (5 : Int32) then m_M_run_l2 wo G mk X n2 ((at_ + ((m_M_k G at_).toInt32)) + 1) (sp + 1) (nI sp, X2.2.1, X2.2.2.1, X2.2.2.2.1, X2.2.2.2.2) else m_M_run_l2 wo G mk X n2 (at_ + 1) (sp + 1) (m_M_move wo (nI sp, X2.2.1, X2.2.2.1, X2.2.2.2.1, X2.2.2.2.2) (m_M_code G at_) (m_M_k G at_)) else m_M_run_l2 wo G mk X n2 ((at_ + (m_M_jump G at_ (m_M_asks (nI sp, X2.2.1, X2.2.2.1, X2.2.2.2.1, X2.2.2.2.2) ((m_M_code G at_) &&& (-9 : Int32)) (m_M_run_j99 wo G mk X at_ sp X2)))) + 1) (sp + 1) (nI sp, X2.2.1, X2.2.2.1, X2.2.2.2.1, X2.2.2.2.2) else if ((m_M_code G at_) &&& (-9 : Int32)) = (52 : Int32) then if (lg_cmp (m_M_run_j99 wo G mk X at_ sp X2) (0 : Int64)) = (0 : Int32) then ((0 : Int64), ((m_M_check G mk).2), (nI sp, X2.2.1, X2.2.2.1, X2.2.2.2.1, X2.2.2.2.2)) else m_M_run_l2 wo G mk X n2 (at_ + 1) (sp + 1) (nI sp, m_M_combine (nI sp, X2.2.1, X2.2.2.1, X2.2.2.2.1, X2.2.2.2.2) ((m_M_code G at_) &&& (-9 : Int32)) (m_M_run_j99 wo G mk X at_ sp X2), X2.2.2.1, X2.2.2.2.1, X2.2.2.2.2) else m_M_run_l2 wo G mk X n2 (at_ + 1) (sp + 1) (nI sp, m_M_combine (nI sp, X2.2.1, X2.2.2.1, X2.2.2.2.1, X2.2.2.2.2) ((m_M_code G at_) &&& (-9 : Int32)) (m_M_run_j99 wo G mk X at_ sp X2), X2.2.2.1, X2.2.2.2.1, X2.2.2.2.2) else if (m_M_code G at_) = (6 : Int32) then (m_M_k G at_, ((m_M_check G mk).2), (nI sp, X2.2.1, X2.2.2.1, X2.2.2.2.1, X2.2.2.2.2)) else (X2.2.1, ((m_M_check G mk).2), (nI sp, X2.2.1, X2.2.2.1, X2.2.2.2.1, X2.2.2.2.2))
def m_M_run_l1 (wo : Nat → Int32) (G : GT) (mk : Nat → Int32) (X : XT) : Nat → Nat → XT → Int64 × (Nat → Int32) × XT
  | 0, _, _ => (0, mk, X)
  | n1 + 1, q, X1 => if (16 : Int32) ≤ (nI q) then m_M_run_l2 wo G mk X (65) (0 : Int32) 1 X1 else m_M_run_l1 wo G mk X n1 (q + 1) (X1.1, X1.2.1, X1.2.2.1, X1.2.2.2.1, upd X1.2.2.2.2 (nI q).toNatClampNeg (0 : Int32))
def m_M_run (wo : Nat → Int32) (G : GT) (mk : Nat → Int32) (X : XT) : Int64 × (Nat → Int32) × XT := if ((m_M_check G mk).1) = (0 : Int32) then m_M_run_l1 wo G mk X (17) 0 ((0 : Int32), (0 : Int64), (0 : Int64), X.2.2.2.1, X.2.2.2.2) else ((-1 : Int64), ((m_M_check G mk).2), ((0 : Int32), X.2.1, X.2.2.1, X.2.2.2.1, X.2.2.2.2))
set_option maxHeartbeats 4000000 in
set_option maxRecDepth 100000 in
theorem c_M_run (l : Launch) (D : va_G) (dA : Nat → ClassId) (ad : Nat → Nat) (A : Nat → Prop) (hAd : AdOK 15 ad A) (ho : Int32) (wo : Nat → Int32) (Q : QT) (G : GT) (mk : Nat → Int32) (X : XT) (hG : iN G.1 ≤ 64) (hmk : ∀ i, b01 (mk i)) : Met l y_M_run (mW y_M_run b_M_run 8 (some .long)) { frames := 4, cells := 0, slots := 0, locals := 90 } (va_Pc [.ref (ad 0)] (fun U => MG D dA ad ho wo Q G mk X U)) (va_Ql (fun (r : Int64) (u : (Nat → Int32) × XT) => r = (m_M_run wo G mk X).1 ∧ u = (m_M_run wo G mk X).2) (fun u t => MG D dA ad ho wo Q G u.1 u.2 t) A) 0 0 A := by
  refine Met.ofW (cc := b_M_run) (maxL := 8) (ret := (some .long)) (by decide) rfl ?_
  intro p e s m args below meth c s₁ B hml hv
  obtain ⟨rfl, hP, hK⟩ := hv
  have hx := B.exec
  have hb := B.bytes
  have hr := B.returns
  have hlocks := B.notSynchronized
  have hts := fun (w : Cond) (h : w ∈ lw_g) => atoms_spec (ws := mW y_M_run b_M_run 8 (some .long)) B.pre w (List.mem_cons_of_mem _ h)
  have hown : s.vm.findClass R_M = some m.cls := findClass_of_methodNamed B.named
  have hS : va_S A s.heap s.heap [] := va_S.rf
  have hl := lv_entry ([.ref (ad 0)]) (n := 8) (Nat.le_of_ble_eq_true rfl)
  rw [lg_entry_eq]
  generalize (lg_sl ([.ref (ad 0)]) ++ List.replicate (8 - (lg_sl ([.ref (ad 0)])).length) Slot.unset).toArray = ls at hl ⊢
  have hl : lv_has ls 8 [(0, .ref (ad 0))] := hl
  refine lv_aload_n hx hb d_M_run_0 rfl (lv_at hl 0 rfl) ?_
  refine lv_iconst (v := 0) hx hb d_M_run_1 (by decide) ?_
  refine va_put (D := D) (ci := 9) (v := .int (0 : Int32)) (ty := .int) (C := R_M) (T := F_M) (N := 20) hx hb hts in_M t_M k_M n_M hown hK hP (wM_D hAd) hS 0 rfl rfl 15 (by decide) (hts _ wd_515) (fun _ h9 => h9) rfl (by decide +kernel) rfl rfl (Nat.le_of_ble_eq_true rfl) d_M_run_2 (fun H locs hP _ hS => ?_)
  have hP : va_P D cls (wM ad dA ho wo Q G mk ((0 : Int32), X.2.1, X.2.2.1, X.2.2.2.1, X.2.2.2.2)) H := hP
  refine lv_aload_n hx hb d_M_run_5 rfl (lv_at hl 0 rfl) ?_
  refine va_calli (va_runV (As := []) (rest := []) ⟨hx, hb, hml, hown, hts⟩ (c_M_check l D dA ad A hAd ho wo Q G mk ((0 : Int32), X.2.1, X.2.2.1, X.2.2.2.1, X.2.2.2.2) hG hmk) (cwV 0 hts (g_V wd_683 wd_634 wd_635 wd_35 wd_636) rfl rfl rfl (by decide +kernel) ⟨Nat.le_of_ble_eq_true rfl, Nat.le_of_ble_eq_true rfl⟩) ⟨MG_fb, (va_recv (ci := 9) (q := (R_M, F_M, 20)) (q0 := 0) hK hP rfl rfl), fun U hU hW => ⟨rfl, MG_at hP hK hU hW⟩⟩ rfl rfl hl.1 rfl (lv_room (Nat.le_of_ble_eq_true rfl)) d_M_run_6 ⟨Nat.le_of_ble_eq_true rfl, Nat.le_of_ble_eq_true rfl⟩) hS (fun _ _ h => h) (fun _ h => h) (fun r1 u1 t H locs ht hvm hu hB hz hk hS => ?_)
  obtain ⟨rfl, rfl⟩ := hu
  obtain ⟨hP, -⟩ := hB
  rw [ht] at hP
  have hP : va_P D cls (wM ad dA ho wo Q G ((m_M_check G mk).2) ((0 : Int32), X.2.1, X.2.2.1, X.2.2.2.1, X.2.2.2.2)) H := hP
  refine lv_if_eq (tgt := 16) hx hb d_M_run_9 (by decide) (fun h1 => ?_) (fun h1 => ?_)
  · refine lv_aload_n hx hb d_M_run_16 rfl (lv_at hl 0 rfl) ?_
    refine lv_lconst (v := 0) hx hb d_M_run_17 (by decide) ?_
    refine va_put (D := D) (ci := 9) (v := .long (0 : Int64)) (ty := .long) (C := R_M) (T := F_M) (N := 20) hx hb hts in_M t_M k_M n_M hown hK hP (wM_D hAd) hS 0 rfl rfl 16 (by decide) (hts _ wd_516) (fun _ h9 => h9) rfl (by decide +kernel) rfl rfl (Nat.le_of_ble_eq_true rfl) d_M_run_18 (fun H locs hP _ hS => ?_)
    have hP : va_P D cls (wM ad dA ho wo Q G ((m_M_check G mk).2) ((0 : Int32), (0 : Int64), X.2.2.1, X.2.2.2.1, X.2.2.2.2)) H := hP
    refine lv_aload_n hx hb d_M_run_21 rfl (lv_at hl 0 rfl) ?_
    refine lv_lconst (v := 0) hx hb d_M_run_22 (by decide) ?_
    refine va_put (D := D) (ci := 9) (v := .long (0 : Int64)) (ty := .long) (C := R_M) (T := F_M) (N := 20) hx hb hts in_M t_M k_M n_M hown hK hP (wM_D hAd) hS 0 rfl rfl 17 (by decide) (hts _ wd_517) (fun _ h9 => h9) rfl (by decide +kernel) rfl rfl (Nat.le_of_ble_eq_true rfl) d_M_run_23 (fun H locs hP _ hS => ?_)
    have hP : va_P D cls (wM ad dA ho wo Q G ((m_M_check G mk).2) ((0 : Int32), (0 : Int64), (0 : Int64), X.2.2.2.1, X.2.2.2.2)) H := hP
    refine lv_iconst (v := 0) hx hb d_M_run_26 (by decide) ?_
    refine lv_istore_n hx hb d_M_run_27 rfl hl (by decide) rfl (fun ls hl => ?_)
    have hl : lv_has ls 8 [(1, .int (0 : Int32)), (0, .ref (ad 0))] := hl
    refine W_loop2 (X := fun (n1 : Nat) (q : Nat) (X1 : XT) (H : Heap) (locs : List Loc) (ls : Array Slot) => 16 - q < n1 ∧ m_M_run wo G mk X = m_M_run_l1 wo G mk X n1 q X1 ∧ lv_has ls 8 [(1, .int (nI q)), (0, .ref (ad 0))] ∧ va_P D cls (wM ad dA ho wo Q G ((m_M_check G mk).2) X1) H ∧ va_S A s.heap H locs ∧ q ≤ 16) (17) 0 ((0 : Int32), (0 : Int64), (0 : Int64), X.2.2.2.1, X.2.2.2.2) ⟨(by decide), (by rw [m_M_run, if_pos h1]), (lv_sub hl [0, 1] rfl), hP, hS, (by decide)⟩ (fun _ _ _ _ _ h => absurd h.1 (Nat.not_lt_zero _)) (fun n1 ih1 q X1 H locs ls h => ?_)
    obtain ⟨hn1, hm1, hl, hP, hS, hq⟩ := h
    refine lv_iload_n hx hb d_M_run_28 rfl (lv_at hl 0 rfl) ?_
    refine lv_bipush (v := 16) hx hb d_M_run_29 (by decide) ?_
    refine lv_icmp_ge (tgt := 47) hx hb d_M_run_31 (by decide) (fun h2 => ?_) (fun h2 => ?_)
    · refine lv_iconst (v := 0) hx hb d_M_run_47 (by decide) ?_
      refine lv_istore_n hx hb d_M_run_48 rfl hl (by decide) rfl (fun ls hl => ?_)
      have hl : lv_has ls 8 [(1, .int (0 : Int32)), (0, .ref (ad 0))] := hl
      refine lv_iconst (v := 1) hx hb d_M_run_49 (by decide) ?_
      refine lv_istore_n hx hb d_M_run_50 rfl hl (by decide) rfl (fun ls hl => ?_)
      have hl : lv_has ls 8 [(2, .int (1 : Int32)), (1, .int (0 : Int32)), (0, .ref (ad 0))] := hl
      refine W_loop3 (X := fun (n2 : Nat) (at_ : Int32) (sp : Nat) (X2 : XT) (H : Heap) (locs : List Loc) (ls : Array Slot) => 65 - sp < n2 ∧ m_M_run wo G mk X = m_M_run_l2 wo G mk X n2 at_ sp X2 ∧ lv_has ls 8 [(2, .int (nI sp)), (1, .int at_), (0, .ref (ad 0))] ∧ va_P D cls (wM ad dA ho wo Q G ((m_M_check G mk).2) X2) H ∧ va_S A s.heap H locs ∧ sp ≤ 65 ∧ iN at_ < iN G.1) (65) (0 : Int32) 1 X1 ⟨(by decide), (by rw [hm1, m_M_run_l1, if_pos h2]), (lv_sub hl [0, 1, 2] rfl), hP, hS, (by decide), (ck_pos hG (by assumption))⟩ (fun _ _ _ _ _ _ h => absurd h.1 (Nat.not_lt_zero _)) (fun n2 ih2 at_ sp X2 H locs ls h => ?_)
      obtain ⟨hn2, hm2, hl, hP, hS, hsp, hat⟩ := h
      refine lv_iload_n hx hb d_M_run_51 rfl (lv_at hl 0 rfl) ?_
      refine lv_bipush (v := 64) hx hb d_M_run_52 (by decide) ?_
      refine lv_icmp_gt (tgt := 217) hx hb d_M_run_54 (by decide) (fun h3 => ?_) (fun h3 => ?_)
      · refine lv_lconst (v := 0) hx hb d_M_run_217 (by decide) ?_
        exact W.lret hx hb hr (fun t ht hW => ⟨⟨_, _, rfl, ⟨(by rw [hm2, m_M_run_l2, if_pos h3]), (by rw [hm2, m_M_run_l2, if_pos h3])⟩, MG_at hP hK ht hW⟩, hS.F ht⟩) hS.2.2 d_M_run_218
      have hsl : sp ≤ 64 := n64_le hsp h3
      refine lv_aload_n hx hb d_M_run_57 rfl (lv_at hl 2 rfl) ?_
      refine lv_iload_n hx hb d_M_run_58 rfl (lv_at hl 1 rfl) ?_
      refine vp_callSi (va_Run.run (va_runV (As := [.int at_]) (rest := []) ⟨hx, hb, hml, hown, hts⟩ (c_M_code l D dA ad ho wo Q G ((m_M_check G mk).2) X2 at_ (to_in hG hat)) (cwV 1 hts (g_V wd_641 wd_643 wd_17 wd_35 wd_644) rfl rfl rfl (by decide +kernel) ⟨Nat.le_of_ble_eq_true rfl, Nat.le_of_ble_eq_true rfl⟩) ⟨MG_fb, (va_recv (ci := 9) (q := (R_M, F_M, 20)) (q0 := 0) hK hP rfl rfl), fun U hU hW => ⟨rfl, MG_at hP hK hU hW⟩⟩ rfl rfl hl.1 rfl (lv_room (Nat.le_of_ble_eq_true rfl)) d_M_run_59 ⟨Nat.le_of_ble_eq_true rfl, Nat.le_of_ble_eq_true rfl⟩)) (fun r2 e1 => ?_)
      subst e1
      refine lv_istore_n hx hb d_M_run_62 rfl hl (by decide) rfl (fun ls hl => ?_)
      have hl : lv_has ls 8 [(3, .int (m_M_code G at_)), (2, .int (nI sp)), (1, .int at_), (0, .ref (ad 0))] := hl
      refine lv_aload_n hx hb d_M_run_63 rfl (lv_at hl 3 rfl) ?_
      refine lv_iload_n hx hb d_M_run_64 rfl (lv_at hl 2 rfl) ?_
      refine vp_callSl (va_Run.run (va_runV (As := [.int at_]) (rest := []) ⟨hx, hb, hml, hown, hts⟩ (c_M_k l D dA ad ho wo Q G ((m_M_check G mk).2) X2 at_ (to_in hG hat)) (cwV 1 hts (g_V wd_646 wd_648 wd_18 wd_35 wd_649) rfl rfl rfl (by decide +kernel) ⟨Nat.le_of_ble_eq_true rfl, Nat.le_of_ble_eq_true rfl⟩) ⟨MG_fb, (va_recv (ci := 9) (q := (R_M, F_M, 20)) (q0 := 0) hK hP rfl rfl), fun U hU hW => ⟨rfl, MG_at hP hK hU hW⟩⟩ rfl rfl hl.1 rfl (lv_room (Nat.le_of_ble_eq_true rfl)) d_M_run_65 ⟨Nat.le_of_ble_eq_true rfl, Nat.le_of_ble_eq_true rfl⟩)) (fun r3 e2 => ?_)
      subst e2
      refine lv_lstore hx hb d_M_run_68 hl (by decide) rfl (fun ls hl => ?_)
      have hl : lv_has ls 8 [(4, .long (m_M_k G at_)), (3, .int (m_M_code G at_)), (2, .int (nI sp)), (1, .int at_), (0, .ref (ad 0))] := hl
      refine lv_aload_n hx hb d_M_run_70 rfl (lv_at hl 4 rfl) ?_
      refine lv_iload_n hx hb d_M_run_71 rfl (lv_at hl 2 rfl) ?_
      refine va_put (D := D) (ci := 9) (v := .int (nI sp)) (ty := .int) (C := R_M) (T := F_M) (N := 20) hx hb hts in_M t_M k_M n_M hown hK hP (wM_D hAd) hS 0 rfl rfl 15 (by decide) (hts _ wd_515) (fun _ h9 => h9) rfl (by decide +kernel) rfl rfl (Nat.le_of_ble_eq_true rfl) d_M_run_72 (fun H locs hP _ hS => ?_)
      have hP : va_P D cls (wM ad dA ho wo Q G ((m_M_check G mk).2) (nI sp, X2.2.1, X2.2.2.1, X2.2.2.2.1, X2.2.2.2.2)) H := hP
      refine lv_aload_n hx hb d_M_run_75 rfl (lv_at hl 4 rfl) ?_
      refine lv_iload_n hx hb d_M_run_76 rfl (lv_at hl 3 rfl) ?_
      refine vp_callSi (va_Run.run (va_runV (As := [.int at_]) (rest := []) ⟨hx, hb, hml, hown, hts⟩ (c_M_ends l D dA ad ho wo Q G ((m_M_check G mk).2) (nI sp, X2.2.1, X2.2.2.1, X2.2.2.2.1, X2.2.2.2.2) at_ (to_in hG hat)) (cwV 1 hts (g_V wd_671 wd_673 wd_20 wd_35 wd_674) rfl rfl rfl (by decide +kernel) ⟨Nat.le_of_ble_eq_true rfl, Nat.le_of_ble_eq_true rfl⟩) ⟨MG_fb, (va_recv (ci := 9) (q := (R_M, F_M, 20)) (q0 := 0) hK hP rfl rfl), fun U hU hW => ⟨rfl, MG_at hP hK hU hW⟩⟩ rfl rfl hl.1 rfl (lv_room (Nat.le_of_ble_eq_true rfl)) d_M_run_77 ⟨Nat.le_of_ble_eq_true rfl, Nat.le_of_ble_eq_true rfl⟩)) (fun r4 e3 => ?_)
      subst e3
      refine lv_if_eq (tgt := 99) hx hb d_M_run_80 (by decide) (fun h4 => ?_) (fun h4 => ?_)
      · refine W_join (pc' := 115) (v := .long (m_M_run_j99 wo G mk X at_ sp X2)) (rest := []) (fun kk => ?_) ?_
        · refine lv_iload_n hx hb d_M_run_99 rfl (lv_at hl 1 rfl) ?_
          refine lv_bipush (v := 8) hx hb d_M_run_100 (by decide) ?_
          refine lv_iand hx hb d_M_run_102 ?_
          refine lv_if_eq (tgt := 113) hx hb d_M_run_103 (by decide) (fun h5 => ?_) (fun h5 => ?_)
          · refine lv_lload hx hb d_M_run_113 (lv_at hl 0 rfl) ?_
            rw [m_M_run_j99, if_pos h5] at kk
            exact kk
          refine lv_aload_n hx hb d_M_run_106 rfl (lv_at hl 4 rfl) ?_
          refine va_get (D := D) (ci := 9) (v := .long X2.2.2.1) (C := R_M) (T := F_M) (N := 20) hx hb hts in_M hown hK hP 0 rfl rfl 17 (by decide) (hts _ wd_517) (fun _ h9 => h9) rfl d_M_run_107 ?_
          refine lv_goto (tgt := 115) hx hb d_M_run_110 (by decide) ?_
          rw [m_M_run_j99, if_neg h5] at kk
          exact kk
        refine lv_lstore hx hb d_M_run_115 hl (by decide) rfl (fun ls hl => ?_)
        have hl : lv_has ls 8 [(6, .long (m_M_run_j99 wo G mk X at_ sp X2)), (4, .long (m_M_k G at_)), (3, .int (m_M_code G at_)), (2, .int (nI sp)), (1, .int at_), (0, .ref (ad 0))] := hl
        refine lv_iload_n hx hb d_M_run_117 rfl (lv_at hl 2 rfl) ?_
        refine vp_callSi (va_Run.run (va_runS (As := [.int (m_M_code G at_)]) (rest := []) ⟨hx, hb, hml, hown, hts⟩ (c_M_operation l (m_M_code G at_)) (va_cwS 1 hts (g_S wd_650 wd_651 wd_35 wd_652) rfl rfl rfl (by decide +kernel) ⟨Nat.le_of_ble_eq_true rfl, Nat.le_of_ble_eq_true rfl⟩) ⟨fun _ _ _ _ q => q, fun _ _ _ => ⟨rfl, trivial⟩⟩ rfl rfl hl.1 rfl (lv_room (Nat.le_of_ble_eq_true rfl)) d_M_run_118 ⟨Nat.le_of_ble_eq_true rfl, Nat.le_of_ble_eq_true rfl⟩)) (fun r5 e4 => ?_)
        subst e4
        refine lv_if_eq (tgt := 159) hx hb d_M_run_121 (by decide) (fun h6 => ?_) (fun h6 => ?_)
        · refine lv_iload_n hx hb d_M_run_159 rfl (lv_at hl 2 rfl) ?_
          refine vp_callSi (va_Run.run (va_runS (As := [.int (m_M_code G at_)]) (rest := []) ⟨hx, hb, hml, hown, hts⟩ (c_M_branch l (m_M_code G at_)) (va_cwS 1 hts (g_S wd_653 wd_654 wd_35 wd_655) rfl rfl rfl (by decide +kernel) ⟨Nat.le_of_ble_eq_true rfl, Nat.le_of_ble_eq_true rfl⟩) ⟨fun _ _ _ _ q => q, fun _ _ _ => ⟨rfl, trivial⟩⟩ rfl rfl hl.1 rfl (lv_room (Nat.le_of_ble_eq_true rfl)) d_M_run_160 ⟨Nat.le_of_ble_eq_true rfl, Nat.le_of_ble_eq_true rfl⟩)) (fun r6 e5 => ?_)
          subst e5
          refine lv_if_eq (tgt := 187) hx hb d_M_run_163 (by decide) (fun h7 => ?_) (fun h7 => ?_)
          · refine lv_iload_n hx hb d_M_run_187 rfl (lv_at hl 2 rfl) ?_
            refine lv_iconst (v := 5) hx hb d_M_run_188 (by decide) ?_
            refine lv_icmp_ne (tgt := 201) hx hb d_M_run_189 (by decide) (fun h8 => ?_) (fun h8 => ?_)
            · refine lv_aload_n hx hb d_M_run_201 rfl (lv_at hl 5 rfl) ?_
              refine lv_iload_n hx hb d_M_run_202 rfl (lv_at hl 2 rfl) ?_
              refine lv_lload hx hb d_M_run_203 (lv_at hl 1 rfl) ?_
              refine va_callv (va_runV (As := [.int (m_M_code G at_), .long (m_M_k G at_)]) (rest := []) ⟨hx, hb, hml, hown, hts⟩ (c_M_move l D dA ad A hAd ho wo Q G ((m_M_check G mk).2) (nI sp, X2.2.1, X2.2.2.1, X2.2.2.2.1, X2.2.2.2.2) (m_M_code G at_) (m_M_k G at_) (mv_w hG (ck_ok hG (by assumption)) hat) (mv_s hG (ck_ok hG (by assumption)) hat)) (cwV 2 hts (g_V wd_694 wd_696 wd_24 wd_35 wd_697) rfl rfl rfl (by decide +kernel) ⟨Nat.le_of_ble_eq_true rfl, Nat.le_of_ble_eq_true rfl⟩) ⟨MG_fb, (va_recv (ci := 9) (q := (R_M, F_M, 20)) (q0 := 0) hK hP rfl rfl), fun U hU hW => ⟨rfl, MG_at hP hK hU hW⟩⟩ rfl rfl hl.1 rfl (lv_room (Nat.le_of_ble_eq_true rfl)) d_M_run_205 ⟨Nat.le_of_ble_eq_true rfl, Nat.le_of_ble_eq_true rfl⟩) hS (fun _ _ h => h) (fun _ h => h) (fun u2 t H locs ht hvm hu hB hz hk hS => ?_)
              subst hu
              obtain ⟨hP, -⟩ := hB
              rw [ht] at hP
              have hP : va_P D cls (wM ad dA ho wo Q G ((m_M_check G mk).2) (m_M_move wo (nI sp, X2.2.1, X2.2.2.1, X2.2.2.2.1, X2.2.2.2.2) (m_M_code G at_) (m_M_k G at_))) H := hP
              refine lv_iinc (v := at_ + 1) hx hb d_M_run_208 hl (k := 4) rfl rfl (by decide) rfl (fun ls hl => ?_)
              have hl : lv_has ls 8 [(1, .int (at_ + 1)), (6, .long (m_M_run_j99 wo G mk X at_ sp X2)), (4, .long (m_M_k G at_)), (3, .int (m_M_code G at_)), (2, .int (nI sp)), (0, .ref (ad 0))] := hl
              refine lv_iinc (v := (nI sp) + 1) hx hb d_M_run_211 hl (k := 4) rfl rfl (by decide) rfl (fun ls hl => ?_)
              have hl : lv_has ls 8 [(2, .int ((nI sp) + 1)), (1, .int (at_ + 1)), (6, .long (m_M_run_j99 wo G mk X at_ sp X2)), (4, .long (m_M_k G at_)), (3, .int (m_M_code G at_)), (0, .ref (ad 0))] := hl
              refine lv_goto (tgt := 51) hx hb d_M_run_214 (by decide) ?_
              exact ih2 (at_ + 1) (sp + 1) (m_M_move wo (nI sp, X2.2.1, X2.2.2.1, X2.2.2.2.1, X2.2.2.2.2) (m_M_code G at_) (m_M_k G at_)) _ _ _ ⟨(by omega), (by rw [hm2, m_M_run_l2, if_neg h3, if_pos h4, if_pos h6, if_pos h7, if_neg h8]), (by have h9 := lv_sub hl [0, 1, 5] rfl; rw [nI_1] at h9; exact h9), hP, hS, (by omega), (rn_n hG (ck_end hG (by assumption)) hat (by assumption))⟩
            refine lv_iload_n hx hb d_M_run_192 rfl (lv_at hl 4 rfl) ?_
            refine lv_lload hx hb d_M_run_193 (lv_at hl 1 rfl) ?_
            refine lv_l2i hx hb d_M_run_195 rfl ?_
            refine lv_iadd hx hb d_M_run_196 ?_
            refine lv_istore_n hx hb d_M_run_197 rfl hl (by decide) rfl (fun ls hl => ?_)
            have hl : lv_has ls 8 [(1, .int (at_ + ((m_M_k G at_).toInt32))), (6, .long (m_M_run_j99 wo G mk X at_ sp X2)), (4, .long (m_M_k G at_)), (3, .int (m_M_code G at_)), (2, .int (nI sp)), (0, .ref (ad 0))] := hl
            refine lv_goto (tgt := 208) hx hb d_M_run_198 (by decide) ?_
            refine lv_iinc (v := (at_ + ((m_M_k G at_).toInt32)) + 1) hx hb d_M_run_208 hl (k := 0) rfl rfl (by decide) rfl (fun ls hl => ?_)
            have hl : lv_has ls 8 [(1, .int ((at_ + ((m_M_k G at_).toInt32)) + 1)), (6, .long (m_M_run_j99 wo G mk X at_ sp X2)), (4, .long (m_M_k G at_)), (3, .int (m_M_code G at_)), (2, .int (nI sp)), (0, .ref (ad 0))] := hl
            refine lv_iinc (v := (nI sp) + 1) hx hb d_M_run_211 hl (k := 4) rfl rfl (by decide) rfl (fun ls hl => ?_)
            have hl : lv_has ls 8 [(2, .int ((nI sp) + 1)), (1, .int ((at_ + ((m_M_k G at_).toInt32)) + 1)), (6, .long (m_M_run_j99 wo G mk X at_ sp X2)), (4, .long (m_M_k G at_)), (3, .int (m_M_code G at_)), (0, .ref (ad 0))] := hl
            refine lv_goto (tgt := 51) hx hb d_M_run_214 (by decide) ?_
            exact ih2 ((at_ + ((m_M_k G at_).toInt32)) + 1) (sp + 1) (nI sp, X2.2.1, X2.2.2.1, X2.2.2.2.1, X2.2.2.2.2) _ _ _ ⟨(by omega), (by rw [hm2, m_M_run_l2, if_neg h3, if_pos h4, if_pos h6, if_pos h7, if_pos h8]), (by have h9 := lv_sub hl [0, 1, 5] rfl; rw [nI_1] at h9; exact h9), hP, hS, (by omega), (rn_k hG (ck_ok hG (by assumption)) hat (by assumption))⟩
          refine lv_iload_n hx hb d_M_run_166 rfl (lv_at hl 4 rfl) ?_
          refine lv_aload_n hx hb d_M_run_167 rfl (lv_at hl 5 rfl) ?_
          refine lv_iload_n hx hb d_M_run_168 rfl (lv_at hl 4 rfl) ?_
          refine lv_aload_n hx hb d_M_run_169 rfl (lv_at hl 5 rfl) ?_
          refine lv_iload_n hx hb d_M_run_170 rfl (lv_at hl 2 rfl) ?_
          refine lv_bipush (v := -9) hx hb d_M_run_171 (by decide) ?_
          refine lv_iand hx hb d_M_run_173 ?_
          refine lv_lload hx hb d_M_run_174 (lv_at hl 0 rfl) ?_
          refine vp_callSi (va_Run.run (va_runV (As := [.int ((m_M_code G at_) &&& (-9 : Int32)), .long (m_M_run_j99 wo G mk X at_ sp X2)]) (rest := [.int at_, .ref (ad 0), .int at_]) ⟨hx, hb, hml, hown, hts⟩ (c_M_asks l D dA ad ho wo Q G ((m_M_check G mk).2) (nI sp, X2.2.1, X2.2.2.1, X2.2.2.2.1, X2.2.2.2.2) ((m_M_code G at_) &&& (-9 : Int32)) (m_M_run_j99 wo G mk X at_ sp X2)) (cwV 2 hts (g_V wd_690 wd_692 wd_23 wd_35 wd_693) rfl rfl rfl (by decide +kernel) ⟨Nat.le_of_ble_eq_true rfl, Nat.le_of_ble_eq_true rfl⟩) ⟨MG_fb, (va_recv (ci := 9) (q := (R_M, F_M, 20)) (q0 := 0) hK hP rfl rfl), fun U hU hW => ⟨rfl, MG_at hP hK hU hW⟩⟩ rfl rfl hl.1 rfl (lv_room (Nat.le_of_ble_eq_true rfl)) d_M_run_176 ⟨Nat.le_of_ble_eq_true rfl, Nat.le_of_ble_eq_true rfl⟩)) (fun r7 e6 => ?_)
          subst e6
          refine vp_callSi (va_Run.run (va_runV (As := [.int at_, .int (m_M_asks (nI sp, X2.2.1, X2.2.2.1, X2.2.2.2.1, X2.2.2.2.2) ((m_M_code G at_) &&& (-9 : Int32)) (m_M_run_j99 wo G mk X at_ sp X2))]) (rest := [.int at_]) ⟨hx, hb, hml, hown, hts⟩ (c_M_jump l D dA ad ho wo Q G ((m_M_check G mk).2) (nI sp, X2.2.1, X2.2.2.1, X2.2.2.2.1, X2.2.2.2.2) at_ (m_M_asks (nI sp, X2.2.1, X2.2.2.1, X2.2.2.2.1, X2.2.2.2.2) ((m_M_code G at_) &&& (-9 : Int32)) (m_M_run_j99 wo G mk X at_ sp X2)) (to_in hG hat)) (cwV 2 hts (g_V wd_666 wd_668 wd_19 wd_35 wd_669) rfl rfl rfl (by decide +kernel) ⟨Nat.le_of_ble_eq_true rfl, Nat.le_of_ble_eq_true rfl⟩) ⟨MG_fb, (va_recv (ci := 9) (q := (R_M, F_M, 20)) (q0 := 0) hK hP rfl rfl), fun U hU hW => ⟨rfl, MG_at hP hK hU hW⟩⟩ rfl rfl hl.1 rfl (lv_room (Nat.le_of_ble_eq_true rfl)) d_M_run_179 ⟨Nat.le_of_ble_eq_true rfl, Nat.le_of_ble_eq_true rfl⟩)) (fun r8 e7 => ?_)
          subst e7
          refine lv_iadd hx hb d_M_run_182 ?_
          refine lv_istore_n hx hb d_M_run_183 rfl hl (by decide) rfl (fun ls hl => ?_)
          have hl : lv_has ls 8 [(1, .int (at_ + (m_M_jump G at_ (m_M_asks (nI sp, X2.2.1, X2.2.2.1, X2.2.2.2.1, X2.2.2.2.2) ((m_M_code G at_) &&& (-9 : Int32)) (m_M_run_j99 wo G mk X at_ sp X2))))), (6, .long (m_M_run_j99 wo G mk X at_ sp X2)), (4, .long (m_M_k G at_)), (3, .int (m_M_code G at_)), (2, .int (nI sp)), (0, .ref (ad 0))] := hl
          refine lv_goto (tgt := 208) hx hb d_M_run_184 (by decide) ?_
          refine lv_iinc (v := (at_ + (m_M_jump G at_ (m_M_asks (nI sp, X2.2.1, X2.2.2.1, X2.2.2.2.1, X2.2.2.2.2) ((m_M_code G at_) &&& (-9 : Int32)) (m_M_run_j99 wo G mk X at_ sp X2)))) + 1) hx hb d_M_run_208 hl (k := 0) rfl rfl (by decide) rfl (fun ls hl => ?_)
          have hl : lv_has ls 8 [(1, .int ((at_ + (m_M_jump G at_ (m_M_asks (nI sp, X2.2.1, X2.2.2.1, X2.2.2.2.1, X2.2.2.2.2) ((m_M_code G at_) &&& (-9 : Int32)) (m_M_run_j99 wo G mk X at_ sp X2)))) + 1)), (6, .long (m_M_run_j99 wo G mk X at_ sp X2)), (4, .long (m_M_k G at_)), (3, .int (m_M_code G at_)), (2, .int (nI sp)), (0, .ref (ad 0))] := hl
          refine lv_iinc (v := (nI sp) + 1) hx hb d_M_run_211 hl (k := 4) rfl rfl (by decide) rfl (fun ls hl => ?_)
          have hl : lv_has ls 8 [(2, .int ((nI sp) + 1)), (1, .int ((at_ + (m_M_jump G at_ (m_M_asks (nI sp, X2.2.1, X2.2.2.1, X2.2.2.2.1, X2.2.2.2.2) ((m_M_code G at_) &&& (-9 : Int32)) (m_M_run_j99 wo G mk X at_ sp X2)))) + 1)), (6, .long (m_M_run_j99 wo G mk X at_ sp X2)), (4, .long (m_M_k G at_)), (3, .int (m_M_code G at_)), (0, .ref (ad 0))] := hl
          refine lv_goto (tgt := 51) hx hb d_M_run_214 (by decide) ?_
          exact ih2 ((at_ + (m_M_jump G at_ (m_M_asks (nI sp, X2.2.1, X2.2.2.1, X2.2.2.2.1, X2.2.2.2.2) ((m_M_code G at_) &&& (-9 : Int32)) (m_M_run_j99 wo G mk X at_ sp X2)))) + 1) (sp + 1) (nI sp, X2.2.1, X2.2.2.1, X2.2.2.2.1, X2.2.2.2.2) _ _ _ ⟨(by omega), (by rw [hm2, m_M_run_l2, if_neg h3, if_pos h4, if_pos h6, if_neg h7]), (by have h9 := lv_sub hl [0, 1, 5] rfl; rw [nI_1] at h9; exact h9), hP, hS, (by omega), (rn_j hG (ck_ok hG (by assumption)) hat (by assumption))⟩
        refine lv_iload_n hx hb d_M_run_124 rfl (lv_at hl 2 rfl) ?_
        refine lv_bipush (v := -9) hx hb d_M_run_125 (by decide) ?_
        refine lv_iand hx hb d_M_run_127 ?_
        refine lv_bipush (v := 52) hx hb d_M_run_128 (by decide) ?_
        refine lv_icmp_ne (tgt := 142) hx hb d_M_run_130 (by decide) (fun h9 => ?_) (fun h9 => ?_)
        · refine lv_aload_n hx hb d_M_run_142 rfl (lv_at hl 5 rfl) ?_
          refine lv_aload_n hx hb d_M_run_143 rfl (lv_at hl 5 rfl) ?_
          refine lv_iload_n hx hb d_M_run_144 rfl (lv_at hl 2 rfl) ?_
          refine lv_bipush (v := -9) hx hb d_M_run_145 (by decide) ?_
          refine lv_iand hx hb d_M_run_147 ?_
          refine lv_lload hx hb d_M_run_148 (lv_at hl 0 rfl) ?_
          refine vp_callSl (va_Run.run (va_runV (As := [.int ((m_M_code G at_) &&& (-9 : Int32)), .long (m_M_run_j99 wo G mk X at_ sp X2)]) (rest := [.ref (ad 0)]) ⟨hx, hb, hml, hown, hts⟩ (c_M_combine l D dA ad ho wo Q G ((m_M_check G mk).2) (nI sp, X2.2.1, X2.2.2.1, X2.2.2.2.1, X2.2.2.2.2) ((m_M_code G at_) &&& (-9 : Int32)) (m_M_run_j99 wo G mk X at_ sp X2) (by first | exact fun q => absurd q (by assumption) | exact fun _ => cmp_ne0 (by assumption))) (cwV 2 hts (g_V wd_685 wd_687 wd_22 wd_35 wd_688) rfl rfl rfl (by decide +kernel) ⟨Nat.le_of_ble_eq_true rfl, Nat.le_of_ble_eq_true rfl⟩) ⟨MG_fb, (va_recv (ci := 9) (q := (R_M, F_M, 20)) (q0 := 0) hK hP rfl rfl), fun U hU hW => ⟨rfl, MG_at hP hK hU hW⟩⟩ rfl rfl hl.1 rfl (lv_room (Nat.le_of_ble_eq_true rfl)) d_M_run_150 ⟨Nat.le_of_ble_eq_true rfl, Nat.le_of_ble_eq_true rfl⟩)) (fun r9 e8 => ?_)
          subst e8
          refine va_put (D := D) (ci := 9) (v := .long (m_M_combine (nI sp, X2.2.1, X2.2.2.1, X2.2.2.2.1, X2.2.2.2.2) ((m_M_code G at_) &&& (-9 : Int32)) (m_M_run_j99 wo G mk X at_ sp X2))) (ty := .long) (C := R_M) (T := F_M) (N := 20) hx hb hts in_M t_M k_M n_M hown hK hP (wM_D hAd) hS 0 rfl rfl 16 (by decide) (hts _ wd_516) (fun _ h9 => h9) rfl (by decide +kernel) rfl rfl (Nat.le_of_ble_eq_true rfl) d_M_run_153 (fun H locs hP _ hS => ?_)
          have hP : va_P D cls (wM ad dA ho wo Q G ((m_M_check G mk).2) (nI sp, m_M_combine (nI sp, X2.2.1, X2.2.2.1, X2.2.2.2.1, X2.2.2.2.2) ((m_M_code G at_) &&& (-9 : Int32)) (m_M_run_j99 wo G mk X at_ sp X2), X2.2.2.1, X2.2.2.2.1, X2.2.2.2.2)) H := hP
          refine lv_goto (tgt := 208) hx hb d_M_run_156 (by decide) ?_
          refine lv_iinc (v := at_ + 1) hx hb d_M_run_208 hl (k := 4) rfl rfl (by decide) rfl (fun ls hl => ?_)
          have hl : lv_has ls 8 [(1, .int (at_ + 1)), (6, .long (m_M_run_j99 wo G mk X at_ sp X2)), (4, .long (m_M_k G at_)), (3, .int (m_M_code G at_)), (2, .int (nI sp)), (0, .ref (ad 0))] := hl
          refine lv_iinc (v := (nI sp) + 1) hx hb d_M_run_211 hl (k := 4) rfl rfl (by decide) rfl (fun ls hl => ?_)
          have hl : lv_has ls 8 [(2, .int ((nI sp) + 1)), (1, .int (at_ + 1)), (6, .long (m_M_run_j99 wo G mk X at_ sp X2)), (4, .long (m_M_k G at_)), (3, .int (m_M_code G at_)), (0, .ref (ad 0))] := hl
          refine lv_goto (tgt := 51) hx hb d_M_run_214 (by decide) ?_
          exact ih2 (at_ + 1) (sp + 1) (nI sp, m_M_combine (nI sp, X2.2.1, X2.2.2.1, X2.2.2.2.1, X2.2.2.2.2) ((m_M_code G at_) &&& (-9 : Int32)) (m_M_run_j99 wo G mk X at_ sp X2), X2.2.2.1, X2.2.2.2.1, X2.2.2.2.2) _ _ _ ⟨(by omega), (by rw [hm2, m_M_run_l2, if_neg h3, if_pos h4, if_neg h6, if_neg h9]), (by have h9 := lv_sub hl [0, 1, 5] rfl; rw [nI_1] at h9; exact h9), hP, hS, (by omega), (rn_n hG (ck_end hG (by assumption)) hat (by assumption))⟩
        refine lv_lload hx hb d_M_run_133 (lv_at hl 0 rfl) ?_
        refine lv_lconst (v := 0) hx hb d_M_run_135 (by decide) ?_
        refine W.lcmp hx hb d_M_run_136 ?_
        refine lv_if_ne (tgt := 142) hx hb d_M_run_137 (by decide) (fun h10 => ?_) (fun h10 => ?_)
        · refine lv_aload_n hx hb d_M_run_142 rfl (lv_at hl 5 rfl) ?_
          refine lv_aload_n hx hb d_M_run_143 rfl (lv_at hl 5 rfl) ?_
          refine lv_iload_n hx hb d_M_run_144 rfl (lv_at hl 2 rfl) ?_
          refine lv_bipush (v := -9) hx hb d_M_run_145 (by decide) ?_
          refine lv_iand hx hb d_M_run_147 ?_
          refine lv_lload hx hb d_M_run_148 (lv_at hl 0 rfl) ?_
          refine vp_callSl (va_Run.run (va_runV (As := [.int ((m_M_code G at_) &&& (-9 : Int32)), .long (m_M_run_j99 wo G mk X at_ sp X2)]) (rest := [.ref (ad 0)]) ⟨hx, hb, hml, hown, hts⟩ (c_M_combine l D dA ad ho wo Q G ((m_M_check G mk).2) (nI sp, X2.2.1, X2.2.2.1, X2.2.2.2.1, X2.2.2.2.2) ((m_M_code G at_) &&& (-9 : Int32)) (m_M_run_j99 wo G mk X at_ sp X2) (by first | exact fun q => absurd q (by assumption) | exact fun _ => cmp_ne0 (by assumption))) (cwV 2 hts (g_V wd_685 wd_687 wd_22 wd_35 wd_688) rfl rfl rfl (by decide +kernel) ⟨Nat.le_of_ble_eq_true rfl, Nat.le_of_ble_eq_true rfl⟩) ⟨MG_fb, (va_recv (ci := 9) (q := (R_M, F_M, 20)) (q0 := 0) hK hP rfl rfl), fun U hU hW => ⟨rfl, MG_at hP hK hU hW⟩⟩ rfl rfl hl.1 rfl (lv_room (Nat.le_of_ble_eq_true rfl)) d_M_run_150 ⟨Nat.le_of_ble_eq_true rfl, Nat.le_of_ble_eq_true rfl⟩)) (fun r10 e9 => ?_)
          subst e9
          refine va_put (D := D) (ci := 9) (v := .long (m_M_combine (nI sp, X2.2.1, X2.2.2.1, X2.2.2.2.1, X2.2.2.2.2) ((m_M_code G at_) &&& (-9 : Int32)) (m_M_run_j99 wo G mk X at_ sp X2))) (ty := .long) (C := R_M) (T := F_M) (N := 20) hx hb hts in_M t_M k_M n_M hown hK hP (wM_D hAd) hS 0 rfl rfl 16 (by decide) (hts _ wd_516) (fun _ h9 => h9) rfl (by decide +kernel) rfl rfl (Nat.le_of_ble_eq_true rfl) d_M_run_153 (fun H locs hP _ hS => ?_)
          have hP : va_P D cls (wM ad dA ho wo Q G ((m_M_check G mk).2) (nI sp, m_M_combine (nI sp, X2.2.1, X2.2.2.1, X2.2.2.2.1, X2.2.2.2.2) ((m_M_code G at_) &&& (-9 : Int32)) (m_M_run_j99 wo G mk X at_ sp X2), X2.2.2.1, X2.2.2.2.1, X2.2.2.2.2)) H := hP
          refine lv_goto (tgt := 208) hx hb d_M_run_156 (by decide) ?_
          refine lv_iinc (v := at_ + 1) hx hb d_M_run_208 hl (k := 4) rfl rfl (by decide) rfl (fun ls hl => ?_)
          have hl : lv_has ls 8 [(1, .int (at_ + 1)), (6, .long (m_M_run_j99 wo G mk X at_ sp X2)), (4, .long (m_M_k G at_)), (3, .int (m_M_code G at_)), (2, .int (nI sp)), (0, .ref (ad 0))] := hl
          refine lv_iinc (v := (nI sp) + 1) hx hb d_M_run_211 hl (k := 4) rfl rfl (by decide) rfl (fun ls hl => ?_)
          have hl : lv_has ls 8 [(2, .int ((nI sp) + 1)), (1, .int (at_ + 1)), (6, .long (m_M_run_j99 wo G mk X at_ sp X2)), (4, .long (m_M_k G at_)), (3, .int (m_M_code G at_)), (0, .ref (ad 0))] := hl
          refine lv_goto (tgt := 51) hx hb d_M_run_214 (by decide) ?_
          exact ih2 (at_ + 1) (sp + 1) (nI sp, m_M_combine (nI sp, X2.2.1, X2.2.2.1, X2.2.2.2.1, X2.2.2.2.2) ((m_M_code G at_) &&& (-9 : Int32)) (m_M_run_j99 wo G mk X at_ sp X2), X2.2.2.1, X2.2.2.2.1, X2.2.2.2.2) _ _ _ ⟨(by omega), (by rw [hm2, m_M_run_l2, if_neg h3, if_pos h4, if_neg h6, if_pos h9, if_neg h10]), (by have h9 := lv_sub hl [0, 1, 5] rfl; rw [nI_1] at h9; exact h9), hP, hS, (by omega), (rn_n hG (ck_end hG (by assumption)) hat (by assumption))⟩
        refine lv_lconst (v := 0) hx hb d_M_run_140 (by decide) ?_
        exact W.lret hx hb hr (fun t ht hW => ⟨⟨_, _, rfl, ⟨(by rw [hm2, m_M_run_l2, if_neg h3, if_pos h4, if_neg h6, if_pos h9, if_pos h10]), (by rw [hm2, m_M_run_l2, if_neg h3, if_pos h4, if_neg h6, if_pos h9, if_pos h10])⟩, MG_at hP hK ht hW⟩, hS.F ht⟩) hS.2.2 d_M_run_141
      refine lv_iload_n hx hb d_M_run_83 rfl (lv_at hl 1 rfl) ?_
      refine lv_bipush (v := 6) hx hb d_M_run_84 (by decide) ?_
      refine lv_icmp_ne (tgt := 94) hx hb d_M_run_86 (by decide) (fun h11 => ?_) (fun h11 => ?_)
      · refine lv_aload_n hx hb d_M_run_94 rfl (lv_at hl 4 rfl) ?_
        refine va_get (D := D) (ci := 9) (v := .long X2.2.1) (C := R_M) (T := F_M) (N := 20) hx hb hts in_M hown hK hP 0 rfl rfl 16 (by decide) (hts _ wd_516) (fun _ h9 => h9) rfl d_M_run_95 ?_
        exact W.lret hx hb hr (fun t ht hW => ⟨⟨_, _, rfl, ⟨(by rw [hm2, m_M_run_l2, if_neg h3, if_neg h4, if_neg h11]), (by rw [hm2, m_M_run_l2, if_neg h3, if_neg h4, if_neg h11])⟩, MG_at hP hK ht hW⟩, hS.F ht⟩) hS.2.2 d_M_run_98
      refine lv_lload hx hb d_M_run_89 (lv_at hl 0 rfl) ?_
      refine lv_goto (tgt := 98) hx hb d_M_run_91 (by decide) ?_
      exact W.lret hx hb hr (fun t ht hW => ⟨⟨_, _, rfl, ⟨(by rw [hm2, m_M_run_l2, if_neg h3, if_neg h4, if_pos h11]), (by rw [hm2, m_M_run_l2, if_neg h3, if_neg h4, if_pos h11])⟩, MG_at hP hK ht hW⟩, hS.F ht⟩) hS.2.2 d_M_run_98
    have hql : q < 16 := n16_lt hq h2
    refine lv_aload_n hx hb d_M_run_34 rfl (lv_at hl 1 rfl) ?_
    refine va_get (D := D) (ci := 9) (v := .ref (ad 14)) (C := R_M) (T := F_M) (N := 20) hx hb hts in_M hown hK hP 0 rfl rfl 19 (by decide) (hts _ wd_519) (fun _ h9 => h9) rfl d_M_run_35 ?_
    refine lv_iload_n hx hb d_M_run_38 rfl (lv_at hl 0 rfl) ?_
    refine lv_iconst (v := 0) hx hb d_M_run_39 (by decide) ?_
    refine va_zast (n := 16) (f := X1.2.2.2.2) hx hb hK hP (wM_D hAd) hS 14 4 rfl rfl (vp_in_nI (by omega) (by decide)) d_M_run_40 (fun H locs hP _ hS => ?_)
    have hP : va_P D cls (wM ad dA ho wo Q G ((m_M_check G mk).2) (X1.1, X1.2.1, X1.2.2.1, X1.2.2.2.1, upd X1.2.2.2.2 (nI q).toNatClampNeg (0 : Int32))) H := hP
    refine lv_iinc (v := (nI q) + 1) hx hb d_M_run_41 hl (k := 0) rfl rfl (by decide) rfl (fun ls hl => ?_)
    have hl : lv_has ls 8 [(1, .int ((nI q) + 1)), (0, .ref (ad 0))] := hl
    refine lv_goto (tgt := 28) hx hb d_M_run_44 (by decide) ?_
    exact ih1 (q + 1) (X1.1, X1.2.1, X1.2.2.1, X1.2.2.2.1, upd X1.2.2.2.2 (nI q).toNatClampNeg (0 : Int32)) _ _ _ ⟨(by omega), (by rw [hm1, m_M_run_l1, if_neg h2]), (by have h9 := lv_sub hl [0, 1] rfl; rw [nI_1] at h9; exact h9), hP, hS, (by omega)⟩
  refine lv_ldc2 (v := -1) hx hb hown (hts _ wd_684) d_M_run_12 ?_
  exact W.lret hx hb hr (fun t ht hW => ⟨⟨_, _, rfl, ⟨(by rw [m_M_run, if_neg h1]), (by rw [m_M_run, if_neg h1])⟩, MG_at hP hK ht hW⟩, hS.F ht⟩) hS.2.2 d_M_run_15
