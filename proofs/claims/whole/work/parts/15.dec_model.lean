theorem dX11_init_0 : decode cX11_init 0 = .ok (.aload_n 0, 1) := by decide +kernel
theorem dX11_init_1 : decode cX11_init 1 = .ok (.invokespecial 1, 3) := by decide +kernel
theorem dX11_init_4 : decode cX11_init 4 = .ok (.aload_n 0, 1) := by decide +kernel
theorem dX11_init_5 : decode cX11_init 5 = .ok (.bipush 50, 2) := by decide +kernel
theorem dX11_init_7 : decode cX11_init 7 = .ok (.putfield 7, 3) := by decide +kernel
theorem dX11_init_10 : decode cX11_init 10 = .ok (.aload_n 0, 1) := by decide +kernel
theorem dX11_init_11 : decode cX11_init 11 = .ok (.bipush 24, 2) := by decide +kernel
theorem dX11_init_13 : decode cX11_init 13 = .ok (.newarray .int, 2) := by decide +kernel
theorem dX11_init_15 : decode cX11_init 15 = .ok (.putfield 13, 3) := by decide +kernel
theorem dX11_init_18 : decode cX11_init 18 = .ok (.aload_n 0, 1) := by decide +kernel
theorem dX11_init_19 : decode cX11_init 19 = .ok (.bipush 60, 2) := by decide +kernel
theorem dX11_init_21 : decode cX11_init 21 = .ok (.newarray .int, 2) := by decide +kernel
theorem dX11_init_23 : decode cX11_init 23 = .ok (.putfield 17, 3) := by decide +kernel
theorem dX11_init_26 : decode cX11_init 26 = .ok (.aload_n 0, 1) := by decide +kernel
theorem dX11_init_27 : decode cX11_init 27 = .ok (.sipush 1001, 3) := by decide +kernel
theorem dX11_init_30 : decode cX11_init 30 = .ok (.newarray .int, 2) := by decide +kernel
theorem dX11_init_32 : decode cX11_init 32 = .ok (.putfield 20, 3) := by decide +kernel
theorem dX11_init_35 : decode cX11_init 35 = .ok (.aload_n 0, 1) := by decide +kernel
theorem dX11_init_36 : decode cX11_init 36 = .ok (.iconst (-1), 1) := by decide +kernel
theorem dX11_init_37 : decode cX11_init 37 = .ok (.putfield 23, 3) := by decide +kernel
theorem dX11_init_40 : decode cX11_init 40 = .ok (.aload_n 0, 1) := by decide +kernel
theorem dX11_init_41 : decode cX11_init 41 = .ok (.sipush 1001, 3) := by decide +kernel
theorem dX11_init_44 : decode cX11_init 44 = .ok (.newarray .int, 2) := by decide +kernel
theorem dX11_init_46 : decode cX11_init 46 = .ok (.putfield 26, 3) := by decide +kernel
theorem dX11_init_49 : decode cX11_init 49 = .ok (.aload_n 0, 1) := by decide +kernel
theorem dX11_init_50 : decode cX11_init 50 = .ok (.sipush 1001, 3) := by decide +kernel
theorem dX11_init_53 : decode cX11_init 53 = .ok (.newarray .int, 2) := by decide +kernel
theorem dX11_init_55 : decode cX11_init 55 = .ok (.putfield 29, 3) := by decide +kernel
theorem dX11_init_58 : decode cX11_init 58 = .ok (.aload_n 0, 1) := by decide +kernel
theorem dX11_init_59 : decode cX11_init 59 = .ok (.sipush 1001, 3) := by decide +kernel
theorem dX11_init_62 : decode cX11_init 62 = .ok (.newarray .boolean, 2) := by decide +kernel
theorem dX11_init_64 : decode cX11_init 64 = .ok (.putfield 32, 3) := by decide +kernel
theorem dX11_init_67 : decode cX11_init 67 = .ok (.aload_n 0, 1) := by decide +kernel
theorem dX11_init_68 : decode cX11_init 68 = .ok (.bipush 8, 2) := by decide +kernel
theorem dX11_init_70 : decode cX11_init 70 = .ok (.newarray .int, 2) := by decide +kernel
theorem dX11_init_72 : decode cX11_init 72 = .ok (.putfield 36, 3) := by decide +kernel
theorem dX11_init_75 : decode cX11_init 75 = .ok (.aload_n 0, 1) := by decide +kernel
theorem dX11_init_76 : decode cX11_init 76 = .ok (.bipush 8, 2) := by decide +kernel
theorem dX11_init_78 : decode cX11_init 78 = .ok (.newarray .int, 2) := by decide +kernel
theorem dX11_init_80 : decode cX11_init 80 = .ok (.putfield 39, 3) := by decide +kernel
theorem dX11_init_83 : decode cX11_init 83 = .ok (.aload_n 0, 1) := by decide +kernel
theorem dX11_init_84 : decode cX11_init 84 = .ok (.bipush 8, 2) := by decide +kernel
theorem dX11_init_86 : decode cX11_init 86 = .ok (.newarray .int, 2) := by decide +kernel
theorem dX11_init_88 : decode cX11_init 88 = .ok (.putfield 42, 3) := by decide +kernel
theorem dX11_init_91 : decode cX11_init 91 = .ok (.aload_n 0, 1) := by decide +kernel
theorem dX11_init_92 : decode cX11_init 92 = .ok (.bipush 8, 2) := by decide +kernel
theorem dX11_init_94 : decode cX11_init 94 = .ok (.newarray .int, 2) := by decide +kernel
theorem dX11_init_96 : decode cX11_init 96 = .ok (.putfield 45, 3) := by decide +kernel
theorem dX11_init_99 : decode cX11_init 99 = .ok (.aload_n 0, 1) := by decide +kernel
theorem dX11_init_100 : decode cX11_init 100 = .ok (.bipush 8, 2) := by decide +kernel
theorem dX11_init_102 : decode cX11_init 102 = .ok (.newarray .int, 2) := by decide +kernel
theorem dX11_init_104 : decode cX11_init 104 = .ok (.putfield 48, 3) := by decide +kernel
theorem dX11_init_107 : decode cX11_init 107 = .ok (.aload_n 0, 1) := by decide +kernel
theorem dX11_init_108 : decode cX11_init 108 = .ok (.bipush 16, 2) := by decide +kernel
theorem dX11_init_110 : decode cX11_init 110 = .ok (.newarray .int, 2) := by decide +kernel
theorem dX11_init_112 : decode cX11_init 112 = .ok (.putfield 51, 3) := by decide +kernel
theorem dX11_init_115 : decode cX11_init 115 = .ok (.aload_n 0, 1) := by decide +kernel
theorem dX11_init_116 : decode cX11_init 116 = .ok (.bipush 16, 2) := by decide +kernel
theorem dX11_init_118 : decode cX11_init 118 = .ok (.newarray .int, 2) := by decide +kernel
theorem dX11_init_120 : decode cX11_init 120 = .ok (.putfield 54, 3) := by decide +kernel
theorem dX11_init_123 : decode cX11_init 123 = .ok (.aload_n 0, 1) := by decide +kernel
theorem dX11_init_124 : decode cX11_init 124 = .ok (.sipush 8008, 3) := by decide +kernel
theorem dX11_init_127 : decode cX11_init 127 = .ok (.newarray .int, 2) := by decide +kernel
theorem dX11_init_129 : decode cX11_init 129 = .ok (.putfield 57, 3) := by decide +kernel
theorem dX11_init_132 : decode cX11_init 132 = .ok (.aload_n 0, 1) := by decide +kernel
theorem dX11_init_133 : decode cX11_init 133 = .ok (.bipush 6, 2) := by decide +kernel
theorem dX11_init_135 : decode cX11_init 135 = .ok (.newarray .int, 2) := by decide +kernel
theorem dX11_init_137 : decode cX11_init 137 = .ok (.putfield 60, 3) := by decide +kernel
theorem dX11_init_140 : decode cX11_init 140 = .ok (.aload_n 0, 1) := by decide +kernel
theorem dX11_init_141 : decode cX11_init 141 = .ok (.bipush 6, 2) := by decide +kernel
theorem dX11_init_143 : decode cX11_init 143 = .ok (.newarray .int, 2) := by decide +kernel
theorem dX11_init_145 : decode cX11_init 145 = .ok (.putfield 63, 3) := by decide +kernel
theorem dX11_init_148 : decode cX11_init 148 = .ok (.aload_n 0, 1) := by decide +kernel
theorem dX11_init_149 : decode cX11_init 149 = .ok (.bipush 6, 2) := by decide +kernel
theorem dX11_init_151 : decode cX11_init 151 = .ok (.newarray .int, 2) := by decide +kernel
theorem dX11_init_153 : decode cX11_init 153 = .ok (.putfield 66, 3) := by decide +kernel
theorem dX11_init_156 : decode cX11_init 156 = .ok (.aload_n 0, 1) := by decide +kernel
theorem dX11_init_157 : decode cX11_init 157 = .ok (.bipush 6, 2) := by decide +kernel
theorem dX11_init_159 : decode cX11_init 159 = .ok (.newarray .int, 2) := by decide +kernel
theorem dX11_init_161 : decode cX11_init 161 = .ok (.putfield 69, 3) := by decide +kernel
theorem dX11_init_164 : decode cX11_init 164 = .ok (.aload_n 0, 1) := by decide +kernel
theorem dX11_init_165 : decode cX11_init 165 = .ok (.bipush 6, 2) := by decide +kernel
theorem dX11_init_167 : decode cX11_init 167 = .ok (.newarray .int, 2) := by decide +kernel
theorem dX11_init_169 : decode cX11_init 169 = .ok (.putfield 72, 3) := by decide +kernel
theorem dX11_init_172 : decode cX11_init 172 = .ok (.aload_n 0, 1) := by decide +kernel
theorem dX11_init_173 : decode cX11_init 173 = .ok (.bipush 6, 2) := by decide +kernel
theorem dX11_init_175 : decode cX11_init 175 = .ok (.newarray .int, 2) := by decide +kernel
theorem dX11_init_177 : decode cX11_init 177 = .ok (.putfield 75, 3) := by decide +kernel
theorem dX11_init_180 : decode cX11_init 180 = .ok (.aload_n 0, 1) := by decide +kernel
theorem dX11_init_181 : decode cX11_init 181 = .ok (.bipush 6, 2) := by decide +kernel
theorem dX11_init_183 : decode cX11_init 183 = .ok (.newarray .int, 2) := by decide +kernel
theorem dX11_init_185 : decode cX11_init 185 = .ok (.putfield 78, 3) := by decide +kernel
theorem dX11_init_188 : decode cX11_init 188 = .ok (.aload_n 0, 1) := by decide +kernel
theorem dX11_init_189 : decode cX11_init 189 = .ok (.bipush 6, 2) := by decide +kernel
theorem dX11_init_191 : decode cX11_init 191 = .ok (.newarray .int, 2) := by decide +kernel
theorem dX11_init_193 : decode cX11_init 193 = .ok (.putfield 81, 3) := by decide +kernel
theorem dX11_init_196 : decode cX11_init 196 = .ok (.aload_n 0, 1) := by decide +kernel
theorem dX11_init_197 : decode cX11_init 197 = .ok (.bipush 6, 2) := by decide +kernel
theorem dX11_init_199 : decode cX11_init 199 = .ok (.newarray .int, 2) := by decide +kernel
theorem dX11_init_201 : decode cX11_init 201 = .ok (.putfield 84, 3) := by decide +kernel
theorem dX11_init_204 : decode cX11_init 204 = .ok (.aload_n 0, 1) := by decide +kernel
theorem dX11_init_205 : decode cX11_init 205 = .ok (.bipush 6, 2) := by decide +kernel
theorem dX11_init_207 : decode cX11_init 207 = .ok (.newarray .boolean, 2) := by decide +kernel
theorem dX11_init_209 : decode cX11_init 209 = .ok (.putfield 87, 3) := by decide +kernel
theorem dX11_init_212 : decode cX11_init 212 = .ok (.aload_n 0, 1) := by decide +kernel
theorem dX11_init_213 : decode cX11_init 213 = .ok (.bipush 6, 2) := by decide +kernel
theorem dX11_init_215 : decode cX11_init 215 = .ok (.newarray .int, 2) := by decide +kernel
theorem dX11_init_217 : decode cX11_init 217 = .ok (.putfield 90, 3) := by decide +kernel
theorem dX11_init_220 : decode cX11_init 220 = .ok (.aload_n 0, 1) := by decide +kernel
theorem dX11_init_221 : decode cX11_init 221 = .ok (.bipush 6, 2) := by decide +kernel
theorem dX11_init_223 : decode cX11_init 223 = .ok (.newarray .int, 2) := by decide +kernel
theorem dX11_init_225 : decode cX11_init 225 = .ok (.putfield 93, 3) := by decide +kernel
theorem dX11_init_228 : decode cX11_init 228 = .ok (.aload_n 0, 1) := by decide +kernel
theorem dX11_init_229 : decode cX11_init 229 = .ok (.bipush 6, 2) := by decide +kernel
theorem dX11_init_231 : decode cX11_init 231 = .ok (.newarray .int, 2) := by decide +kernel
theorem dX11_init_233 : decode cX11_init 233 = .ok (.putfield 96, 3) := by decide +kernel
theorem dX11_init_236 : decode cX11_init 236 = .ok (.aload_n 0, 1) := by decide +kernel
theorem dX11_init_237 : decode cX11_init 237 = .ok (.bipush 10, 2) := by decide +kernel
theorem dX11_init_239 : decode cX11_init 239 = .ok (.newarray .long, 2) := by decide +kernel
theorem dX11_init_241 : decode cX11_init 241 = .ok (.putfield 99, 3) := by decide +kernel
theorem dX11_init_244 : decode cX11_init 244 = .ok (.return_, 1) := by decide +kernel
theorem dX11_thrown_0 : decode cX11_thrown 0 = .ok (.aload_n 0, 1) := by decide +kernel
theorem dX11_thrown_1 : decode cX11_thrown 1 = .ok (.getfield 103, 3) := by decide +kernel
theorem dX11_thrown_4 : decode cX11_thrown 4 = .ok (.ireturn, 1) := by decide +kernel
theorem dX11_holds_0 : decode cX11_holds 0 = .ok (.aload_n 0, 1) := by decide +kernel
theorem dX11_holds_1 : decode cX11_holds 1 = .ok (.iload_n 1, 1) := by decide +kernel
theorem dX11_holds_2 : decode cX11_holds 2 = .ok (.putfield 103, 3) := by decide +kernel
theorem dX11_holds_5 : decode cX11_holds 5 = .ok (.iload_n 1, 1) := by decide +kernel
theorem dX11_holds_6 : decode cX11_holds 6 = .ok (.ifCond .ne 7, 3) := by decide +kernel
theorem dX11_holds_9 : decode cX11_holds 9 = .ok (.iconst 1, 1) := by decide +kernel
theorem dX11_holds_10 : decode cX11_holds 10 = .ok (.goto 4, 3) := by decide +kernel
theorem dX11_holds_13 : decode cX11_holds 13 = .ok (.iconst 0, 1) := by decide +kernel
theorem dX11_holds_14 : decode cX11_holds 14 = .ok (.ireturn, 1) := by decide +kernel
theorem dX11_isIn_0 : decode cX11_isIn 0 = .ok (.iload_n 0, 1) := by decide +kernel
theorem dX11_isIn_1 : decode cX11_isIn 1 = .ok (.iload_n 1, 1) := by decide +kernel
theorem dX11_isIn_2 : decode cX11_isIn 2 = .ok (.if_icmp .lt 12, 3) := by decide +kernel
theorem dX11_isIn_5 : decode cX11_isIn 5 = .ok (.iload_n 0, 1) := by decide +kernel
theorem dX11_isIn_6 : decode cX11_isIn 6 = .ok (.iload_n 2, 1) := by decide +kernel
theorem dX11_isIn_7 : decode cX11_isIn 7 = .ok (.if_icmp .gt 7, 3) := by decide +kernel
theorem dX11_isIn_10 : decode cX11_isIn 10 = .ok (.iconst 1, 1) := by decide +kernel
theorem dX11_isIn_11 : decode cX11_isIn 11 = .ok (.goto 4, 3) := by decide +kernel
theorem dX11_isIn_14 : decode cX11_isIn 14 = .ok (.iconst 0, 1) := by decide +kernel
theorem dX11_isIn_15 : decode cX11_isIn 15 = .ok (.ireturn, 1) := by decide +kernel
theorem dX11_isSection_0 : decode cX11_isSection 0 = .ok (.iload_n 1, 1) := by decide +kernel
theorem dX11_isSection_1 : decode cX11_isSection 1 = .ok (.iconst 0, 1) := by decide +kernel
theorem dX11_isSection_2 : decode cX11_isSection 2 = .ok (.aload_n 0, 1) := by decide +kernel
theorem dX11_isSection_3 : decode cX11_isSection 3 = .ok (.getfield 106, 3) := by decide +kernel
theorem dX11_isSection_6 : decode cX11_isSection 6 = .ok (.iconst 1, 1) := by decide +kernel
theorem dX11_isSection_7 : decode cX11_isSection 7 = .ok (.isub, 1) := by decide +kernel
theorem dX11_isSection_8 : decode cX11_isSection 8 = .ok (.invokestatic 109, 3) := by decide +kernel
theorem dX11_isSection_11 : decode cX11_isSection 11 = .ok (.ireturn, 1) := by decide +kernel
theorem dX11_turn_0 : decode cX11_turn 0 = .ok (.iload_n 1, 1) := by decide +kernel
theorem dX11_turn_1 : decode cX11_turn 1 = .ok (.iconst 2, 1) := by decide +kernel
theorem dX11_turn_2 : decode cX11_turn 2 = .ok (.bipush 60, 2) := by decide +kernel
theorem dX11_turn_4 : decode cX11_turn 4 = .ok (.invokestatic 109, 3) := by decide +kernel
theorem dX11_turn_7 : decode cX11_turn 7 = .ok (.ifCond .eq 39, 3) := by decide +kernel
theorem dX11_turn_10 : decode cX11_turn 10 = .ok (.iload_n 2, 1) := by decide +kernel
theorem dX11_turn_11 : decode cX11_turn 11 = .ok (.iconst 1, 1) := by decide +kernel
theorem dX11_turn_12 : decode cX11_turn 12 = .ok (.iload_n 1, 1) := by decide +kernel
theorem dX11_turn_13 : decode cX11_turn 13 = .ok (.iconst 1, 1) := by decide +kernel
theorem dX11_turn_14 : decode cX11_turn 14 = .ok (.isub, 1) := by decide +kernel
theorem dX11_turn_15 : decode cX11_turn 15 = .ok (.invokestatic 109, 3) := by decide +kernel
theorem dX11_turn_18 : decode cX11_turn 18 = .ok (.ifCond .eq 28, 3) := by decide +kernel
theorem dX11_turn_21 : decode cX11_turn 21 = .ok (.iload_n 3, 1) := by decide +kernel
theorem dX11_turn_22 : decode cX11_turn 22 = .ok (.iconst 0, 1) := by decide +kernel
theorem dX11_turn_23 : decode cX11_turn 23 = .ok (.bipush 50, 2) := by decide +kernel
theorem dX11_turn_25 : decode cX11_turn 25 = .ok (.invokestatic 109, 3) := by decide +kernel
theorem dX11_turn_28 : decode cX11_turn 28 = .ok (.ifCond .eq 18, 3) := by decide +kernel
theorem dX11_turn_31 : decode cX11_turn 31 = .ok (.iload 4, 2) := by decide +kernel
theorem dX11_turn_33 : decode cX11_turn 33 = .ok (.iconst 0, 1) := by decide +kernel
theorem dX11_turn_34 : decode cX11_turn 34 = .ok (.bipush 59, 2) := by decide +kernel
theorem dX11_turn_36 : decode cX11_turn 36 = .ok (.invokestatic 109, 3) := by decide +kernel
theorem dX11_turn_39 : decode cX11_turn 39 = .ok (.ifCond .eq 7, 3) := by decide +kernel
theorem dX11_turn_42 : decode cX11_turn 42 = .ok (.iconst 1, 1) := by decide +kernel
theorem dX11_turn_43 : decode cX11_turn 43 = .ok (.goto 4, 3) := by decide +kernel
theorem dX11_turn_46 : decode cX11_turn 46 = .ok (.iconst 0, 1) := by decide +kernel
theorem dX11_turn_47 : decode cX11_turn 47 = .ok (.istore 5, 2) := by decide +kernel
theorem dX11_turn_49 : decode cX11_turn 49 = .ok (.aload_n 0, 1) := by decide +kernel
theorem dX11_turn_50 : decode cX11_turn 50 = .ok (.iload 5, 2) := by decide +kernel
theorem dX11_turn_52 : decode cX11_turn 52 = .ok (.ifCond .ne 7, 3) := by decide +kernel
theorem dX11_turn_55 : decode cX11_turn 55 = .ok (.iconst 1, 1) := by decide +kernel
theorem dX11_turn_56 : decode cX11_turn 56 = .ok (.goto 17, 3) := by decide +kernel
theorem dX11_turn_59 : decode cX11_turn 59 = .ok (.aload_n 0, 1) := by decide +kernel
theorem dX11_turn_60 : decode cX11_turn 60 = .ok (.getfield 113, 3) := by decide +kernel
theorem dX11_turn_63 : decode cX11_turn 63 = .ok (.bipush 6, 2) := by decide +kernel
theorem dX11_turn_65 : decode cX11_turn 65 = .ok (.if_icmp .ne 7, 3) := by decide +kernel
theorem dX11_turn_68 : decode cX11_turn 68 = .ok (.iconst 2, 1) := by decide +kernel
theorem dX11_turn_69 : decode cX11_turn 69 = .ok (.goto 4, 3) := by decide +kernel
theorem dX11_turn_72 : decode cX11_turn 72 = .ok (.iconst 0, 1) := by decide +kernel
theorem dX11_turn_73 : decode cX11_turn 73 = .ok (.invokevirtual 116, 3) := by decide +kernel
theorem dX11_turn_76 : decode cX11_turn 76 = .ok (.ifCond .ne 5, 3) := by decide +kernel
theorem dX11_turn_79 : decode cX11_turn 79 = .ok (.iconst 0, 1) := by decide +kernel
theorem dX11_turn_80 : decode cX11_turn 80 = .ok (.ireturn, 1) := by decide +kernel
theorem dX11_turn_81 : decode cX11_turn 81 = .ok (.aload_n 0, 1) := by decide +kernel
theorem dX11_turn_82 : decode cX11_turn 82 = .ok (.getfield 13, 3) := by decide +kernel
theorem dX11_turn_85 : decode cX11_turn 85 = .ok (.iconst 4, 1) := by decide +kernel
theorem dX11_turn_86 : decode cX11_turn 86 = .ok (.aload_n 0, 1) := by decide +kernel
theorem dX11_turn_87 : decode cX11_turn 87 = .ok (.getfield 113, 3) := by decide +kernel
theorem dX11_turn_90 : decode cX11_turn 90 = .ok (.imul, 1) := by decide +kernel
theorem dX11_turn_91 : decode cX11_turn 91 = .ok (.iload_n 1, 1) := by decide +kernel
theorem dX11_turn_92 : decode cX11_turn 92 = .ok (.iastore, 1) := by decide +kernel
theorem dX11_turn_93 : decode cX11_turn 93 = .ok (.aload_n 0, 1) := by decide +kernel
theorem dX11_turn_94 : decode cX11_turn 94 = .ok (.getfield 13, 3) := by decide +kernel
theorem dX11_turn_97 : decode cX11_turn 97 = .ok (.iconst 4, 1) := by decide +kernel
theorem dX11_turn_98 : decode cX11_turn 98 = .ok (.aload_n 0, 1) := by decide +kernel
theorem dX11_turn_99 : decode cX11_turn 99 = .ok (.getfield 113, 3) := by decide +kernel
theorem dX11_turn_102 : decode cX11_turn 102 = .ok (.imul, 1) := by decide +kernel
theorem dX11_turn_103 : decode cX11_turn 103 = .ok (.iconst 1, 1) := by decide +kernel
theorem dX11_turn_104 : decode cX11_turn 104 = .ok (.iadd, 1) := by decide +kernel
theorem dX11_turn_105 : decode cX11_turn 105 = .ok (.iload_n 2, 1) := by decide +kernel
theorem dX11_turn_106 : decode cX11_turn 106 = .ok (.iastore, 1) := by decide +kernel
theorem dX11_turn_107 : decode cX11_turn 107 = .ok (.aload_n 0, 1) := by decide +kernel
theorem dX11_turn_108 : decode cX11_turn 108 = .ok (.getfield 13, 3) := by decide +kernel
theorem dX11_turn_111 : decode cX11_turn 111 = .ok (.iconst 4, 1) := by decide +kernel
theorem dX11_turn_112 : decode cX11_turn 112 = .ok (.aload_n 0, 1) := by decide +kernel
theorem dX11_turn_113 : decode cX11_turn 113 = .ok (.getfield 113, 3) := by decide +kernel
theorem dX11_turn_116 : decode cX11_turn 116 = .ok (.imul, 1) := by decide +kernel
theorem dX11_turn_117 : decode cX11_turn 117 = .ok (.iconst 2, 1) := by decide +kernel
theorem dX11_turn_118 : decode cX11_turn 118 = .ok (.iadd, 1) := by decide +kernel
theorem dX11_turn_119 : decode cX11_turn 119 = .ok (.iload_n 3, 1) := by decide +kernel
theorem dX11_turn_120 : decode cX11_turn 120 = .ok (.iastore, 1) := by decide +kernel
theorem dX11_turn_121 : decode cX11_turn 121 = .ok (.aload_n 0, 1) := by decide +kernel
theorem dX11_turn_122 : decode cX11_turn 122 = .ok (.getfield 13, 3) := by decide +kernel
theorem dX11_turn_125 : decode cX11_turn 125 = .ok (.iconst 4, 1) := by decide +kernel
theorem dX11_turn_126 : decode cX11_turn 126 = .ok (.aload_n 0, 1) := by decide +kernel
theorem dX11_turn_127 : decode cX11_turn 127 = .ok (.getfield 113, 3) := by decide +kernel
theorem dX11_turn_130 : decode cX11_turn 130 = .ok (.imul, 1) := by decide +kernel
theorem dX11_turn_131 : decode cX11_turn 131 = .ok (.iconst 3, 1) := by decide +kernel
theorem dX11_turn_132 : decode cX11_turn 132 = .ok (.iadd, 1) := by decide +kernel
theorem dX11_turn_133 : decode cX11_turn 133 = .ok (.iload 4, 2) := by decide +kernel
theorem dX11_turn_135 : decode cX11_turn 135 = .ok (.iastore, 1) := by decide +kernel
theorem dX11_turn_136 : decode cX11_turn 136 = .ok (.aload_n 0, 1) := by decide +kernel
theorem dX11_turn_137 : decode cX11_turn 137 = .ok (.dup, 1) := by decide +kernel
theorem dX11_turn_138 : decode cX11_turn 138 = .ok (.getfield 113, 3) := by decide +kernel
theorem dX11_turn_141 : decode cX11_turn 141 = .ok (.iconst 1, 1) := by decide +kernel
theorem dX11_turn_142 : decode cX11_turn 142 = .ok (.iadd, 1) := by decide +kernel
theorem dX11_turn_143 : decode cX11_turn 143 = .ok (.putfield 113, 3) := by decide +kernel
theorem dX11_turn_146 : decode cX11_turn 146 = .ok (.aload_n 0, 1) := by decide +kernel
theorem dX11_turn_147 : decode cX11_turn 147 = .ok (.getfield 113, 3) := by decide +kernel
theorem dX11_turn_150 : decode cX11_turn 150 = .ok (.iconst 1, 1) := by decide +kernel
theorem dX11_turn_151 : decode cX11_turn 151 = .ok (.isub, 1) := by decide +kernel
theorem dX11_turn_152 : decode cX11_turn 152 = .ok (.ireturn, 1) := by decide +kernel
theorem dX11_mean_0 : decode cX11_mean 0 = .ok (.aload_n 0, 1) := by decide +kernel
theorem dX11_mean_1 : decode cX11_mean 1 = .ok (.iload_n 1, 1) := by decide +kernel
theorem dX11_mean_2 : decode cX11_mean 2 = .ok (.iconst 0, 1) := by decide +kernel
theorem dX11_mean_3 : decode cX11_mean 3 = .ok (.bipush 100, 2) := by decide +kernel
theorem dX11_mean_5 : decode cX11_mean 5 = .ok (.invokestatic 109, 3) := by decide +kernel
theorem dX11_mean_8 : decode cX11_mean 8 = .ok (.ifCond .eq 7, 3) := by decide +kernel
theorem dX11_mean_11 : decode cX11_mean 11 = .ok (.iconst 0, 1) := by decide +kernel
theorem dX11_mean_12 : decode cX11_mean 12 = .ok (.goto 4, 3) := by decide +kernel
theorem dX11_mean_15 : decode cX11_mean 15 = .ok (.iconst 1, 1) := by decide +kernel
theorem dX11_mean_16 : decode cX11_mean 16 = .ok (.invokevirtual 116, 3) := by decide +kernel
theorem dX11_mean_19 : decode cX11_mean 19 = .ok (.ifCond .ne 5, 3) := by decide +kernel
theorem dX11_mean_22 : decode cX11_mean 22 = .ok (.iconst 0, 1) := by decide +kernel
theorem dX11_mean_23 : decode cX11_mean 23 = .ok (.ireturn, 1) := by decide +kernel
theorem dX11_mean_24 : decode cX11_mean 24 = .ok (.aload_n 0, 1) := by decide +kernel
theorem dX11_mean_25 : decode cX11_mean 25 = .ok (.getfield 7, 3) := by decide +kernel
theorem dX11_mean_28 : decode cX11_mean 28 = .ok (.istore_n 2, 1) := by decide +kernel
theorem dX11_mean_29 : decode cX11_mean 29 = .ok (.aload_n 0, 1) := by decide +kernel
theorem dX11_mean_30 : decode cX11_mean 30 = .ok (.iload_n 1, 1) := by decide +kernel
theorem dX11_mean_31 : decode cX11_mean 31 = .ok (.putfield 7, 3) := by decide +kernel
theorem dX11_mean_34 : decode cX11_mean 34 = .ok (.iload_n 2, 1) := by decide +kernel
theorem dX11_mean_35 : decode cX11_mean 35 = .ok (.ireturn, 1) := by decide +kernel
theorem dX11_surge_0 : decode cX11_surge 0 = .ok (.iload_n 1, 1) := by decide +kernel
theorem dX11_surge_1 : decode cX11_surge 1 = .ok (.aload_n 0, 1) := by decide +kernel
theorem dX11_surge_2 : decode cX11_surge 2 = .ok (.getfield 120, 3) := by decide +kernel
theorem dX11_surge_5 : decode cX11_surge 5 = .ok (.sipush 2000, 3) := by decide +kernel
theorem dX11_surge_8 : decode cX11_surge 8 = .ok (.invokestatic 109, 3) := by decide +kernel
theorem dX11_surge_11 : decode cX11_surge 11 = .ok (.ifCond .eq 29, 3) := by decide +kernel
theorem dX11_surge_14 : decode cX11_surge 14 = .ok (.iload_n 2, 1) := by decide +kernel
theorem dX11_surge_15 : decode cX11_surge 15 = .ok (.iload_n 1, 1) := by decide +kernel
theorem dX11_surge_16 : decode cX11_surge 16 = .ok (.sipush 2000, 3) := by decide +kernel
theorem dX11_surge_19 : decode cX11_surge 19 = .ok (.invokestatic 109, 3) := by decide +kernel
theorem dX11_surge_22 : decode cX11_surge 22 = .ok (.ifCond .eq 18, 3) := by decide +kernel
theorem dX11_surge_25 : decode cX11_surge 25 = .ok (.iload_n 3, 1) := by decide +kernel
theorem dX11_surge_26 : decode cX11_surge 26 = .ok (.bipush (-50), 2) := by decide +kernel
theorem dX11_surge_28 : decode cX11_surge 28 = .ok (.bipush 100, 2) := by decide +kernel
theorem dX11_surge_30 : decode cX11_surge 30 = .ok (.invokestatic 109, 3) := by decide +kernel
theorem dX11_surge_33 : decode cX11_surge 33 = .ok (.ifCond .eq 7, 3) := by decide +kernel
theorem dX11_surge_36 : decode cX11_surge 36 = .ok (.iconst 1, 1) := by decide +kernel
theorem dX11_surge_37 : decode cX11_surge 37 = .ok (.goto 4, 3) := by decide +kernel
theorem dX11_surge_40 : decode cX11_surge 40 = .ok (.iconst 0, 1) := by decide +kernel
theorem dX11_surge_41 : decode cX11_surge 41 = .ok (.istore 4, 2) := by decide +kernel
theorem dX11_surge_43 : decode cX11_surge 43 = .ok (.aload_n 0, 1) := by decide +kernel
theorem dX11_surge_44 : decode cX11_surge 44 = .ok (.iload 4, 2) := by decide +kernel
theorem dX11_surge_46 : decode cX11_surge 46 = .ok (.ifCond .ne 7, 3) := by decide +kernel
theorem dX11_surge_49 : decode cX11_surge 49 = .ok (.iconst 1, 1) := by decide +kernel
theorem dX11_surge_50 : decode cX11_surge 50 = .ok (.goto 17, 3) := by decide +kernel
theorem dX11_surge_53 : decode cX11_surge 53 = .ok (.aload_n 0, 1) := by decide +kernel
theorem dX11_surge_54 : decode cX11_surge 54 = .ok (.getfield 123, 3) := by decide +kernel
theorem dX11_surge_57 : decode cX11_surge 57 = .ok (.bipush 20, 2) := by decide +kernel
theorem dX11_surge_59 : decode cX11_surge 59 = .ok (.if_icmp .ne 7, 3) := by decide +kernel
theorem dX11_surge_62 : decode cX11_surge 62 = .ok (.iconst 2, 1) := by decide +kernel
theorem dX11_surge_63 : decode cX11_surge 63 = .ok (.goto 4, 3) := by decide +kernel
theorem dX11_surge_66 : decode cX11_surge 66 = .ok (.iconst 0, 1) := by decide +kernel
theorem dX11_surge_67 : decode cX11_surge 67 = .ok (.invokevirtual 116, 3) := by decide +kernel
theorem dX11_surge_70 : decode cX11_surge 70 = .ok (.ifCond .ne 5, 3) := by decide +kernel
theorem dX11_surge_73 : decode cX11_surge 73 = .ok (.iconst 0, 1) := by decide +kernel
theorem dX11_surge_74 : decode cX11_surge 74 = .ok (.ireturn, 1) := by decide +kernel
theorem dX11_surge_75 : decode cX11_surge 75 = .ok (.aload_n 0, 1) := by decide +kernel
theorem dX11_surge_76 : decode cX11_surge 76 = .ok (.getfield 17, 3) := by decide +kernel
theorem dX11_surge_79 : decode cX11_surge 79 = .ok (.iconst 3, 1) := by decide +kernel
theorem dX11_surge_80 : decode cX11_surge 80 = .ok (.aload_n 0, 1) := by decide +kernel
theorem dX11_surge_81 : decode cX11_surge 81 = .ok (.getfield 123, 3) := by decide +kernel
theorem dX11_surge_84 : decode cX11_surge 84 = .ok (.imul, 1) := by decide +kernel
theorem dX11_surge_85 : decode cX11_surge 85 = .ok (.iload_n 1, 1) := by decide +kernel
theorem dX11_surge_86 : decode cX11_surge 86 = .ok (.iastore, 1) := by decide +kernel
theorem dX11_surge_87 : decode cX11_surge 87 = .ok (.aload_n 0, 1) := by decide +kernel
theorem dX11_surge_88 : decode cX11_surge 88 = .ok (.getfield 17, 3) := by decide +kernel
theorem dX11_surge_91 : decode cX11_surge 91 = .ok (.iconst 3, 1) := by decide +kernel
theorem dX11_surge_92 : decode cX11_surge 92 = .ok (.aload_n 0, 1) := by decide +kernel
theorem dX11_surge_93 : decode cX11_surge 93 = .ok (.getfield 123, 3) := by decide +kernel
theorem dX11_surge_96 : decode cX11_surge 96 = .ok (.imul, 1) := by decide +kernel
theorem dX11_surge_97 : decode cX11_surge 97 = .ok (.iconst 1, 1) := by decide +kernel
theorem dX11_surge_98 : decode cX11_surge 98 = .ok (.iadd, 1) := by decide +kernel
theorem dX11_surge_99 : decode cX11_surge 99 = .ok (.iload_n 2, 1) := by decide +kernel
theorem dX11_surge_100 : decode cX11_surge 100 = .ok (.iastore, 1) := by decide +kernel
theorem dX11_surge_101 : decode cX11_surge 101 = .ok (.aload_n 0, 1) := by decide +kernel
theorem dX11_surge_102 : decode cX11_surge 102 = .ok (.getfield 17, 3) := by decide +kernel
theorem dX11_surge_105 : decode cX11_surge 105 = .ok (.iconst 3, 1) := by decide +kernel
theorem dX11_surge_106 : decode cX11_surge 106 = .ok (.aload_n 0, 1) := by decide +kernel
theorem dX11_surge_107 : decode cX11_surge 107 = .ok (.getfield 123, 3) := by decide +kernel
theorem dX11_surge_110 : decode cX11_surge 110 = .ok (.imul, 1) := by decide +kernel
theorem dX11_surge_111 : decode cX11_surge 111 = .ok (.iconst 2, 1) := by decide +kernel
theorem dX11_surge_112 : decode cX11_surge 112 = .ok (.iadd, 1) := by decide +kernel
theorem dX11_surge_113 : decode cX11_surge 113 = .ok (.iload_n 3, 1) := by decide +kernel
theorem dX11_surge_114 : decode cX11_surge 114 = .ok (.iastore, 1) := by decide +kernel
theorem dX11_surge_115 : decode cX11_surge 115 = .ok (.aload_n 0, 1) := by decide +kernel
theorem dX11_surge_116 : decode cX11_surge 116 = .ok (.dup, 1) := by decide +kernel
theorem dX11_surge_117 : decode cX11_surge 117 = .ok (.getfield 123, 3) := by decide +kernel
theorem dX11_surge_120 : decode cX11_surge 120 = .ok (.iconst 1, 1) := by decide +kernel
theorem dX11_surge_121 : decode cX11_surge 121 = .ok (.iadd, 1) := by decide +kernel
theorem dX11_surge_122 : decode cX11_surge 122 = .ok (.putfield 123, 3) := by decide +kernel
theorem dX11_surge_125 : decode cX11_surge 125 = .ok (.aload_n 0, 1) := by decide +kernel
theorem dX11_surge_126 : decode cX11_surge 126 = .ok (.getfield 123, 3) := by decide +kernel
theorem dX11_surge_129 : decode cX11_surge 129 = .ok (.ireturn, 1) := by decide +kernel
theorem dX11_river_0 : decode cX11_river 0 = .ok (.aload_n 0, 1) := by decide +kernel
theorem dX11_river_1 : decode cX11_river 1 = .ok (.iload_n 1, 1) := by decide +kernel
theorem dX11_river_2 : decode cX11_river 2 = .ok (.iconst 0, 1) := by decide +kernel
theorem dX11_river_3 : decode cX11_river 3 = .ok (.sipush 500, 3) := by decide +kernel
theorem dX11_river_6 : decode cX11_river 6 = .ok (.invokestatic 109, 3) := by decide +kernel
theorem dX11_river_9 : decode cX11_river 9 = .ok (.ifCond .eq 18, 3) := by decide +kernel
theorem dX11_river_12 : decode cX11_river 12 = .ok (.iload_n 2, 1) := by decide +kernel
theorem dX11_river_13 : decode cX11_river 13 = .ok (.iconst 0, 1) := by decide +kernel
theorem dX11_river_14 : decode cX11_river 14 = .ok (.sipush 500, 3) := by decide +kernel
theorem dX11_river_17 : decode cX11_river 17 = .ok (.invokestatic 109, 3) := by decide +kernel
theorem dX11_river_20 : decode cX11_river 20 = .ok (.ifCond .eq 7, 3) := by decide +kernel
theorem dX11_river_23 : decode cX11_river 23 = .ok (.iconst 0, 1) := by decide +kernel
theorem dX11_river_24 : decode cX11_river 24 = .ok (.goto 4, 3) := by decide +kernel
theorem dX11_river_27 : decode cX11_river 27 = .ok (.iconst 1, 1) := by decide +kernel
theorem dX11_river_28 : decode cX11_river 28 = .ok (.invokevirtual 116, 3) := by decide +kernel
theorem dX11_river_31 : decode cX11_river 31 = .ok (.ifCond .ne 5, 3) := by decide +kernel
theorem dX11_river_34 : decode cX11_river 34 = .ok (.iconst 0, 1) := by decide +kernel
theorem dX11_river_35 : decode cX11_river 35 = .ok (.ireturn, 1) := by decide +kernel
theorem dX11_river_36 : decode cX11_river 36 = .ok (.aload_n 0, 1) := by decide +kernel
theorem dX11_river_37 : decode cX11_river 37 = .ok (.getfield 126, 3) := by decide +kernel
theorem dX11_river_40 : decode cX11_river 40 = .ok (.istore_n 3, 1) := by decide +kernel
theorem dX11_river_41 : decode cX11_river 41 = .ok (.aload_n 0, 1) := by decide +kernel
theorem dX11_river_42 : decode cX11_river 42 = .ok (.iload_n 1, 1) := by decide +kernel
theorem dX11_river_43 : decode cX11_river 43 = .ok (.putfield 126, 3) := by decide +kernel
theorem dX11_river_46 : decode cX11_river 46 = .ok (.aload_n 0, 1) := by decide +kernel
theorem dX11_river_47 : decode cX11_river 47 = .ok (.iload_n 2, 1) := by decide +kernel
theorem dX11_river_48 : decode cX11_river 48 = .ok (.putfield 129, 3) := by decide +kernel
theorem dX11_river_51 : decode cX11_river 51 = .ok (.iload_n 3, 1) := by decide +kernel
theorem dX11_river_52 : decode cX11_river 52 = .ok (.ireturn, 1) := by decide +kernel
theorem dX11_barrier_0 : decode cX11_barrier 0 = .ok (.aload_n 0, 1) := by decide +kernel
theorem dX11_barrier_1 : decode cX11_barrier 1 = .ok (.iload_n 1, 1) := by decide +kernel
theorem dX11_barrier_2 : decode cX11_barrier 2 = .ok (.iconst (-1), 1) := by decide +kernel
theorem dX11_barrier_3 : decode cX11_barrier 3 = .ok (.sipush 500, 3) := by decide +kernel
theorem dX11_barrier_6 : decode cX11_barrier 6 = .ok (.invokestatic 109, 3) := by decide +kernel
theorem dX11_barrier_9 : decode cX11_barrier 9 = .ok (.ifCond .eq 17, 3) := by decide +kernel
theorem dX11_barrier_12 : decode cX11_barrier 12 = .ok (.iload_n 2, 1) := by decide +kernel
theorem dX11_barrier_13 : decode cX11_barrier 13 = .ok (.iconst 0, 1) := by decide +kernel
theorem dX11_barrier_14 : decode cX11_barrier 14 = .ok (.bipush 12, 2) := by decide +kernel
theorem dX11_barrier_16 : decode cX11_barrier 16 = .ok (.invokestatic 109, 3) := by decide +kernel
theorem dX11_barrier_19 : decode cX11_barrier 19 = .ok (.ifCond .eq 7, 3) := by decide +kernel
theorem dX11_barrier_22 : decode cX11_barrier 22 = .ok (.iconst 0, 1) := by decide +kernel
theorem dX11_barrier_23 : decode cX11_barrier 23 = .ok (.goto 4, 3) := by decide +kernel
theorem dX11_barrier_26 : decode cX11_barrier 26 = .ok (.iconst 1, 1) := by decide +kernel
theorem dX11_barrier_27 : decode cX11_barrier 27 = .ok (.invokevirtual 116, 3) := by decide +kernel
theorem dX11_barrier_30 : decode cX11_barrier 30 = .ok (.ifCond .ne 5, 3) := by decide +kernel
theorem dX11_barrier_33 : decode cX11_barrier 33 = .ok (.iconst 0, 1) := by decide +kernel
theorem dX11_barrier_34 : decode cX11_barrier 34 = .ok (.ireturn, 1) := by decide +kernel
theorem dX11_barrier_35 : decode cX11_barrier 35 = .ok (.aload_n 0, 1) := by decide +kernel
theorem dX11_barrier_36 : decode cX11_barrier 36 = .ok (.getfield 23, 3) := by decide +kernel
theorem dX11_barrier_39 : decode cX11_barrier 39 = .ok (.istore_n 3, 1) := by decide +kernel
theorem dX11_barrier_40 : decode cX11_barrier 40 = .ok (.aload_n 0, 1) := by decide +kernel
theorem dX11_barrier_41 : decode cX11_barrier 41 = .ok (.iload_n 1, 1) := by decide +kernel
theorem dX11_barrier_42 : decode cX11_barrier 42 = .ok (.putfield 23, 3) := by decide +kernel
theorem dX11_barrier_45 : decode cX11_barrier 45 = .ok (.aload_n 0, 1) := by decide +kernel
theorem dX11_barrier_46 : decode cX11_barrier 46 = .ok (.iload_n 2, 1) := by decide +kernel
theorem dX11_barrier_47 : decode cX11_barrier 47 = .ok (.putfield 132, 3) := by decide +kernel
theorem dX11_barrier_50 : decode cX11_barrier 50 = .ok (.iload_n 3, 1) := by decide +kernel
theorem dX11_barrier_51 : decode cX11_barrier 51 = .ok (.ireturn, 1) := by decide +kernel
theorem dX11_heightOf_0 : decode cX11_heightOf 0 = .ok (.aload_n 0, 1) := by decide +kernel
theorem dX11_heightOf_1 : decode cX11_heightOf 1 = .ok (.getfield 13, 3) := by decide +kernel
theorem dX11_heightOf_4 : decode cX11_heightOf 4 = .ok (.iconst 4, 1) := by decide +kernel
theorem dX11_heightOf_5 : decode cX11_heightOf 5 = .ok (.iload_n 1, 1) := by decide +kernel
theorem dX11_heightOf_6 : decode cX11_heightOf 6 = .ok (.imul, 1) := by decide +kernel
theorem dX11_heightOf_7 : decode cX11_heightOf 7 = .ok (.iaload, 1) := by decide +kernel
theorem dX11_heightOf_8 : decode cX11_heightOf 8 = .ok (.istore_n 3, 1) := by decide +kernel
theorem dX11_heightOf_9 : decode cX11_heightOf 9 = .ok (.aload_n 0, 1) := by decide +kernel
theorem dX11_heightOf_10 : decode cX11_heightOf 10 = .ok (.getfield 13, 3) := by decide +kernel
theorem dX11_heightOf_13 : decode cX11_heightOf 13 = .ok (.iconst 4, 1) := by decide +kernel
theorem dX11_heightOf_14 : decode cX11_heightOf 14 = .ok (.iload_n 1, 1) := by decide +kernel
theorem dX11_heightOf_15 : decode cX11_heightOf 15 = .ok (.imul, 1) := by decide +kernel
theorem dX11_heightOf_16 : decode cX11_heightOf 16 = .ok (.iconst 1, 1) := by decide +kernel
theorem dX11_heightOf_17 : decode cX11_heightOf 17 = .ok (.iadd, 1) := by decide +kernel
theorem dX11_heightOf_18 : decode cX11_heightOf 18 = .ok (.iaload, 1) := by decide +kernel
theorem dX11_heightOf_19 : decode cX11_heightOf 19 = .ok (.istore 4, 2) := by decide +kernel
theorem dX11_heightOf_21 : decode cX11_heightOf 21 = .ok (.aload_n 0, 1) := by decide +kernel
theorem dX11_heightOf_22 : decode cX11_heightOf 22 = .ok (.getfield 13, 3) := by decide +kernel
theorem dX11_heightOf_25 : decode cX11_heightOf 25 = .ok (.iconst 4, 1) := by decide +kernel
theorem dX11_heightOf_26 : decode cX11_heightOf 26 = .ok (.iload_n 1, 1) := by decide +kernel
theorem dX11_heightOf_27 : decode cX11_heightOf 27 = .ok (.imul, 1) := by decide +kernel
theorem dX11_heightOf_28 : decode cX11_heightOf 28 = .ok (.iconst 2, 1) := by decide +kernel
theorem dX11_heightOf_29 : decode cX11_heightOf 29 = .ok (.iadd, 1) := by decide +kernel
theorem dX11_heightOf_30 : decode cX11_heightOf 30 = .ok (.iaload, 1) := by decide +kernel
theorem dX11_heightOf_31 : decode cX11_heightOf 31 = .ok (.istore 5, 2) := by decide +kernel
theorem dX11_heightOf_33 : decode cX11_heightOf 33 = .ok (.iload_n 2, 1) := by decide +kernel
theorem dX11_heightOf_34 : decode cX11_heightOf 34 = .ok (.aload_n 0, 1) := by decide +kernel
theorem dX11_heightOf_35 : decode cX11_heightOf 35 = .ok (.getfield 13, 3) := by decide +kernel
theorem dX11_heightOf_38 : decode cX11_heightOf 38 = .ok (.iconst 4, 1) := by decide +kernel
theorem dX11_heightOf_39 : decode cX11_heightOf 39 = .ok (.iload_n 1, 1) := by decide +kernel
theorem dX11_heightOf_40 : decode cX11_heightOf 40 = .ok (.imul, 1) := by decide +kernel
theorem dX11_heightOf_41 : decode cX11_heightOf 41 = .ok (.iconst 3, 1) := by decide +kernel
theorem dX11_heightOf_42 : decode cX11_heightOf 42 = .ok (.iadd, 1) := by decide +kernel
theorem dX11_heightOf_43 : decode cX11_heightOf 43 = .ok (.iaload, 1) := by decide +kernel
theorem dX11_heightOf_44 : decode cX11_heightOf 44 = .ok (.iadd, 1) := by decide +kernel
theorem dX11_heightOf_45 : decode cX11_heightOf 45 = .ok (.iload_n 3, 1) := by decide +kernel
theorem dX11_heightOf_46 : decode cX11_heightOf 46 = .ok (.irem, 1) := by decide +kernel
theorem dX11_heightOf_47 : decode cX11_heightOf 47 = .ok (.istore 6, 2) := by decide +kernel
theorem dX11_heightOf_49 : decode cX11_heightOf 49 = .ok (.iload 6, 2) := by decide +kernel
theorem dX11_heightOf_51 : decode cX11_heightOf 51 = .ok (.iload 4, 2) := by decide +kernel
theorem dX11_heightOf_53 : decode cX11_heightOf 53 = .ok (.if_icmp .ge 14, 3) := by decide +kernel
theorem dX11_heightOf_56 : decode cX11_heightOf 56 = .ok (.iload 5, 2) := by decide +kernel
theorem dX11_heightOf_58 : decode cX11_heightOf 58 = .ok (.iload 6, 2) := by decide +kernel
theorem dX11_heightOf_60 : decode cX11_heightOf 60 = .ok (.imul, 1) := by decide +kernel
theorem dX11_heightOf_61 : decode cX11_heightOf 61 = .ok (.iload 4, 2) := by decide +kernel
theorem dX11_heightOf_63 : decode cX11_heightOf 63 = .ok (.idiv, 1) := by decide +kernel
theorem dX11_heightOf_64 : decode cX11_heightOf 64 = .ok (.goto 15, 3) := by decide +kernel
theorem dX11_heightOf_67 : decode cX11_heightOf 67 = .ok (.iload 5, 2) := by decide +kernel
theorem dX11_heightOf_69 : decode cX11_heightOf 69 = .ok (.iload_n 3, 1) := by decide +kernel
theorem dX11_heightOf_70 : decode cX11_heightOf 70 = .ok (.iload 6, 2) := by decide +kernel
theorem dX11_heightOf_72 : decode cX11_heightOf 72 = .ok (.isub, 1) := by decide +kernel
theorem dX11_heightOf_73 : decode cX11_heightOf 73 = .ok (.imul, 1) := by decide +kernel
theorem dX11_heightOf_74 : decode cX11_heightOf 74 = .ok (.iload_n 3, 1) := by decide +kernel
theorem dX11_heightOf_75 : decode cX11_heightOf 75 = .ok (.iload 4, 2) := by decide +kernel
theorem dX11_heightOf_77 : decode cX11_heightOf 77 = .ok (.isub, 1) := by decide +kernel
theorem dX11_heightOf_78 : decode cX11_heightOf 78 = .ok (.idiv, 1) := by decide +kernel
theorem dX11_heightOf_79 : decode cX11_heightOf 79 = .ok (.ireturn, 1) := by decide +kernel
theorem dX11_seaOf_0 : decode cX11_seaOf 0 = .ok (.iload_n 1, 1) := by decide +kernel
theorem dX11_seaOf_1 : decode cX11_seaOf 1 = .ok (.aload_n 0, 1) := by decide +kernel
theorem dX11_seaOf_2 : decode cX11_seaOf 2 = .ok (.getfield 120, 3) := by decide +kernel
theorem dX11_seaOf_5 : decode cX11_seaOf 5 = .ok (.if_icmp .ge 10, 3) := by decide +kernel
theorem dX11_seaOf_8 : decode cX11_seaOf 8 = .ok (.aload_n 0, 1) := by decide +kernel
theorem dX11_seaOf_9 : decode cX11_seaOf 9 = .ok (.getfield 20, 3) := by decide +kernel
theorem dX11_seaOf_12 : decode cX11_seaOf 12 = .ok (.iload_n 1, 1) := by decide +kernel
theorem dX11_seaOf_13 : decode cX11_seaOf 13 = .ok (.iaload, 1) := by decide +kernel
theorem dX11_seaOf_14 : decode cX11_seaOf 14 = .ok (.ireturn, 1) := by decide +kernel
theorem dX11_seaOf_15 : decode cX11_seaOf 15 = .ok (.aload_n 0, 1) := by decide +kernel
theorem dX11_seaOf_16 : decode cX11_seaOf 16 = .ok (.getfield 7, 3) := by decide +kernel
theorem dX11_seaOf_19 : decode cX11_seaOf 19 = .ok (.istore_n 2, 1) := by decide +kernel
theorem dX11_seaOf_20 : decode cX11_seaOf 20 = .ok (.iconst 0, 1) := by decide +kernel
theorem dX11_seaOf_21 : decode cX11_seaOf 21 = .ok (.istore_n 3, 1) := by decide +kernel
theorem dX11_seaOf_22 : decode cX11_seaOf 22 = .ok (.iload_n 3, 1) := by decide +kernel
theorem dX11_seaOf_23 : decode cX11_seaOf 23 = .ok (.aload_n 0, 1) := by decide +kernel
theorem dX11_seaOf_24 : decode cX11_seaOf 24 = .ok (.getfield 113, 3) := by decide +kernel
theorem dX11_seaOf_27 : decode cX11_seaOf 27 = .ok (.if_icmp .ge 18, 3) := by decide +kernel
theorem dX11_seaOf_30 : decode cX11_seaOf 30 = .ok (.iload_n 2, 1) := by decide +kernel
theorem dX11_seaOf_31 : decode cX11_seaOf 31 = .ok (.aload_n 0, 1) := by decide +kernel
theorem dX11_seaOf_32 : decode cX11_seaOf 32 = .ok (.iload_n 3, 1) := by decide +kernel
theorem dX11_seaOf_33 : decode cX11_seaOf 33 = .ok (.iload_n 1, 1) := by decide +kernel
theorem dX11_seaOf_34 : decode cX11_seaOf 34 = .ok (.invokevirtual 135, 3) := by decide +kernel
theorem dX11_seaOf_37 : decode cX11_seaOf 37 = .ok (.iadd, 1) := by decide +kernel
theorem dX11_seaOf_38 : decode cX11_seaOf 38 = .ok (.istore_n 2, 1) := by decide +kernel
theorem dX11_seaOf_39 : decode cX11_seaOf 39 = .ok (.iinc 3 1, 3) := by decide +kernel
theorem dX11_seaOf_42 : decode cX11_seaOf 42 = .ok (.goto (-20), 3) := by decide +kernel
theorem dX11_seaOf_45 : decode cX11_seaOf 45 = .ok (.iconst 0, 1) := by decide +kernel
theorem dX11_seaOf_46 : decode cX11_seaOf 46 = .ok (.istore_n 3, 1) := by decide +kernel
theorem dX11_seaOf_47 : decode cX11_seaOf 47 = .ok (.iload_n 3, 1) := by decide +kernel
theorem dX11_seaOf_48 : decode cX11_seaOf 48 = .ok (.aload_n 0, 1) := by decide +kernel
theorem dX11_seaOf_49 : decode cX11_seaOf 49 = .ok (.getfield 123, 3) := by decide +kernel
theorem dX11_seaOf_52 : decode cX11_seaOf 52 = .ok (.if_icmp .ge 51, 3) := by decide +kernel
theorem dX11_seaOf_55 : decode cX11_seaOf 55 = .ok (.iload_n 2, 1) := by decide +kernel
theorem dX11_seaOf_56 : decode cX11_seaOf 56 = .ok (.iload_n 1, 1) := by decide +kernel
theorem dX11_seaOf_57 : decode cX11_seaOf 57 = .ok (.aload_n 0, 1) := by decide +kernel
theorem dX11_seaOf_58 : decode cX11_seaOf 58 = .ok (.getfield 17, 3) := by decide +kernel
theorem dX11_seaOf_61 : decode cX11_seaOf 61 = .ok (.iconst 3, 1) := by decide +kernel
theorem dX11_seaOf_62 : decode cX11_seaOf 62 = .ok (.iload_n 3, 1) := by decide +kernel
theorem dX11_seaOf_63 : decode cX11_seaOf 63 = .ok (.imul, 1) := by decide +kernel
theorem dX11_seaOf_64 : decode cX11_seaOf 64 = .ok (.iaload, 1) := by decide +kernel
theorem dX11_seaOf_65 : decode cX11_seaOf 65 = .ok (.aload_n 0, 1) := by decide +kernel
theorem dX11_seaOf_66 : decode cX11_seaOf 66 = .ok (.getfield 17, 3) := by decide +kernel
theorem dX11_seaOf_69 : decode cX11_seaOf 69 = .ok (.iconst 3, 1) := by decide +kernel
theorem dX11_seaOf_70 : decode cX11_seaOf 70 = .ok (.iload_n 3, 1) := by decide +kernel
theorem dX11_seaOf_71 : decode cX11_seaOf 71 = .ok (.imul, 1) := by decide +kernel
theorem dX11_seaOf_72 : decode cX11_seaOf 72 = .ok (.iconst 1, 1) := by decide +kernel
theorem dX11_seaOf_73 : decode cX11_seaOf 73 = .ok (.iadd, 1) := by decide +kernel
theorem dX11_seaOf_74 : decode cX11_seaOf 74 = .ok (.iaload, 1) := by decide +kernel
theorem dX11_seaOf_75 : decode cX11_seaOf 75 = .ok (.invokestatic 109, 3) := by decide +kernel
theorem dX11_seaOf_78 : decode cX11_seaOf 78 = .ok (.ifCond .eq 16, 3) := by decide +kernel
theorem dX11_seaOf_81 : decode cX11_seaOf 81 = .ok (.aload_n 0, 1) := by decide +kernel
theorem dX11_seaOf_82 : decode cX11_seaOf 82 = .ok (.getfield 17, 3) := by decide +kernel
theorem dX11_seaOf_85 : decode cX11_seaOf 85 = .ok (.iconst 3, 1) := by decide +kernel
theorem dX11_seaOf_86 : decode cX11_seaOf 86 = .ok (.iload_n 3, 1) := by decide +kernel
theorem dX11_seaOf_87 : decode cX11_seaOf 87 = .ok (.imul, 1) := by decide +kernel
theorem dX11_seaOf_88 : decode cX11_seaOf 88 = .ok (.iconst 2, 1) := by decide +kernel
theorem dX11_seaOf_89 : decode cX11_seaOf 89 = .ok (.iadd, 1) := by decide +kernel
theorem dX11_seaOf_90 : decode cX11_seaOf 90 = .ok (.iaload, 1) := by decide +kernel
theorem dX11_seaOf_91 : decode cX11_seaOf 91 = .ok (.goto 4, 3) := by decide +kernel
theorem dX11_seaOf_94 : decode cX11_seaOf 94 = .ok (.iconst 0, 1) := by decide +kernel
theorem dX11_seaOf_95 : decode cX11_seaOf 95 = .ok (.iadd, 1) := by decide +kernel
theorem dX11_seaOf_96 : decode cX11_seaOf 96 = .ok (.istore_n 2, 1) := by decide +kernel
theorem dX11_seaOf_97 : decode cX11_seaOf 97 = .ok (.iinc 3 1, 3) := by decide +kernel
theorem dX11_seaOf_100 : decode cX11_seaOf 100 = .ok (.goto (-53), 3) := by decide +kernel
theorem dX11_seaOf_103 : decode cX11_seaOf 103 = .ok (.iload_n 2, 1) := by decide +kernel
theorem dX11_seaOf_104 : decode cX11_seaOf 104 = .ok (.ireturn, 1) := by decide +kernel
theorem dX11_section_0 : decode cX11_section 0 = .ok (.iload_n 1, 1) := by decide +kernel
theorem dX11_section_1 : decode cX11_section 1 = .ok (.iconst 1, 1) := by decide +kernel
theorem dX11_section_2 : decode cX11_section 2 = .ok (.bipush 100, 2) := by decide +kernel
theorem dX11_section_4 : decode cX11_section 4 = .ok (.invokestatic 109, 3) := by decide +kernel
theorem dX11_section_7 : decode cX11_section 7 = .ok (.ifCond .eq 41, 3) := by decide +kernel
theorem dX11_section_10 : decode cX11_section 10 = .ok (.iload_n 2, 1) := by decide +kernel
theorem dX11_section_11 : decode cX11_section 11 = .ok (.iconst 0, 1) := by decide +kernel
theorem dX11_section_12 : decode cX11_section 12 = .ok (.sipush 10000, 3) := by decide +kernel
theorem dX11_section_15 : decode cX11_section 15 = .ok (.invokestatic 109, 3) := by decide +kernel
theorem dX11_section_18 : decode cX11_section 18 = .ok (.ifCond .eq 30, 3) := by decide +kernel
theorem dX11_section_21 : decode cX11_section 21 = .ok (.iload_n 3, 1) := by decide +kernel
theorem dX11_section_22 : decode cX11_section 22 = .ok (.iconst 0, 1) := by decide +kernel
theorem dX11_section_23 : decode cX11_section 23 = .ok (.sipush 10000, 3) := by decide +kernel
theorem dX11_section_26 : decode cX11_section 26 = .ok (.invokestatic 109, 3) := by decide +kernel
theorem dX11_section_29 : decode cX11_section 29 = .ok (.ifCond .eq 19, 3) := by decide +kernel
theorem dX11_section_32 : decode cX11_section 32 = .ok (.iload 4, 2) := by decide +kernel
theorem dX11_section_34 : decode cX11_section 34 = .ok (.iconst 0, 1) := by decide +kernel
theorem dX11_section_35 : decode cX11_section 35 = .ok (.sipush 10000, 3) := by decide +kernel
theorem dX11_section_38 : decode cX11_section 38 = .ok (.invokestatic 109, 3) := by decide +kernel
theorem dX11_section_41 : decode cX11_section 41 = .ok (.ifCond .eq 7, 3) := by decide +kernel
theorem dX11_section_44 : decode cX11_section 44 = .ok (.iconst 1, 1) := by decide +kernel
theorem dX11_section_45 : decode cX11_section 45 = .ok (.goto 4, 3) := by decide +kernel
theorem dX11_section_48 : decode cX11_section 48 = .ok (.iconst 0, 1) := by decide +kernel
theorem dX11_section_49 : decode cX11_section 49 = .ok (.istore 5, 2) := by decide +kernel
theorem dX11_section_51 : decode cX11_section 51 = .ok (.aload_n 0, 1) := by decide +kernel
theorem dX11_section_52 : decode cX11_section 52 = .ok (.iload 5, 2) := by decide +kernel
theorem dX11_section_54 : decode cX11_section 54 = .ok (.ifCond .ne 7, 3) := by decide +kernel
theorem dX11_section_57 : decode cX11_section 57 = .ok (.iconst 1, 1) := by decide +kernel
theorem dX11_section_58 : decode cX11_section 58 = .ok (.goto 24, 3) := by decide +kernel
theorem dX11_section_61 : decode cX11_section 61 = .ok (.aload_n 0, 1) := by decide +kernel
theorem dX11_section_62 : decode cX11_section 62 = .ok (.getfield 106, 3) := by decide +kernel
theorem dX11_section_65 : decode cX11_section 65 = .ok (.bipush 8, 2) := by decide +kernel
theorem dX11_section_67 : decode cX11_section 67 = .ok (.if_icmp .eq 10, 3) := by decide +kernel
theorem dX11_section_70 : decode cX11_section 70 = .ok (.aload_n 0, 1) := by decide +kernel
theorem dX11_section_71 : decode cX11_section 71 = .ok (.getfield 120, 3) := by decide +kernel
theorem dX11_section_74 : decode cX11_section 74 = .ok (.ifCond .le 7, 3) := by decide +kernel
theorem dX11_section_77 : decode cX11_section 77 = .ok (.iconst 2, 1) := by decide +kernel
theorem dX11_section_78 : decode cX11_section 78 = .ok (.goto 4, 3) := by decide +kernel
theorem dX11_section_81 : decode cX11_section 81 = .ok (.iconst 0, 1) := by decide +kernel
theorem dX11_section_82 : decode cX11_section 82 = .ok (.invokevirtual 116, 3) := by decide +kernel
theorem dX11_section_85 : decode cX11_section 85 = .ok (.ifCond .ne 5, 3) := by decide +kernel
theorem dX11_section_88 : decode cX11_section 88 = .ok (.iconst 0, 1) := by decide +kernel
theorem dX11_section_89 : decode cX11_section 89 = .ok (.ireturn, 1) := by decide +kernel
theorem dX11_section_90 : decode cX11_section 90 = .ok (.aload_n 0, 1) := by decide +kernel
theorem dX11_section_91 : decode cX11_section 91 = .ok (.getfield 36, 3) := by decide +kernel
theorem dX11_section_94 : decode cX11_section 94 = .ok (.aload_n 0, 1) := by decide +kernel
theorem dX11_section_95 : decode cX11_section 95 = .ok (.getfield 106, 3) := by decide +kernel
theorem dX11_section_98 : decode cX11_section 98 = .ok (.iload_n 1, 1) := by decide +kernel
theorem dX11_section_99 : decode cX11_section 99 = .ok (.iastore, 1) := by decide +kernel
theorem dX11_section_100 : decode cX11_section 100 = .ok (.aload_n 0, 1) := by decide +kernel
theorem dX11_section_101 : decode cX11_section 101 = .ok (.getfield 51, 3) := by decide +kernel
theorem dX11_section_104 : decode cX11_section 104 = .ok (.aload_n 0, 1) := by decide +kernel
theorem dX11_section_105 : decode cX11_section 105 = .ok (.getfield 106, 3) := by decide +kernel
theorem dX11_section_108 : decode cX11_section 108 = .ok (.iload_n 2, 1) := by decide +kernel
theorem dX11_section_109 : decode cX11_section 109 = .ok (.iastore, 1) := by decide +kernel
theorem dX11_section_110 : decode cX11_section 110 = .ok (.aload_n 0, 1) := by decide +kernel
theorem dX11_section_111 : decode cX11_section 111 = .ok (.getfield 51, 3) := by decide +kernel
theorem dX11_section_114 : decode cX11_section 114 = .ok (.bipush 8, 2) := by decide +kernel
theorem dX11_section_116 : decode cX11_section 116 = .ok (.aload_n 0, 1) := by decide +kernel
theorem dX11_section_117 : decode cX11_section 117 = .ok (.getfield 106, 3) := by decide +kernel
theorem dX11_section_120 : decode cX11_section 120 = .ok (.iadd, 1) := by decide +kernel
theorem dX11_section_121 : decode cX11_section 121 = .ok (.iload_n 3, 1) := by decide +kernel
theorem dX11_section_122 : decode cX11_section 122 = .ok (.iastore, 1) := by decide +kernel
theorem dX11_section_123 : decode cX11_section 123 = .ok (.aload_n 0, 1) := by decide +kernel
theorem dX11_section_124 : decode cX11_section 124 = .ok (.getfield 39, 3) := by decide +kernel
theorem dX11_section_127 : decode cX11_section 127 = .ok (.aload_n 0, 1) := by decide +kernel
theorem dX11_section_128 : decode cX11_section 128 = .ok (.getfield 106, 3) := by decide +kernel
theorem dX11_section_131 : decode cX11_section 131 = .ok (.iload 4, 2) := by decide +kernel
theorem dX11_section_133 : decode cX11_section 133 = .ok (.iastore, 1) := by decide +kernel
theorem dX11_section_134 : decode cX11_section 134 = .ok (.aload_n 0, 1) := by decide +kernel
theorem dX11_section_135 : decode cX11_section 135 = .ok (.dup, 1) := by decide +kernel
theorem dX11_section_136 : decode cX11_section 136 = .ok (.getfield 106, 3) := by decide +kernel
theorem dX11_section_139 : decode cX11_section 139 = .ok (.iconst 1, 1) := by decide +kernel
theorem dX11_section_140 : decode cX11_section 140 = .ok (.iadd, 1) := by decide +kernel
theorem dX11_section_141 : decode cX11_section 141 = .ok (.putfield 106, 3) := by decide +kernel
theorem dX11_section_144 : decode cX11_section 144 = .ok (.aload_n 0, 1) := by decide +kernel
theorem dX11_section_145 : decode cX11_section 145 = .ok (.getfield 106, 3) := by decide +kernel
theorem dX11_section_148 : decode cX11_section 148 = .ok (.iconst 1, 1) := by decide +kernel
theorem dX11_section_149 : decode cX11_section 149 = .ok (.isub, 1) := by decide +kernel
theorem dX11_section_150 : decode cX11_section 150 = .ok (.ireturn, 1) := by decide +kernel
theorem dX11_intake_0 : decode cX11_intake 0 = .ok (.iload_n 2, 1) := by decide +kernel
theorem dX11_intake_1 : decode cX11_intake 1 = .ok (.iconst 1, 1) := by decide +kernel
theorem dX11_intake_2 : decode cX11_intake 2 = .ok (.sipush 500, 3) := by decide +kernel
theorem dX11_intake_5 : decode cX11_intake 5 = .ok (.invokestatic 109, 3) := by decide +kernel
theorem dX11_intake_8 : decode cX11_intake 8 = .ok (.ifCond .eq 41, 3) := by decide +kernel
theorem dX11_intake_11 : decode cX11_intake 11 = .ok (.iload_n 3, 1) := by decide +kernel
theorem dX11_intake_12 : decode cX11_intake 12 = .ok (.iconst 0, 1) := by decide +kernel
theorem dX11_intake_13 : decode cX11_intake 13 = .ok (.bipush 30, 2) := by decide +kernel
theorem dX11_intake_15 : decode cX11_intake 15 = .ok (.invokestatic 109, 3) := by decide +kernel
theorem dX11_intake_18 : decode cX11_intake 18 = .ok (.ifCond .eq 31, 3) := by decide +kernel
theorem dX11_intake_21 : decode cX11_intake 21 = .ok (.iload 4, 2) := by decide +kernel
theorem dX11_intake_23 : decode cX11_intake 23 = .ok (.iconst 1, 1) := by decide +kernel
theorem dX11_intake_24 : decode cX11_intake 24 = .ok (.sipush 10000, 3) := by decide +kernel
theorem dX11_intake_27 : decode cX11_intake 27 = .ok (.invokestatic 109, 3) := by decide +kernel
theorem dX11_intake_30 : decode cX11_intake 30 = .ok (.ifCond .eq 19, 3) := by decide +kernel
theorem dX11_intake_33 : decode cX11_intake 33 = .ok (.iload 5, 2) := by decide +kernel
theorem dX11_intake_35 : decode cX11_intake 35 = .ok (.iconst 0, 1) := by decide +kernel
theorem dX11_intake_36 : decode cX11_intake 36 = .ok (.sipush 500, 3) := by decide +kernel
theorem dX11_intake_39 : decode cX11_intake 39 = .ok (.invokestatic 109, 3) := by decide +kernel
theorem dX11_intake_42 : decode cX11_intake 42 = .ok (.ifCond .eq 7, 3) := by decide +kernel
theorem dX11_intake_45 : decode cX11_intake 45 = .ok (.iconst 1, 1) := by decide +kernel
theorem dX11_intake_46 : decode cX11_intake 46 = .ok (.goto 4, 3) := by decide +kernel
theorem dX11_intake_49 : decode cX11_intake 49 = .ok (.iconst 0, 1) := by decide +kernel
theorem dX11_intake_50 : decode cX11_intake 50 = .ok (.istore 6, 2) := by decide +kernel
theorem dX11_intake_52 : decode cX11_intake 52 = .ok (.aload_n 0, 1) := by decide +kernel
theorem dX11_intake_53 : decode cX11_intake 53 = .ok (.aload_n 0, 1) := by decide +kernel
theorem dX11_intake_54 : decode cX11_intake 54 = .ok (.iload_n 1, 1) := by decide +kernel
theorem dX11_intake_55 : decode cX11_intake 55 = .ok (.invokevirtual 139, 3) := by decide +kernel
theorem dX11_intake_58 : decode cX11_intake 58 = .ok (.ifCond .ne 7, 3) := by decide +kernel
theorem dX11_intake_61 : decode cX11_intake 61 = .ok (.iconst 1, 1) := by decide +kernel
theorem dX11_intake_62 : decode cX11_intake 62 = .ok (.goto 26, 3) := by decide +kernel
theorem dX11_intake_65 : decode cX11_intake 65 = .ok (.iload 6, 2) := by decide +kernel
theorem dX11_intake_67 : decode cX11_intake 67 = .ok (.ifCond .ne 7, 3) := by decide +kernel
theorem dX11_intake_70 : decode cX11_intake 70 = .ok (.iconst 2, 1) := by decide +kernel
theorem dX11_intake_71 : decode cX11_intake 71 = .ok (.goto 17, 3) := by decide +kernel
theorem dX11_intake_74 : decode cX11_intake 74 = .ok (.aload_n 0, 1) := by decide +kernel
theorem dX11_intake_75 : decode cX11_intake 75 = .ok (.getfield 142, 3) := by decide +kernel
theorem dX11_intake_78 : decode cX11_intake 78 = .ok (.bipush 6, 2) := by decide +kernel
theorem dX11_intake_80 : decode cX11_intake 80 = .ok (.if_icmp .ne 7, 3) := by decide +kernel
theorem dX11_intake_83 : decode cX11_intake 83 = .ok (.iconst 3, 1) := by decide +kernel
theorem dX11_intake_84 : decode cX11_intake 84 = .ok (.goto 4, 3) := by decide +kernel
theorem dX11_intake_87 : decode cX11_intake 87 = .ok (.iconst 0, 1) := by decide +kernel
theorem dX11_intake_88 : decode cX11_intake 88 = .ok (.invokevirtual 116, 3) := by decide +kernel
theorem dX11_intake_91 : decode cX11_intake 91 = .ok (.ifCond .ne 5, 3) := by decide +kernel
theorem dX11_intake_94 : decode cX11_intake 94 = .ok (.iconst 0, 1) := by decide +kernel
theorem dX11_intake_95 : decode cX11_intake 95 = .ok (.ireturn, 1) := by decide +kernel
theorem dX11_intake_96 : decode cX11_intake 96 = .ok (.aload_n 0, 1) := by decide +kernel
theorem dX11_intake_97 : decode cX11_intake 97 = .ok (.getfield 60, 3) := by decide +kernel
theorem dX11_intake_100 : decode cX11_intake 100 = .ok (.aload_n 0, 1) := by decide +kernel
theorem dX11_intake_101 : decode cX11_intake 101 = .ok (.getfield 142, 3) := by decide +kernel
theorem dX11_intake_104 : decode cX11_intake 104 = .ok (.iload_n 1, 1) := by decide +kernel
theorem dX11_intake_105 : decode cX11_intake 105 = .ok (.iastore, 1) := by decide +kernel
theorem dX11_intake_106 : decode cX11_intake 106 = .ok (.aload_n 0, 1) := by decide +kernel
theorem dX11_intake_107 : decode cX11_intake 107 = .ok (.getfield 63, 3) := by decide +kernel
theorem dX11_intake_110 : decode cX11_intake 110 = .ok (.aload_n 0, 1) := by decide +kernel
theorem dX11_intake_111 : decode cX11_intake 111 = .ok (.getfield 142, 3) := by decide +kernel
theorem dX11_intake_114 : decode cX11_intake 114 = .ok (.iload_n 2, 1) := by decide +kernel
theorem dX11_intake_115 : decode cX11_intake 115 = .ok (.iastore, 1) := by decide +kernel
theorem dX11_intake_116 : decode cX11_intake 116 = .ok (.aload_n 0, 1) := by decide +kernel
theorem dX11_intake_117 : decode cX11_intake 117 = .ok (.getfield 66, 3) := by decide +kernel
theorem dX11_intake_120 : decode cX11_intake 120 = .ok (.aload_n 0, 1) := by decide +kernel
theorem dX11_intake_121 : decode cX11_intake 121 = .ok (.getfield 142, 3) := by decide +kernel
theorem dX11_intake_124 : decode cX11_intake 124 = .ok (.iload_n 3, 1) := by decide +kernel
theorem dX11_intake_125 : decode cX11_intake 125 = .ok (.iastore, 1) := by decide +kernel
theorem dX11_intake_126 : decode cX11_intake 126 = .ok (.aload_n 0, 1) := by decide +kernel
theorem dX11_intake_127 : decode cX11_intake 127 = .ok (.getfield 69, 3) := by decide +kernel
theorem dX11_intake_130 : decode cX11_intake 130 = .ok (.aload_n 0, 1) := by decide +kernel
theorem dX11_intake_131 : decode cX11_intake 131 = .ok (.getfield 142, 3) := by decide +kernel
theorem dX11_intake_134 : decode cX11_intake 134 = .ok (.iload 4, 2) := by decide +kernel
theorem dX11_intake_136 : decode cX11_intake 136 = .ok (.iastore, 1) := by decide +kernel
theorem dX11_intake_137 : decode cX11_intake 137 = .ok (.aload_n 0, 1) := by decide +kernel
theorem dX11_intake_138 : decode cX11_intake 138 = .ok (.getfield 72, 3) := by decide +kernel
theorem dX11_intake_141 : decode cX11_intake 141 = .ok (.aload_n 0, 1) := by decide +kernel
theorem dX11_intake_142 : decode cX11_intake 142 = .ok (.getfield 142, 3) := by decide +kernel
theorem dX11_intake_145 : decode cX11_intake 145 = .ok (.iload 5, 2) := by decide +kernel
theorem dX11_intake_147 : decode cX11_intake 147 = .ok (.iastore, 1) := by decide +kernel
theorem dX11_intake_148 : decode cX11_intake 148 = .ok (.aload_n 0, 1) := by decide +kernel
theorem dX11_intake_149 : decode cX11_intake 149 = .ok (.dup, 1) := by decide +kernel
theorem dX11_intake_150 : decode cX11_intake 150 = .ok (.getfield 142, 3) := by decide +kernel
theorem dX11_intake_153 : decode cX11_intake 153 = .ok (.iconst 1, 1) := by decide +kernel
theorem dX11_intake_154 : decode cX11_intake 154 = .ok (.iadd, 1) := by decide +kernel
theorem dX11_intake_155 : decode cX11_intake 155 = .ok (.putfield 142, 3) := by decide +kernel
theorem dX11_intake_158 : decode cX11_intake 158 = .ok (.aload_n 0, 1) := by decide +kernel
theorem dX11_intake_159 : decode cX11_intake 159 = .ok (.getfield 142, 3) := by decide +kernel
theorem dX11_intake_162 : decode cX11_intake 162 = .ok (.iconst 1, 1) := by decide +kernel
theorem dX11_intake_163 : decode cX11_intake 163 = .ok (.isub, 1) := by decide +kernel
theorem dX11_intake_164 : decode cX11_intake 164 = .ok (.ireturn, 1) := by decide +kernel
theorem dX11_oysters_0 : decode cX11_oysters 0 = .ok (.iload_n 2, 1) := by decide +kernel
theorem dX11_oysters_1 : decode cX11_oysters 1 = .ok (.iconst 0, 1) := by decide +kernel
theorem dX11_oysters_2 : decode cX11_oysters 2 = .ok (.bipush 30, 2) := by decide +kernel
theorem dX11_oysters_4 : decode cX11_oysters 4 = .ok (.invokestatic 109, 3) := by decide +kernel
theorem dX11_oysters_7 : decode cX11_oysters 7 = .ok (.ifCond .eq 17, 3) := by decide +kernel
theorem dX11_oysters_10 : decode cX11_oysters 10 = .ok (.iload_n 3, 1) := by decide +kernel
theorem dX11_oysters_11 : decode cX11_oysters 11 = .ok (.iconst 1, 1) := by decide +kernel
theorem dX11_oysters_12 : decode cX11_oysters 12 = .ok (.bipush 24, 2) := by decide +kernel
theorem dX11_oysters_14 : decode cX11_oysters 14 = .ok (.invokestatic 109, 3) := by decide +kernel
theorem dX11_oysters_17 : decode cX11_oysters 17 = .ok (.ifCond .eq 7, 3) := by decide +kernel
theorem dX11_oysters_20 : decode cX11_oysters 20 = .ok (.iconst 1, 1) := by decide +kernel
theorem dX11_oysters_21 : decode cX11_oysters 21 = .ok (.goto 4, 3) := by decide +kernel
theorem dX11_oysters_24 : decode cX11_oysters 24 = .ok (.iconst 0, 1) := by decide +kernel
theorem dX11_oysters_25 : decode cX11_oysters 25 = .ok (.istore 4, 2) := by decide +kernel
theorem dX11_oysters_27 : decode cX11_oysters 27 = .ok (.aload_n 0, 1) := by decide +kernel
theorem dX11_oysters_28 : decode cX11_oysters 28 = .ok (.aload_n 0, 1) := by decide +kernel
theorem dX11_oysters_29 : decode cX11_oysters 29 = .ok (.iload_n 1, 1) := by decide +kernel
theorem dX11_oysters_30 : decode cX11_oysters 30 = .ok (.invokevirtual 139, 3) := by decide +kernel
theorem dX11_oysters_33 : decode cX11_oysters 33 = .ok (.ifCond .ne 7, 3) := by decide +kernel
theorem dX11_oysters_36 : decode cX11_oysters 36 = .ok (.iconst 1, 1) := by decide +kernel
theorem dX11_oysters_37 : decode cX11_oysters 37 = .ok (.goto 26, 3) := by decide +kernel
theorem dX11_oysters_40 : decode cX11_oysters 40 = .ok (.iload 4, 2) := by decide +kernel
theorem dX11_oysters_42 : decode cX11_oysters 42 = .ok (.ifCond .ne 7, 3) := by decide +kernel
theorem dX11_oysters_45 : decode cX11_oysters 45 = .ok (.iconst 2, 1) := by decide +kernel
theorem dX11_oysters_46 : decode cX11_oysters 46 = .ok (.goto 17, 3) := by decide +kernel
theorem dX11_oysters_49 : decode cX11_oysters 49 = .ok (.aload_n 0, 1) := by decide +kernel
theorem dX11_oysters_50 : decode cX11_oysters 50 = .ok (.getfield 145, 3) := by decide +kernel
theorem dX11_oysters_53 : decode cX11_oysters 53 = .ok (.bipush 6, 2) := by decide +kernel
theorem dX11_oysters_55 : decode cX11_oysters 55 = .ok (.if_icmp .ne 7, 3) := by decide +kernel
theorem dX11_oysters_58 : decode cX11_oysters 58 = .ok (.iconst 3, 1) := by decide +kernel
theorem dX11_oysters_59 : decode cX11_oysters 59 = .ok (.goto 4, 3) := by decide +kernel
theorem dX11_oysters_62 : decode cX11_oysters 62 = .ok (.iconst 0, 1) := by decide +kernel
theorem dX11_oysters_63 : decode cX11_oysters 63 = .ok (.invokevirtual 116, 3) := by decide +kernel
theorem dX11_oysters_66 : decode cX11_oysters 66 = .ok (.ifCond .ne 5, 3) := by decide +kernel
theorem dX11_oysters_69 : decode cX11_oysters 69 = .ok (.iconst 0, 1) := by decide +kernel
theorem dX11_oysters_70 : decode cX11_oysters 70 = .ok (.ireturn, 1) := by decide +kernel
theorem dX11_oysters_71 : decode cX11_oysters 71 = .ok (.aload_n 0, 1) := by decide +kernel
theorem dX11_oysters_72 : decode cX11_oysters 72 = .ok (.getfield 90, 3) := by decide +kernel
theorem dX11_oysters_75 : decode cX11_oysters 75 = .ok (.aload_n 0, 1) := by decide +kernel
theorem dX11_oysters_76 : decode cX11_oysters 76 = .ok (.getfield 145, 3) := by decide +kernel
theorem dX11_oysters_79 : decode cX11_oysters 79 = .ok (.iload_n 1, 1) := by decide +kernel
theorem dX11_oysters_80 : decode cX11_oysters 80 = .ok (.iastore, 1) := by decide +kernel
theorem dX11_oysters_81 : decode cX11_oysters 81 = .ok (.aload_n 0, 1) := by decide +kernel
theorem dX11_oysters_82 : decode cX11_oysters 82 = .ok (.getfield 93, 3) := by decide +kernel
theorem dX11_oysters_85 : decode cX11_oysters 85 = .ok (.aload_n 0, 1) := by decide +kernel
theorem dX11_oysters_86 : decode cX11_oysters 86 = .ok (.getfield 145, 3) := by decide +kernel
theorem dX11_oysters_89 : decode cX11_oysters 89 = .ok (.iload_n 2, 1) := by decide +kernel
theorem dX11_oysters_90 : decode cX11_oysters 90 = .ok (.iastore, 1) := by decide +kernel
theorem dX11_oysters_91 : decode cX11_oysters 91 = .ok (.aload_n 0, 1) := by decide +kernel
theorem dX11_oysters_92 : decode cX11_oysters 92 = .ok (.getfield 96, 3) := by decide +kernel
theorem dX11_oysters_95 : decode cX11_oysters 95 = .ok (.aload_n 0, 1) := by decide +kernel
theorem dX11_oysters_96 : decode cX11_oysters 96 = .ok (.getfield 145, 3) := by decide +kernel
theorem dX11_oysters_99 : decode cX11_oysters 99 = .ok (.iload_n 3, 1) := by decide +kernel
theorem dX11_oysters_100 : decode cX11_oysters 100 = .ok (.iastore, 1) := by decide +kernel
theorem dX11_oysters_101 : decode cX11_oysters 101 = .ok (.aload_n 0, 1) := by decide +kernel
theorem dX11_oysters_102 : decode cX11_oysters 102 = .ok (.dup, 1) := by decide +kernel
theorem dX11_oysters_103 : decode cX11_oysters 103 = .ok (.getfield 145, 3) := by decide +kernel
theorem dX11_oysters_106 : decode cX11_oysters 106 = .ok (.iconst 1, 1) := by decide +kernel
theorem dX11_oysters_107 : decode cX11_oysters 107 = .ok (.iadd, 1) := by decide +kernel
theorem dX11_oysters_108 : decode cX11_oysters 108 = .ok (.putfield 145, 3) := by decide +kernel
theorem dX11_oysters_111 : decode cX11_oysters 111 = .ok (.aload_n 0, 1) := by decide +kernel
theorem dX11_oysters_112 : decode cX11_oysters 112 = .ok (.getfield 145, 3) := by decide +kernel
theorem dX11_oysters_115 : decode cX11_oysters 115 = .ok (.iconst 1, 1) := by decide +kernel
theorem dX11_oysters_116 : decode cX11_oysters 116 = .ok (.isub, 1) := by decide +kernel
theorem dX11_oysters_117 : decode cX11_oysters 117 = .ok (.ireturn, 1) := by decide +kernel
theorem dX11_permit_0 : decode cX11_permit 0 = .ok (.aload_n 0, 1) := by decide +kernel
theorem dX11_permit_1 : decode cX11_permit 1 = .ok (.aload_n 0, 1) := by decide +kernel
theorem dX11_permit_2 : decode cX11_permit 2 = .ok (.iload_n 1, 1) := by decide +kernel
theorem dX11_permit_3 : decode cX11_permit 3 = .ok (.invokevirtual 139, 3) := by decide +kernel
theorem dX11_permit_6 : decode cX11_permit 6 = .ok (.ifCond .ne 7, 3) := by decide +kernel
theorem dX11_permit_9 : decode cX11_permit 9 = .ok (.iconst 1, 1) := by decide +kernel
theorem dX11_permit_10 : decode cX11_permit 10 = .ok (.goto 19, 3) := by decide +kernel
theorem dX11_permit_13 : decode cX11_permit 13 = .ok (.iload_n 2, 1) := by decide +kernel
theorem dX11_permit_14 : decode cX11_permit 14 = .ok (.iconst 0, 1) := by decide +kernel
theorem dX11_permit_15 : decode cX11_permit 15 = .ok (.sipush 10000, 3) := by decide +kernel
theorem dX11_permit_18 : decode cX11_permit 18 = .ok (.invokestatic 109, 3) := by decide +kernel
theorem dX11_permit_21 : decode cX11_permit 21 = .ok (.ifCond .eq 7, 3) := by decide +kernel
theorem dX11_permit_24 : decode cX11_permit 24 = .ok (.iconst 0, 1) := by decide +kernel
theorem dX11_permit_25 : decode cX11_permit 25 = .ok (.goto 4, 3) := by decide +kernel
theorem dX11_permit_28 : decode cX11_permit 28 = .ok (.iconst 2, 1) := by decide +kernel
theorem dX11_permit_29 : decode cX11_permit 29 = .ok (.invokevirtual 116, 3) := by decide +kernel
theorem dX11_permit_32 : decode cX11_permit 32 = .ok (.ifCond .ne 5, 3) := by decide +kernel
theorem dX11_permit_35 : decode cX11_permit 35 = .ok (.iconst 0, 1) := by decide +kernel
theorem dX11_permit_36 : decode cX11_permit 36 = .ok (.ireturn, 1) := by decide +kernel
theorem dX11_permit_37 : decode cX11_permit 37 = .ok (.aload_n 0, 1) := by decide +kernel
theorem dX11_permit_38 : decode cX11_permit 38 = .ok (.getfield 48, 3) := by decide +kernel
theorem dX11_permit_41 : decode cX11_permit 41 = .ok (.iload_n 1, 1) := by decide +kernel
theorem dX11_permit_42 : decode cX11_permit 42 = .ok (.iaload, 1) := by decide +kernel
theorem dX11_permit_43 : decode cX11_permit 43 = .ok (.istore_n 3, 1) := by decide +kernel
theorem dX11_permit_44 : decode cX11_permit 44 = .ok (.aload_n 0, 1) := by decide +kernel
theorem dX11_permit_45 : decode cX11_permit 45 = .ok (.getfield 48, 3) := by decide +kernel
theorem dX11_permit_48 : decode cX11_permit 48 = .ok (.iload_n 1, 1) := by decide +kernel
theorem dX11_permit_49 : decode cX11_permit 49 = .ok (.iload_n 2, 1) := by decide +kernel
theorem dX11_permit_50 : decode cX11_permit 50 = .ok (.iastore, 1) := by decide +kernel
theorem dX11_permit_51 : decode cX11_permit 51 = .ok (.iload_n 3, 1) := by decide +kernel
theorem dX11_permit_52 : decode cX11_permit 52 = .ok (.ireturn, 1) := by decide +kernel
theorem dX11_why_0 : decode cX11_why 0 = .ok (.aload_n 0, 1) := by decide +kernel
theorem dX11_why_1 : decode cX11_why 1 = .ok (.getfield 48, 3) := by decide +kernel
theorem dX11_why_4 : decode cX11_why 4 = .ok (.iload_n 1, 1) := by decide +kernel
theorem dX11_why_5 : decode cX11_why 5 = .ok (.iaload, 1) := by decide +kernel
theorem dX11_why_6 : decode cX11_why 6 = .ok (.ifCond .ne 5, 3) := by decide +kernel
theorem dX11_why_9 : decode cX11_why 9 = .ok (.iconst 1, 1) := by decide +kernel
theorem dX11_why_10 : decode cX11_why 10 = .ok (.ireturn, 1) := by decide +kernel
theorem dX11_why_11 : decode cX11_why 11 = .ok (.iload_n 2, 1) := by decide +kernel
theorem dX11_why_12 : decode cX11_why 12 = .ok (.aload_n 0, 1) := by decide +kernel
theorem dX11_why_13 : decode cX11_why 13 = .ok (.getfield 48, 3) := by decide +kernel
theorem dX11_why_16 : decode cX11_why 16 = .ok (.iload_n 1, 1) := by decide +kernel
theorem dX11_why_17 : decode cX11_why 17 = .ok (.iaload, 1) := by decide +kernel
theorem dX11_why_18 : decode cX11_why 18 = .ok (.if_icmp .le 7, 3) := by decide +kernel
theorem dX11_why_21 : decode cX11_why 21 = .ok (.iconst 2, 1) := by decide +kernel
theorem dX11_why_22 : decode cX11_why 22 = .ok (.goto 18, 3) := by decide +kernel
theorem dX11_why_25 : decode cX11_why 25 = .ok (.aload_n 0, 1) := by decide +kernel
theorem dX11_why_26 : decode cX11_why 26 = .ok (.getfield 39, 3) := by decide +kernel
theorem dX11_why_29 : decode cX11_why 29 = .ok (.iload_n 1, 1) := by decide +kernel
theorem dX11_why_30 : decode cX11_why 30 = .ok (.iaload, 1) := by decide +kernel
theorem dX11_why_31 : decode cX11_why 31 = .ok (.iload_n 2, 1) := by decide +kernel
theorem dX11_why_32 : decode cX11_why 32 = .ok (.if_icmp .ge 7, 3) := by decide +kernel
theorem dX11_why_35 : decode cX11_why 35 = .ok (.iconst 3, 1) := by decide +kernel
theorem dX11_why_36 : decode cX11_why 36 = .ok (.goto 4, 3) := by decide +kernel
theorem dX11_why_39 : decode cX11_why 39 = .ok (.iconst 0, 1) := by decide +kernel
theorem dX11_why_40 : decode cX11_why 40 = .ok (.ireturn, 1) := by decide +kernel
theorem dX11_whyNot_0 : decode cX11_whyNot 0 = .ok (.aload_n 0, 1) := by decide +kernel
theorem dX11_whyNot_1 : decode cX11_whyNot 1 = .ok (.aload_n 0, 1) := by decide +kernel
theorem dX11_whyNot_2 : decode cX11_whyNot 2 = .ok (.iload_n 1, 1) := by decide +kernel
theorem dX11_whyNot_3 : decode cX11_whyNot 3 = .ok (.invokevirtual 139, 3) := by decide +kernel
theorem dX11_whyNot_6 : decode cX11_whyNot 6 = .ok (.ifCond .ne 7, 3) := by decide +kernel
theorem dX11_whyNot_9 : decode cX11_whyNot 9 = .ok (.iconst 1, 1) := by decide +kernel
theorem dX11_whyNot_10 : decode cX11_whyNot 10 = .ok (.goto 19, 3) := by decide +kernel
theorem dX11_whyNot_13 : decode cX11_whyNot 13 = .ok (.iload_n 2, 1) := by decide +kernel
theorem dX11_whyNot_14 : decode cX11_whyNot 14 = .ok (.iconst 1, 1) := by decide +kernel
theorem dX11_whyNot_15 : decode cX11_whyNot 15 = .ok (.sipush 10000, 3) := by decide +kernel
theorem dX11_whyNot_18 : decode cX11_whyNot 18 = .ok (.invokestatic 109, 3) := by decide +kernel
theorem dX11_whyNot_21 : decode cX11_whyNot 21 = .ok (.ifCond .eq 7, 3) := by decide +kernel
theorem dX11_whyNot_24 : decode cX11_whyNot 24 = .ok (.iconst 0, 1) := by decide +kernel
theorem dX11_whyNot_25 : decode cX11_whyNot 25 = .ok (.goto 4, 3) := by decide +kernel
theorem dX11_whyNot_28 : decode cX11_whyNot 28 = .ok (.iconst 2, 1) := by decide +kernel
theorem dX11_whyNot_29 : decode cX11_whyNot 29 = .ok (.invokevirtual 116, 3) := by decide +kernel
theorem dX11_whyNot_32 : decode cX11_whyNot 32 = .ok (.ifCond .eq 12, 3) := by decide +kernel
theorem dX11_whyNot_35 : decode cX11_whyNot 35 = .ok (.aload_n 0, 1) := by decide +kernel
theorem dX11_whyNot_36 : decode cX11_whyNot 36 = .ok (.iload_n 1, 1) := by decide +kernel
theorem dX11_whyNot_37 : decode cX11_whyNot 37 = .ok (.iload_n 2, 1) := by decide +kernel
theorem dX11_whyNot_38 : decode cX11_whyNot 38 = .ok (.invokevirtual 148, 3) := by decide +kernel
theorem dX11_whyNot_41 : decode cX11_whyNot 41 = .ok (.goto 4, 3) := by decide +kernel
theorem dX11_whyNot_44 : decode cX11_whyNot 44 = .ok (.iconst 0, 1) := by decide +kernel
theorem dX11_whyNot_45 : decode cX11_whyNot 45 = .ok (.ireturn, 1) := by decide +kernel
theorem dX11_dredge_0 : decode cX11_dredge 0 = .ok (.aload_n 0, 1) := by decide +kernel
theorem dX11_dredge_1 : decode cX11_dredge 1 = .ok (.iload_n 1, 1) := by decide +kernel
theorem dX11_dredge_2 : decode cX11_dredge 2 = .ok (.invokevirtual 139, 3) := by decide +kernel
theorem dX11_dredge_5 : decode cX11_dredge 5 = .ok (.ifCond .eq 20, 3) := by decide +kernel
theorem dX11_dredge_8 : decode cX11_dredge 8 = .ok (.iload_n 3, 1) := by decide +kernel
theorem dX11_dredge_9 : decode cX11_dredge 9 = .ok (.iconst (-1), 1) := by decide +kernel
theorem dX11_dredge_10 : decode cX11_dredge 10 = .ok (.if_icmp .eq 11, 3) := by decide +kernel
theorem dX11_dredge_13 : decode cX11_dredge 13 = .ok (.aload_n 0, 1) := by decide +kernel
theorem dX11_dredge_14 : decode cX11_dredge 14 = .ok (.iload_n 3, 1) := by decide +kernel
theorem dX11_dredge_15 : decode cX11_dredge 15 = .ok (.invokevirtual 139, 3) := by decide +kernel
theorem dX11_dredge_18 : decode cX11_dredge 18 = .ok (.ifCond .eq 7, 3) := by decide +kernel
theorem dX11_dredge_21 : decode cX11_dredge 21 = .ok (.iconst 1, 1) := by decide +kernel
theorem dX11_dredge_22 : decode cX11_dredge 22 = .ok (.goto 4, 3) := by decide +kernel
theorem dX11_dredge_25 : decode cX11_dredge 25 = .ok (.iconst 0, 1) := by decide +kernel
theorem dX11_dredge_26 : decode cX11_dredge 26 = .ok (.istore 4, 2) := by decide +kernel
theorem dX11_dredge_28 : decode cX11_dredge 28 = .ok (.aload_n 0, 1) := by decide +kernel
theorem dX11_dredge_29 : decode cX11_dredge 29 = .ok (.iload 4, 2) := by decide +kernel
theorem dX11_dredge_31 : decode cX11_dredge 31 = .ok (.ifCond .ne 7, 3) := by decide +kernel
theorem dX11_dredge_34 : decode cX11_dredge 34 = .ok (.iconst 1, 1) := by decide +kernel
theorem dX11_dredge_35 : decode cX11_dredge 35 = .ok (.goto 37, 3) := by decide +kernel
theorem dX11_dredge_38 : decode cX11_dredge 38 = .ok (.iload_n 2, 1) := by decide +kernel
theorem dX11_dredge_39 : decode cX11_dredge 39 = .ok (.iconst 1, 1) := by decide +kernel
theorem dX11_dredge_40 : decode cX11_dredge 40 = .ok (.sipush 10000, 3) := by decide +kernel
theorem dX11_dredge_43 : decode cX11_dredge 43 = .ok (.invokestatic 109, 3) := by decide +kernel
theorem dX11_dredge_46 : decode cX11_dredge 46 = .ok (.ifCond .eq 8, 3) := by decide +kernel
theorem dX11_dredge_49 : decode cX11_dredge 49 = .ok (.iload_n 1, 1) := by decide +kernel
theorem dX11_dredge_50 : decode cX11_dredge 50 = .ok (.iload_n 3, 1) := by decide +kernel
theorem dX11_dredge_51 : decode cX11_dredge 51 = .ok (.if_icmp .ne 7, 3) := by decide +kernel
theorem dX11_dredge_54 : decode cX11_dredge 54 = .ok (.iconst 2, 1) := by decide +kernel
theorem dX11_dredge_55 : decode cX11_dredge 55 = .ok (.goto 17, 3) := by decide +kernel
theorem dX11_dredge_58 : decode cX11_dredge 58 = .ok (.aload_n 0, 1) := by decide +kernel
theorem dX11_dredge_59 : decode cX11_dredge 59 = .ok (.iload_n 1, 1) := by decide +kernel
theorem dX11_dredge_60 : decode cX11_dredge 60 = .ok (.iload_n 2, 1) := by decide +kernel
theorem dX11_dredge_61 : decode cX11_dredge 61 = .ok (.invokevirtual 148, 3) := by decide +kernel
theorem dX11_dredge_64 : decode cX11_dredge 64 = .ok (.ifCond .le 7, 3) := by decide +kernel
theorem dX11_dredge_67 : decode cX11_dredge 67 = .ok (.iconst 3, 1) := by decide +kernel
theorem dX11_dredge_68 : decode cX11_dredge 68 = .ok (.goto 4, 3) := by decide +kernel
theorem dX11_dredge_71 : decode cX11_dredge 71 = .ok (.iconst 0, 1) := by decide +kernel
theorem dX11_dredge_72 : decode cX11_dredge 72 = .ok (.invokevirtual 116, 3) := by decide +kernel
theorem dX11_dredge_75 : decode cX11_dredge 75 = .ok (.ifCond .ne 5, 3) := by decide +kernel
theorem dX11_dredge_78 : decode cX11_dredge 78 = .ok (.iconst 0, 1) := by decide +kernel
theorem dX11_dredge_79 : decode cX11_dredge 79 = .ok (.ireturn, 1) := by decide +kernel
theorem dX11_dredge_80 : decode cX11_dredge 80 = .ok (.aload_n 0, 1) := by decide +kernel
theorem dX11_dredge_81 : decode cX11_dredge 81 = .ok (.getfield 48, 3) := by decide +kernel
theorem dX11_dredge_84 : decode cX11_dredge 84 = .ok (.iload_n 1, 1) := by decide +kernel
theorem dX11_dredge_85 : decode cX11_dredge 85 = .ok (.dup2, 1) := by decide +kernel
theorem dX11_dredge_86 : decode cX11_dredge 86 = .ok (.iaload, 1) := by decide +kernel
theorem dX11_dredge_87 : decode cX11_dredge 87 = .ok (.iload_n 2, 1) := by decide +kernel
theorem dX11_dredge_88 : decode cX11_dredge 88 = .ok (.isub, 1) := by decide +kernel
theorem dX11_dredge_89 : decode cX11_dredge 89 = .ok (.iastore, 1) := by decide +kernel
theorem dX11_dredge_90 : decode cX11_dredge 90 = .ok (.aload_n 0, 1) := by decide +kernel
theorem dX11_dredge_91 : decode cX11_dredge 91 = .ok (.getfield 39, 3) := by decide +kernel
theorem dX11_dredge_94 : decode cX11_dredge 94 = .ok (.iload_n 1, 1) := by decide +kernel
theorem dX11_dredge_95 : decode cX11_dredge 95 = .ok (.dup2, 1) := by decide +kernel
theorem dX11_dredge_96 : decode cX11_dredge 96 = .ok (.iaload, 1) := by decide +kernel
theorem dX11_dredge_97 : decode cX11_dredge 97 = .ok (.iload_n 2, 1) := by decide +kernel
theorem dX11_dredge_98 : decode cX11_dredge 98 = .ok (.isub, 1) := by decide +kernel
theorem dX11_dredge_99 : decode cX11_dredge 99 = .ok (.iastore, 1) := by decide +kernel
theorem dX11_dredge_100 : decode cX11_dredge 100 = .ok (.iload_n 3, 1) := by decide +kernel
theorem dX11_dredge_101 : decode cX11_dredge 101 = .ok (.iconst (-1), 1) := by decide +kernel
theorem dX11_dredge_102 : decode cX11_dredge 102 = .ok (.if_icmp .ne 18, 3) := by decide +kernel
theorem dX11_dredge_105 : decode cX11_dredge 105 = .ok (.aload_n 0, 1) := by decide +kernel
theorem dX11_dredge_106 : decode cX11_dredge 106 = .ok (.getfield 99, 3) := by decide +kernel
theorem dX11_dredge_109 : decode cX11_dredge 109 = .ok (.bipush 9, 2) := by decide +kernel
theorem dX11_dredge_111 : decode cX11_dredge 111 = .ok (.dup2, 1) := by decide +kernel
theorem dX11_dredge_112 : decode cX11_dredge 112 = .ok (.laload, 1) := by decide +kernel
theorem dX11_dredge_113 : decode cX11_dredge 113 = .ok (.iload_n 2, 1) := by decide +kernel
theorem dX11_dredge_114 : decode cX11_dredge 114 = .ok (.i2l, 1) := by decide +kernel
theorem dX11_dredge_115 : decode cX11_dredge 115 = .ok (.ladd, 1) := by decide +kernel
theorem dX11_dredge_116 : decode cX11_dredge 116 = .ok (.lastore, 1) := by decide +kernel
theorem dX11_dredge_117 : decode cX11_dredge 117 = .ok (.goto 13, 3) := by decide +kernel
theorem dX11_dredge_120 : decode cX11_dredge 120 = .ok (.aload_n 0, 1) := by decide +kernel
theorem dX11_dredge_121 : decode cX11_dredge 121 = .ok (.getfield 42, 3) := by decide +kernel
theorem dX11_dredge_124 : decode cX11_dredge 124 = .ok (.iload_n 3, 1) := by decide +kernel
theorem dX11_dredge_125 : decode cX11_dredge 125 = .ok (.dup2, 1) := by decide +kernel
theorem dX11_dredge_126 : decode cX11_dredge 126 = .ok (.iaload, 1) := by decide +kernel
theorem dX11_dredge_127 : decode cX11_dredge 127 = .ok (.iload_n 2, 1) := by decide +kernel
theorem dX11_dredge_128 : decode cX11_dredge 128 = .ok (.iadd, 1) := by decide +kernel
theorem dX11_dredge_129 : decode cX11_dredge 129 = .ok (.iastore, 1) := by decide +kernel
theorem dX11_dredge_130 : decode cX11_dredge 130 = .ok (.aload_n 0, 1) := by decide +kernel
theorem dX11_dredge_131 : decode cX11_dredge 131 = .ok (.getfield 48, 3) := by decide +kernel
theorem dX11_dredge_134 : decode cX11_dredge 134 = .ok (.iload_n 1, 1) := by decide +kernel
theorem dX11_dredge_135 : decode cX11_dredge 135 = .ok (.iaload, 1) := by decide +kernel
theorem dX11_dredge_136 : decode cX11_dredge 136 = .ok (.ireturn, 1) := by decide +kernel
theorem dX11_bed_0 : decode cX11_bed 0 = .ok (.aload_n 0, 1) := by decide +kernel
theorem dX11_bed_1 : decode cX11_bed 1 = .ok (.getfield 39, 3) := by decide +kernel
theorem dX11_bed_4 : decode cX11_bed 4 = .ok (.iload_n 1, 1) := by decide +kernel
theorem dX11_bed_5 : decode cX11_bed 5 = .ok (.iaload, 1) := by decide +kernel
theorem dX11_bed_6 : decode cX11_bed 6 = .ok (.aload_n 0, 1) := by decide +kernel
theorem dX11_bed_7 : decode cX11_bed 7 = .ok (.getfield 36, 3) := by decide +kernel
theorem dX11_bed_10 : decode cX11_bed 10 = .ok (.iload_n 1, 1) := by decide +kernel
theorem dX11_bed_11 : decode cX11_bed 11 = .ok (.iaload, 1) := by decide +kernel
theorem dX11_bed_12 : decode cX11_bed 12 = .ok (.idiv, 1) := by decide +kernel
theorem dX11_bed_13 : decode cX11_bed 13 = .ok (.ireturn, 1) := by decide +kernel
theorem dX11_level_0 : decode cX11_level 0 = .ok (.aload_n 0, 1) := by decide +kernel
theorem dX11_level_1 : decode cX11_level 1 = .ok (.iload_n 1, 1) := by decide +kernel
theorem dX11_level_2 : decode cX11_level 2 = .ok (.invokevirtual 151, 3) := by decide +kernel
theorem dX11_level_5 : decode cX11_level 5 = .ok (.aload_n 0, 1) := by decide +kernel
theorem dX11_level_6 : decode cX11_level 6 = .ok (.getfield 51, 3) := by decide +kernel
theorem dX11_level_9 : decode cX11_level 9 = .ok (.iload_n 1, 1) := by decide +kernel
theorem dX11_level_10 : decode cX11_level 10 = .ok (.iaload, 1) := by decide +kernel
theorem dX11_level_11 : decode cX11_level 11 = .ok (.aload_n 0, 1) := by decide +kernel
theorem dX11_level_12 : decode cX11_level 12 = .ok (.getfield 51, 3) := by decide +kernel
theorem dX11_level_15 : decode cX11_level 15 = .ok (.bipush 8, 2) := by decide +kernel
theorem dX11_level_17 : decode cX11_level 17 = .ok (.iload_n 1, 1) := by decide +kernel
theorem dX11_level_18 : decode cX11_level 18 = .ok (.iadd, 1) := by decide +kernel
theorem dX11_level_19 : decode cX11_level 19 = .ok (.iaload, 1) := by decide +kernel
theorem dX11_level_20 : decode cX11_level 20 = .ok (.iadd, 1) := by decide +kernel
theorem dX11_level_21 : decode cX11_level 21 = .ok (.aload_n 0, 1) := by decide +kernel
theorem dX11_level_22 : decode cX11_level 22 = .ok (.getfield 36, 3) := by decide +kernel
theorem dX11_level_25 : decode cX11_level 25 = .ok (.iload_n 1, 1) := by decide +kernel
theorem dX11_level_26 : decode cX11_level 26 = .ok (.iaload, 1) := by decide +kernel
theorem dX11_level_27 : decode cX11_level 27 = .ok (.idiv, 1) := by decide +kernel
theorem dX11_level_28 : decode cX11_level 28 = .ok (.iadd, 1) := by decide +kernel
theorem dX11_level_29 : decode cX11_level 29 = .ok (.ireturn, 1) := by decide +kernel
theorem dX11_salinity_0 : decode cX11_salinity 0 = .ok (.aload_n 0, 1) := by decide +kernel
theorem dX11_salinity_1 : decode cX11_salinity 1 = .ok (.getfield 51, 3) := by decide +kernel
theorem dX11_salinity_4 : decode cX11_salinity 4 = .ok (.bipush 8, 2) := by decide +kernel
theorem dX11_salinity_6 : decode cX11_salinity 6 = .ok (.iload_n 1, 1) := by decide +kernel
theorem dX11_salinity_7 : decode cX11_salinity 7 = .ok (.imul, 1) := by decide +kernel
theorem dX11_salinity_8 : decode cX11_salinity 8 = .ok (.iload_n 2, 1) := by decide +kernel
theorem dX11_salinity_9 : decode cX11_salinity 9 = .ok (.iadd, 1) := by decide +kernel
theorem dX11_salinity_10 : decode cX11_salinity 10 = .ok (.iaload, 1) := by decide +kernel
theorem dX11_salinity_11 : decode cX11_salinity 11 = .ok (.istore_n 3, 1) := by decide +kernel
theorem dX11_salinity_12 : decode cX11_salinity 12 = .ok (.iload_n 3, 1) := by decide +kernel
theorem dX11_salinity_13 : decode cX11_salinity 13 = .ok (.ifCond .ne 7, 3) := by decide +kernel
theorem dX11_salinity_16 : decode cX11_salinity 16 = .ok (.iconst 0, 1) := by decide +kernel
theorem dX11_salinity_17 : decode cX11_salinity 17 = .ok (.goto 16, 3) := by decide +kernel
theorem dX11_salinity_20 : decode cX11_salinity 20 = .ok (.aload_n 0, 1) := by decide +kernel
theorem dX11_salinity_21 : decode cX11_salinity 21 = .ok (.getfield 54, 3) := by decide +kernel
theorem dX11_salinity_24 : decode cX11_salinity 24 = .ok (.bipush 8, 2) := by decide +kernel
theorem dX11_salinity_26 : decode cX11_salinity 26 = .ok (.iload_n 1, 1) := by decide +kernel
theorem dX11_salinity_27 : decode cX11_salinity 27 = .ok (.imul, 1) := by decide +kernel
theorem dX11_salinity_28 : decode cX11_salinity 28 = .ok (.iload_n 2, 1) := by decide +kernel
theorem dX11_salinity_29 : decode cX11_salinity 29 = .ok (.iadd, 1) := by decide +kernel
theorem dX11_salinity_30 : decode cX11_salinity 30 = .ok (.iaload, 1) := by decide +kernel
theorem dX11_salinity_31 : decode cX11_salinity 31 = .ok (.iload_n 3, 1) := by decide +kernel
theorem dX11_salinity_32 : decode cX11_salinity 32 = .ok (.idiv, 1) := by decide +kernel
theorem dX11_salinity_33 : decode cX11_salinity 33 = .ok (.ireturn, 1) := by decide +kernel
theorem dX11_share_0 : decode cX11_share 0 = .ok (.iload_n 2, 1) := by decide +kernel
theorem dX11_share_1 : decode cX11_share 1 = .ok (.ifCond .ne 7, 3) := by decide +kernel
theorem dX11_share_4 : decode cX11_share 4 = .ok (.iconst 0, 1) := by decide +kernel
theorem dX11_share_5 : decode cX11_share 5 = .ok (.goto 12, 3) := by decide +kernel
theorem dX11_share_8 : decode cX11_share 8 = .ok (.iload_n 0, 1) := by decide +kernel
theorem dX11_share_9 : decode cX11_share 9 = .ok (.i2l, 1) := by decide +kernel
theorem dX11_share_10 : decode cX11_share 10 = .ok (.iload_n 1, 1) := by decide +kernel
theorem dX11_share_11 : decode cX11_share 11 = .ok (.i2l, 1) := by decide +kernel
theorem dX11_share_12 : decode cX11_share 12 = .ok (.lmul, 1) := by decide +kernel
theorem dX11_share_13 : decode cX11_share 13 = .ok (.iload_n 2, 1) := by decide +kernel
theorem dX11_share_14 : decode cX11_share 14 = .ok (.i2l, 1) := by decide +kernel
theorem dX11_share_15 : decode cX11_share 15 = .ok (.ldiv, 1) := by decide +kernel
theorem dX11_share_16 : decode cX11_share 16 = .ok (.l2i, 1) := by decide +kernel
theorem dX11_share_17 : decode cX11_share 17 = .ok (.ireturn, 1) := by decide +kernel
theorem dX11_leaves_0 : decode cX11_leaves 0 = .ok (.bipush 8, 2) := by decide +kernel
theorem dX11_leaves_2 : decode cX11_leaves 2 = .ok (.iload_n 1, 1) := by decide +kernel
theorem dX11_leaves_3 : decode cX11_leaves 3 = .ok (.imul, 1) := by decide +kernel
theorem dX11_leaves_4 : decode cX11_leaves 4 = .ok (.iload_n 2, 1) := by decide +kernel
theorem dX11_leaves_5 : decode cX11_leaves 5 = .ok (.iadd, 1) := by decide +kernel
theorem dX11_leaves_6 : decode cX11_leaves 6 = .ok (.istore 4, 2) := by decide +kernel
theorem dX11_leaves_8 : decode cX11_leaves 8 = .ok (.aload_n 0, 1) := by decide +kernel
theorem dX11_leaves_9 : decode cX11_leaves 9 = .ok (.aload_n 0, 1) := by decide +kernel
theorem dX11_leaves_10 : decode cX11_leaves 10 = .ok (.getfield 54, 3) := by decide +kernel
theorem dX11_leaves_13 : decode cX11_leaves 13 = .ok (.iload 4, 2) := by decide +kernel
theorem dX11_leaves_15 : decode cX11_leaves 15 = .ok (.iaload, 1) := by decide +kernel
theorem dX11_leaves_16 : decode cX11_leaves 16 = .ok (.iload_n 3, 1) := by decide +kernel
theorem dX11_leaves_17 : decode cX11_leaves 17 = .ok (.aload_n 0, 1) := by decide +kernel
theorem dX11_leaves_18 : decode cX11_leaves 18 = .ok (.getfield 51, 3) := by decide +kernel
theorem dX11_leaves_21 : decode cX11_leaves 21 = .ok (.iload 4, 2) := by decide +kernel
theorem dX11_leaves_23 : decode cX11_leaves 23 = .ok (.iaload, 1) := by decide +kernel
theorem dX11_leaves_24 : decode cX11_leaves 24 = .ok (.invokestatic 155, 3) := by decide +kernel
theorem dX11_leaves_27 : decode cX11_leaves 27 = .ok (.putfield 159, 3) := by decide +kernel
theorem dX11_leaves_30 : decode cX11_leaves 30 = .ok (.aload_n 0, 1) := by decide +kernel
theorem dX11_leaves_31 : decode cX11_leaves 31 = .ok (.iload_n 1, 1) := by decide +kernel
theorem dX11_leaves_32 : decode cX11_leaves 32 = .ok (.ifCond .ne 23, 3) := by decide +kernel
theorem dX11_leaves_35 : decode cX11_leaves 35 = .ok (.aload_n 0, 1) := by decide +kernel
theorem dX11_leaves_36 : decode cX11_leaves 36 = .ok (.getfield 42, 3) := by decide +kernel
theorem dX11_leaves_39 : decode cX11_leaves 39 = .ok (.iload_n 2, 1) := by decide +kernel
theorem dX11_leaves_40 : decode cX11_leaves 40 = .ok (.iaload, 1) := by decide +kernel
theorem dX11_leaves_41 : decode cX11_leaves 41 = .ok (.iload_n 3, 1) := by decide +kernel
theorem dX11_leaves_42 : decode cX11_leaves 42 = .ok (.aload_n 0, 1) := by decide +kernel
theorem dX11_leaves_43 : decode cX11_leaves 43 = .ok (.getfield 51, 3) := by decide +kernel
theorem dX11_leaves_46 : decode cX11_leaves 46 = .ok (.iload 4, 2) := by decide +kernel
theorem dX11_leaves_48 : decode cX11_leaves 48 = .ok (.iaload, 1) := by decide +kernel
theorem dX11_leaves_49 : decode cX11_leaves 49 = .ok (.invokestatic 155, 3) := by decide +kernel
theorem dX11_leaves_52 : decode cX11_leaves 52 = .ok (.goto 4, 3) := by decide +kernel
theorem dX11_leaves_55 : decode cX11_leaves 55 = .ok (.iconst 0, 1) := by decide +kernel
theorem dX11_leaves_56 : decode cX11_leaves 56 = .ok (.putfield 162, 3) := by decide +kernel
theorem dX11_leaves_59 : decode cX11_leaves 59 = .ok (.aload_n 0, 1) := by decide +kernel
theorem dX11_leaves_60 : decode cX11_leaves 60 = .ok (.getfield 51, 3) := by decide +kernel
theorem dX11_leaves_63 : decode cX11_leaves 63 = .ok (.iload 4, 2) := by decide +kernel
theorem dX11_leaves_65 : decode cX11_leaves 65 = .ok (.dup2, 1) := by decide +kernel
theorem dX11_leaves_66 : decode cX11_leaves 66 = .ok (.iaload, 1) := by decide +kernel
theorem dX11_leaves_67 : decode cX11_leaves 67 = .ok (.iload_n 3, 1) := by decide +kernel
theorem dX11_leaves_68 : decode cX11_leaves 68 = .ok (.isub, 1) := by decide +kernel
theorem dX11_leaves_69 : decode cX11_leaves 69 = .ok (.iastore, 1) := by decide +kernel
theorem dX11_leaves_70 : decode cX11_leaves 70 = .ok (.aload_n 0, 1) := by decide +kernel
theorem dX11_leaves_71 : decode cX11_leaves 71 = .ok (.getfield 54, 3) := by decide +kernel
theorem dX11_leaves_74 : decode cX11_leaves 74 = .ok (.iload 4, 2) := by decide +kernel
theorem dX11_leaves_76 : decode cX11_leaves 76 = .ok (.dup2, 1) := by decide +kernel
theorem dX11_leaves_77 : decode cX11_leaves 77 = .ok (.iaload, 1) := by decide +kernel
theorem dX11_leaves_78 : decode cX11_leaves 78 = .ok (.aload_n 0, 1) := by decide +kernel
theorem dX11_leaves_79 : decode cX11_leaves 79 = .ok (.getfield 159, 3) := by decide +kernel
theorem dX11_leaves_82 : decode cX11_leaves 82 = .ok (.isub, 1) := by decide +kernel
theorem dX11_leaves_83 : decode cX11_leaves 83 = .ok (.iastore, 1) := by decide +kernel
theorem dX11_leaves_84 : decode cX11_leaves 84 = .ok (.aload_n 0, 1) := by decide +kernel
theorem dX11_leaves_85 : decode cX11_leaves 85 = .ok (.getfield 42, 3) := by decide +kernel
theorem dX11_leaves_88 : decode cX11_leaves 88 = .ok (.iload_n 2, 1) := by decide +kernel
theorem dX11_leaves_89 : decode cX11_leaves 89 = .ok (.dup2, 1) := by decide +kernel
theorem dX11_leaves_90 : decode cX11_leaves 90 = .ok (.iaload, 1) := by decide +kernel
theorem dX11_leaves_91 : decode cX11_leaves 91 = .ok (.aload_n 0, 1) := by decide +kernel
theorem dX11_leaves_92 : decode cX11_leaves 92 = .ok (.getfield 162, 3) := by decide +kernel
theorem dX11_leaves_95 : decode cX11_leaves 95 = .ok (.isub, 1) := by decide +kernel
theorem dX11_leaves_96 : decode cX11_leaves 96 = .ok (.iastore, 1) := by decide +kernel
theorem dX11_leaves_97 : decode cX11_leaves 97 = .ok (.return_, 1) := by decide +kernel
theorem dX11_flows_0 : decode cX11_flows 0 = .ok (.aload_n 0, 1) := by decide +kernel
theorem dX11_flows_1 : decode cX11_flows 1 = .ok (.iload_n 1, 1) := by decide +kernel
theorem dX11_flows_2 : decode cX11_flows 2 = .ok (.iload_n 2, 1) := by decide +kernel
theorem dX11_flows_3 : decode cX11_flows 3 = .ok (.iload 4, 2) := by decide +kernel
theorem dX11_flows_5 : decode cX11_flows 5 = .ok (.invokevirtual 165, 3) := by decide +kernel
theorem dX11_flows_8 : decode cX11_flows 8 = .ok (.aload_n 0, 1) := by decide +kernel
theorem dX11_flows_9 : decode cX11_flows 9 = .ok (.getfield 51, 3) := by decide +kernel
theorem dX11_flows_12 : decode cX11_flows 12 = .ok (.bipush 8, 2) := by decide +kernel
theorem dX11_flows_14 : decode cX11_flows 14 = .ok (.iload_n 1, 1) := by decide +kernel
theorem dX11_flows_15 : decode cX11_flows 15 = .ok (.imul, 1) := by decide +kernel
theorem dX11_flows_16 : decode cX11_flows 16 = .ok (.iload_n 3, 1) := by decide +kernel
theorem dX11_flows_17 : decode cX11_flows 17 = .ok (.iadd, 1) := by decide +kernel
theorem dX11_flows_18 : decode cX11_flows 18 = .ok (.dup2, 1) := by decide +kernel
theorem dX11_flows_19 : decode cX11_flows 19 = .ok (.iaload, 1) := by decide +kernel
theorem dX11_flows_20 : decode cX11_flows 20 = .ok (.iload 4, 2) := by decide +kernel
theorem dX11_flows_22 : decode cX11_flows 22 = .ok (.iadd, 1) := by decide +kernel
theorem dX11_flows_23 : decode cX11_flows 23 = .ok (.iastore, 1) := by decide +kernel
theorem dX11_flows_24 : decode cX11_flows 24 = .ok (.aload_n 0, 1) := by decide +kernel
theorem dX11_flows_25 : decode cX11_flows 25 = .ok (.getfield 54, 3) := by decide +kernel
theorem dX11_flows_28 : decode cX11_flows 28 = .ok (.bipush 8, 2) := by decide +kernel
theorem dX11_flows_30 : decode cX11_flows 30 = .ok (.iload_n 1, 1) := by decide +kernel
theorem dX11_flows_31 : decode cX11_flows 31 = .ok (.imul, 1) := by decide +kernel
theorem dX11_flows_32 : decode cX11_flows 32 = .ok (.iload_n 3, 1) := by decide +kernel
theorem dX11_flows_33 : decode cX11_flows 33 = .ok (.iadd, 1) := by decide +kernel
theorem dX11_flows_34 : decode cX11_flows 34 = .ok (.dup2, 1) := by decide +kernel
theorem dX11_flows_35 : decode cX11_flows 35 = .ok (.iaload, 1) := by decide +kernel
theorem dX11_flows_36 : decode cX11_flows 36 = .ok (.aload_n 0, 1) := by decide +kernel
theorem dX11_flows_37 : decode cX11_flows 37 = .ok (.getfield 159, 3) := by decide +kernel
theorem dX11_flows_40 : decode cX11_flows 40 = .ok (.iadd, 1) := by decide +kernel
theorem dX11_flows_41 : decode cX11_flows 41 = .ok (.iastore, 1) := by decide +kernel
theorem dX11_flows_42 : decode cX11_flows 42 = .ok (.aload_n 0, 1) := by decide +kernel
theorem dX11_flows_43 : decode cX11_flows 43 = .ok (.getfield 42, 3) := by decide +kernel
theorem dX11_flows_46 : decode cX11_flows 46 = .ok (.iload_n 3, 1) := by decide +kernel
theorem dX11_flows_47 : decode cX11_flows 47 = .ok (.dup2, 1) := by decide +kernel
theorem dX11_flows_48 : decode cX11_flows 48 = .ok (.iaload, 1) := by decide +kernel
theorem dX11_flows_49 : decode cX11_flows 49 = .ok (.aload_n 0, 1) := by decide +kernel
theorem dX11_flows_50 : decode cX11_flows 50 = .ok (.getfield 162, 3) := by decide +kernel
theorem dX11_flows_53 : decode cX11_flows 53 = .ok (.iadd, 1) := by decide +kernel
theorem dX11_flows_54 : decode cX11_flows 54 = .ok (.iastore, 1) := by decide +kernel
theorem dX11_flows_55 : decode cX11_flows 55 = .ok (.return_, 1) := by decide +kernel
theorem dX11_isShutNow_0 : decode cX11_isShutNow 0 = .ok (.iconst 0, 1) := by decide +kernel
theorem dX11_isShutNow_1 : decode cX11_isShutNow 1 = .ok (.istore_n 1, 1) := by decide +kernel
theorem dX11_isShutNow_2 : decode cX11_isShutNow 2 = .ok (.aload_n 0, 1) := by decide +kernel
theorem dX11_isShutNow_3 : decode cX11_isShutNow 3 = .ok (.getfield 120, 3) := by decide +kernel
theorem dX11_isShutNow_6 : decode cX11_isShutNow 6 = .ok (.istore_n 2, 1) := by decide +kernel
theorem dX11_isShutNow_7 : decode cX11_isShutNow 7 = .ok (.iload_n 2, 1) := by decide +kernel
theorem dX11_isShutNow_8 : decode cX11_isShutNow 8 = .ok (.aload_n 0, 1) := by decide +kernel
theorem dX11_isShutNow_9 : decode cX11_isShutNow 9 = .ok (.getfield 120, 3) := by decide +kernel
theorem dX11_isShutNow_12 : decode cX11_isShutNow 12 = .ok (.aload_n 0, 1) := by decide +kernel
theorem dX11_isShutNow_13 : decode cX11_isShutNow 13 = .ok (.getfield 132, 3) := by decide +kernel
theorem dX11_isShutNow_16 : decode cX11_isShutNow 16 = .ok (.iadd, 1) := by decide +kernel
theorem dX11_isShutNow_17 : decode cX11_isShutNow 17 = .ok (.if_icmp .gt 39, 3) := by decide +kernel
theorem dX11_isShutNow_20 : decode cX11_isShutNow 20 = .ok (.aload_n 0, 1) := by decide +kernel
theorem dX11_isShutNow_21 : decode cX11_isShutNow 21 = .ok (.getfield 23, 3) := by decide +kernel
theorem dX11_isShutNow_24 : decode cX11_isShutNow 24 = .ok (.iconst (-1), 1) := by decide +kernel
theorem dX11_isShutNow_25 : decode cX11_isShutNow 25 = .ok (.if_icmp .eq 31, 3) := by decide +kernel
theorem dX11_isShutNow_28 : decode cX11_isShutNow 28 = .ok (.iload_n 1, 1) := by decide +kernel
theorem dX11_isShutNow_29 : decode cX11_isShutNow 29 = .ok (.ifCond .ne 15, 3) := by decide +kernel
theorem dX11_isShutNow_32 : decode cX11_isShutNow 32 = .ok (.aload_n 0, 1) := by decide +kernel
theorem dX11_isShutNow_33 : decode cX11_isShutNow 33 = .ok (.iload_n 2, 1) := by decide +kernel
theorem dX11_isShutNow_34 : decode cX11_isShutNow 34 = .ok (.invokevirtual 169, 3) := by decide +kernel
theorem dX11_isShutNow_37 : decode cX11_isShutNow 37 = .ok (.aload_n 0, 1) := by decide +kernel
theorem dX11_isShutNow_38 : decode cX11_isShutNow 38 = .ok (.getfield 23, 3) := by decide +kernel
theorem dX11_isShutNow_41 : decode cX11_isShutNow 41 = .ok (.if_icmp .le 7, 3) := by decide +kernel
theorem dX11_isShutNow_44 : decode cX11_isShutNow 44 = .ok (.iconst 1, 1) := by decide +kernel
theorem dX11_isShutNow_45 : decode cX11_isShutNow 45 = .ok (.goto 4, 3) := by decide +kernel
theorem dX11_isShutNow_48 : decode cX11_isShutNow 48 = .ok (.iconst 0, 1) := by decide +kernel
theorem dX11_isShutNow_49 : decode cX11_isShutNow 49 = .ok (.istore_n 1, 1) := by decide +kernel
theorem dX11_isShutNow_50 : decode cX11_isShutNow 50 = .ok (.iinc 2 1, 3) := by decide +kernel
theorem dX11_isShutNow_53 : decode cX11_isShutNow 53 = .ok (.goto (-46), 3) := by decide +kernel
theorem dX11_isShutNow_56 : decode cX11_isShutNow 56 = .ok (.iload_n 1, 1) := by decide +kernel
theorem dX11_isShutNow_57 : decode cX11_isShutNow 57 = .ok (.ireturn, 1) := by decide +kernel
theorem dX11_closes_0 : decode cX11_closes 0 = .ok (.aload_n 0, 1) := by decide +kernel
theorem dX11_closes_1 : decode cX11_closes 1 = .ok (.getfield 172, 3) := by decide +kernel
theorem dX11_closes_4 : decode cX11_closes 4 = .ok (.ifCond .le 27, 3) := by decide +kernel
theorem dX11_closes_7 : decode cX11_closes 7 = .ok (.aload_n 0, 1) := by decide +kernel
theorem dX11_closes_8 : decode cX11_closes 8 = .ok (.getfield 29, 3) := by decide +kernel
theorem dX11_closes_11 : decode cX11_closes 11 = .ok (.aload_n 0, 1) := by decide +kernel
theorem dX11_closes_12 : decode cX11_closes 12 = .ok (.getfield 172, 3) := by decide +kernel
theorem dX11_closes_15 : decode cX11_closes 15 = .ok (.iconst 1, 1) := by decide +kernel
theorem dX11_closes_16 : decode cX11_closes 16 = .ok (.isub, 1) := by decide +kernel
theorem dX11_closes_17 : decode cX11_closes 17 = .ok (.iaload, 1) := by decide +kernel
theorem dX11_closes_18 : decode cX11_closes 18 = .ok (.aload_n 0, 1) := by decide +kernel
theorem dX11_closes_19 : decode cX11_closes 19 = .ok (.getfield 120, 3) := by decide +kernel
theorem dX11_closes_22 : decode cX11_closes 22 = .ok (.iconst 1, 1) := by decide +kernel
theorem dX11_closes_23 : decode cX11_closes 23 = .ok (.isub, 1) := by decide +kernel
theorem dX11_closes_24 : decode cX11_closes 24 = .ok (.if_icmp .ne 7, 3) := by decide +kernel
theorem dX11_closes_27 : decode cX11_closes 27 = .ok (.iconst 1, 1) := by decide +kernel
theorem dX11_closes_28 : decode cX11_closes 28 = .ok (.goto 4, 3) := by decide +kernel
theorem dX11_closes_31 : decode cX11_closes 31 = .ok (.iconst 0, 1) := by decide +kernel
theorem dX11_closes_32 : decode cX11_closes 32 = .ok (.istore_n 2, 1) := by decide +kernel
theorem dX11_closes_33 : decode cX11_closes 33 = .ok (.iload_n 2, 1) := by decide +kernel
theorem dX11_closes_34 : decode cX11_closes 34 = .ok (.ifCond .ne 26, 3) := by decide +kernel
theorem dX11_closes_37 : decode cX11_closes 37 = .ok (.aload_n 0, 1) := by decide +kernel
theorem dX11_closes_38 : decode cX11_closes 38 = .ok (.getfield 26, 3) := by decide +kernel
theorem dX11_closes_41 : decode cX11_closes 41 = .ok (.aload_n 0, 1) := by decide +kernel
theorem dX11_closes_42 : decode cX11_closes 42 = .ok (.getfield 172, 3) := by decide +kernel
theorem dX11_closes_45 : decode cX11_closes 45 = .ok (.aload_n 0, 1) := by decide +kernel
theorem dX11_closes_46 : decode cX11_closes 46 = .ok (.getfield 120, 3) := by decide +kernel
theorem dX11_closes_49 : decode cX11_closes 49 = .ok (.iastore, 1) := by decide +kernel
theorem dX11_closes_50 : decode cX11_closes 50 = .ok (.aload_n 0, 1) := by decide +kernel
theorem dX11_closes_51 : decode cX11_closes 51 = .ok (.dup, 1) := by decide +kernel
theorem dX11_closes_52 : decode cX11_closes 52 = .ok (.getfield 172, 3) := by decide +kernel
theorem dX11_closes_55 : decode cX11_closes 55 = .ok (.iconst 1, 1) := by decide +kernel
theorem dX11_closes_56 : decode cX11_closes 56 = .ok (.iadd, 1) := by decide +kernel
theorem dX11_closes_57 : decode cX11_closes 57 = .ok (.putfield 172, 3) := by decide +kernel
theorem dX11_closes_60 : decode cX11_closes 60 = .ok (.aload_n 0, 1) := by decide +kernel
theorem dX11_closes_61 : decode cX11_closes 61 = .ok (.getfield 29, 3) := by decide +kernel
theorem dX11_closes_64 : decode cX11_closes 64 = .ok (.aload_n 0, 1) := by decide +kernel
theorem dX11_closes_65 : decode cX11_closes 65 = .ok (.getfield 172, 3) := by decide +kernel
theorem dX11_closes_68 : decode cX11_closes 68 = .ok (.iconst 1, 1) := by decide +kernel
theorem dX11_closes_69 : decode cX11_closes 69 = .ok (.isub, 1) := by decide +kernel
theorem dX11_closes_70 : decode cX11_closes 70 = .ok (.aload_n 0, 1) := by decide +kernel
theorem dX11_closes_71 : decode cX11_closes 71 = .ok (.getfield 120, 3) := by decide +kernel
theorem dX11_closes_74 : decode cX11_closes 74 = .ok (.iastore, 1) := by decide +kernel
theorem dX11_closes_75 : decode cX11_closes 75 = .ok (.aload_n 0, 1) := by decide +kernel
theorem dX11_closes_76 : decode cX11_closes 76 = .ok (.getfield 32, 3) := by decide +kernel
theorem dX11_closes_79 : decode cX11_closes 79 = .ok (.aload_n 0, 1) := by decide +kernel
theorem dX11_closes_80 : decode cX11_closes 80 = .ok (.getfield 172, 3) := by decide +kernel
theorem dX11_closes_83 : decode cX11_closes 83 = .ok (.iconst 1, 1) := by decide +kernel
theorem dX11_closes_84 : decode cX11_closes 84 = .ok (.isub, 1) := by decide +kernel
theorem dX11_closes_85 : decode cX11_closes 85 = .ok (.aload_n 0, 1) := by decide +kernel
theorem dX11_closes_86 : decode cX11_closes 86 = .ok (.getfield 32, 3) := by decide +kernel
theorem dX11_closes_89 : decode cX11_closes 89 = .ok (.aload_n 0, 1) := by decide +kernel
theorem dX11_closes_90 : decode cX11_closes 90 = .ok (.getfield 172, 3) := by decide +kernel
theorem dX11_closes_93 : decode cX11_closes 93 = .ok (.iconst 1, 1) := by decide +kernel
theorem dX11_closes_94 : decode cX11_closes 94 = .ok (.isub, 1) := by decide +kernel
theorem dX11_closes_95 : decode cX11_closes 95 = .ok (.baload, 1) := by decide +kernel
theorem dX11_closes_96 : decode cX11_closes 96 = .ok (.ifCond .ne 11, 3) := by decide +kernel
theorem dX11_closes_99 : decode cX11_closes 99 = .ok (.iload_n 1, 1) := by decide +kernel
theorem dX11_closes_100 : decode cX11_closes 100 = .ok (.aload_n 0, 1) := by decide +kernel
theorem dX11_closes_101 : decode cX11_closes 101 = .ok (.getfield 23, 3) := by decide +kernel
theorem dX11_closes_104 : decode cX11_closes 104 = .ok (.if_icmp .le 7, 3) := by decide +kernel
theorem dX11_closes_107 : decode cX11_closes 107 = .ok (.iconst 1, 1) := by decide +kernel
theorem dX11_closes_108 : decode cX11_closes 108 = .ok (.goto 4, 3) := by decide +kernel
theorem dX11_closes_111 : decode cX11_closes 111 = .ok (.iconst 0, 1) := by decide +kernel
theorem dX11_closes_112 : decode cX11_closes 112 = .ok (.bastore, 1) := by decide +kernel
theorem dX11_closes_113 : decode cX11_closes 113 = .ok (.return_, 1) := by decide +kernel
theorem dX11_mouth_0 : decode cX11_mouth 0 = .ok (.iload_n 1, 1) := by decide +kernel
theorem dX11_mouth_1 : decode cX11_mouth 1 = .ok (.aload_n 0, 1) := by decide +kernel
theorem dX11_mouth_2 : decode cX11_mouth 2 = .ok (.iconst 0, 1) := by decide +kernel
theorem dX11_mouth_3 : decode cX11_mouth 3 = .ok (.invokevirtual 175, 3) := by decide +kernel
theorem dX11_mouth_6 : decode cX11_mouth 6 = .ok (.isub, 1) := by decide +kernel
theorem dX11_mouth_7 : decode cX11_mouth 7 = .ok (.istore_n 2, 1) := by decide +kernel
theorem dX11_mouth_8 : decode cX11_mouth 8 = .ok (.iload_n 2, 1) := by decide +kernel
theorem dX11_mouth_9 : decode cX11_mouth 9 = .ok (.ifCond .le 67, 3) := by decide +kernel
theorem dX11_mouth_12 : decode cX11_mouth 12 = .ok (.iload_n 2, 1) := by decide +kernel
theorem dX11_mouth_13 : decode cX11_mouth 13 = .ok (.aload_n 0, 1) := by decide +kernel
theorem dX11_mouth_14 : decode cX11_mouth 14 = .ok (.getfield 36, 3) := by decide +kernel
theorem dX11_mouth_17 : decode cX11_mouth 17 = .ok (.iconst 0, 1) := by decide +kernel
theorem dX11_mouth_18 : decode cX11_mouth 18 = .ok (.iaload, 1) := by decide +kernel
theorem dX11_mouth_19 : decode cX11_mouth 19 = .ok (.imul, 1) := by decide +kernel
theorem dX11_mouth_20 : decode cX11_mouth 20 = .ok (.iconst 2, 1) := by decide +kernel
theorem dX11_mouth_21 : decode cX11_mouth 21 = .ok (.idiv, 1) := by decide +kernel
theorem dX11_mouth_22 : decode cX11_mouth 22 = .ok (.istore_n 3, 1) := by decide +kernel
theorem dX11_mouth_23 : decode cX11_mouth 23 = .ok (.aload_n 0, 1) := by decide +kernel
theorem dX11_mouth_24 : decode cX11_mouth 24 = .ok (.getfield 51, 3) := by decide +kernel
theorem dX11_mouth_27 : decode cX11_mouth 27 = .ok (.bipush 8, 2) := by decide +kernel
theorem dX11_mouth_29 : decode cX11_mouth 29 = .ok (.dup2, 1) := by decide +kernel
theorem dX11_mouth_30 : decode cX11_mouth 30 = .ok (.iaload, 1) := by decide +kernel
theorem dX11_mouth_31 : decode cX11_mouth 31 = .ok (.iload_n 3, 1) := by decide +kernel
theorem dX11_mouth_32 : decode cX11_mouth 32 = .ok (.iadd, 1) := by decide +kernel
theorem dX11_mouth_33 : decode cX11_mouth 33 = .ok (.iastore, 1) := by decide +kernel
theorem dX11_mouth_34 : decode cX11_mouth 34 = .ok (.aload_n 0, 1) := by decide +kernel
theorem dX11_mouth_35 : decode cX11_mouth 35 = .ok (.getfield 54, 3) := by decide +kernel
theorem dX11_mouth_38 : decode cX11_mouth 38 = .ok (.bipush 8, 2) := by decide +kernel
theorem dX11_mouth_40 : decode cX11_mouth 40 = .ok (.dup2, 1) := by decide +kernel
theorem dX11_mouth_41 : decode cX11_mouth 41 = .ok (.iaload, 1) := by decide +kernel
theorem dX11_mouth_42 : decode cX11_mouth 42 = .ok (.bipush 30, 2) := by decide +kernel
theorem dX11_mouth_44 : decode cX11_mouth 44 = .ok (.iload_n 3, 1) := by decide +kernel
theorem dX11_mouth_45 : decode cX11_mouth 45 = .ok (.imul, 1) := by decide +kernel
theorem dX11_mouth_46 : decode cX11_mouth 46 = .ok (.iadd, 1) := by decide +kernel
theorem dX11_mouth_47 : decode cX11_mouth 47 = .ok (.iastore, 1) := by decide +kernel
theorem dX11_mouth_48 : decode cX11_mouth 48 = .ok (.aload_n 0, 1) := by decide +kernel
theorem dX11_mouth_49 : decode cX11_mouth 49 = .ok (.getfield 99, 3) := by decide +kernel
theorem dX11_mouth_52 : decode cX11_mouth 52 = .ok (.iconst 0, 1) := by decide +kernel
theorem dX11_mouth_53 : decode cX11_mouth 53 = .ok (.dup2, 1) := by decide +kernel
theorem dX11_mouth_54 : decode cX11_mouth 54 = .ok (.laload, 1) := by decide +kernel
theorem dX11_mouth_55 : decode cX11_mouth 55 = .ok (.iload_n 3, 1) := by decide +kernel
theorem dX11_mouth_56 : decode cX11_mouth 56 = .ok (.i2l, 1) := by decide +kernel
theorem dX11_mouth_57 : decode cX11_mouth 57 = .ok (.ladd, 1) := by decide +kernel
theorem dX11_mouth_58 : decode cX11_mouth 58 = .ok (.lastore, 1) := by decide +kernel
theorem dX11_mouth_59 : decode cX11_mouth 59 = .ok (.aload_n 0, 1) := by decide +kernel
theorem dX11_mouth_60 : decode cX11_mouth 60 = .ok (.getfield 99, 3) := by decide +kernel
theorem dX11_mouth_63 : decode cX11_mouth 63 = .ok (.iconst 4, 1) := by decide +kernel
theorem dX11_mouth_64 : decode cX11_mouth 64 = .ok (.dup2, 1) := by decide +kernel
theorem dX11_mouth_65 : decode cX11_mouth 65 = .ok (.laload, 1) := by decide +kernel
theorem dX11_mouth_66 : decode cX11_mouth 66 = .ok (.bipush 30, 2) := by decide +kernel
theorem dX11_mouth_68 : decode cX11_mouth 68 = .ok (.iload_n 3, 1) := by decide +kernel
theorem dX11_mouth_69 : decode cX11_mouth 69 = .ok (.imul, 1) := by decide +kernel
theorem dX11_mouth_70 : decode cX11_mouth 70 = .ok (.i2l, 1) := by decide +kernel
theorem dX11_mouth_71 : decode cX11_mouth 71 = .ok (.ladd, 1) := by decide +kernel
theorem dX11_mouth_72 : decode cX11_mouth 72 = .ok (.lastore, 1) := by decide +kernel
theorem dX11_mouth_73 : decode cX11_mouth 73 = .ok (.goto 83, 3) := by decide +kernel
theorem dX11_mouth_76 : decode cX11_mouth 76 = .ok (.iload_n 2, 1) := by decide +kernel
theorem dX11_mouth_77 : decode cX11_mouth 77 = .ok (.ineg, 1) := by decide +kernel
theorem dX11_mouth_78 : decode cX11_mouth 78 = .ok (.aload_n 0, 1) := by decide +kernel
theorem dX11_mouth_79 : decode cX11_mouth 79 = .ok (.getfield 36, 3) := by decide +kernel
theorem dX11_mouth_82 : decode cX11_mouth 82 = .ok (.iconst 0, 1) := by decide +kernel
theorem dX11_mouth_83 : decode cX11_mouth 83 = .ok (.iaload, 1) := by decide +kernel
theorem dX11_mouth_84 : decode cX11_mouth 84 = .ok (.imul, 1) := by decide +kernel
theorem dX11_mouth_85 : decode cX11_mouth 85 = .ok (.iconst 2, 1) := by decide +kernel
theorem dX11_mouth_86 : decode cX11_mouth 86 = .ok (.idiv, 1) := by decide +kernel
theorem dX11_mouth_87 : decode cX11_mouth 87 = .ok (.istore_n 3, 1) := by decide +kernel
theorem dX11_mouth_88 : decode cX11_mouth 88 = .ok (.iload_n 3, 1) := by decide +kernel
theorem dX11_mouth_89 : decode cX11_mouth 89 = .ok (.aload_n 0, 1) := by decide +kernel
theorem dX11_mouth_90 : decode cX11_mouth 90 = .ok (.getfield 51, 3) := by decide +kernel
theorem dX11_mouth_93 : decode cX11_mouth 93 = .ok (.iconst 0, 1) := by decide +kernel
theorem dX11_mouth_94 : decode cX11_mouth 94 = .ok (.iaload, 1) := by decide +kernel
theorem dX11_mouth_95 : decode cX11_mouth 95 = .ok (.if_icmp .ge 7, 3) := by decide +kernel
theorem dX11_mouth_98 : decode cX11_mouth 98 = .ok (.iload_n 3, 1) := by decide +kernel
theorem dX11_mouth_99 : decode cX11_mouth 99 = .ok (.goto 9, 3) := by decide +kernel
theorem dX11_mouth_102 : decode cX11_mouth 102 = .ok (.aload_n 0, 1) := by decide +kernel
theorem dX11_mouth_103 : decode cX11_mouth 103 = .ok (.getfield 51, 3) := by decide +kernel
theorem dX11_mouth_106 : decode cX11_mouth 106 = .ok (.iconst 0, 1) := by decide +kernel
theorem dX11_mouth_107 : decode cX11_mouth 107 = .ok (.iaload, 1) := by decide +kernel
theorem dX11_mouth_108 : decode cX11_mouth 108 = .ok (.istore_n 3, 1) := by decide +kernel
theorem dX11_mouth_109 : decode cX11_mouth 109 = .ok (.aload_n 0, 1) := by decide +kernel
theorem dX11_mouth_110 : decode cX11_mouth 110 = .ok (.iconst 0, 1) := by decide +kernel
theorem dX11_mouth_111 : decode cX11_mouth 111 = .ok (.iconst 0, 1) := by decide +kernel
theorem dX11_mouth_112 : decode cX11_mouth 112 = .ok (.iload_n 3, 1) := by decide +kernel
theorem dX11_mouth_113 : decode cX11_mouth 113 = .ok (.invokevirtual 165, 3) := by decide +kernel
theorem dX11_mouth_116 : decode cX11_mouth 116 = .ok (.aload_n 0, 1) := by decide +kernel
theorem dX11_mouth_117 : decode cX11_mouth 117 = .ok (.getfield 99, 3) := by decide +kernel
theorem dX11_mouth_120 : decode cX11_mouth 120 = .ok (.iconst 1, 1) := by decide +kernel
theorem dX11_mouth_121 : decode cX11_mouth 121 = .ok (.dup2, 1) := by decide +kernel
theorem dX11_mouth_122 : decode cX11_mouth 122 = .ok (.laload, 1) := by decide +kernel
theorem dX11_mouth_123 : decode cX11_mouth 123 = .ok (.iload_n 3, 1) := by decide +kernel
theorem dX11_mouth_124 : decode cX11_mouth 124 = .ok (.i2l, 1) := by decide +kernel
theorem dX11_mouth_125 : decode cX11_mouth 125 = .ok (.ladd, 1) := by decide +kernel
theorem dX11_mouth_126 : decode cX11_mouth 126 = .ok (.lastore, 1) := by decide +kernel
theorem dX11_mouth_127 : decode cX11_mouth 127 = .ok (.aload_n 0, 1) := by decide +kernel
theorem dX11_mouth_128 : decode cX11_mouth 128 = .ok (.getfield 99, 3) := by decide +kernel
theorem dX11_mouth_131 : decode cX11_mouth 131 = .ok (.iconst 5, 1) := by decide +kernel
theorem dX11_mouth_132 : decode cX11_mouth 132 = .ok (.dup2, 1) := by decide +kernel
theorem dX11_mouth_133 : decode cX11_mouth 133 = .ok (.laload, 1) := by decide +kernel
theorem dX11_mouth_134 : decode cX11_mouth 134 = .ok (.aload_n 0, 1) := by decide +kernel
theorem dX11_mouth_135 : decode cX11_mouth 135 = .ok (.getfield 159, 3) := by decide +kernel
theorem dX11_mouth_138 : decode cX11_mouth 138 = .ok (.i2l, 1) := by decide +kernel
theorem dX11_mouth_139 : decode cX11_mouth 139 = .ok (.ladd, 1) := by decide +kernel
theorem dX11_mouth_140 : decode cX11_mouth 140 = .ok (.lastore, 1) := by decide +kernel
theorem dX11_mouth_141 : decode cX11_mouth 141 = .ok (.aload_n 0, 1) := by decide +kernel
theorem dX11_mouth_142 : decode cX11_mouth 142 = .ok (.getfield 99, 3) := by decide +kernel
theorem dX11_mouth_145 : decode cX11_mouth 145 = .ok (.bipush 8, 2) := by decide +kernel
theorem dX11_mouth_147 : decode cX11_mouth 147 = .ok (.dup2, 1) := by decide +kernel
theorem dX11_mouth_148 : decode cX11_mouth 148 = .ok (.laload, 1) := by decide +kernel
theorem dX11_mouth_149 : decode cX11_mouth 149 = .ok (.aload_n 0, 1) := by decide +kernel
theorem dX11_mouth_150 : decode cX11_mouth 150 = .ok (.getfield 162, 3) := by decide +kernel
theorem dX11_mouth_153 : decode cX11_mouth 153 = .ok (.i2l, 1) := by decide +kernel
theorem dX11_mouth_154 : decode cX11_mouth 154 = .ok (.ladd, 1) := by decide +kernel
theorem dX11_mouth_155 : decode cX11_mouth 155 = .ok (.lastore, 1) := by decide +kernel
theorem dX11_mouth_156 : decode cX11_mouth 156 = .ok (.return_, 1) := by decide +kernel
theorem dX11_neighbours_0 : decode cX11_neighbours 0 = .ok (.iload_n 1, 1) := by decide +kernel
theorem dX11_neighbours_1 : decode cX11_neighbours 1 = .ok (.iconst 1, 1) := by decide +kernel
theorem dX11_neighbours_2 : decode cX11_neighbours 2 = .ok (.iadd, 1) := by decide +kernel
theorem dX11_neighbours_3 : decode cX11_neighbours 3 = .ok (.istore_n 2, 1) := by decide +kernel
theorem dX11_neighbours_4 : decode cX11_neighbours 4 = .ok (.aload_n 0, 1) := by decide +kernel
theorem dX11_neighbours_5 : decode cX11_neighbours 5 = .ok (.iload_n 1, 1) := by decide +kernel
theorem dX11_neighbours_6 : decode cX11_neighbours 6 = .ok (.invokevirtual 175, 3) := by decide +kernel
theorem dX11_neighbours_9 : decode cX11_neighbours 9 = .ok (.aload_n 0, 1) := by decide +kernel
theorem dX11_neighbours_10 : decode cX11_neighbours 10 = .ok (.iload_n 2, 1) := by decide +kernel
theorem dX11_neighbours_11 : decode cX11_neighbours 11 = .ok (.invokevirtual 175, 3) := by decide +kernel
theorem dX11_neighbours_14 : decode cX11_neighbours 14 = .ok (.isub, 1) := by decide +kernel
theorem dX11_neighbours_15 : decode cX11_neighbours 15 = .ok (.istore_n 3, 1) := by decide +kernel
theorem dX11_neighbours_16 : decode cX11_neighbours 16 = .ok (.aload_n 0, 1) := by decide +kernel
theorem dX11_neighbours_17 : decode cX11_neighbours 17 = .ok (.getfield 36, 3) := by decide +kernel
theorem dX11_neighbours_20 : decode cX11_neighbours 20 = .ok (.iload_n 1, 1) := by decide +kernel
theorem dX11_neighbours_21 : decode cX11_neighbours 21 = .ok (.iaload, 1) := by decide +kernel
theorem dX11_neighbours_22 : decode cX11_neighbours 22 = .ok (.aload_n 0, 1) := by decide +kernel
theorem dX11_neighbours_23 : decode cX11_neighbours 23 = .ok (.getfield 36, 3) := by decide +kernel
theorem dX11_neighbours_26 : decode cX11_neighbours 26 = .ok (.iload_n 2, 1) := by decide +kernel
theorem dX11_neighbours_27 : decode cX11_neighbours 27 = .ok (.iaload, 1) := by decide +kernel
theorem dX11_neighbours_28 : decode cX11_neighbours 28 = .ok (.if_icmp .ge 12, 3) := by decide +kernel
theorem dX11_neighbours_31 : decode cX11_neighbours 31 = .ok (.aload_n 0, 1) := by decide +kernel
theorem dX11_neighbours_32 : decode cX11_neighbours 32 = .ok (.getfield 36, 3) := by decide +kernel
theorem dX11_neighbours_35 : decode cX11_neighbours 35 = .ok (.iload_n 1, 1) := by decide +kernel
theorem dX11_neighbours_36 : decode cX11_neighbours 36 = .ok (.iaload, 1) := by decide +kernel
theorem dX11_neighbours_37 : decode cX11_neighbours 37 = .ok (.goto 9, 3) := by decide +kernel
theorem dX11_neighbours_40 : decode cX11_neighbours 40 = .ok (.aload_n 0, 1) := by decide +kernel
theorem dX11_neighbours_41 : decode cX11_neighbours 41 = .ok (.getfield 36, 3) := by decide +kernel
theorem dX11_neighbours_44 : decode cX11_neighbours 44 = .ok (.iload_n 2, 1) := by decide +kernel
theorem dX11_neighbours_45 : decode cX11_neighbours 45 = .ok (.iaload, 1) := by decide +kernel
theorem dX11_neighbours_46 : decode cX11_neighbours 46 = .ok (.istore 4, 2) := by decide +kernel
theorem dX11_neighbours_48 : decode cX11_neighbours 48 = .ok (.iload_n 3, 1) := by decide +kernel
theorem dX11_neighbours_49 : decode cX11_neighbours 49 = .ok (.ifCond .le 7, 3) := by decide +kernel
theorem dX11_neighbours_52 : decode cX11_neighbours 52 = .ok (.iload_n 3, 1) := by decide +kernel
theorem dX11_neighbours_53 : decode cX11_neighbours 53 = .ok (.goto 5, 3) := by decide +kernel
theorem dX11_neighbours_56 : decode cX11_neighbours 56 = .ok (.iload_n 3, 1) := by decide +kernel
theorem dX11_neighbours_57 : decode cX11_neighbours 57 = .ok (.ineg, 1) := by decide +kernel
theorem dX11_neighbours_58 : decode cX11_neighbours 58 = .ok (.iload 4, 2) := by decide +kernel
theorem dX11_neighbours_60 : decode cX11_neighbours 60 = .ok (.imul, 1) := by decide +kernel
theorem dX11_neighbours_61 : decode cX11_neighbours 61 = .ok (.iconst 4, 1) := by decide +kernel
theorem dX11_neighbours_62 : decode cX11_neighbours 62 = .ok (.idiv, 1) := by decide +kernel
theorem dX11_neighbours_63 : decode cX11_neighbours 63 = .ok (.istore 5, 2) := by decide +kernel
theorem dX11_neighbours_65 : decode cX11_neighbours 65 = .ok (.iload_n 3, 1) := by decide +kernel
theorem dX11_neighbours_66 : decode cX11_neighbours 66 = .ok (.ifCond .le 45, 3) := by decide +kernel
theorem dX11_neighbours_69 : decode cX11_neighbours 69 = .ok (.iload 5, 2) := by decide +kernel
theorem dX11_neighbours_71 : decode cX11_neighbours 71 = .ok (.aload_n 0, 1) := by decide +kernel
theorem dX11_neighbours_72 : decode cX11_neighbours 72 = .ok (.getfield 51, 3) := by decide +kernel
theorem dX11_neighbours_75 : decode cX11_neighbours 75 = .ok (.bipush 8, 2) := by decide +kernel
theorem dX11_neighbours_77 : decode cX11_neighbours 77 = .ok (.iload_n 1, 1) := by decide +kernel
theorem dX11_neighbours_78 : decode cX11_neighbours 78 = .ok (.iadd, 1) := by decide +kernel
theorem dX11_neighbours_79 : decode cX11_neighbours 79 = .ok (.iaload, 1) := by decide +kernel
theorem dX11_neighbours_80 : decode cX11_neighbours 80 = .ok (.if_icmp .ge 8, 3) := by decide +kernel
theorem dX11_neighbours_83 : decode cX11_neighbours 83 = .ok (.iload 5, 2) := by decide +kernel
theorem dX11_neighbours_85 : decode cX11_neighbours 85 = .ok (.goto 12, 3) := by decide +kernel
theorem dX11_neighbours_88 : decode cX11_neighbours 88 = .ok (.aload_n 0, 1) := by decide +kernel
theorem dX11_neighbours_89 : decode cX11_neighbours 89 = .ok (.getfield 51, 3) := by decide +kernel
theorem dX11_neighbours_92 : decode cX11_neighbours 92 = .ok (.bipush 8, 2) := by decide +kernel
theorem dX11_neighbours_94 : decode cX11_neighbours 94 = .ok (.iload_n 1, 1) := by decide +kernel
theorem dX11_neighbours_95 : decode cX11_neighbours 95 = .ok (.iadd, 1) := by decide +kernel
theorem dX11_neighbours_96 : decode cX11_neighbours 96 = .ok (.iaload, 1) := by decide +kernel
theorem dX11_neighbours_97 : decode cX11_neighbours 97 = .ok (.istore 5, 2) := by decide +kernel
theorem dX11_neighbours_99 : decode cX11_neighbours 99 = .ok (.aload_n 0, 1) := by decide +kernel
theorem dX11_neighbours_100 : decode cX11_neighbours 100 = .ok (.iconst 1, 1) := by decide +kernel
theorem dX11_neighbours_101 : decode cX11_neighbours 101 = .ok (.iload_n 1, 1) := by decide +kernel
theorem dX11_neighbours_102 : decode cX11_neighbours 102 = .ok (.iload_n 2, 1) := by decide +kernel
theorem dX11_neighbours_103 : decode cX11_neighbours 103 = .ok (.iload 5, 2) := by decide +kernel
theorem dX11_neighbours_105 : decode cX11_neighbours 105 = .ok (.invokevirtual 178, 3) := by decide +kernel
theorem dX11_neighbours_108 : decode cX11_neighbours 108 = .ok (.goto 36, 3) := by decide +kernel
theorem dX11_neighbours_111 : decode cX11_neighbours 111 = .ok (.iload 5, 2) := by decide +kernel
theorem dX11_neighbours_113 : decode cX11_neighbours 113 = .ok (.aload_n 0, 1) := by decide +kernel
theorem dX11_neighbours_114 : decode cX11_neighbours 114 = .ok (.getfield 51, 3) := by decide +kernel
theorem dX11_neighbours_117 : decode cX11_neighbours 117 = .ok (.iload_n 2, 1) := by decide +kernel
theorem dX11_neighbours_118 : decode cX11_neighbours 118 = .ok (.iaload, 1) := by decide +kernel
theorem dX11_neighbours_119 : decode cX11_neighbours 119 = .ok (.if_icmp .ge 8, 3) := by decide +kernel
theorem dX11_neighbours_122 : decode cX11_neighbours 122 = .ok (.iload 5, 2) := by decide +kernel
theorem dX11_neighbours_124 : decode cX11_neighbours 124 = .ok (.goto 9, 3) := by decide +kernel
theorem dX11_neighbours_127 : decode cX11_neighbours 127 = .ok (.aload_n 0, 1) := by decide +kernel
theorem dX11_neighbours_128 : decode cX11_neighbours 128 = .ok (.getfield 51, 3) := by decide +kernel
theorem dX11_neighbours_131 : decode cX11_neighbours 131 = .ok (.iload_n 2, 1) := by decide +kernel
theorem dX11_neighbours_132 : decode cX11_neighbours 132 = .ok (.iaload, 1) := by decide +kernel
theorem dX11_neighbours_133 : decode cX11_neighbours 133 = .ok (.istore 5, 2) := by decide +kernel
theorem dX11_neighbours_135 : decode cX11_neighbours 135 = .ok (.aload_n 0, 1) := by decide +kernel
theorem dX11_neighbours_136 : decode cX11_neighbours 136 = .ok (.iconst 0, 1) := by decide +kernel
theorem dX11_neighbours_137 : decode cX11_neighbours 137 = .ok (.iload_n 2, 1) := by decide +kernel
theorem dX11_neighbours_138 : decode cX11_neighbours 138 = .ok (.iload_n 1, 1) := by decide +kernel
theorem dX11_neighbours_139 : decode cX11_neighbours 139 = .ok (.iload 5, 2) := by decide +kernel
theorem dX11_neighbours_141 : decode cX11_neighbours 141 = .ok (.invokevirtual 178, 3) := by decide +kernel
theorem dX11_neighbours_144 : decode cX11_neighbours 144 = .ok (.aload_n 0, 1) := by decide +kernel
theorem dX11_neighbours_145 : decode cX11_neighbours 145 = .ok (.getfield 45, 3) := by decide +kernel
theorem dX11_neighbours_148 : decode cX11_neighbours 148 = .ok (.iload_n 1, 1) := by decide +kernel
theorem dX11_neighbours_149 : decode cX11_neighbours 149 = .ok (.dup2, 1) := by decide +kernel
theorem dX11_neighbours_150 : decode cX11_neighbours 150 = .ok (.iaload, 1) := by decide +kernel
theorem dX11_neighbours_151 : decode cX11_neighbours 151 = .ok (.iload 5, 2) := by decide +kernel
theorem dX11_neighbours_153 : decode cX11_neighbours 153 = .ok (.iadd, 1) := by decide +kernel
theorem dX11_neighbours_154 : decode cX11_neighbours 154 = .ok (.iastore, 1) := by decide +kernel
theorem dX11_neighbours_155 : decode cX11_neighbours 155 = .ok (.aload_n 0, 1) := by decide +kernel
theorem dX11_neighbours_156 : decode cX11_neighbours 156 = .ok (.getfield 45, 3) := by decide +kernel
theorem dX11_neighbours_159 : decode cX11_neighbours 159 = .ok (.iload_n 2, 1) := by decide +kernel
theorem dX11_neighbours_160 : decode cX11_neighbours 160 = .ok (.dup2, 1) := by decide +kernel
theorem dX11_neighbours_161 : decode cX11_neighbours 161 = .ok (.iaload, 1) := by decide +kernel
theorem dX11_neighbours_162 : decode cX11_neighbours 162 = .ok (.iload 5, 2) := by decide +kernel
theorem dX11_neighbours_164 : decode cX11_neighbours 164 = .ok (.iadd, 1) := by decide +kernel
theorem dX11_neighbours_165 : decode cX11_neighbours 165 = .ok (.iastore, 1) := by decide +kernel
theorem dX11_neighbours_166 : decode cX11_neighbours 166 = .ok (.aload_n 0, 1) := by decide +kernel
theorem dX11_neighbours_167 : decode cX11_neighbours 167 = .ok (.iconst 1, 1) := by decide +kernel
theorem dX11_neighbours_168 : decode cX11_neighbours 168 = .ok (.iload_n 1, 1) := by decide +kernel
theorem dX11_neighbours_169 : decode cX11_neighbours 169 = .ok (.invokevirtual 182, 3) := by decide +kernel
theorem dX11_neighbours_172 : decode cX11_neighbours 172 = .ok (.aload_n 0, 1) := by decide +kernel
theorem dX11_neighbours_173 : decode cX11_neighbours 173 = .ok (.iconst 1, 1) := by decide +kernel
theorem dX11_neighbours_174 : decode cX11_neighbours 174 = .ok (.iload_n 2, 1) := by decide +kernel
theorem dX11_neighbours_175 : decode cX11_neighbours 175 = .ok (.invokevirtual 182, 3) := by decide +kernel
theorem dX11_neighbours_178 : decode cX11_neighbours 178 = .ok (.if_icmp .le 62, 3) := by decide +kernel
theorem dX11_neighbours_181 : decode cX11_neighbours 181 = .ok (.aload_n 0, 1) := by decide +kernel
theorem dX11_neighbours_182 : decode cX11_neighbours 182 = .ok (.getfield 51, 3) := by decide +kernel
theorem dX11_neighbours_185 : decode cX11_neighbours 185 = .ok (.bipush 8, 2) := by decide +kernel
theorem dX11_neighbours_187 : decode cX11_neighbours 187 = .ok (.iload_n 1, 1) := by decide +kernel
theorem dX11_neighbours_188 : decode cX11_neighbours 188 = .ok (.iadd, 1) := by decide +kernel
theorem dX11_neighbours_189 : decode cX11_neighbours 189 = .ok (.iaload, 1) := by decide +kernel
theorem dX11_neighbours_190 : decode cX11_neighbours 190 = .ok (.aload_n 0, 1) := by decide +kernel
theorem dX11_neighbours_191 : decode cX11_neighbours 191 = .ok (.getfield 51, 3) := by decide +kernel
theorem dX11_neighbours_194 : decode cX11_neighbours 194 = .ok (.iload_n 2, 1) := by decide +kernel
theorem dX11_neighbours_195 : decode cX11_neighbours 195 = .ok (.iaload, 1) := by decide +kernel
theorem dX11_neighbours_196 : decode cX11_neighbours 196 = .ok (.if_icmp .ge 15, 3) := by decide +kernel
theorem dX11_neighbours_199 : decode cX11_neighbours 199 = .ok (.aload_n 0, 1) := by decide +kernel
theorem dX11_neighbours_200 : decode cX11_neighbours 200 = .ok (.getfield 51, 3) := by decide +kernel
theorem dX11_neighbours_203 : decode cX11_neighbours 203 = .ok (.bipush 8, 2) := by decide +kernel
theorem dX11_neighbours_205 : decode cX11_neighbours 205 = .ok (.iload_n 1, 1) := by decide +kernel
theorem dX11_neighbours_206 : decode cX11_neighbours 206 = .ok (.iadd, 1) := by decide +kernel
theorem dX11_neighbours_207 : decode cX11_neighbours 207 = .ok (.iaload, 1) := by decide +kernel
theorem dX11_neighbours_208 : decode cX11_neighbours 208 = .ok (.goto 9, 3) := by decide +kernel
theorem dX11_neighbours_211 : decode cX11_neighbours 211 = .ok (.aload_n 0, 1) := by decide +kernel
theorem dX11_neighbours_212 : decode cX11_neighbours 212 = .ok (.getfield 51, 3) := by decide +kernel
theorem dX11_neighbours_215 : decode cX11_neighbours 215 = .ok (.iload_n 2, 1) := by decide +kernel
theorem dX11_neighbours_216 : decode cX11_neighbours 216 = .ok (.iaload, 1) := by decide +kernel
theorem dX11_neighbours_217 : decode cX11_neighbours 217 = .ok (.bipush 8, 2) := by decide +kernel
theorem dX11_neighbours_219 : decode cX11_neighbours 219 = .ok (.idiv, 1) := by decide +kernel
theorem dX11_neighbours_220 : decode cX11_neighbours 220 = .ok (.istore 6, 2) := by decide +kernel
theorem dX11_neighbours_222 : decode cX11_neighbours 222 = .ok (.aload_n 0, 1) := by decide +kernel
theorem dX11_neighbours_223 : decode cX11_neighbours 223 = .ok (.iconst 1, 1) := by decide +kernel
theorem dX11_neighbours_224 : decode cX11_neighbours 224 = .ok (.iload_n 1, 1) := by decide +kernel
theorem dX11_neighbours_225 : decode cX11_neighbours 225 = .ok (.iload_n 2, 1) := by decide +kernel
theorem dX11_neighbours_226 : decode cX11_neighbours 226 = .ok (.iload 6, 2) := by decide +kernel
theorem dX11_neighbours_228 : decode cX11_neighbours 228 = .ok (.invokevirtual 178, 3) := by decide +kernel
theorem dX11_neighbours_231 : decode cX11_neighbours 231 = .ok (.aload_n 0, 1) := by decide +kernel
theorem dX11_neighbours_232 : decode cX11_neighbours 232 = .ok (.iconst 0, 1) := by decide +kernel
theorem dX11_neighbours_233 : decode cX11_neighbours 233 = .ok (.iload_n 2, 1) := by decide +kernel
theorem dX11_neighbours_234 : decode cX11_neighbours 234 = .ok (.iload_n 1, 1) := by decide +kernel
theorem dX11_neighbours_235 : decode cX11_neighbours 235 = .ok (.iload 6, 2) := by decide +kernel
theorem dX11_neighbours_237 : decode cX11_neighbours 237 = .ok (.invokevirtual 178, 3) := by decide +kernel
theorem dX11_neighbours_240 : decode cX11_neighbours 240 = .ok (.return_, 1) := by decide +kernel
theorem dX11_mixes_0 : decode cX11_mixes 0 = .ok (.aload_n 0, 1) := by decide +kernel
theorem dX11_mixes_1 : decode cX11_mixes 1 = .ok (.getfield 51, 3) := by decide +kernel
theorem dX11_mixes_4 : decode cX11_mixes 4 = .ok (.iload_n 1, 1) := by decide +kernel
theorem dX11_mixes_5 : decode cX11_mixes 5 = .ok (.iaload, 1) := by decide +kernel
theorem dX11_mixes_6 : decode cX11_mixes 6 = .ok (.aload_n 0, 1) := by decide +kernel
theorem dX11_mixes_7 : decode cX11_mixes 7 = .ok (.getfield 51, 3) := by decide +kernel
theorem dX11_mixes_10 : decode cX11_mixes 10 = .ok (.bipush 8, 2) := by decide +kernel
theorem dX11_mixes_12 : decode cX11_mixes 12 = .ok (.iload_n 1, 1) := by decide +kernel
theorem dX11_mixes_13 : decode cX11_mixes 13 = .ok (.iadd, 1) := by decide +kernel
theorem dX11_mixes_14 : decode cX11_mixes 14 = .ok (.iaload, 1) := by decide +kernel
theorem dX11_mixes_15 : decode cX11_mixes 15 = .ok (.if_icmp .ge 12, 3) := by decide +kernel
theorem dX11_mixes_18 : decode cX11_mixes 18 = .ok (.aload_n 0, 1) := by decide +kernel
theorem dX11_mixes_19 : decode cX11_mixes 19 = .ok (.getfield 51, 3) := by decide +kernel
theorem dX11_mixes_22 : decode cX11_mixes 22 = .ok (.iload_n 1, 1) := by decide +kernel
theorem dX11_mixes_23 : decode cX11_mixes 23 = .ok (.iaload, 1) := by decide +kernel
theorem dX11_mixes_24 : decode cX11_mixes 24 = .ok (.goto 12, 3) := by decide +kernel
theorem dX11_mixes_27 : decode cX11_mixes 27 = .ok (.aload_n 0, 1) := by decide +kernel
theorem dX11_mixes_28 : decode cX11_mixes 28 = .ok (.getfield 51, 3) := by decide +kernel
theorem dX11_mixes_31 : decode cX11_mixes 31 = .ok (.bipush 8, 2) := by decide +kernel
theorem dX11_mixes_33 : decode cX11_mixes 33 = .ok (.iload_n 1, 1) := by decide +kernel
theorem dX11_mixes_34 : decode cX11_mixes 34 = .ok (.iadd, 1) := by decide +kernel
theorem dX11_mixes_35 : decode cX11_mixes 35 = .ok (.iaload, 1) := by decide +kernel
theorem dX11_mixes_36 : decode cX11_mixes 36 = .ok (.istore_n 2, 1) := by decide +kernel
theorem dX11_mixes_37 : decode cX11_mixes 37 = .ok (.aload_n 0, 1) := by decide +kernel
theorem dX11_mixes_38 : decode cX11_mixes 38 = .ok (.getfield 54, 3) := by decide +kernel
theorem dX11_mixes_41 : decode cX11_mixes 41 = .ok (.bipush 8, 2) := by decide +kernel
theorem dX11_mixes_43 : decode cX11_mixes 43 = .ok (.iload_n 1, 1) := by decide +kernel
theorem dX11_mixes_44 : decode cX11_mixes 44 = .ok (.iadd, 1) := by decide +kernel
theorem dX11_mixes_45 : decode cX11_mixes 45 = .ok (.iaload, 1) := by decide +kernel
theorem dX11_mixes_46 : decode cX11_mixes 46 = .ok (.iload_n 2, 1) := by decide +kernel
theorem dX11_mixes_47 : decode cX11_mixes 47 = .ok (.iconst 4, 1) := by decide +kernel
theorem dX11_mixes_48 : decode cX11_mixes 48 = .ok (.idiv, 1) := by decide +kernel
theorem dX11_mixes_49 : decode cX11_mixes 49 = .ok (.aload_n 0, 1) := by decide +kernel
theorem dX11_mixes_50 : decode cX11_mixes 50 = .ok (.getfield 51, 3) := by decide +kernel
theorem dX11_mixes_53 : decode cX11_mixes 53 = .ok (.bipush 8, 2) := by decide +kernel
theorem dX11_mixes_55 : decode cX11_mixes 55 = .ok (.iload_n 1, 1) := by decide +kernel
theorem dX11_mixes_56 : decode cX11_mixes 56 = .ok (.iadd, 1) := by decide +kernel
theorem dX11_mixes_57 : decode cX11_mixes 57 = .ok (.iaload, 1) := by decide +kernel
theorem dX11_mixes_58 : decode cX11_mixes 58 = .ok (.invokestatic 155, 3) := by decide +kernel
theorem dX11_mixes_61 : decode cX11_mixes 61 = .ok (.aload_n 0, 1) := by decide +kernel
theorem dX11_mixes_62 : decode cX11_mixes 62 = .ok (.getfield 54, 3) := by decide +kernel
theorem dX11_mixes_65 : decode cX11_mixes 65 = .ok (.iload_n 1, 1) := by decide +kernel
theorem dX11_mixes_66 : decode cX11_mixes 66 = .ok (.iaload, 1) := by decide +kernel
theorem dX11_mixes_67 : decode cX11_mixes 67 = .ok (.iload_n 2, 1) := by decide +kernel
theorem dX11_mixes_68 : decode cX11_mixes 68 = .ok (.iconst 4, 1) := by decide +kernel
theorem dX11_mixes_69 : decode cX11_mixes 69 = .ok (.idiv, 1) := by decide +kernel
theorem dX11_mixes_70 : decode cX11_mixes 70 = .ok (.aload_n 0, 1) := by decide +kernel
theorem dX11_mixes_71 : decode cX11_mixes 71 = .ok (.getfield 51, 3) := by decide +kernel
theorem dX11_mixes_74 : decode cX11_mixes 74 = .ok (.iload_n 1, 1) := by decide +kernel
theorem dX11_mixes_75 : decode cX11_mixes 75 = .ok (.iaload, 1) := by decide +kernel
theorem dX11_mixes_76 : decode cX11_mixes 76 = .ok (.invokestatic 155, 3) := by decide +kernel
theorem dX11_mixes_79 : decode cX11_mixes 79 = .ok (.isub, 1) := by decide +kernel
theorem dX11_mixes_80 : decode cX11_mixes 80 = .ok (.istore_n 3, 1) := by decide +kernel
theorem dX11_mixes_81 : decode cX11_mixes 81 = .ok (.aload_n 0, 1) := by decide +kernel
theorem dX11_mixes_82 : decode cX11_mixes 82 = .ok (.getfield 45, 3) := by decide +kernel
theorem dX11_mixes_85 : decode cX11_mixes 85 = .ok (.iload_n 1, 1) := by decide +kernel
theorem dX11_mixes_86 : decode cX11_mixes 86 = .ok (.iaload, 1) := by decide +kernel
theorem dX11_mixes_87 : decode cX11_mixes 87 = .ok (.bipush 20, 2) := by decide +kernel
theorem dX11_mixes_89 : decode cX11_mixes 89 = .ok (.if_icmp .lt 30, 3) := by decide +kernel
theorem dX11_mixes_92 : decode cX11_mixes 92 = .ok (.iload_n 3, 1) := by decide +kernel
theorem dX11_mixes_93 : decode cX11_mixes 93 = .ok (.ifCond .le 26, 3) := by decide +kernel
theorem dX11_mixes_96 : decode cX11_mixes 96 = .ok (.aload_n 0, 1) := by decide +kernel
theorem dX11_mixes_97 : decode cX11_mixes 97 = .ok (.getfield 54, 3) := by decide +kernel
theorem dX11_mixes_100 : decode cX11_mixes 100 = .ok (.bipush 8, 2) := by decide +kernel
theorem dX11_mixes_102 : decode cX11_mixes 102 = .ok (.iload_n 1, 1) := by decide +kernel
theorem dX11_mixes_103 : decode cX11_mixes 103 = .ok (.iadd, 1) := by decide +kernel
theorem dX11_mixes_104 : decode cX11_mixes 104 = .ok (.dup2, 1) := by decide +kernel
theorem dX11_mixes_105 : decode cX11_mixes 105 = .ok (.iaload, 1) := by decide +kernel
theorem dX11_mixes_106 : decode cX11_mixes 106 = .ok (.iload_n 3, 1) := by decide +kernel
theorem dX11_mixes_107 : decode cX11_mixes 107 = .ok (.isub, 1) := by decide +kernel
theorem dX11_mixes_108 : decode cX11_mixes 108 = .ok (.iastore, 1) := by decide +kernel
theorem dX11_mixes_109 : decode cX11_mixes 109 = .ok (.aload_n 0, 1) := by decide +kernel
theorem dX11_mixes_110 : decode cX11_mixes 110 = .ok (.getfield 54, 3) := by decide +kernel
theorem dX11_mixes_113 : decode cX11_mixes 113 = .ok (.iload_n 1, 1) := by decide +kernel
theorem dX11_mixes_114 : decode cX11_mixes 114 = .ok (.dup2, 1) := by decide +kernel
theorem dX11_mixes_115 : decode cX11_mixes 115 = .ok (.iaload, 1) := by decide +kernel
theorem dX11_mixes_116 : decode cX11_mixes 116 = .ok (.iload_n 3, 1) := by decide +kernel
theorem dX11_mixes_117 : decode cX11_mixes 117 = .ok (.iadd, 1) := by decide +kernel
theorem dX11_mixes_118 : decode cX11_mixes 118 = .ok (.iastore, 1) := by decide +kernel
theorem dX11_mixes_119 : decode cX11_mixes 119 = .ok (.return_, 1) := by decide +kernel
theorem dX11_settles_0 : decode cX11_settles 0 = .ok (.aload_n 0, 1) := by decide +kernel
theorem dX11_settles_1 : decode cX11_settles 1 = .ok (.getfield 45, 3) := by decide +kernel
theorem dX11_settles_4 : decode cX11_settles 4 = .ok (.iload_n 1, 1) := by decide +kernel
theorem dX11_settles_5 : decode cX11_settles 5 = .ok (.iaload, 1) := by decide +kernel
theorem dX11_settles_6 : decode cX11_settles 6 = .ok (.bipush 10, 2) := by decide +kernel
theorem dX11_settles_8 : decode cX11_settles 8 = .ok (.if_icmp .ge 34, 3) := by decide +kernel
theorem dX11_settles_11 : decode cX11_settles 11 = .ok (.aload_n 0, 1) := by decide +kernel
theorem dX11_settles_12 : decode cX11_settles 12 = .ok (.getfield 42, 3) := by decide +kernel
theorem dX11_settles_15 : decode cX11_settles 15 = .ok (.iload_n 1, 1) := by decide +kernel
theorem dX11_settles_16 : decode cX11_settles 16 = .ok (.iaload, 1) := by decide +kernel
theorem dX11_settles_17 : decode cX11_settles 17 = .ok (.iconst 1, 1) := by decide +kernel
theorem dX11_settles_18 : decode cX11_settles 18 = .ok (.iadd, 1) := by decide +kernel
theorem dX11_settles_19 : decode cX11_settles 19 = .ok (.iconst 2, 1) := by decide +kernel
theorem dX11_settles_20 : decode cX11_settles 20 = .ok (.idiv, 1) := by decide +kernel
theorem dX11_settles_21 : decode cX11_settles 21 = .ok (.istore_n 2, 1) := by decide +kernel
theorem dX11_settles_22 : decode cX11_settles 22 = .ok (.aload_n 0, 1) := by decide +kernel
theorem dX11_settles_23 : decode cX11_settles 23 = .ok (.getfield 42, 3) := by decide +kernel
theorem dX11_settles_26 : decode cX11_settles 26 = .ok (.iload_n 1, 1) := by decide +kernel
theorem dX11_settles_27 : decode cX11_settles 27 = .ok (.dup2, 1) := by decide +kernel
theorem dX11_settles_28 : decode cX11_settles 28 = .ok (.iaload, 1) := by decide +kernel
theorem dX11_settles_29 : decode cX11_settles 29 = .ok (.iload_n 2, 1) := by decide +kernel
theorem dX11_settles_30 : decode cX11_settles 30 = .ok (.isub, 1) := by decide +kernel
theorem dX11_settles_31 : decode cX11_settles 31 = .ok (.iastore, 1) := by decide +kernel
theorem dX11_settles_32 : decode cX11_settles 32 = .ok (.aload_n 0, 1) := by decide +kernel
theorem dX11_settles_33 : decode cX11_settles 33 = .ok (.getfield 39, 3) := by decide +kernel
theorem dX11_settles_36 : decode cX11_settles 36 = .ok (.iload_n 1, 1) := by decide +kernel
theorem dX11_settles_37 : decode cX11_settles 37 = .ok (.dup2, 1) := by decide +kernel
theorem dX11_settles_38 : decode cX11_settles 38 = .ok (.iaload, 1) := by decide +kernel
theorem dX11_settles_39 : decode cX11_settles 39 = .ok (.iload_n 2, 1) := by decide +kernel
theorem dX11_settles_40 : decode cX11_settles 40 = .ok (.iadd, 1) := by decide +kernel
theorem dX11_settles_41 : decode cX11_settles 41 = .ok (.iastore, 1) := by decide +kernel
theorem dX11_settles_42 : decode cX11_settles 42 = .ok (.aload_n 0, 1) := by decide +kernel
theorem dX11_settles_43 : decode cX11_settles 43 = .ok (.getfield 45, 3) := by decide +kernel
theorem dX11_settles_46 : decode cX11_settles 46 = .ok (.iload_n 1, 1) := by decide +kernel
theorem dX11_settles_47 : decode cX11_settles 47 = .ok (.iaload, 1) := by decide +kernel
theorem dX11_settles_48 : decode cX11_settles 48 = .ok (.bipush 40, 2) := by decide +kernel
theorem dX11_settles_50 : decode cX11_settles 50 = .ok (.if_icmp .le 60, 3) := by decide +kernel
theorem dX11_settles_53 : decode cX11_settles 53 = .ok (.aload_n 0, 1) := by decide +kernel
theorem dX11_settles_54 : decode cX11_settles 54 = .ok (.getfield 45, 3) := by decide +kernel
theorem dX11_settles_57 : decode cX11_settles 57 = .ok (.iload_n 1, 1) := by decide +kernel
theorem dX11_settles_58 : decode cX11_settles 58 = .ok (.iaload, 1) := by decide +kernel
theorem dX11_settles_59 : decode cX11_settles 59 = .ok (.bipush 8, 2) := by decide +kernel
theorem dX11_settles_61 : decode cX11_settles 61 = .ok (.idiv, 1) := by decide +kernel
theorem dX11_settles_62 : decode cX11_settles 62 = .ok (.aload_n 0, 1) := by decide +kernel
theorem dX11_settles_63 : decode cX11_settles 63 = .ok (.getfield 39, 3) := by decide +kernel
theorem dX11_settles_66 : decode cX11_settles 66 = .ok (.iload_n 1, 1) := by decide +kernel
theorem dX11_settles_67 : decode cX11_settles 67 = .ok (.iaload, 1) := by decide +kernel
theorem dX11_settles_68 : decode cX11_settles 68 = .ok (.if_icmp .ge 15, 3) := by decide +kernel
theorem dX11_settles_71 : decode cX11_settles 71 = .ok (.aload_n 0, 1) := by decide +kernel
theorem dX11_settles_72 : decode cX11_settles 72 = .ok (.getfield 45, 3) := by decide +kernel
theorem dX11_settles_75 : decode cX11_settles 75 = .ok (.iload_n 1, 1) := by decide +kernel
theorem dX11_settles_76 : decode cX11_settles 76 = .ok (.iaload, 1) := by decide +kernel
theorem dX11_settles_77 : decode cX11_settles 77 = .ok (.bipush 8, 2) := by decide +kernel
theorem dX11_settles_79 : decode cX11_settles 79 = .ok (.idiv, 1) := by decide +kernel
theorem dX11_settles_80 : decode cX11_settles 80 = .ok (.goto 9, 3) := by decide +kernel
theorem dX11_settles_83 : decode cX11_settles 83 = .ok (.aload_n 0, 1) := by decide +kernel
theorem dX11_settles_84 : decode cX11_settles 84 = .ok (.getfield 39, 3) := by decide +kernel
theorem dX11_settles_87 : decode cX11_settles 87 = .ok (.iload_n 1, 1) := by decide +kernel
theorem dX11_settles_88 : decode cX11_settles 88 = .ok (.iaload, 1) := by decide +kernel
theorem dX11_settles_89 : decode cX11_settles 89 = .ok (.istore_n 2, 1) := by decide +kernel
theorem dX11_settles_90 : decode cX11_settles 90 = .ok (.aload_n 0, 1) := by decide +kernel
theorem dX11_settles_91 : decode cX11_settles 91 = .ok (.getfield 39, 3) := by decide +kernel
theorem dX11_settles_94 : decode cX11_settles 94 = .ok (.iload_n 1, 1) := by decide +kernel
theorem dX11_settles_95 : decode cX11_settles 95 = .ok (.dup2, 1) := by decide +kernel
theorem dX11_settles_96 : decode cX11_settles 96 = .ok (.iaload, 1) := by decide +kernel
theorem dX11_settles_97 : decode cX11_settles 97 = .ok (.iload_n 2, 1) := by decide +kernel
theorem dX11_settles_98 : decode cX11_settles 98 = .ok (.isub, 1) := by decide +kernel
theorem dX11_settles_99 : decode cX11_settles 99 = .ok (.iastore, 1) := by decide +kernel
theorem dX11_settles_100 : decode cX11_settles 100 = .ok (.aload_n 0, 1) := by decide +kernel
theorem dX11_settles_101 : decode cX11_settles 101 = .ok (.getfield 42, 3) := by decide +kernel
theorem dX11_settles_104 : decode cX11_settles 104 = .ok (.iload_n 1, 1) := by decide +kernel
theorem dX11_settles_105 : decode cX11_settles 105 = .ok (.dup2, 1) := by decide +kernel
theorem dX11_settles_106 : decode cX11_settles 106 = .ok (.iaload, 1) := by decide +kernel
theorem dX11_settles_107 : decode cX11_settles 107 = .ok (.iload_n 2, 1) := by decide +kernel
theorem dX11_settles_108 : decode cX11_settles 108 = .ok (.iadd, 1) := by decide +kernel
theorem dX11_settles_109 : decode cX11_settles 109 = .ok (.iastore, 1) := by decide +kernel
theorem dX11_settles_110 : decode cX11_settles 110 = .ok (.return_, 1) := by decide +kernel
theorem dX11_drinks_0 : decode cX11_drinks 0 = .ok (.aload_n 0, 1) := by decide +kernel
theorem dX11_drinks_1 : decode cX11_drinks 1 = .ok (.getfield 60, 3) := by decide +kernel
theorem dX11_drinks_4 : decode cX11_drinks 4 = .ok (.iload_n 1, 1) := by decide +kernel
theorem dX11_drinks_5 : decode cX11_drinks 5 = .ok (.iaload, 1) := by decide +kernel
theorem dX11_drinks_6 : decode cX11_drinks 6 = .ok (.istore_n 2, 1) := by decide +kernel
theorem dX11_drinks_7 : decode cX11_drinks 7 = .ok (.aload_n 0, 1) := by decide +kernel
theorem dX11_drinks_8 : decode cX11_drinks 8 = .ok (.getfield 87, 3) := by decide +kernel
theorem dX11_drinks_11 : decode cX11_drinks 11 = .ok (.iload_n 1, 1) := by decide +kernel
theorem dX11_drinks_12 : decode cX11_drinks 12 = .ok (.aload_n 0, 1) := by decide +kernel
theorem dX11_drinks_13 : decode cX11_drinks 13 = .ok (.getfield 51, 3) := by decide +kernel
theorem dX11_drinks_16 : decode cX11_drinks 16 = .ok (.iload_n 2, 1) := by decide +kernel
theorem dX11_drinks_17 : decode cX11_drinks 17 = .ok (.iaload, 1) := by decide +kernel
theorem dX11_drinks_18 : decode cX11_drinks 18 = .ok (.ifCond .eq 18, 3) := by decide +kernel
theorem dX11_drinks_21 : decode cX11_drinks 21 = .ok (.aload_n 0, 1) := by decide +kernel
theorem dX11_drinks_22 : decode cX11_drinks 22 = .ok (.iconst 0, 1) := by decide +kernel
theorem dX11_drinks_23 : decode cX11_drinks 23 = .ok (.iload_n 2, 1) := by decide +kernel
theorem dX11_drinks_24 : decode cX11_drinks 24 = .ok (.invokevirtual 182, 3) := by decide +kernel
theorem dX11_drinks_27 : decode cX11_drinks 27 = .ok (.aload_n 0, 1) := by decide +kernel
theorem dX11_drinks_28 : decode cX11_drinks 28 = .ok (.getfield 66, 3) := by decide +kernel
theorem dX11_drinks_31 : decode cX11_drinks 31 = .ok (.iload_n 1, 1) := by decide +kernel
theorem dX11_drinks_32 : decode cX11_drinks 32 = .ok (.iaload, 1) := by decide +kernel
theorem dX11_drinks_33 : decode cX11_drinks 33 = .ok (.if_icmp .le 7, 3) := by decide +kernel
theorem dX11_drinks_36 : decode cX11_drinks 36 = .ok (.iconst 1, 1) := by decide +kernel
theorem dX11_drinks_37 : decode cX11_drinks 37 = .ok (.goto 4, 3) := by decide +kernel
theorem dX11_drinks_40 : decode cX11_drinks 40 = .ok (.iconst 0, 1) := by decide +kernel
theorem dX11_drinks_41 : decode cX11_drinks 41 = .ok (.bastore, 1) := by decide +kernel
theorem dX11_drinks_42 : decode cX11_drinks 42 = .ok (.aload_n 0, 1) := by decide +kernel
theorem dX11_drinks_43 : decode cX11_drinks 43 = .ok (.getfield 84, 3) := by decide +kernel
theorem dX11_drinks_46 : decode cX11_drinks 46 = .ok (.iload_n 1, 1) := by decide +kernel
theorem dX11_drinks_47 : decode cX11_drinks 47 = .ok (.dup2, 1) := by decide +kernel
theorem dX11_drinks_48 : decode cX11_drinks 48 = .ok (.iaload, 1) := by decide +kernel
theorem dX11_drinks_49 : decode cX11_drinks 49 = .ok (.aload_n 0, 1) := by decide +kernel
theorem dX11_drinks_50 : decode cX11_drinks 50 = .ok (.getfield 87, 3) := by decide +kernel
theorem dX11_drinks_53 : decode cX11_drinks 53 = .ok (.iload_n 1, 1) := by decide +kernel
theorem dX11_drinks_54 : decode cX11_drinks 54 = .ok (.baload, 1) := by decide +kernel
theorem dX11_drinks_55 : decode cX11_drinks 55 = .ok (.ifCond .eq 7, 3) := by decide +kernel
theorem dX11_drinks_58 : decode cX11_drinks 58 = .ok (.iconst 1, 1) := by decide +kernel
theorem dX11_drinks_59 : decode cX11_drinks 59 = .ok (.goto 4, 3) := by decide +kernel
theorem dX11_drinks_62 : decode cX11_drinks 62 = .ok (.iconst 0, 1) := by decide +kernel
theorem dX11_drinks_63 : decode cX11_drinks 63 = .ok (.iadd, 1) := by decide +kernel
theorem dX11_drinks_64 : decode cX11_drinks 64 = .ok (.iastore, 1) := by decide +kernel
theorem dX11_drinks_65 : decode cX11_drinks 65 = .ok (.aload_n 0, 1) := by decide +kernel
theorem dX11_drinks_66 : decode cX11_drinks 66 = .ok (.getfield 87, 3) := by decide +kernel
theorem dX11_drinks_69 : decode cX11_drinks 69 = .ok (.iload_n 1, 1) := by decide +kernel
theorem dX11_drinks_70 : decode cX11_drinks 70 = .ok (.baload, 1) := by decide +kernel
theorem dX11_drinks_71 : decode cX11_drinks 71 = .ok (.ifCond .ne 138, 3) := by decide +kernel
theorem dX11_drinks_74 : decode cX11_drinks 74 = .ok (.aload_n 0, 1) := by decide +kernel
theorem dX11_drinks_75 : decode cX11_drinks 75 = .ok (.getfield 63, 3) := by decide +kernel
theorem dX11_drinks_78 : decode cX11_drinks 78 = .ok (.iload_n 1, 1) := by decide +kernel
theorem dX11_drinks_79 : decode cX11_drinks 79 = .ok (.iaload, 1) := by decide +kernel
theorem dX11_drinks_80 : decode cX11_drinks 80 = .ok (.aload_n 0, 1) := by decide +kernel
theorem dX11_drinks_81 : decode cX11_drinks 81 = .ok (.getfield 51, 3) := by decide +kernel
theorem dX11_drinks_84 : decode cX11_drinks 84 = .ok (.iload_n 2, 1) := by decide +kernel
theorem dX11_drinks_85 : decode cX11_drinks 85 = .ok (.iaload, 1) := by decide +kernel
theorem dX11_drinks_86 : decode cX11_drinks 86 = .ok (.if_icmp .ge 12, 3) := by decide +kernel
theorem dX11_drinks_89 : decode cX11_drinks 89 = .ok (.aload_n 0, 1) := by decide +kernel
theorem dX11_drinks_90 : decode cX11_drinks 90 = .ok (.getfield 63, 3) := by decide +kernel
theorem dX11_drinks_93 : decode cX11_drinks 93 = .ok (.iload_n 1, 1) := by decide +kernel
theorem dX11_drinks_94 : decode cX11_drinks 94 = .ok (.iaload, 1) := by decide +kernel
theorem dX11_drinks_95 : decode cX11_drinks 95 = .ok (.goto 9, 3) := by decide +kernel
theorem dX11_drinks_98 : decode cX11_drinks 98 = .ok (.aload_n 0, 1) := by decide +kernel
theorem dX11_drinks_99 : decode cX11_drinks 99 = .ok (.getfield 51, 3) := by decide +kernel
theorem dX11_drinks_102 : decode cX11_drinks 102 = .ok (.iload_n 2, 1) := by decide +kernel
theorem dX11_drinks_103 : decode cX11_drinks 103 = .ok (.iaload, 1) := by decide +kernel
theorem dX11_drinks_104 : decode cX11_drinks 104 = .ok (.istore_n 3, 1) := by decide +kernel
theorem dX11_drinks_105 : decode cX11_drinks 105 = .ok (.iload_n 3, 1) := by decide +kernel
theorem dX11_drinks_106 : decode cX11_drinks 106 = .ok (.aload_n 0, 1) := by decide +kernel
theorem dX11_drinks_107 : decode cX11_drinks 107 = .ok (.getfield 69, 3) := by decide +kernel
theorem dX11_drinks_110 : decode cX11_drinks 110 = .ok (.iload_n 1, 1) := by decide +kernel
theorem dX11_drinks_111 : decode cX11_drinks 111 = .ok (.iaload, 1) := by decide +kernel
theorem dX11_drinks_112 : decode cX11_drinks 112 = .ok (.aload_n 0, 1) := by decide +kernel
theorem dX11_drinks_113 : decode cX11_drinks 113 = .ok (.getfield 75, 3) := by decide +kernel
theorem dX11_drinks_116 : decode cX11_drinks 116 = .ok (.iload_n 1, 1) := by decide +kernel
theorem dX11_drinks_117 : decode cX11_drinks 117 = .ok (.iaload, 1) := by decide +kernel
theorem dX11_drinks_118 : decode cX11_drinks 118 = .ok (.isub, 1) := by decide +kernel
theorem dX11_drinks_119 : decode cX11_drinks 119 = .ok (.if_icmp .ge 7, 3) := by decide +kernel
theorem dX11_drinks_122 : decode cX11_drinks 122 = .ok (.iload_n 3, 1) := by decide +kernel
theorem dX11_drinks_123 : decode cX11_drinks 123 = .ok (.goto 16, 3) := by decide +kernel
theorem dX11_drinks_126 : decode cX11_drinks 126 = .ok (.aload_n 0, 1) := by decide +kernel
theorem dX11_drinks_127 : decode cX11_drinks 127 = .ok (.getfield 69, 3) := by decide +kernel
theorem dX11_drinks_130 : decode cX11_drinks 130 = .ok (.iload_n 1, 1) := by decide +kernel
theorem dX11_drinks_131 : decode cX11_drinks 131 = .ok (.iaload, 1) := by decide +kernel
theorem dX11_drinks_132 : decode cX11_drinks 132 = .ok (.aload_n 0, 1) := by decide +kernel
theorem dX11_drinks_133 : decode cX11_drinks 133 = .ok (.getfield 75, 3) := by decide +kernel
theorem dX11_drinks_136 : decode cX11_drinks 136 = .ok (.iload_n 1, 1) := by decide +kernel
theorem dX11_drinks_137 : decode cX11_drinks 137 = .ok (.iaload, 1) := by decide +kernel
theorem dX11_drinks_138 : decode cX11_drinks 138 = .ok (.isub, 1) := by decide +kernel
theorem dX11_drinks_139 : decode cX11_drinks 139 = .ok (.istore_n 3, 1) := by decide +kernel
theorem dX11_drinks_140 : decode cX11_drinks 140 = .ok (.aload_n 0, 1) := by decide +kernel
theorem dX11_drinks_141 : decode cX11_drinks 141 = .ok (.getfield 42, 3) := by decide +kernel
theorem dX11_drinks_144 : decode cX11_drinks 144 = .ok (.iload_n 2, 1) := by decide +kernel
theorem dX11_drinks_145 : decode cX11_drinks 145 = .ok (.iaload, 1) := by decide +kernel
theorem dX11_drinks_146 : decode cX11_drinks 146 = .ok (.istore 4, 2) := by decide +kernel
theorem dX11_drinks_148 : decode cX11_drinks 148 = .ok (.aload_n 0, 1) := by decide +kernel
theorem dX11_drinks_149 : decode cX11_drinks 149 = .ok (.iconst 0, 1) := by decide +kernel
theorem dX11_drinks_150 : decode cX11_drinks 150 = .ok (.iload_n 2, 1) := by decide +kernel
theorem dX11_drinks_151 : decode cX11_drinks 151 = .ok (.iload_n 3, 1) := by decide +kernel
theorem dX11_drinks_152 : decode cX11_drinks 152 = .ok (.invokevirtual 165, 3) := by decide +kernel
theorem dX11_drinks_155 : decode cX11_drinks 155 = .ok (.aload_n 0, 1) := by decide +kernel
theorem dX11_drinks_156 : decode cX11_drinks 156 = .ok (.getfield 42, 3) := by decide +kernel
theorem dX11_drinks_159 : decode cX11_drinks 159 = .ok (.iload_n 2, 1) := by decide +kernel
theorem dX11_drinks_160 : decode cX11_drinks 160 = .ok (.iload 4, 2) := by decide +kernel
theorem dX11_drinks_162 : decode cX11_drinks 162 = .ok (.iastore, 1) := by decide +kernel
theorem dX11_drinks_163 : decode cX11_drinks 163 = .ok (.aload_n 0, 1) := by decide +kernel
theorem dX11_drinks_164 : decode cX11_drinks 164 = .ok (.getfield 75, 3) := by decide +kernel
theorem dX11_drinks_167 : decode cX11_drinks 167 = .ok (.iload_n 1, 1) := by decide +kernel
theorem dX11_drinks_168 : decode cX11_drinks 168 = .ok (.dup2, 1) := by decide +kernel
theorem dX11_drinks_169 : decode cX11_drinks 169 = .ok (.iaload, 1) := by decide +kernel
theorem dX11_drinks_170 : decode cX11_drinks 170 = .ok (.iload_n 3, 1) := by decide +kernel
theorem dX11_drinks_171 : decode cX11_drinks 171 = .ok (.iadd, 1) := by decide +kernel
theorem dX11_drinks_172 : decode cX11_drinks 172 = .ok (.iastore, 1) := by decide +kernel
theorem dX11_drinks_173 : decode cX11_drinks 173 = .ok (.aload_n 0, 1) := by decide +kernel
theorem dX11_drinks_174 : decode cX11_drinks 174 = .ok (.getfield 78, 3) := by decide +kernel
theorem dX11_drinks_177 : decode cX11_drinks 177 = .ok (.iload_n 1, 1) := by decide +kernel
theorem dX11_drinks_178 : decode cX11_drinks 178 = .ok (.dup2, 1) := by decide +kernel
theorem dX11_drinks_179 : decode cX11_drinks 179 = .ok (.iaload, 1) := by decide +kernel
theorem dX11_drinks_180 : decode cX11_drinks 180 = .ok (.iload_n 3, 1) := by decide +kernel
theorem dX11_drinks_181 : decode cX11_drinks 181 = .ok (.iadd, 1) := by decide +kernel
theorem dX11_drinks_182 : decode cX11_drinks 182 = .ok (.iastore, 1) := by decide +kernel
theorem dX11_drinks_183 : decode cX11_drinks 183 = .ok (.aload_n 0, 1) := by decide +kernel
theorem dX11_drinks_184 : decode cX11_drinks 184 = .ok (.getfield 99, 3) := by decide +kernel
theorem dX11_drinks_187 : decode cX11_drinks 187 = .ok (.iconst 3, 1) := by decide +kernel
theorem dX11_drinks_188 : decode cX11_drinks 188 = .ok (.dup2, 1) := by decide +kernel
theorem dX11_drinks_189 : decode cX11_drinks 189 = .ok (.laload, 1) := by decide +kernel
theorem dX11_drinks_190 : decode cX11_drinks 190 = .ok (.iload_n 3, 1) := by decide +kernel
theorem dX11_drinks_191 : decode cX11_drinks 191 = .ok (.i2l, 1) := by decide +kernel
theorem dX11_drinks_192 : decode cX11_drinks 192 = .ok (.ladd, 1) := by decide +kernel
theorem dX11_drinks_193 : decode cX11_drinks 193 = .ok (.lastore, 1) := by decide +kernel
theorem dX11_drinks_194 : decode cX11_drinks 194 = .ok (.aload_n 0, 1) := by decide +kernel
theorem dX11_drinks_195 : decode cX11_drinks 195 = .ok (.getfield 99, 3) := by decide +kernel
theorem dX11_drinks_198 : decode cX11_drinks 198 = .ok (.bipush 6, 2) := by decide +kernel
theorem dX11_drinks_200 : decode cX11_drinks 200 = .ok (.dup2, 1) := by decide +kernel
theorem dX11_drinks_201 : decode cX11_drinks 201 = .ok (.laload, 1) := by decide +kernel
theorem dX11_drinks_202 : decode cX11_drinks 202 = .ok (.aload_n 0, 1) := by decide +kernel
theorem dX11_drinks_203 : decode cX11_drinks 203 = .ok (.getfield 159, 3) := by decide +kernel
theorem dX11_drinks_206 : decode cX11_drinks 206 = .ok (.i2l, 1) := by decide +kernel
theorem dX11_drinks_207 : decode cX11_drinks 207 = .ok (.ladd, 1) := by decide +kernel
theorem dX11_drinks_208 : decode cX11_drinks 208 = .ok (.lastore, 1) := by decide +kernel
theorem dX11_drinks_209 : decode cX11_drinks 209 = .ok (.aload_n 0, 1) := by decide +kernel
theorem dX11_drinks_210 : decode cX11_drinks 210 = .ok (.getfield 72, 3) := by decide +kernel
theorem dX11_drinks_213 : decode cX11_drinks 213 = .ok (.iload_n 1, 1) := by decide +kernel
theorem dX11_drinks_214 : decode cX11_drinks 214 = .ok (.iaload, 1) := by decide +kernel
theorem dX11_drinks_215 : decode cX11_drinks 215 = .ok (.aload_n 0, 1) := by decide +kernel
theorem dX11_drinks_216 : decode cX11_drinks 216 = .ok (.getfield 75, 3) := by decide +kernel
theorem dX11_drinks_219 : decode cX11_drinks 219 = .ok (.iload_n 1, 1) := by decide +kernel
theorem dX11_drinks_220 : decode cX11_drinks 220 = .ok (.iaload, 1) := by decide +kernel
theorem dX11_drinks_221 : decode cX11_drinks 221 = .ok (.if_icmp .ge 12, 3) := by decide +kernel
theorem dX11_drinks_224 : decode cX11_drinks 224 = .ok (.aload_n 0, 1) := by decide +kernel
theorem dX11_drinks_225 : decode cX11_drinks 225 = .ok (.getfield 72, 3) := by decide +kernel
theorem dX11_drinks_228 : decode cX11_drinks 228 = .ok (.iload_n 1, 1) := by decide +kernel
theorem dX11_drinks_229 : decode cX11_drinks 229 = .ok (.iaload, 1) := by decide +kernel
theorem dX11_drinks_230 : decode cX11_drinks 230 = .ok (.goto 9, 3) := by decide +kernel
theorem dX11_drinks_233 : decode cX11_drinks 233 = .ok (.aload_n 0, 1) := by decide +kernel
theorem dX11_drinks_234 : decode cX11_drinks 234 = .ok (.getfield 75, 3) := by decide +kernel
theorem dX11_drinks_237 : decode cX11_drinks 237 = .ok (.iload_n 1, 1) := by decide +kernel
theorem dX11_drinks_238 : decode cX11_drinks 238 = .ok (.iaload, 1) := by decide +kernel
theorem dX11_drinks_239 : decode cX11_drinks 239 = .ok (.istore_n 3, 1) := by decide +kernel
theorem dX11_drinks_240 : decode cX11_drinks 240 = .ok (.aload_n 0, 1) := by decide +kernel
theorem dX11_drinks_241 : decode cX11_drinks 241 = .ok (.getfield 75, 3) := by decide +kernel
theorem dX11_drinks_244 : decode cX11_drinks 244 = .ok (.iload_n 1, 1) := by decide +kernel
theorem dX11_drinks_245 : decode cX11_drinks 245 = .ok (.dup2, 1) := by decide +kernel
theorem dX11_drinks_246 : decode cX11_drinks 246 = .ok (.iaload, 1) := by decide +kernel
theorem dX11_drinks_247 : decode cX11_drinks 247 = .ok (.iload_n 3, 1) := by decide +kernel
theorem dX11_drinks_248 : decode cX11_drinks 248 = .ok (.isub, 1) := by decide +kernel
theorem dX11_drinks_249 : decode cX11_drinks 249 = .ok (.iastore, 1) := by decide +kernel
theorem dX11_drinks_250 : decode cX11_drinks 250 = .ok (.aload_n 0, 1) := by decide +kernel
theorem dX11_drinks_251 : decode cX11_drinks 251 = .ok (.getfield 81, 3) := by decide +kernel
theorem dX11_drinks_254 : decode cX11_drinks 254 = .ok (.iload_n 1, 1) := by decide +kernel
theorem dX11_drinks_255 : decode cX11_drinks 255 = .ok (.dup2, 1) := by decide +kernel
theorem dX11_drinks_256 : decode cX11_drinks 256 = .ok (.iaload, 1) := by decide +kernel
theorem dX11_drinks_257 : decode cX11_drinks 257 = .ok (.aload_n 0, 1) := by decide +kernel
theorem dX11_drinks_258 : decode cX11_drinks 258 = .ok (.getfield 72, 3) := by decide +kernel
theorem dX11_drinks_261 : decode cX11_drinks 261 = .ok (.iload_n 1, 1) := by decide +kernel
theorem dX11_drinks_262 : decode cX11_drinks 262 = .ok (.iaload, 1) := by decide +kernel
theorem dX11_drinks_263 : decode cX11_drinks 263 = .ok (.iload_n 3, 1) := by decide +kernel
theorem dX11_drinks_264 : decode cX11_drinks 264 = .ok (.isub, 1) := by decide +kernel
theorem dX11_drinks_265 : decode cX11_drinks 265 = .ok (.iadd, 1) := by decide +kernel
theorem dX11_drinks_266 : decode cX11_drinks 266 = .ok (.iastore, 1) := by decide +kernel
theorem dX11_drinks_267 : decode cX11_drinks 267 = .ok (.return_, 1) := by decide +kernel
theorem dX11_hour_0 : decode cX11_hour 0 = .ok (.aload_n 0, 1) := by decide +kernel
theorem dX11_hour_1 : decode cX11_hour 1 = .ok (.aload_n 0, 1) := by decide +kernel
theorem dX11_hour_2 : decode cX11_hour 2 = .ok (.getfield 120, 3) := by decide +kernel
theorem dX11_hour_5 : decode cX11_hour 5 = .ok (.invokevirtual 169, 3) := by decide +kernel
theorem dX11_hour_8 : decode cX11_hour 8 = .ok (.istore_n 1, 1) := by decide +kernel
theorem dX11_hour_9 : decode cX11_hour 9 = .ok (.iconst 0, 1) := by decide +kernel
theorem dX11_hour_10 : decode cX11_hour 10 = .ok (.istore_n 2, 1) := by decide +kernel
theorem dX11_hour_11 : decode cX11_hour 11 = .ok (.iload_n 2, 1) := by decide +kernel
theorem dX11_hour_12 : decode cX11_hour 12 = .ok (.aload_n 0, 1) := by decide +kernel
theorem dX11_hour_13 : decode cX11_hour 13 = .ok (.getfield 106, 3) := by decide +kernel
theorem dX11_hour_16 : decode cX11_hour 16 = .ok (.if_icmp .ge 16, 3) := by decide +kernel
theorem dX11_hour_19 : decode cX11_hour 19 = .ok (.aload_n 0, 1) := by decide +kernel
theorem dX11_hour_20 : decode cX11_hour 20 = .ok (.getfield 45, 3) := by decide +kernel
theorem dX11_hour_23 : decode cX11_hour 23 = .ok (.iload_n 2, 1) := by decide +kernel
theorem dX11_hour_24 : decode cX11_hour 24 = .ok (.iconst 0, 1) := by decide +kernel
theorem dX11_hour_25 : decode cX11_hour 25 = .ok (.iastore, 1) := by decide +kernel
theorem dX11_hour_26 : decode cX11_hour 26 = .ok (.iinc 2 1, 3) := by decide +kernel
theorem dX11_hour_29 : decode cX11_hour 29 = .ok (.goto (-18), 3) := by decide +kernel
theorem dX11_hour_32 : decode cX11_hour 32 = .ok (.aload_n 0, 1) := by decide +kernel
theorem dX11_hour_33 : decode cX11_hour 33 = .ok (.invokevirtual 185, 3) := by decide +kernel
theorem dX11_hour_36 : decode cX11_hour 36 = .ok (.istore_n 2, 1) := by decide +kernel
theorem dX11_hour_37 : decode cX11_hour 37 = .ok (.iload_n 2, 1) := by decide +kernel
theorem dX11_hour_38 : decode cX11_hour 38 = .ok (.ifCond .eq 8, 3) := by decide +kernel
theorem dX11_hour_41 : decode cX11_hour 41 = .ok (.aload_n 0, 1) := by decide +kernel
theorem dX11_hour_42 : decode cX11_hour 42 = .ok (.iload_n 1, 1) := by decide +kernel
theorem dX11_hour_43 : decode cX11_hour 43 = .ok (.invokevirtual 189, 3) := by decide +kernel
theorem dX11_hour_46 : decode cX11_hour 46 = .ok (.aload_n 0, 1) := by decide +kernel
theorem dX11_hour_47 : decode cX11_hour 47 = .ok (.getfield 106, 3) := by decide +kernel
theorem dX11_hour_50 : decode cX11_hour 50 = .ok (.ifCond .le 77, 3) := by decide +kernel
theorem dX11_hour_53 : decode cX11_hour 53 = .ok (.iload_n 2, 1) := by decide +kernel
theorem dX11_hour_54 : decode cX11_hour 54 = .ok (.ifCond .ne 8, 3) := by decide +kernel
theorem dX11_hour_57 : decode cX11_hour 57 = .ok (.aload_n 0, 1) := by decide +kernel
theorem dX11_hour_58 : decode cX11_hour 58 = .ok (.iload_n 1, 1) := by decide +kernel
theorem dX11_hour_59 : decode cX11_hour 59 = .ok (.invokevirtual 193, 3) := by decide +kernel
theorem dX11_hour_62 : decode cX11_hour 62 = .ok (.aload_n 0, 1) := by decide +kernel
theorem dX11_hour_63 : decode cX11_hour 63 = .ok (.getfield 51, 3) := by decide +kernel
theorem dX11_hour_66 : decode cX11_hour 66 = .ok (.aload_n 0, 1) := by decide +kernel
theorem dX11_hour_67 : decode cX11_hour 67 = .ok (.getfield 106, 3) := by decide +kernel
theorem dX11_hour_70 : decode cX11_hour 70 = .ok (.iconst 1, 1) := by decide +kernel
theorem dX11_hour_71 : decode cX11_hour 71 = .ok (.isub, 1) := by decide +kernel
theorem dX11_hour_72 : decode cX11_hour 72 = .ok (.dup2, 1) := by decide +kernel
theorem dX11_hour_73 : decode cX11_hour 73 = .ok (.iaload, 1) := by decide +kernel
theorem dX11_hour_74 : decode cX11_hour 74 = .ok (.aload_n 0, 1) := by decide +kernel
theorem dX11_hour_75 : decode cX11_hour 75 = .ok (.getfield 126, 3) := by decide +kernel
theorem dX11_hour_78 : decode cX11_hour 78 = .ok (.iadd, 1) := by decide +kernel
theorem dX11_hour_79 : decode cX11_hour 79 = .ok (.iastore, 1) := by decide +kernel
theorem dX11_hour_80 : decode cX11_hour 80 = .ok (.aload_n 0, 1) := by decide +kernel
theorem dX11_hour_81 : decode cX11_hour 81 = .ok (.getfield 42, 3) := by decide +kernel
theorem dX11_hour_84 : decode cX11_hour 84 = .ok (.aload_n 0, 1) := by decide +kernel
theorem dX11_hour_85 : decode cX11_hour 85 = .ok (.getfield 106, 3) := by decide +kernel
theorem dX11_hour_88 : decode cX11_hour 88 = .ok (.iconst 1, 1) := by decide +kernel
theorem dX11_hour_89 : decode cX11_hour 89 = .ok (.isub, 1) := by decide +kernel
theorem dX11_hour_90 : decode cX11_hour 90 = .ok (.dup2, 1) := by decide +kernel
theorem dX11_hour_91 : decode cX11_hour 91 = .ok (.iaload, 1) := by decide +kernel
theorem dX11_hour_92 : decode cX11_hour 92 = .ok (.aload_n 0, 1) := by decide +kernel
theorem dX11_hour_93 : decode cX11_hour 93 = .ok (.getfield 129, 3) := by decide +kernel
theorem dX11_hour_96 : decode cX11_hour 96 = .ok (.iadd, 1) := by decide +kernel
theorem dX11_hour_97 : decode cX11_hour 97 = .ok (.iastore, 1) := by decide +kernel
theorem dX11_hour_98 : decode cX11_hour 98 = .ok (.aload_n 0, 1) := by decide +kernel
theorem dX11_hour_99 : decode cX11_hour 99 = .ok (.getfield 99, 3) := by decide +kernel
theorem dX11_hour_102 : decode cX11_hour 102 = .ok (.iconst 2, 1) := by decide +kernel
theorem dX11_hour_103 : decode cX11_hour 103 = .ok (.dup2, 1) := by decide +kernel
theorem dX11_hour_104 : decode cX11_hour 104 = .ok (.laload, 1) := by decide +kernel
theorem dX11_hour_105 : decode cX11_hour 105 = .ok (.aload_n 0, 1) := by decide +kernel
theorem dX11_hour_106 : decode cX11_hour 106 = .ok (.getfield 126, 3) := by decide +kernel
theorem dX11_hour_109 : decode cX11_hour 109 = .ok (.i2l, 1) := by decide +kernel
theorem dX11_hour_110 : decode cX11_hour 110 = .ok (.ladd, 1) := by decide +kernel
theorem dX11_hour_111 : decode cX11_hour 111 = .ok (.lastore, 1) := by decide +kernel
theorem dX11_hour_112 : decode cX11_hour 112 = .ok (.aload_n 0, 1) := by decide +kernel
theorem dX11_hour_113 : decode cX11_hour 113 = .ok (.getfield 99, 3) := by decide +kernel
theorem dX11_hour_116 : decode cX11_hour 116 = .ok (.bipush 7, 2) := by decide +kernel
theorem dX11_hour_118 : decode cX11_hour 118 = .ok (.dup2, 1) := by decide +kernel
theorem dX11_hour_119 : decode cX11_hour 119 = .ok (.laload, 1) := by decide +kernel
theorem dX11_hour_120 : decode cX11_hour 120 = .ok (.aload_n 0, 1) := by decide +kernel
theorem dX11_hour_121 : decode cX11_hour 121 = .ok (.getfield 129, 3) := by decide +kernel
theorem dX11_hour_124 : decode cX11_hour 124 = .ok (.i2l, 1) := by decide +kernel
theorem dX11_hour_125 : decode cX11_hour 125 = .ok (.ladd, 1) := by decide +kernel
theorem dX11_hour_126 : decode cX11_hour 126 = .ok (.lastore, 1) := by decide +kernel
theorem dX11_hour_127 : decode cX11_hour 127 = .ok (.iconst 0, 1) := by decide +kernel
theorem dX11_hour_128 : decode cX11_hour 128 = .ok (.istore_n 3, 1) := by decide +kernel
theorem dX11_hour_129 : decode cX11_hour 129 = .ok (.iload_n 3, 1) := by decide +kernel
theorem dX11_hour_130 : decode cX11_hour 130 = .ok (.iconst 1, 1) := by decide +kernel
theorem dX11_hour_131 : decode cX11_hour 131 = .ok (.iadd, 1) := by decide +kernel
theorem dX11_hour_132 : decode cX11_hour 132 = .ok (.aload_n 0, 1) := by decide +kernel
theorem dX11_hour_133 : decode cX11_hour 133 = .ok (.getfield 106, 3) := by decide +kernel
theorem dX11_hour_136 : decode cX11_hour 136 = .ok (.if_icmp .ge 14, 3) := by decide +kernel
theorem dX11_hour_139 : decode cX11_hour 139 = .ok (.aload_n 0, 1) := by decide +kernel
theorem dX11_hour_140 : decode cX11_hour 140 = .ok (.iload_n 3, 1) := by decide +kernel
theorem dX11_hour_141 : decode cX11_hour 141 = .ok (.invokevirtual 196, 3) := by decide +kernel
theorem dX11_hour_144 : decode cX11_hour 144 = .ok (.iinc 3 1, 3) := by decide +kernel
theorem dX11_hour_147 : decode cX11_hour 147 = .ok (.goto (-18), 3) := by decide +kernel
theorem dX11_hour_150 : decode cX11_hour 150 = .ok (.iconst 0, 1) := by decide +kernel
theorem dX11_hour_151 : decode cX11_hour 151 = .ok (.istore_n 3, 1) := by decide +kernel
theorem dX11_hour_152 : decode cX11_hour 152 = .ok (.iload_n 3, 1) := by decide +kernel
theorem dX11_hour_153 : decode cX11_hour 153 = .ok (.aload_n 0, 1) := by decide +kernel
theorem dX11_hour_154 : decode cX11_hour 154 = .ok (.getfield 106, 3) := by decide +kernel
theorem dX11_hour_157 : decode cX11_hour 157 = .ok (.if_icmp .ge 14, 3) := by decide +kernel
theorem dX11_hour_160 : decode cX11_hour 160 = .ok (.aload_n 0, 1) := by decide +kernel
theorem dX11_hour_161 : decode cX11_hour 161 = .ok (.iload_n 3, 1) := by decide +kernel
theorem dX11_hour_162 : decode cX11_hour 162 = .ok (.invokevirtual 199, 3) := by decide +kernel
theorem dX11_hour_165 : decode cX11_hour 165 = .ok (.iinc 3 1, 3) := by decide +kernel
theorem dX11_hour_168 : decode cX11_hour 168 = .ok (.goto (-16), 3) := by decide +kernel
theorem dX11_hour_171 : decode cX11_hour 171 = .ok (.iconst 0, 1) := by decide +kernel
theorem dX11_hour_172 : decode cX11_hour 172 = .ok (.istore_n 3, 1) := by decide +kernel
theorem dX11_hour_173 : decode cX11_hour 173 = .ok (.iload_n 3, 1) := by decide +kernel
theorem dX11_hour_174 : decode cX11_hour 174 = .ok (.aload_n 0, 1) := by decide +kernel
theorem dX11_hour_175 : decode cX11_hour 175 = .ok (.getfield 106, 3) := by decide +kernel
theorem dX11_hour_178 : decode cX11_hour 178 = .ok (.if_icmp .ge 14, 3) := by decide +kernel
theorem dX11_hour_181 : decode cX11_hour 181 = .ok (.aload_n 0, 1) := by decide +kernel
theorem dX11_hour_182 : decode cX11_hour 182 = .ok (.iload_n 3, 1) := by decide +kernel
theorem dX11_hour_183 : decode cX11_hour 183 = .ok (.invokevirtual 202, 3) := by decide +kernel
theorem dX11_hour_186 : decode cX11_hour 186 = .ok (.iinc 3 1, 3) := by decide +kernel
theorem dX11_hour_189 : decode cX11_hour 189 = .ok (.goto (-16), 3) := by decide +kernel
theorem dX11_hour_192 : decode cX11_hour 192 = .ok (.iconst 0, 1) := by decide +kernel
theorem dX11_hour_193 : decode cX11_hour 193 = .ok (.istore_n 3, 1) := by decide +kernel
theorem dX11_hour_194 : decode cX11_hour 194 = .ok (.iload_n 3, 1) := by decide +kernel
theorem dX11_hour_195 : decode cX11_hour 195 = .ok (.aload_n 0, 1) := by decide +kernel
theorem dX11_hour_196 : decode cX11_hour 196 = .ok (.getfield 142, 3) := by decide +kernel
theorem dX11_hour_199 : decode cX11_hour 199 = .ok (.if_icmp .ge 14, 3) := by decide +kernel
theorem dX11_hour_202 : decode cX11_hour 202 = .ok (.aload_n 0, 1) := by decide +kernel
theorem dX11_hour_203 : decode cX11_hour 203 = .ok (.iload_n 3, 1) := by decide +kernel
theorem dX11_hour_204 : decode cX11_hour 204 = .ok (.invokevirtual 205, 3) := by decide +kernel
theorem dX11_hour_207 : decode cX11_hour 207 = .ok (.iinc 3 1, 3) := by decide +kernel
theorem dX11_hour_210 : decode cX11_hour 210 = .ok (.goto (-16), 3) := by decide +kernel
theorem dX11_hour_213 : decode cX11_hour 213 = .ok (.iconst 0, 1) := by decide +kernel
theorem dX11_hour_214 : decode cX11_hour 214 = .ok (.istore_n 3, 1) := by decide +kernel
theorem dX11_hour_215 : decode cX11_hour 215 = .ok (.iload_n 3, 1) := by decide +kernel
theorem dX11_hour_216 : decode cX11_hour 216 = .ok (.aload_n 0, 1) := by decide +kernel
theorem dX11_hour_217 : decode cX11_hour 217 = .ok (.getfield 106, 3) := by decide +kernel
theorem dX11_hour_220 : decode cX11_hour 220 = .ok (.if_icmp .ge 30, 3) := by decide +kernel
theorem dX11_hour_223 : decode cX11_hour 223 = .ok (.aload_n 0, 1) := by decide +kernel
theorem dX11_hour_224 : decode cX11_hour 224 = .ok (.getfield 57, 3) := by decide +kernel
theorem dX11_hour_227 : decode cX11_hour 227 = .ok (.sipush 1001, 3) := by decide +kernel
theorem dX11_hour_230 : decode cX11_hour 230 = .ok (.iload_n 3, 1) := by decide +kernel
theorem dX11_hour_231 : decode cX11_hour 231 = .ok (.imul, 1) := by decide +kernel
theorem dX11_hour_232 : decode cX11_hour 232 = .ok (.aload_n 0, 1) := by decide +kernel
theorem dX11_hour_233 : decode cX11_hour 233 = .ok (.getfield 120, 3) := by decide +kernel
theorem dX11_hour_236 : decode cX11_hour 236 = .ok (.iadd, 1) := by decide +kernel
theorem dX11_hour_237 : decode cX11_hour 237 = .ok (.aload_n 0, 1) := by decide +kernel
theorem dX11_hour_238 : decode cX11_hour 238 = .ok (.iconst 1, 1) := by decide +kernel
theorem dX11_hour_239 : decode cX11_hour 239 = .ok (.iload_n 3, 1) := by decide +kernel
theorem dX11_hour_240 : decode cX11_hour 240 = .ok (.invokevirtual 182, 3) := by decide +kernel
theorem dX11_hour_243 : decode cX11_hour 243 = .ok (.iastore, 1) := by decide +kernel
theorem dX11_hour_244 : decode cX11_hour 244 = .ok (.iinc 3 1, 3) := by decide +kernel
theorem dX11_hour_247 : decode cX11_hour 247 = .ok (.goto (-32), 3) := by decide +kernel
theorem dX11_hour_250 : decode cX11_hour 250 = .ok (.aload_n 0, 1) := by decide +kernel
theorem dX11_hour_251 : decode cX11_hour 251 = .ok (.getfield 20, 3) := by decide +kernel
theorem dX11_hour_254 : decode cX11_hour 254 = .ok (.aload_n 0, 1) := by decide +kernel
theorem dX11_hour_255 : decode cX11_hour 255 = .ok (.getfield 120, 3) := by decide +kernel
theorem dX11_hour_258 : decode cX11_hour 258 = .ok (.iload_n 1, 1) := by decide +kernel
theorem dX11_hour_259 : decode cX11_hour 259 = .ok (.iastore, 1) := by decide +kernel
theorem dX11_hour_260 : decode cX11_hour 260 = .ok (.aload_n 0, 1) := by decide +kernel
theorem dX11_hour_261 : decode cX11_hour 261 = .ok (.dup, 1) := by decide +kernel
theorem dX11_hour_262 : decode cX11_hour 262 = .ok (.getfield 120, 3) := by decide +kernel
theorem dX11_hour_265 : decode cX11_hour 265 = .ok (.iconst 1, 1) := by decide +kernel
theorem dX11_hour_266 : decode cX11_hour 266 = .ok (.iadd, 1) := by decide +kernel
theorem dX11_hour_267 : decode cX11_hour 267 = .ok (.putfield 120, 3) := by decide +kernel
theorem dX11_hour_270 : decode cX11_hour 270 = .ok (.return_, 1) := by decide +kernel
theorem dX11_pass_0 : decode cX11_pass 0 = .ok (.aload_n 0, 1) := by decide +kernel
theorem dX11_pass_1 : decode cX11_pass 1 = .ok (.iload_n 1, 1) := by decide +kernel
theorem dX11_pass_2 : decode cX11_pass 2 = .ok (.iconst 1, 1) := by decide +kernel
theorem dX11_pass_3 : decode cX11_pass 3 = .ok (.bipush 48, 2) := by decide +kernel
theorem dX11_pass_5 : decode cX11_pass 5 = .ok (.invokestatic 109, 3) := by decide +kernel
theorem dX11_pass_8 : decode cX11_pass 8 = .ok (.ifCond .ne 7, 3) := by decide +kernel
theorem dX11_pass_11 : decode cX11_pass 11 = .ok (.iconst 1, 1) := by decide +kernel
theorem dX11_pass_12 : decode cX11_pass 12 = .ok (.goto 20, 3) := by decide +kernel
theorem dX11_pass_15 : decode cX11_pass 15 = .ok (.aload_n 0, 1) := by decide +kernel
theorem dX11_pass_16 : decode cX11_pass 16 = .ok (.getfield 120, 3) := by decide +kernel
theorem dX11_pass_19 : decode cX11_pass 19 = .ok (.iload_n 1, 1) := by decide +kernel
theorem dX11_pass_20 : decode cX11_pass 20 = .ok (.iadd, 1) := by decide +kernel
theorem dX11_pass_21 : decode cX11_pass 21 = .ok (.sipush 1000, 3) := by decide +kernel
theorem dX11_pass_24 : decode cX11_pass 24 = .ok (.if_icmp .le 7, 3) := by decide +kernel
theorem dX11_pass_27 : decode cX11_pass 27 = .ok (.iconst 2, 1) := by decide +kernel
theorem dX11_pass_28 : decode cX11_pass 28 = .ok (.goto 4, 3) := by decide +kernel
theorem dX11_pass_31 : decode cX11_pass 31 = .ok (.iconst 0, 1) := by decide +kernel
theorem dX11_pass_32 : decode cX11_pass 32 = .ok (.invokevirtual 116, 3) := by decide +kernel
theorem dX11_pass_35 : decode cX11_pass 35 = .ok (.ifCond .ne 5, 3) := by decide +kernel
theorem dX11_pass_38 : decode cX11_pass 38 = .ok (.iconst 0, 1) := by decide +kernel
theorem dX11_pass_39 : decode cX11_pass 39 = .ok (.ireturn, 1) := by decide +kernel
theorem dX11_pass_40 : decode cX11_pass 40 = .ok (.iconst 0, 1) := by decide +kernel
theorem dX11_pass_41 : decode cX11_pass 41 = .ok (.istore_n 2, 1) := by decide +kernel
theorem dX11_pass_42 : decode cX11_pass 42 = .ok (.iload_n 2, 1) := by decide +kernel
theorem dX11_pass_43 : decode cX11_pass 43 = .ok (.iload_n 1, 1) := by decide +kernel
theorem dX11_pass_44 : decode cX11_pass 44 = .ok (.if_icmp .ge 13, 3) := by decide +kernel
theorem dX11_pass_47 : decode cX11_pass 47 = .ok (.aload_n 0, 1) := by decide +kernel
theorem dX11_pass_48 : decode cX11_pass 48 = .ok (.invokevirtual 208, 3) := by decide +kernel
theorem dX11_pass_51 : decode cX11_pass 51 = .ok (.iinc 2 1, 3) := by decide +kernel
theorem dX11_pass_54 : decode cX11_pass 54 = .ok (.goto (-12), 3) := by decide +kernel
theorem dX11_pass_57 : decode cX11_pass 57 = .ok (.aload_n 0, 1) := by decide +kernel
theorem dX11_pass_58 : decode cX11_pass 58 = .ok (.getfield 120, 3) := by decide +kernel
theorem dX11_pass_61 : decode cX11_pass 61 = .ok (.ireturn, 1) := by decide +kernel
theorem dX11_now_0 : decode cX11_now 0 = .ok (.aload_n 0, 1) := by decide +kernel
theorem dX11_now_1 : decode cX11_now 1 = .ok (.iconst 0, 1) := by decide +kernel
theorem dX11_now_2 : decode cX11_now 2 = .ok (.putfield 103, 3) := by decide +kernel
theorem dX11_now_5 : decode cX11_now 5 = .ok (.aload_n 0, 1) := by decide +kernel
theorem dX11_now_6 : decode cX11_now 6 = .ok (.getfield 120, 3) := by decide +kernel
theorem dX11_now_9 : decode cX11_now 9 = .ok (.ireturn, 1) := by decide +kernel
theorem dX11_sea_0 : decode cX11_sea 0 = .ok (.aload_n 0, 1) := by decide +kernel
theorem dX11_sea_1 : decode cX11_sea 1 = .ok (.iload_n 1, 1) := by decide +kernel
theorem dX11_sea_2 : decode cX11_sea 2 = .ok (.iconst 0, 1) := by decide +kernel
theorem dX11_sea_3 : decode cX11_sea 3 = .ok (.sipush 2000, 3) := by decide +kernel
theorem dX11_sea_6 : decode cX11_sea 6 = .ok (.invokestatic 109, 3) := by decide +kernel
theorem dX11_sea_9 : decode cX11_sea 9 = .ok (.ifCond .eq 7, 3) := by decide +kernel
theorem dX11_sea_12 : decode cX11_sea 12 = .ok (.iconst 0, 1) := by decide +kernel
theorem dX11_sea_13 : decode cX11_sea 13 = .ok (.goto 4, 3) := by decide +kernel
theorem dX11_sea_16 : decode cX11_sea 16 = .ok (.iconst 1, 1) := by decide +kernel
theorem dX11_sea_17 : decode cX11_sea 17 = .ok (.invokevirtual 116, 3) := by decide +kernel
theorem dX11_sea_20 : decode cX11_sea 20 = .ok (.ifCond .eq 11, 3) := by decide +kernel
theorem dX11_sea_23 : decode cX11_sea 23 = .ok (.aload_n 0, 1) := by decide +kernel
theorem dX11_sea_24 : decode cX11_sea 24 = .ok (.iload_n 1, 1) := by decide +kernel
theorem dX11_sea_25 : decode cX11_sea 25 = .ok (.invokevirtual 169, 3) := by decide +kernel
theorem dX11_sea_28 : decode cX11_sea 28 = .ok (.goto 4, 3) := by decide +kernel
theorem dX11_sea_31 : decode cX11_sea 31 = .ok (.iconst 0, 1) := by decide +kernel
theorem dX11_sea_32 : decode cX11_sea 32 = .ok (.ireturn, 1) := by decide +kernel
theorem dX11_ofSection_0 : decode cX11_ofSection 0 = .ok (.aload_n 0, 1) := by decide +kernel
theorem dX11_ofSection_1 : decode cX11_ofSection 1 = .ok (.aload_n 0, 1) := by decide +kernel
theorem dX11_ofSection_2 : decode cX11_ofSection 2 = .ok (.iload_n 1, 1) := by decide +kernel
theorem dX11_ofSection_3 : decode cX11_ofSection 3 = .ok (.invokevirtual 139, 3) := by decide +kernel
theorem dX11_ofSection_6 : decode cX11_ofSection 6 = .ok (.ifCond .ne 7, 3) := by decide +kernel
theorem dX11_ofSection_9 : decode cX11_ofSection 9 = .ok (.iconst 1, 1) := by decide +kernel
theorem dX11_ofSection_10 : decode cX11_ofSection 10 = .ok (.goto 18, 3) := by decide +kernel
theorem dX11_ofSection_13 : decode cX11_ofSection 13 = .ok (.iload_n 2, 1) := by decide +kernel
theorem dX11_ofSection_14 : decode cX11_ofSection 14 = .ok (.iconst 0, 1) := by decide +kernel
theorem dX11_ofSection_15 : decode cX11_ofSection 15 = .ok (.bipush 9, 2) := by decide +kernel
theorem dX11_ofSection_17 : decode cX11_ofSection 17 = .ok (.invokestatic 109, 3) := by decide +kernel
theorem dX11_ofSection_20 : decode cX11_ofSection 20 = .ok (.ifCond .eq 7, 3) := by decide +kernel
theorem dX11_ofSection_23 : decode cX11_ofSection 23 = .ok (.iconst 0, 1) := by decide +kernel
theorem dX11_ofSection_24 : decode cX11_ofSection 24 = .ok (.goto 4, 3) := by decide +kernel
theorem dX11_ofSection_27 : decode cX11_ofSection 27 = .ok (.iconst 2, 1) := by decide +kernel
theorem dX11_ofSection_28 : decode cX11_ofSection 28 = .ok (.invokevirtual 116, 3) := by decide +kernel
theorem dX11_ofSection_31 : decode cX11_ofSection 31 = .ok (.ifCond .ne 5, 3) := by decide +kernel
theorem dX11_ofSection_34 : decode cX11_ofSection 34 = .ok (.iconst 0, 1) := by decide +kernel
theorem dX11_ofSection_35 : decode cX11_ofSection 35 = .ok (.ireturn, 1) := by decide +kernel
theorem dX11_ofSection_36 : decode cX11_ofSection 36 = .ok (.iload_n 2, 1) := by decide +kernel
theorem dX11_ofSection_37 : decode cX11_ofSection 37 = .ok (.iconst 4, 1) := by decide +kernel
theorem dX11_ofSection_38 : decode cX11_ofSection 38 = .ok (.if_icmp .ge 39, 3) := by decide +kernel
theorem dX11_ofSection_41 : decode cX11_ofSection 41 = .ok (.iload_n 2, 1) := by decide +kernel
theorem dX11_ofSection_42 : decode cX11_ofSection 42 = .ok (.iconst 2, 1) := by decide +kernel
theorem dX11_ofSection_43 : decode cX11_ofSection 43 = .ok (.if_icmp .ge 7, 3) := by decide +kernel
theorem dX11_ofSection_46 : decode cX11_ofSection 46 = .ok (.iload_n 1, 1) := by decide +kernel
theorem dX11_ofSection_47 : decode cX11_ofSection 47 = .ok (.goto 7, 3) := by decide +kernel
theorem dX11_ofSection_50 : decode cX11_ofSection 50 = .ok (.bipush 8, 2) := by decide +kernel
theorem dX11_ofSection_52 : decode cX11_ofSection 52 = .ok (.iload_n 1, 1) := by decide +kernel
theorem dX11_ofSection_53 : decode cX11_ofSection 53 = .ok (.iadd, 1) := by decide +kernel
theorem dX11_ofSection_54 : decode cX11_ofSection 54 = .ok (.istore_n 3, 1) := by decide +kernel
theorem dX11_ofSection_55 : decode cX11_ofSection 55 = .ok (.iload_n 2, 1) := by decide +kernel
theorem dX11_ofSection_56 : decode cX11_ofSection 56 = .ok (.iconst 2, 1) := by decide +kernel
theorem dX11_ofSection_57 : decode cX11_ofSection 57 = .ok (.irem, 1) := by decide +kernel
theorem dX11_ofSection_58 : decode cX11_ofSection 58 = .ok (.ifCond .ne 12, 3) := by decide +kernel
theorem dX11_ofSection_61 : decode cX11_ofSection 61 = .ok (.aload_n 0, 1) := by decide +kernel
theorem dX11_ofSection_62 : decode cX11_ofSection 62 = .ok (.getfield 51, 3) := by decide +kernel
theorem dX11_ofSection_65 : decode cX11_ofSection 65 = .ok (.iload_n 3, 1) := by decide +kernel
theorem dX11_ofSection_66 : decode cX11_ofSection 66 = .ok (.iaload, 1) := by decide +kernel
theorem dX11_ofSection_67 : decode cX11_ofSection 67 = .ok (.goto 9, 3) := by decide +kernel
theorem dX11_ofSection_70 : decode cX11_ofSection 70 = .ok (.aload_n 0, 1) := by decide +kernel
theorem dX11_ofSection_71 : decode cX11_ofSection 71 = .ok (.getfield 54, 3) := by decide +kernel
theorem dX11_ofSection_74 : decode cX11_ofSection 74 = .ok (.iload_n 3, 1) := by decide +kernel
theorem dX11_ofSection_75 : decode cX11_ofSection 75 = .ok (.iaload, 1) := by decide +kernel
theorem dX11_ofSection_76 : decode cX11_ofSection 76 = .ok (.ireturn, 1) := by decide +kernel
theorem dX11_ofSection_77 : decode cX11_ofSection 77 = .ok (.iload_n 2, 1) := by decide +kernel
theorem dX11_ofSection_78 : decode cX11_ofSection 78 = .ok (.bipush 7, 2) := by decide +kernel
theorem dX11_ofSection_80 : decode cX11_ofSection 80 = .ok (.if_icmp .ge 37, 3) := by decide +kernel
theorem dX11_ofSection_83 : decode cX11_ofSection 83 = .ok (.iload_n 2, 1) := by decide +kernel
theorem dX11_ofSection_84 : decode cX11_ofSection 84 = .ok (.iconst 4, 1) := by decide +kernel
theorem dX11_ofSection_85 : decode cX11_ofSection 85 = .ok (.if_icmp .ne 12, 3) := by decide +kernel
theorem dX11_ofSection_88 : decode cX11_ofSection 88 = .ok (.aload_n 0, 1) := by decide +kernel
theorem dX11_ofSection_89 : decode cX11_ofSection 89 = .ok (.getfield 42, 3) := by decide +kernel
theorem dX11_ofSection_92 : decode cX11_ofSection 92 = .ok (.iload_n 1, 1) := by decide +kernel
theorem dX11_ofSection_93 : decode cX11_ofSection 93 = .ok (.iaload, 1) := by decide +kernel
theorem dX11_ofSection_94 : decode cX11_ofSection 94 = .ok (.goto 22, 3) := by decide +kernel
theorem dX11_ofSection_97 : decode cX11_ofSection 97 = .ok (.iload_n 2, 1) := by decide +kernel
theorem dX11_ofSection_98 : decode cX11_ofSection 98 = .ok (.iconst 5, 1) := by decide +kernel
theorem dX11_ofSection_99 : decode cX11_ofSection 99 = .ok (.if_icmp .ne 12, 3) := by decide +kernel
theorem dX11_ofSection_102 : decode cX11_ofSection 102 = .ok (.aload_n 0, 1) := by decide +kernel
theorem dX11_ofSection_103 : decode cX11_ofSection 103 = .ok (.getfield 39, 3) := by decide +kernel
theorem dX11_ofSection_106 : decode cX11_ofSection 106 = .ok (.iload_n 1, 1) := by decide +kernel
theorem dX11_ofSection_107 : decode cX11_ofSection 107 = .ok (.iaload, 1) := by decide +kernel
theorem dX11_ofSection_108 : decode cX11_ofSection 108 = .ok (.goto 8, 3) := by decide +kernel
theorem dX11_ofSection_111 : decode cX11_ofSection 111 = .ok (.aload_n 0, 1) := by decide +kernel
theorem dX11_ofSection_112 : decode cX11_ofSection 112 = .ok (.iload_n 1, 1) := by decide +kernel
theorem dX11_ofSection_113 : decode cX11_ofSection 113 = .ok (.invokevirtual 175, 3) := by decide +kernel
theorem dX11_ofSection_116 : decode cX11_ofSection 116 = .ok (.ireturn, 1) := by decide +kernel
theorem dX11_ofSection_117 : decode cX11_ofSection 117 = .ok (.iload_n 2, 1) := by decide +kernel
theorem dX11_ofSection_118 : decode cX11_ofSection 118 = .ok (.bipush 9, 2) := by decide +kernel
theorem dX11_ofSection_120 : decode cX11_ofSection 120 = .ok (.if_icmp .ne 12, 3) := by decide +kernel
theorem dX11_ofSection_123 : decode cX11_ofSection 123 = .ok (.aload_n 0, 1) := by decide +kernel
theorem dX11_ofSection_124 : decode cX11_ofSection 124 = .ok (.getfield 45, 3) := by decide +kernel
theorem dX11_ofSection_127 : decode cX11_ofSection 127 = .ok (.iload_n 1, 1) := by decide +kernel
theorem dX11_ofSection_128 : decode cX11_ofSection 128 = .ok (.iaload, 1) := by decide +kernel
theorem dX11_ofSection_129 : decode cX11_ofSection 129 = .ok (.goto 19, 3) := by decide +kernel
theorem dX11_ofSection_132 : decode cX11_ofSection 132 = .ok (.aload_n 0, 1) := by decide +kernel
theorem dX11_ofSection_133 : decode cX11_ofSection 133 = .ok (.iload_n 2, 1) := by decide +kernel
theorem dX11_ofSection_134 : decode cX11_ofSection 134 = .ok (.bipush 7, 2) := by decide +kernel
theorem dX11_ofSection_136 : decode cX11_ofSection 136 = .ok (.if_icmp .ne 7, 3) := by decide +kernel
theorem dX11_ofSection_139 : decode cX11_ofSection 139 = .ok (.iconst 0, 1) := by decide +kernel
theorem dX11_ofSection_140 : decode cX11_ofSection 140 = .ok (.goto 4, 3) := by decide +kernel
theorem dX11_ofSection_143 : decode cX11_ofSection 143 = .ok (.iconst 1, 1) := by decide +kernel
theorem dX11_ofSection_144 : decode cX11_ofSection 144 = .ok (.iload_n 1, 1) := by decide +kernel
theorem dX11_ofSection_145 : decode cX11_ofSection 145 = .ok (.invokevirtual 182, 3) := by decide +kernel
theorem dX11_ofSection_148 : decode cX11_ofSection 148 = .ok (.ireturn, 1) := by decide +kernel
theorem dX11_ofSectionAnew_0 : decode cX11_ofSectionAnew 0 = .ok (.aload_n 0, 1) := by decide +kernel
theorem dX11_ofSectionAnew_1 : decode cX11_ofSectionAnew 1 = .ok (.iload_n 1, 1) := by decide +kernel
theorem dX11_ofSectionAnew_2 : decode cX11_ofSectionAnew 2 = .ok (.iload_n 2, 1) := by decide +kernel
theorem dX11_ofSectionAnew_3 : decode cX11_ofSectionAnew 3 = .ok (.invokevirtual 211, 3) := by decide +kernel
theorem dX11_ofSectionAnew_6 : decode cX11_ofSectionAnew 6 = .ok (.ireturn, 1) := by decide +kernel
theorem dX11_ofIntake_0 : decode cX11_ofIntake 0 = .ok (.aload_n 0, 1) := by decide +kernel
theorem dX11_ofIntake_1 : decode cX11_ofIntake 1 = .ok (.iload_n 1, 1) := by decide +kernel
theorem dX11_ofIntake_2 : decode cX11_ofIntake 2 = .ok (.iconst 0, 1) := by decide +kernel
theorem dX11_ofIntake_3 : decode cX11_ofIntake 3 = .ok (.aload_n 0, 1) := by decide +kernel
theorem dX11_ofIntake_4 : decode cX11_ofIntake 4 = .ok (.getfield 142, 3) := by decide +kernel
theorem dX11_ofIntake_7 : decode cX11_ofIntake 7 = .ok (.iconst 1, 1) := by decide +kernel
theorem dX11_ofIntake_8 : decode cX11_ofIntake 8 = .ok (.isub, 1) := by decide +kernel
theorem dX11_ofIntake_9 : decode cX11_ofIntake 9 = .ok (.invokestatic 109, 3) := by decide +kernel
theorem dX11_ofIntake_12 : decode cX11_ofIntake 12 = .ok (.ifCond .ne 7, 3) := by decide +kernel
theorem dX11_ofIntake_15 : decode cX11_ofIntake 15 = .ok (.iconst 1, 1) := by decide +kernel
theorem dX11_ofIntake_16 : decode cX11_ofIntake 16 = .ok (.goto 17, 3) := by decide +kernel
theorem dX11_ofIntake_19 : decode cX11_ofIntake 19 = .ok (.iload_n 2, 1) := by decide +kernel
theorem dX11_ofIntake_20 : decode cX11_ofIntake 20 = .ok (.iconst 0, 1) := by decide +kernel
theorem dX11_ofIntake_21 : decode cX11_ofIntake 21 = .ok (.iconst 4, 1) := by decide +kernel
theorem dX11_ofIntake_22 : decode cX11_ofIntake 22 = .ok (.invokestatic 109, 3) := by decide +kernel
theorem dX11_ofIntake_25 : decode cX11_ofIntake 25 = .ok (.ifCond .eq 7, 3) := by decide +kernel
theorem dX11_ofIntake_28 : decode cX11_ofIntake 28 = .ok (.iconst 0, 1) := by decide +kernel
theorem dX11_ofIntake_29 : decode cX11_ofIntake 29 = .ok (.goto 4, 3) := by decide +kernel
theorem dX11_ofIntake_32 : decode cX11_ofIntake 32 = .ok (.iconst 2, 1) := by decide +kernel
theorem dX11_ofIntake_33 : decode cX11_ofIntake 33 = .ok (.invokevirtual 116, 3) := by decide +kernel
theorem dX11_ofIntake_36 : decode cX11_ofIntake 36 = .ok (.ifCond .ne 5, 3) := by decide +kernel
theorem dX11_ofIntake_39 : decode cX11_ofIntake 39 = .ok (.iconst 0, 1) := by decide +kernel
theorem dX11_ofIntake_40 : decode cX11_ofIntake 40 = .ok (.ireturn, 1) := by decide +kernel
theorem dX11_ofIntake_41 : decode cX11_ofIntake 41 = .ok (.iload_n 2, 1) := by decide +kernel
theorem dX11_ofIntake_42 : decode cX11_ofIntake 42 = .ok (.iconst 3, 1) := by decide +kernel
theorem dX11_ofIntake_43 : decode cX11_ofIntake 43 = .ok (.if_icmp .ge 37, 3) := by decide +kernel
theorem dX11_ofIntake_46 : decode cX11_ofIntake 46 = .ok (.iload_n 2, 1) := by decide +kernel
theorem dX11_ofIntake_47 : decode cX11_ofIntake 47 = .ok (.ifCond .ne 12, 3) := by decide +kernel
theorem dX11_ofIntake_50 : decode cX11_ofIntake 50 = .ok (.aload_n 0, 1) := by decide +kernel
theorem dX11_ofIntake_51 : decode cX11_ofIntake 51 = .ok (.getfield 75, 3) := by decide +kernel
theorem dX11_ofIntake_54 : decode cX11_ofIntake 54 = .ok (.iload_n 1, 1) := by decide +kernel
theorem dX11_ofIntake_55 : decode cX11_ofIntake 55 = .ok (.iaload, 1) := by decide +kernel
theorem dX11_ofIntake_56 : decode cX11_ofIntake 56 = .ok (.goto 23, 3) := by decide +kernel
theorem dX11_ofIntake_59 : decode cX11_ofIntake 59 = .ok (.iload_n 2, 1) := by decide +kernel
theorem dX11_ofIntake_60 : decode cX11_ofIntake 60 = .ok (.iconst 1, 1) := by decide +kernel
theorem dX11_ofIntake_61 : decode cX11_ofIntake 61 = .ok (.if_icmp .ne 12, 3) := by decide +kernel
theorem dX11_ofIntake_64 : decode cX11_ofIntake 64 = .ok (.aload_n 0, 1) := by decide +kernel
theorem dX11_ofIntake_65 : decode cX11_ofIntake 65 = .ok (.getfield 78, 3) := by decide +kernel
theorem dX11_ofIntake_68 : decode cX11_ofIntake 68 = .ok (.iload_n 1, 1) := by decide +kernel
theorem dX11_ofIntake_69 : decode cX11_ofIntake 69 = .ok (.iaload, 1) := by decide +kernel
theorem dX11_ofIntake_70 : decode cX11_ofIntake 70 = .ok (.goto 9, 3) := by decide +kernel
theorem dX11_ofIntake_73 : decode cX11_ofIntake 73 = .ok (.aload_n 0, 1) := by decide +kernel
theorem dX11_ofIntake_74 : decode cX11_ofIntake 74 = .ok (.getfield 81, 3) := by decide +kernel
theorem dX11_ofIntake_77 : decode cX11_ofIntake 77 = .ok (.iload_n 1, 1) := by decide +kernel
theorem dX11_ofIntake_78 : decode cX11_ofIntake 78 = .ok (.iaload, 1) := by decide +kernel
theorem dX11_ofIntake_79 : decode cX11_ofIntake 79 = .ok (.ireturn, 1) := by decide +kernel
theorem dX11_ofIntake_80 : decode cX11_ofIntake 80 = .ok (.iload_n 2, 1) := by decide +kernel
theorem dX11_ofIntake_81 : decode cX11_ofIntake 81 = .ok (.iconst 4, 1) := by decide +kernel
theorem dX11_ofIntake_82 : decode cX11_ofIntake 82 = .ok (.if_icmp .ne 12, 3) := by decide +kernel
theorem dX11_ofIntake_85 : decode cX11_ofIntake 85 = .ok (.aload_n 0, 1) := by decide +kernel
theorem dX11_ofIntake_86 : decode cX11_ofIntake 86 = .ok (.getfield 84, 3) := by decide +kernel
theorem dX11_ofIntake_89 : decode cX11_ofIntake 89 = .ok (.iload_n 1, 1) := by decide +kernel
theorem dX11_ofIntake_90 : decode cX11_ofIntake 90 = .ok (.iaload, 1) := by decide +kernel
theorem dX11_ofIntake_91 : decode cX11_ofIntake 91 = .ok (.goto 17, 3) := by decide +kernel
theorem dX11_ofIntake_94 : decode cX11_ofIntake 94 = .ok (.aload_n 0, 1) := by decide +kernel
theorem dX11_ofIntake_95 : decode cX11_ofIntake 95 = .ok (.getfield 87, 3) := by decide +kernel
theorem dX11_ofIntake_98 : decode cX11_ofIntake 98 = .ok (.iload_n 1, 1) := by decide +kernel
theorem dX11_ofIntake_99 : decode cX11_ofIntake 99 = .ok (.baload, 1) := by decide +kernel
theorem dX11_ofIntake_100 : decode cX11_ofIntake 100 = .ok (.ifCond .eq 7, 3) := by decide +kernel
theorem dX11_ofIntake_103 : decode cX11_ofIntake 103 = .ok (.iconst 1, 1) := by decide +kernel
theorem dX11_ofIntake_104 : decode cX11_ofIntake 104 = .ok (.goto 4, 3) := by decide +kernel
theorem dX11_ofIntake_107 : decode cX11_ofIntake 107 = .ok (.iconst 0, 1) := by decide +kernel
theorem dX11_ofIntake_108 : decode cX11_ofIntake 108 = .ok (.ireturn, 1) := by decide +kernel
theorem dX11_isClosed_0 : decode cX11_isClosed 0 = .ok (.aload_n 0, 1) := by decide +kernel
theorem dX11_isClosed_1 : decode cX11_isClosed 1 = .ok (.iload_n 1, 1) := by decide +kernel
theorem dX11_isClosed_2 : decode cX11_isClosed 2 = .ok (.iconst 0, 1) := by decide +kernel
theorem dX11_isClosed_3 : decode cX11_isClosed 3 = .ok (.aload_n 0, 1) := by decide +kernel
theorem dX11_isClosed_4 : decode cX11_isClosed 4 = .ok (.getfield 145, 3) := by decide +kernel
theorem dX11_isClosed_7 : decode cX11_isClosed 7 = .ok (.iconst 1, 1) := by decide +kernel
theorem dX11_isClosed_8 : decode cX11_isClosed 8 = .ok (.isub, 1) := by decide +kernel
theorem dX11_isClosed_9 : decode cX11_isClosed 9 = .ok (.invokestatic 109, 3) := by decide +kernel
theorem dX11_isClosed_12 : decode cX11_isClosed 12 = .ok (.ifCond .eq 7, 3) := by decide +kernel
theorem dX11_isClosed_15 : decode cX11_isClosed 15 = .ok (.iconst 0, 1) := by decide +kernel
theorem dX11_isClosed_16 : decode cX11_isClosed 16 = .ok (.goto 4, 3) := by decide +kernel
theorem dX11_isClosed_19 : decode cX11_isClosed 19 = .ok (.iconst 1, 1) := by decide +kernel
theorem dX11_isClosed_20 : decode cX11_isClosed 20 = .ok (.invokevirtual 116, 3) := by decide +kernel
theorem dX11_isClosed_23 : decode cX11_isClosed 23 = .ok (.ifCond .ne 5, 3) := by decide +kernel
theorem dX11_isClosed_26 : decode cX11_isClosed 26 = .ok (.iconst 0, 1) := by decide +kernel
theorem dX11_isClosed_27 : decode cX11_isClosed 27 = .ok (.ireturn, 1) := by decide +kernel
theorem dX11_isClosed_28 : decode cX11_isClosed 28 = .ok (.iconst 0, 1) := by decide +kernel
theorem dX11_isClosed_29 : decode cX11_isClosed 29 = .ok (.istore_n 2, 1) := by decide +kernel
theorem dX11_isClosed_30 : decode cX11_isClosed 30 = .ok (.aload_n 0, 1) := by decide +kernel
theorem dX11_isClosed_31 : decode cX11_isClosed 31 = .ok (.getfield 120, 3) := by decide +kernel
theorem dX11_isClosed_34 : decode cX11_isClosed 34 = .ok (.aload_n 0, 1) := by decide +kernel
theorem dX11_isClosed_35 : decode cX11_isClosed 35 = .ok (.getfield 96, 3) := by decide +kernel
theorem dX11_isClosed_38 : decode cX11_isClosed 38 = .ok (.iload_n 1, 1) := by decide +kernel
theorem dX11_isClosed_39 : decode cX11_isClosed 39 = .ok (.iaload, 1) := by decide +kernel
theorem dX11_isClosed_40 : decode cX11_isClosed 40 = .ok (.isub, 1) := by decide +kernel
theorem dX11_isClosed_41 : decode cX11_isClosed 41 = .ok (.istore_n 3, 1) := by decide +kernel
theorem dX11_isClosed_42 : decode cX11_isClosed 42 = .ok (.iload_n 3, 1) := by decide +kernel
theorem dX11_isClosed_43 : decode cX11_isClosed 43 = .ok (.aload_n 0, 1) := by decide +kernel
theorem dX11_isClosed_44 : decode cX11_isClosed 44 = .ok (.getfield 120, 3) := by decide +kernel
theorem dX11_isClosed_47 : decode cX11_isClosed 47 = .ok (.if_icmp .ge 49, 3) := by decide +kernel
theorem dX11_isClosed_50 : decode cX11_isClosed 50 = .ok (.iload_n 2, 1) := by decide +kernel
theorem dX11_isClosed_51 : decode cX11_isClosed 51 = .ok (.ifCond .ne 33, 3) := by decide +kernel
theorem dX11_isClosed_54 : decode cX11_isClosed 54 = .ok (.iload_n 3, 1) := by decide +kernel
theorem dX11_isClosed_55 : decode cX11_isClosed 55 = .ok (.ifCond .lt 33, 3) := by decide +kernel
theorem dX11_isClosed_58 : decode cX11_isClosed 58 = .ok (.aload_n 0, 1) := by decide +kernel
theorem dX11_isClosed_59 : decode cX11_isClosed 59 = .ok (.getfield 57, 3) := by decide +kernel
theorem dX11_isClosed_62 : decode cX11_isClosed 62 = .ok (.sipush 1001, 3) := by decide +kernel
theorem dX11_isClosed_65 : decode cX11_isClosed 65 = .ok (.aload_n 0, 1) := by decide +kernel
theorem dX11_isClosed_66 : decode cX11_isClosed 66 = .ok (.getfield 90, 3) := by decide +kernel
theorem dX11_isClosed_69 : decode cX11_isClosed 69 = .ok (.iload_n 1, 1) := by decide +kernel
theorem dX11_isClosed_70 : decode cX11_isClosed 70 = .ok (.iaload, 1) := by decide +kernel
theorem dX11_isClosed_71 : decode cX11_isClosed 71 = .ok (.imul, 1) := by decide +kernel
theorem dX11_isClosed_72 : decode cX11_isClosed 72 = .ok (.iload_n 3, 1) := by decide +kernel
theorem dX11_isClosed_73 : decode cX11_isClosed 73 = .ok (.iadd, 1) := by decide +kernel
theorem dX11_isClosed_74 : decode cX11_isClosed 74 = .ok (.iaload, 1) := by decide +kernel
theorem dX11_isClosed_75 : decode cX11_isClosed 75 = .ok (.aload_n 0, 1) := by decide +kernel
theorem dX11_isClosed_76 : decode cX11_isClosed 76 = .ok (.getfield 93, 3) := by decide +kernel
theorem dX11_isClosed_79 : decode cX11_isClosed 79 = .ok (.iload_n 1, 1) := by decide +kernel
theorem dX11_isClosed_80 : decode cX11_isClosed 80 = .ok (.iaload, 1) := by decide +kernel
theorem dX11_isClosed_81 : decode cX11_isClosed 81 = .ok (.if_icmp .ge 7, 3) := by decide +kernel
theorem dX11_isClosed_84 : decode cX11_isClosed 84 = .ok (.iconst 1, 1) := by decide +kernel
theorem dX11_isClosed_85 : decode cX11_isClosed 85 = .ok (.goto 4, 3) := by decide +kernel
theorem dX11_isClosed_88 : decode cX11_isClosed 88 = .ok (.iconst 0, 1) := by decide +kernel
theorem dX11_isClosed_89 : decode cX11_isClosed 89 = .ok (.istore_n 2, 1) := by decide +kernel
theorem dX11_isClosed_90 : decode cX11_isClosed 90 = .ok (.iinc 3 1, 3) := by decide +kernel
theorem dX11_isClosed_93 : decode cX11_isClosed 93 = .ok (.goto (-51), 3) := by decide +kernel
theorem dX11_isClosed_96 : decode cX11_isClosed 96 = .ok (.iload_n 2, 1) := by decide +kernel
theorem dX11_isClosed_97 : decode cX11_isClosed 97 = .ok (.ireturn, 1) := by decide +kernel
theorem dX11_closures_0 : decode cX11_closures 0 = .ok (.aload_n 0, 1) := by decide +kernel
theorem dX11_closures_1 : decode cX11_closures 1 = .ok (.iconst 0, 1) := by decide +kernel
theorem dX11_closures_2 : decode cX11_closures 2 = .ok (.putfield 103, 3) := by decide +kernel
theorem dX11_closures_5 : decode cX11_closures 5 = .ok (.aload_n 0, 1) := by decide +kernel
theorem dX11_closures_6 : decode cX11_closures 6 = .ok (.getfield 172, 3) := by decide +kernel
theorem dX11_closures_9 : decode cX11_closures 9 = .ok (.ireturn, 1) := by decide +kernel
theorem dX11_closure_0 : decode cX11_closure 0 = .ok (.aload_n 0, 1) := by decide +kernel
theorem dX11_closure_1 : decode cX11_closure 1 = .ok (.iload_n 1, 1) := by decide +kernel
theorem dX11_closure_2 : decode cX11_closure 2 = .ok (.iconst 0, 1) := by decide +kernel
theorem dX11_closure_3 : decode cX11_closure 3 = .ok (.aload_n 0, 1) := by decide +kernel
theorem dX11_closure_4 : decode cX11_closure 4 = .ok (.getfield 172, 3) := by decide +kernel
theorem dX11_closure_7 : decode cX11_closure 7 = .ok (.iconst 1, 1) := by decide +kernel
theorem dX11_closure_8 : decode cX11_closure 8 = .ok (.isub, 1) := by decide +kernel
theorem dX11_closure_9 : decode cX11_closure 9 = .ok (.invokestatic 109, 3) := by decide +kernel
theorem dX11_closure_12 : decode cX11_closure 12 = .ok (.ifCond .ne 7, 3) := by decide +kernel
theorem dX11_closure_15 : decode cX11_closure 15 = .ok (.iconst 1, 1) := by decide +kernel
theorem dX11_closure_16 : decode cX11_closure 16 = .ok (.goto 17, 3) := by decide +kernel
theorem dX11_closure_19 : decode cX11_closure 19 = .ok (.iload_n 2, 1) := by decide +kernel
theorem dX11_closure_20 : decode cX11_closure 20 = .ok (.iconst 0, 1) := by decide +kernel
theorem dX11_closure_21 : decode cX11_closure 21 = .ok (.iconst 2, 1) := by decide +kernel
theorem dX11_closure_22 : decode cX11_closure 22 = .ok (.invokestatic 109, 3) := by decide +kernel
theorem dX11_closure_25 : decode cX11_closure 25 = .ok (.ifCond .eq 7, 3) := by decide +kernel
theorem dX11_closure_28 : decode cX11_closure 28 = .ok (.iconst 0, 1) := by decide +kernel
theorem dX11_closure_29 : decode cX11_closure 29 = .ok (.goto 4, 3) := by decide +kernel
theorem dX11_closure_32 : decode cX11_closure 32 = .ok (.iconst 2, 1) := by decide +kernel
theorem dX11_closure_33 : decode cX11_closure 33 = .ok (.invokevirtual 116, 3) := by decide +kernel
theorem dX11_closure_36 : decode cX11_closure 36 = .ok (.ifCond .ne 5, 3) := by decide +kernel
theorem dX11_closure_39 : decode cX11_closure 39 = .ok (.iconst 0, 1) := by decide +kernel
theorem dX11_closure_40 : decode cX11_closure 40 = .ok (.ireturn, 1) := by decide +kernel
theorem dX11_closure_41 : decode cX11_closure 41 = .ok (.iload_n 2, 1) := by decide +kernel
theorem dX11_closure_42 : decode cX11_closure 42 = .ok (.ifCond .ne 12, 3) := by decide +kernel
theorem dX11_closure_45 : decode cX11_closure 45 = .ok (.aload_n 0, 1) := by decide +kernel
theorem dX11_closure_46 : decode cX11_closure 46 = .ok (.getfield 26, 3) := by decide +kernel
theorem dX11_closure_49 : decode cX11_closure 49 = .ok (.iload_n 1, 1) := by decide +kernel
theorem dX11_closure_50 : decode cX11_closure 50 = .ok (.iaload, 1) := by decide +kernel
theorem dX11_closure_51 : decode cX11_closure 51 = .ok (.goto 31, 3) := by decide +kernel
theorem dX11_closure_54 : decode cX11_closure 54 = .ok (.iload_n 2, 1) := by decide +kernel
theorem dX11_closure_55 : decode cX11_closure 55 = .ok (.iconst 1, 1) := by decide +kernel
theorem dX11_closure_56 : decode cX11_closure 56 = .ok (.if_icmp .ne 12, 3) := by decide +kernel
theorem dX11_closure_59 : decode cX11_closure 59 = .ok (.aload_n 0, 1) := by decide +kernel
theorem dX11_closure_60 : decode cX11_closure 60 = .ok (.getfield 29, 3) := by decide +kernel
theorem dX11_closure_63 : decode cX11_closure 63 = .ok (.iload_n 1, 1) := by decide +kernel
theorem dX11_closure_64 : decode cX11_closure 64 = .ok (.iaload, 1) := by decide +kernel
theorem dX11_closure_65 : decode cX11_closure 65 = .ok (.goto 17, 3) := by decide +kernel
theorem dX11_closure_68 : decode cX11_closure 68 = .ok (.aload_n 0, 1) := by decide +kernel
theorem dX11_closure_69 : decode cX11_closure 69 = .ok (.getfield 32, 3) := by decide +kernel
theorem dX11_closure_72 : decode cX11_closure 72 = .ok (.iload_n 1, 1) := by decide +kernel
theorem dX11_closure_73 : decode cX11_closure 73 = .ok (.baload, 1) := by decide +kernel
theorem dX11_closure_74 : decode cX11_closure 74 = .ok (.ifCond .eq 7, 3) := by decide +kernel
theorem dX11_closure_77 : decode cX11_closure 77 = .ok (.iconst 1, 1) := by decide +kernel
theorem dX11_closure_78 : decode cX11_closure 78 = .ok (.goto 4, 3) := by decide +kernel
theorem dX11_closure_81 : decode cX11_closure 81 = .ok (.iconst 0, 1) := by decide +kernel
theorem dX11_closure_82 : decode cX11_closure 82 = .ok (.ireturn, 1) := by decide +kernel
theorem dX11_intrusion_0 : decode cX11_intrusion 0 = .ok (.aload_n 0, 1) := by decide +kernel
theorem dX11_intrusion_1 : decode cX11_intrusion 1 = .ok (.iload_n 1, 1) := by decide +kernel
theorem dX11_intrusion_2 : decode cX11_intrusion 2 = .ok (.iconst 1, 1) := by decide +kernel
theorem dX11_intrusion_3 : decode cX11_intrusion 3 = .ok (.bipush 30, 2) := by decide +kernel
theorem dX11_intrusion_5 : decode cX11_intrusion 5 = .ok (.invokestatic 109, 3) := by decide +kernel
theorem dX11_intrusion_8 : decode cX11_intrusion 8 = .ok (.ifCond .eq 7, 3) := by decide +kernel
theorem dX11_intrusion_11 : decode cX11_intrusion 11 = .ok (.iconst 0, 1) := by decide +kernel
theorem dX11_intrusion_12 : decode cX11_intrusion 12 = .ok (.goto 4, 3) := by decide +kernel
theorem dX11_intrusion_15 : decode cX11_intrusion 15 = .ok (.iconst 1, 1) := by decide +kernel
theorem dX11_intrusion_16 : decode cX11_intrusion 16 = .ok (.invokevirtual 116, 3) := by decide +kernel
theorem dX11_intrusion_19 : decode cX11_intrusion 19 = .ok (.ifCond .ne 5, 3) := by decide +kernel
theorem dX11_intrusion_22 : decode cX11_intrusion 22 = .ok (.iconst 0, 1) := by decide +kernel
theorem dX11_intrusion_23 : decode cX11_intrusion 23 = .ok (.ireturn, 1) := by decide +kernel
theorem dX11_intrusion_24 : decode cX11_intrusion 24 = .ok (.iconst 0, 1) := by decide +kernel
theorem dX11_intrusion_25 : decode cX11_intrusion 25 = .ok (.istore_n 2, 1) := by decide +kernel
theorem dX11_intrusion_26 : decode cX11_intrusion 26 = .ok (.iload_n 2, 1) := by decide +kernel
theorem dX11_intrusion_27 : decode cX11_intrusion 27 = .ok (.aload_n 0, 1) := by decide +kernel
theorem dX11_intrusion_28 : decode cX11_intrusion 28 = .ok (.getfield 106, 3) := by decide +kernel
theorem dX11_intrusion_31 : decode cX11_intrusion 31 = .ok (.if_icmp .ge 19, 3) := by decide +kernel
theorem dX11_intrusion_34 : decode cX11_intrusion 34 = .ok (.aload_n 0, 1) := by decide +kernel
theorem dX11_intrusion_35 : decode cX11_intrusion 35 = .ok (.iconst 1, 1) := by decide +kernel
theorem dX11_intrusion_36 : decode cX11_intrusion 36 = .ok (.iload_n 2, 1) := by decide +kernel
theorem dX11_intrusion_37 : decode cX11_intrusion 37 = .ok (.invokevirtual 182, 3) := by decide +kernel
theorem dX11_intrusion_40 : decode cX11_intrusion 40 = .ok (.iload_n 1, 1) := by decide +kernel
theorem dX11_intrusion_41 : decode cX11_intrusion 41 = .ok (.if_icmp .lt 9, 3) := by decide +kernel
theorem dX11_intrusion_44 : decode cX11_intrusion 44 = .ok (.iinc 2 1, 3) := by decide +kernel
theorem dX11_intrusion_47 : decode cX11_intrusion 47 = .ok (.goto (-21), 3) := by decide +kernel
theorem dX11_intrusion_50 : decode cX11_intrusion 50 = .ok (.iload_n 2, 1) := by decide +kernel
theorem dX11_intrusion_51 : decode cX11_intrusion 51 = .ok (.ireturn, 1) := by decide +kernel
theorem dX11_window_0 : decode cX11_window 0 = .ok (.iload_n 1, 1) := by decide +kernel
theorem dX11_window_1 : decode cX11_window 1 = .ok (.iconst 1, 1) := by decide +kernel
theorem dX11_window_2 : decode cX11_window 2 = .ok (.sipush 200, 3) := by decide +kernel
theorem dX11_window_5 : decode cX11_window 5 = .ok (.invokestatic 109, 3) := by decide +kernel
theorem dX11_window_8 : decode cX11_window 8 = .ok (.ifCond .eq 17, 3) := by decide +kernel
theorem dX11_window_11 : decode cX11_window 11 = .ok (.iload_n 2, 1) := by decide +kernel
theorem dX11_window_12 : decode cX11_window 12 = .ok (.iconst 1, 1) := by decide +kernel
theorem dX11_window_13 : decode cX11_window 13 = .ok (.bipush 24, 2) := by decide +kernel
theorem dX11_window_15 : decode cX11_window 15 = .ok (.invokestatic 109, 3) := by decide +kernel
theorem dX11_window_18 : decode cX11_window 18 = .ok (.ifCond .eq 7, 3) := by decide +kernel
theorem dX11_window_21 : decode cX11_window 21 = .ok (.iconst 1, 1) := by decide +kernel
theorem dX11_window_22 : decode cX11_window 22 = .ok (.goto 4, 3) := by decide +kernel
theorem dX11_window_25 : decode cX11_window 25 = .ok (.iconst 0, 1) := by decide +kernel
theorem dX11_window_26 : decode cX11_window 26 = .ok (.istore_n 3, 1) := by decide +kernel
theorem dX11_window_27 : decode cX11_window 27 = .ok (.aload_n 0, 1) := by decide +kernel
theorem dX11_window_28 : decode cX11_window 28 = .ok (.iload_n 3, 1) := by decide +kernel
theorem dX11_window_29 : decode cX11_window 29 = .ok (.ifCond .ne 7, 3) := by decide +kernel
theorem dX11_window_32 : decode cX11_window 32 = .ok (.iconst 1, 1) := by decide +kernel
theorem dX11_window_33 : decode cX11_window 33 = .ok (.goto 15, 3) := by decide +kernel
theorem dX11_window_36 : decode cX11_window 36 = .ok (.aload_n 0, 1) := by decide +kernel
theorem dX11_window_37 : decode cX11_window 37 = .ok (.getfield 106, 3) := by decide +kernel
theorem dX11_window_40 : decode cX11_window 40 = .ok (.ifCond .ne 7, 3) := by decide +kernel
theorem dX11_window_43 : decode cX11_window 43 = .ok (.iconst 2, 1) := by decide +kernel
theorem dX11_window_44 : decode cX11_window 44 = .ok (.goto 4, 3) := by decide +kernel
theorem dX11_window_47 : decode cX11_window 47 = .ok (.iconst 0, 1) := by decide +kernel
theorem dX11_window_48 : decode cX11_window 48 = .ok (.invokevirtual 116, 3) := by decide +kernel
theorem dX11_window_51 : decode cX11_window 51 = .ok (.ifCond .ne 5, 3) := by decide +kernel
theorem dX11_window_54 : decode cX11_window 54 = .ok (.iconst 0, 1) := by decide +kernel
theorem dX11_window_55 : decode cX11_window 55 = .ok (.ireturn, 1) := by decide +kernel
theorem dX11_window_56 : decode cX11_window 56 = .ok (.iconst 0, 1) := by decide +kernel
theorem dX11_window_57 : decode cX11_window 57 = .ok (.istore 4, 2) := by decide +kernel
theorem dX11_window_59 : decode cX11_window 59 = .ok (.aload_n 0, 1) := by decide +kernel
theorem dX11_window_60 : decode cX11_window 60 = .ok (.getfield 120, 3) := by decide +kernel
theorem dX11_window_63 : decode cX11_window 63 = .ok (.istore 5, 2) := by decide +kernel
theorem dX11_window_65 : decode cX11_window 65 = .ok (.iload 5, 2) := by decide +kernel
theorem dX11_window_67 : decode cX11_window 67 = .ok (.aload_n 0, 1) := by decide +kernel
theorem dX11_window_68 : decode cX11_window 68 = .ok (.getfield 120, 3) := by decide +kernel
theorem dX11_window_71 : decode cX11_window 71 = .ok (.bipush 100, 2) := by decide +kernel
theorem dX11_window_73 : decode cX11_window 73 = .ok (.iadd, 1) := by decide +kernel
theorem dX11_window_74 : decode cX11_window 74 = .ok (.iload_n 2, 1) := by decide +kernel
theorem dX11_window_75 : decode cX11_window 75 = .ok (.iadd, 1) := by decide +kernel
theorem dX11_window_76 : decode cX11_window 76 = .ok (.if_icmp .ge 48, 3) := by decide +kernel
theorem dX11_window_79 : decode cX11_window 79 = .ok (.aload_n 0, 1) := by decide +kernel
theorem dX11_window_80 : decode cX11_window 80 = .ok (.iload 5, 2) := by decide +kernel
theorem dX11_window_82 : decode cX11_window 82 = .ok (.invokevirtual 169, 3) := by decide +kernel
theorem dX11_window_85 : decode cX11_window 85 = .ok (.aload_n 0, 1) := by decide +kernel
theorem dX11_window_86 : decode cX11_window 86 = .ok (.iconst 0, 1) := by decide +kernel
theorem dX11_window_87 : decode cX11_window 87 = .ok (.invokevirtual 151, 3) := by decide +kernel
theorem dX11_window_90 : decode cX11_window 90 = .ok (.isub, 1) := by decide +kernel
theorem dX11_window_91 : decode cX11_window 91 = .ok (.iload_n 1, 1) := by decide +kernel
theorem dX11_window_92 : decode cX11_window 92 = .ok (.if_icmp .lt 10, 3) := by decide +kernel
theorem dX11_window_95 : decode cX11_window 95 = .ok (.iload 4, 2) := by decide +kernel
theorem dX11_window_97 : decode cX11_window 97 = .ok (.iconst 1, 1) := by decide +kernel
theorem dX11_window_98 : decode cX11_window 98 = .ok (.iadd, 1) := by decide +kernel
theorem dX11_window_99 : decode cX11_window 99 = .ok (.goto 4, 3) := by decide +kernel
theorem dX11_window_102 : decode cX11_window 102 = .ok (.iconst 0, 1) := by decide +kernel
theorem dX11_window_103 : decode cX11_window 103 = .ok (.istore 4, 2) := by decide +kernel
theorem dX11_window_105 : decode cX11_window 105 = .ok (.iload 4, 2) := by decide +kernel
theorem dX11_window_107 : decode cX11_window 107 = .ok (.iload_n 2, 1) := by decide +kernel
theorem dX11_window_108 : decode cX11_window 108 = .ok (.if_icmp .ne 10, 3) := by decide +kernel
theorem dX11_window_111 : decode cX11_window 111 = .ok (.iload 5, 2) := by decide +kernel
theorem dX11_window_113 : decode cX11_window 113 = .ok (.iload_n 2, 1) := by decide +kernel
theorem dX11_window_114 : decode cX11_window 114 = .ok (.isub, 1) := by decide +kernel
theorem dX11_window_115 : decode cX11_window 115 = .ok (.iconst 1, 1) := by decide +kernel
theorem dX11_window_116 : decode cX11_window 116 = .ok (.iadd, 1) := by decide +kernel
theorem dX11_window_117 : decode cX11_window 117 = .ok (.ireturn, 1) := by decide +kernel
theorem dX11_window_118 : decode cX11_window 118 = .ok (.iinc 5 1, 3) := by decide +kernel
theorem dX11_window_121 : decode cX11_window 121 = .ok (.goto (-56), 3) := by decide +kernel
theorem dX11_window_124 : decode cX11_window 124 = .ok (.iconst (-1), 1) := by decide +kernel
theorem dX11_window_125 : decode cX11_window 125 = .ok (.ireturn, 1) := by decide +kernel
theorem dX11_sum_0 : decode cX11_sum 0 = .ok (.aload_n 0, 1) := by decide +kernel
theorem dX11_sum_1 : decode cX11_sum 1 = .ok (.iload_n 1, 1) := by decide +kernel
theorem dX11_sum_2 : decode cX11_sum 2 = .ok (.iconst 0, 1) := by decide +kernel
theorem dX11_sum_3 : decode cX11_sum 3 = .ok (.bipush 9, 2) := by decide +kernel
theorem dX11_sum_5 : decode cX11_sum 5 = .ok (.invokestatic 109, 3) := by decide +kernel
theorem dX11_sum_8 : decode cX11_sum 8 = .ok (.ifCond .eq 7, 3) := by decide +kernel
theorem dX11_sum_11 : decode cX11_sum 11 = .ok (.iconst 0, 1) := by decide +kernel
theorem dX11_sum_12 : decode cX11_sum 12 = .ok (.goto 4, 3) := by decide +kernel
theorem dX11_sum_15 : decode cX11_sum 15 = .ok (.iconst 1, 1) := by decide +kernel
theorem dX11_sum_16 : decode cX11_sum 16 = .ok (.invokevirtual 116, 3) := by decide +kernel
theorem dX11_sum_19 : decode cX11_sum 19 = .ok (.ifCond .eq 12, 3) := by decide +kernel
theorem dX11_sum_22 : decode cX11_sum 22 = .ok (.aload_n 0, 1) := by decide +kernel
theorem dX11_sum_23 : decode cX11_sum 23 = .ok (.getfield 99, 3) := by decide +kernel
theorem dX11_sum_26 : decode cX11_sum 26 = .ok (.iload_n 1, 1) := by decide +kernel
theorem dX11_sum_27 : decode cX11_sum 27 = .ok (.laload, 1) := by decide +kernel
theorem dX11_sum_28 : decode cX11_sum 28 = .ok (.goto 4, 3) := by decide +kernel
theorem dX11_sum_31 : decode cX11_sum 31 = .ok (.lconst 0, 1) := by decide +kernel
theorem dX11_sum_32 : decode cX11_sum 32 = .ok (.lreturn, 1) := by decide +kernel
