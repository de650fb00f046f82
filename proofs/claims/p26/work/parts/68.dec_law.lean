theorem dL_draw_0 : decode cL_draw 0 = .ok (.iload_n 1, 1) := by decide +kernel
theorem dL_draw_1 : decode cL_draw 1 = .ok (.aload_n 0, 1) := by decide +kernel
theorem dL_draw_2 : decode cL_draw 2 = .ok (.arraylength, 1) := by decide +kernel
theorem dL_draw_3 : decode cL_draw 3 = .ok (.if_icmp .ge 12, 3) := by decide +kernel
theorem dL_draw_6 : decode cL_draw 6 = .ok (.aload_n 0, 1) := by decide +kernel
theorem dL_draw_7 : decode cL_draw 7 = .ok (.iload_n 1, 1) := by decide +kernel
theorem dL_draw_8 : decode cL_draw 8 = .ok (.iaload, 1) := by decide +kernel
theorem dL_draw_9 : decode cL_draw 9 = .ok (.ldc 7, 2) := by decide +kernel
theorem dL_draw_11 : decode cL_draw 11 = .ok (.iand, 1) := by decide +kernel
theorem dL_draw_12 : decode cL_draw 12 = .ok (.goto 12, 3) := by decide +kernel
theorem dL_draw_15 : decode cL_draw 15 = .ok (.ldc 8, 2) := by decide +kernel
theorem dL_draw_17 : decode cL_draw 17 = .ok (.iload_n 1, 1) := by decide +kernel
theorem dL_draw_18 : decode cL_draw 18 = .ok (.iconst 2, 1) := by decide +kernel
theorem dL_draw_19 : decode cL_draw 19 = .ok (.iadd, 1) := by decide +kernel
theorem dL_draw_20 : decode cL_draw 20 = .ok (.imul, 1) := by decide +kernel
theorem dL_draw_21 : decode cL_draw 21 = .ok (.ldc 9, 2) := by decide +kernel
theorem dL_draw_23 : decode cL_draw 23 = .ok (.irem, 1) := by decide +kernel
theorem dL_draw_24 : decode cL_draw 24 = .ok (.ireturn, 1) := by decide +kernel
theorem dL_section_0 : decode cL_section 0 = .ok (.aload_n 0, 1) := by decide +kernel
theorem dL_section_1 : decode cL_section 1 = .ok (.iload_n 1, 1) := by decide +kernel
theorem dL_section_2 : decode cL_section 2 = .ok (.iload_n 2, 1) := by decide +kernel
theorem dL_section_3 : decode cL_section 3 = .ok (.iload_n 3, 1) := by decide +kernel
theorem dL_section_4 : decode cL_section 4 = .ok (.iload 4, 2) := by decide +kernel
theorem dL_section_6 : decode cL_section 6 = .ok (.invokevirtual 10, 3) := by decide +kernel
theorem dL_section_9 : decode cL_section 9 = .ok (.ireturn, 1) := by decide +kernel
theorem dL_section_10 : decode cL_section 10 = .ok (.astore 5, 2) := by decide +kernel
theorem dL_section_12 : decode cL_section 12 = .ok (.sipush (-200), 3) := by decide +kernel
theorem dL_section_15 : decode cL_section 15 = .ok (.ireturn, 1) := by decide +kernel
theorem dL_acts_0 : decode cL_acts 0 = .ok (.iload 4, 2) := by decide +kernel
theorem dL_acts_2 : decode cL_acts 2 = .ok (.ifCond .ne 13, 3) := by decide +kernel
theorem dL_acts_5 : decode cL_acts 5 = .ok (.aload_n 0, 1) := by decide +kernel
theorem dL_acts_6 : decode cL_acts 6 = .ok (.iload_n 1, 1) := by decide +kernel
theorem dL_acts_7 : decode cL_acts 7 = .ok (.iload_n 2, 1) := by decide +kernel
theorem dL_acts_8 : decode cL_acts 8 = .ok (.iload_n 3, 1) := by decide +kernel
theorem dL_acts_9 : decode cL_acts 9 = .ok (.invokevirtual 18, 3) := by decide +kernel
theorem dL_acts_12 : decode cL_acts 12 = .ok (.goto 39, 3) := by decide +kernel
theorem dL_acts_15 : decode cL_acts 15 = .ok (.iload 4, 2) := by decide +kernel
theorem dL_acts_17 : decode cL_acts 17 = .ok (.iconst 1, 1) := by decide +kernel
theorem dL_acts_18 : decode cL_acts 18 = .ok (.if_icmp .ne 12, 3) := by decide +kernel
theorem dL_acts_21 : decode cL_acts 21 = .ok (.aload_n 0, 1) := by decide +kernel
theorem dL_acts_22 : decode cL_acts 22 = .ok (.iload_n 1, 1) := by decide +kernel
theorem dL_acts_23 : decode cL_acts 23 = .ok (.iload_n 2, 1) := by decide +kernel
theorem dL_acts_24 : decode cL_acts 24 = .ok (.invokevirtual 22, 3) := by decide +kernel
theorem dL_acts_27 : decode cL_acts 27 = .ok (.goto 24, 3) := by decide +kernel
theorem dL_acts_30 : decode cL_acts 30 = .ok (.iload 4, 2) := by decide +kernel
theorem dL_acts_32 : decode cL_acts 32 = .ok (.iconst 2, 1) := by decide +kernel
theorem dL_acts_33 : decode cL_acts 33 = .ok (.if_icmp .ne 11, 3) := by decide +kernel
theorem dL_acts_36 : decode cL_acts 36 = .ok (.aload_n 0, 1) := by decide +kernel
theorem dL_acts_37 : decode cL_acts 37 = .ok (.iload_n 1, 1) := by decide +kernel
theorem dL_acts_38 : decode cL_acts 38 = .ok (.invokevirtual 26, 3) := by decide +kernel
theorem dL_acts_41 : decode cL_acts 41 = .ok (.goto 10, 3) := by decide +kernel
theorem dL_acts_44 : decode cL_acts 44 = .ok (.aload_n 0, 1) := by decide +kernel
theorem dL_acts_45 : decode cL_acts 45 = .ok (.iload_n 1, 1) := by decide +kernel
theorem dL_acts_46 : decode cL_acts 46 = .ok (.iload_n 2, 1) := by decide +kernel
theorem dL_acts_47 : decode cL_acts 47 = .ok (.iload_n 3, 1) := by decide +kernel
theorem dL_acts_48 : decode cL_acts 48 = .ok (.invokevirtual 30, 3) := by decide +kernel
theorem dL_acts_51 : decode cL_acts 51 = .ok (.ireturn, 1) := by decide +kernel
theorem dL_acts_52 : decode cL_acts 52 = .ok (.astore 5, 2) := by decide +kernel
theorem dL_acts_54 : decode cL_acts 54 = .ok (.sipush (-200), 3) := by decide +kernel
theorem dL_acts_57 : decode cL_acts 57 = .ok (.ireturn, 1) := by decide +kernel
theorem dL_acts_58 : decode cL_acts 58 = .ok (.astore 5, 2) := by decide +kernel
theorem dL_acts_60 : decode cL_acts 60 = .ok (.sipush (-300), 3) := by decide +kernel
theorem dL_acts_63 : decode cL_acts 63 = .ok (.ireturn, 1) := by decide +kernel
theorem dL_acts_64 : decode cL_acts 64 = .ok (.astore 5, 2) := by decide +kernel
theorem dL_acts_66 : decode cL_acts 66 = .ok (.sipush (-400), 3) := by decide +kernel
theorem dL_acts_69 : decode cL_acts 69 = .ok (.ireturn, 1) := by decide +kernel
theorem dL_turn_0 : decode cL_turn 0 = .ok (.aload_n 0, 1) := by decide +kernel
theorem dL_turn_1 : decode cL_turn 1 = .ok (.iload_n 1, 1) := by decide +kernel
theorem dL_turn_2 : decode cL_turn 2 = .ok (.iload_n 2, 1) := by decide +kernel
theorem dL_turn_3 : decode cL_turn 3 = .ok (.iload_n 3, 1) := by decide +kernel
theorem dL_turn_4 : decode cL_turn 4 = .ok (.iload 4, 2) := by decide +kernel
theorem dL_turn_6 : decode cL_turn 6 = .ok (.invokevirtual 37, 3) := by decide +kernel
theorem dL_turn_9 : decode cL_turn 9 = .ok (.ireturn, 1) := by decide +kernel
theorem dL_turn_10 : decode cL_turn 10 = .ok (.astore 5, 2) := by decide +kernel
theorem dL_turn_12 : decode cL_turn 12 = .ok (.sipush (-200), 3) := by decide +kernel
theorem dL_turn_15 : decode cL_turn 15 = .ok (.ireturn, 1) := by decide +kernel
theorem dL_intake_0 : decode cL_intake 0 = .ok (.aload_n 0, 1) := by decide +kernel
theorem dL_intake_1 : decode cL_intake 1 = .ok (.iload_n 1, 1) := by decide +kernel
theorem dL_intake_2 : decode cL_intake 2 = .ok (.iload_n 2, 1) := by decide +kernel
theorem dL_intake_3 : decode cL_intake 3 = .ok (.iload_n 3, 1) := by decide +kernel
theorem dL_intake_4 : decode cL_intake 4 = .ok (.iload 4, 2) := by decide +kernel
theorem dL_intake_6 : decode cL_intake 6 = .ok (.iload 5, 2) := by decide +kernel
theorem dL_intake_8 : decode cL_intake 8 = .ok (.invokevirtual 40, 3) := by decide +kernel
theorem dL_intake_11 : decode cL_intake 11 = .ok (.ireturn, 1) := by decide +kernel
theorem dL_intake_12 : decode cL_intake 12 = .ok (.astore 6, 2) := by decide +kernel
theorem dL_intake_14 : decode cL_intake 14 = .ok (.sipush (-200), 3) := by decide +kernel
theorem dL_intake_17 : decode cL_intake 17 = .ok (.ireturn, 1) := by decide +kernel
theorem dL_oysters_0 : decode cL_oysters 0 = .ok (.aload_n 0, 1) := by decide +kernel
theorem dL_oysters_1 : decode cL_oysters 1 = .ok (.iload_n 1, 1) := by decide +kernel
theorem dL_oysters_2 : decode cL_oysters 2 = .ok (.iload_n 2, 1) := by decide +kernel
theorem dL_oysters_3 : decode cL_oysters 3 = .ok (.iload_n 3, 1) := by decide +kernel
theorem dL_oysters_4 : decode cL_oysters 4 = .ok (.invokevirtual 44, 3) := by decide +kernel
theorem dL_oysters_7 : decode cL_oysters 7 = .ok (.ireturn, 1) := by decide +kernel
theorem dL_oysters_8 : decode cL_oysters 8 = .ok (.astore 4, 2) := by decide +kernel
theorem dL_oysters_10 : decode cL_oysters 10 = .ok (.sipush (-200), 3) := by decide +kernel
theorem dL_oysters_13 : decode cL_oysters 13 = .ok (.ireturn, 1) := by decide +kernel
theorem dL_step_0 : decode cL_step 0 = .ok (.aload_n 1, 1) := by decide +kernel
theorem dL_step_1 : decode cL_step 1 = .ok (.iconst 0, 1) := by decide +kernel
theorem dL_step_2 : decode cL_step 2 = .ok (.iaload, 1) := by decide +kernel
theorem dL_step_3 : decode cL_step 3 = .ok (.ifCond .ne 7, 3) := by decide +kernel
theorem dL_step_6 : decode cL_step 6 = .ok (.iconst 0, 1) := by decide +kernel
theorem dL_step_7 : decode cL_step 7 = .ok (.goto 8, 3) := by decide +kernel
theorem dL_step_10 : decode cL_step 10 = .ok (.iload_n 3, 1) := by decide +kernel
theorem dL_step_11 : decode cL_step 11 = .ok (.aload_n 1, 1) := by decide +kernel
theorem dL_step_12 : decode cL_step 12 = .ok (.iconst 0, 1) := by decide +kernel
theorem dL_step_13 : decode cL_step 13 = .ok (.iaload, 1) := by decide +kernel
theorem dL_step_14 : decode cL_step 14 = .ok (.irem, 1) := by decide +kernel
theorem dL_step_15 : decode cL_step 15 = .ok (.istore 5, 2) := by decide +kernel
theorem dL_step_17 : decode cL_step 17 = .ok (.aload_n 1, 1) := by decide +kernel
theorem dL_step_18 : decode cL_step 18 = .ok (.iconst 0, 1) := by decide +kernel
theorem dL_step_19 : decode cL_step 19 = .ok (.iaload, 1) := by decide +kernel
theorem dL_step_20 : decode cL_step 20 = .ok (.ifCond .ne 7, 3) := by decide +kernel
theorem dL_step_23 : decode cL_step 23 = .ok (.iconst 0, 1) := by decide +kernel
theorem dL_step_24 : decode cL_step 24 = .ok (.goto 7, 3) := by decide +kernel
theorem dL_step_27 : decode cL_step 27 = .ok (.iload_n 2, 1) := by decide +kernel
theorem dL_step_28 : decode cL_step 28 = .ok (.bipush 24, 2) := by decide +kernel
theorem dL_step_30 : decode cL_step 30 = .ok (.irem, 1) := by decide +kernel
theorem dL_step_31 : decode cL_step 31 = .ok (.tableswitch 1156 0 15 #[77, 77, 322, 434, 469, 608, 608, 668, 704, 704, 870, 981, 1046, 1046, 1089, 1109], 77) := by decide +kernel
theorem dL_step_108 : decode cL_step 108 = .ok (.iload 4, 2) := by decide +kernel
theorem dL_step_110 : decode cL_step 110 = .ok (.iconst 3, 1) := by decide +kernel
theorem dL_step_111 : decode cL_step 111 = .ok (.irem, 1) := by decide +kernel
theorem dL_step_112 : decode cL_step 112 = .ok (.ifCond .ne 7, 3) := by decide +kernel
theorem dL_step_115 : decode cL_step 115 = .ok (.iconst 0, 1) := by decide +kernel
theorem dL_step_116 : decode cL_step 116 = .ok (.goto 11, 3) := by decide +kernel
theorem dL_step_119 : decode cL_step 119 = .ok (.iload 4, 2) := by decide +kernel
theorem dL_step_121 : decode cL_step 121 = .ok (.iconst 3, 1) := by decide +kernel
theorem dL_step_122 : decode cL_step 122 = .ok (.idiv, 1) := by decide +kernel
theorem dL_step_123 : decode cL_step 123 = .ok (.sipush 3000, 3) := by decide +kernel
theorem dL_step_126 : decode cL_step 126 = .ok (.irem, 1) := by decide +kernel
theorem dL_step_127 : decode cL_step 127 = .ok (.istore 6, 2) := by decide +kernel
theorem dL_step_129 : decode cL_step 129 = .ok (.iload 4, 2) := by decide +kernel
theorem dL_step_131 : decode cL_step 131 = .ok (.iconst 4, 1) := by decide +kernel
theorem dL_step_132 : decode cL_step 132 = .ok (.irem, 1) := by decide +kernel
theorem dL_step_133 : decode cL_step 133 = .ok (.ifCond .ne 7, 3) := by decide +kernel
theorem dL_step_136 : decode cL_step 136 = .ok (.iconst 0, 1) := by decide +kernel
theorem dL_step_137 : decode cL_step 137 = .ok (.goto 11, 3) := by decide +kernel
theorem dL_step_140 : decode cL_step 140 = .ok (.iload 4, 2) := by decide +kernel
theorem dL_step_142 : decode cL_step 142 = .ok (.iconst 4, 1) := by decide +kernel
theorem dL_step_143 : decode cL_step 143 = .ok (.idiv, 1) := by decide +kernel
theorem dL_step_144 : decode cL_step 144 = .ok (.sipush 3000, 3) := by decide +kernel
theorem dL_step_147 : decode cL_step 147 = .ok (.irem, 1) := by decide +kernel
theorem dL_step_148 : decode cL_step 148 = .ok (.istore 7, 2) := by decide +kernel
theorem dL_step_150 : decode cL_step 150 = .ok (.iload_n 3, 1) := by decide +kernel
theorem dL_step_151 : decode cL_step 151 = .ok (.sipush 128, 3) := by decide +kernel
theorem dL_step_154 : decode cL_step 154 = .ok (.idiv, 1) := by decide +kernel
theorem dL_step_155 : decode cL_step 155 = .ok (.sipush 2000, 3) := by decide +kernel
theorem dL_step_158 : decode cL_step 158 = .ok (.irem, 1) := by decide +kernel
theorem dL_step_159 : decode cL_step 159 = .ok (.istore 8, 2) := by decide +kernel
theorem dL_step_161 : decode cL_step 161 = .ok (.aload_n 0, 1) := by decide +kernel
theorem dL_step_162 : decode cL_step 162 = .ok (.iconst 1, 1) := by decide +kernel
theorem dL_step_163 : decode cL_step 163 = .ok (.iload_n 3, 1) := by decide +kernel
theorem dL_step_164 : decode cL_step 164 = .ok (.bipush 100, 2) := by decide +kernel
theorem dL_step_166 : decode cL_step 166 = .ok (.irem, 1) := by decide +kernel
theorem dL_step_167 : decode cL_step 167 = .ok (.iadd, 1) := by decide +kernel
theorem dL_step_168 : decode cL_step 168 = .ok (.iload 6, 2) := by decide +kernel
theorem dL_step_170 : decode cL_step 170 = .ok (.iload 7, 2) := by decide +kernel
theorem dL_step_172 : decode cL_step 172 = .ok (.iload 8, 2) := by decide +kernel
theorem dL_step_174 : decode cL_step 174 = .ok (.invokestatic 47, 3) := by decide +kernel
theorem dL_step_177 : decode cL_step 177 = .ok (.istore 9, 2) := by decide +kernel
theorem dL_step_179 : decode cL_step 179 = .ok (.aload_n 1, 1) := by decide +kernel
theorem dL_step_180 : decode cL_step 180 = .ok (.iconst 0, 1) := by decide +kernel
theorem dL_step_181 : decode cL_step 181 = .ok (.dup2, 1) := by decide +kernel
theorem dL_step_182 : decode cL_step 182 = .ok (.iaload, 1) := by decide +kernel
theorem dL_step_183 : decode cL_step 183 = .ok (.iload 9, 2) := by decide +kernel
theorem dL_step_185 : decode cL_step 185 = .ok (.ifCond .ge 7, 3) := by decide +kernel
theorem dL_step_188 : decode cL_step 188 = .ok (.iconst 0, 1) := by decide +kernel
theorem dL_step_189 : decode cL_step 189 = .ok (.goto 4, 3) := by decide +kernel
theorem dL_step_192 : decode cL_step 192 = .ok (.iconst 1, 1) := by decide +kernel
theorem dL_step_193 : decode cL_step 193 = .ok (.iadd, 1) := by decide +kernel
theorem dL_step_194 : decode cL_step 194 = .ok (.iastore, 1) := by decide +kernel
theorem dL_step_195 : decode cL_step 195 = .ok (.aload_n 1, 1) := by decide +kernel
theorem dL_step_196 : decode cL_step 196 = .ok (.bipush 6, 2) := by decide +kernel
theorem dL_step_198 : decode cL_step 198 = .ok (.dup2, 1) := by decide +kernel
theorem dL_step_199 : decode cL_step 199 = .ok (.iaload, 1) := by decide +kernel
theorem dL_step_200 : decode cL_step 200 = .ok (.iload 9, 2) := by decide +kernel
theorem dL_step_202 : decode cL_step 202 = .ok (.ifCond .ge 7, 3) := by decide +kernel
theorem dL_step_205 : decode cL_step 205 = .ok (.iconst 0, 1) := by decide +kernel
theorem dL_step_206 : decode cL_step 206 = .ok (.goto 8, 3) := by decide +kernel
theorem dL_step_209 : decode cL_step 209 = .ok (.iload 6, 2) := by decide +kernel
theorem dL_step_211 : decode cL_step 211 = .ok (.iload 7, 2) := by decide +kernel
theorem dL_step_213 : decode cL_step 213 = .ok (.iadd, 1) := by decide +kernel
theorem dL_step_214 : decode cL_step 214 = .ok (.iadd, 1) := by decide +kernel
theorem dL_step_215 : decode cL_step 215 = .ok (.iastore, 1) := by decide +kernel
theorem dL_step_216 : decode cL_step 216 = .ok (.aload_n 1, 1) := by decide +kernel
theorem dL_step_217 : decode cL_step 217 = .ok (.bipush 7, 2) := by decide +kernel
theorem dL_step_219 : decode cL_step 219 = .ok (.dup2, 1) := by decide +kernel
theorem dL_step_220 : decode cL_step 220 = .ok (.iaload, 1) := by decide +kernel
theorem dL_step_221 : decode cL_step 221 = .ok (.iload 9, 2) := by decide +kernel
theorem dL_step_223 : decode cL_step 223 = .ok (.ifCond .ge 7, 3) := by decide +kernel
theorem dL_step_226 : decode cL_step 226 = .ok (.iconst 0, 1) := by decide +kernel
theorem dL_step_227 : decode cL_step 227 = .ok (.goto 5, 3) := by decide +kernel
theorem dL_step_230 : decode cL_step 230 = .ok (.iload 8, 2) := by decide +kernel
theorem dL_step_232 : decode cL_step 232 = .ok (.iadd, 1) := by decide +kernel
theorem dL_step_233 : decode cL_step 233 = .ok (.iastore, 1) := by decide +kernel
theorem dL_step_234 : decode cL_step 234 = .ok (.aload_n 1, 1) := by decide +kernel
theorem dL_step_235 : decode cL_step 235 = .ok (.bipush 27, 2) := by decide +kernel
theorem dL_step_237 : decode cL_step 237 = .ok (.iload 9, 2) := by decide +kernel
theorem dL_step_239 : decode cL_step 239 = .ok (.ifCond .ne 12, 3) := by decide +kernel
theorem dL_step_242 : decode cL_step 242 = .ok (.iconst 1, 1) := by decide +kernel
theorem dL_step_243 : decode cL_step 243 = .ok (.iload_n 3, 1) := by decide +kernel
theorem dL_step_244 : decode cL_step 244 = .ok (.bipush 100, 2) := by decide +kernel
theorem dL_step_246 : decode cL_step 246 = .ok (.irem, 1) := by decide +kernel
theorem dL_step_247 : decode cL_step 247 = .ok (.iadd, 1) := by decide +kernel
theorem dL_step_248 : decode cL_step 248 = .ok (.goto 7, 3) := by decide +kernel
theorem dL_step_251 : decode cL_step 251 = .ok (.aload_n 1, 1) := by decide +kernel
theorem dL_step_252 : decode cL_step 252 = .ok (.bipush 27, 2) := by decide +kernel
theorem dL_step_254 : decode cL_step 254 = .ok (.iaload, 1) := by decide +kernel
theorem dL_step_255 : decode cL_step 255 = .ok (.iastore, 1) := by decide +kernel
theorem dL_step_256 : decode cL_step 256 = .ok (.iload 9, 2) := by decide +kernel
theorem dL_step_258 : decode cL_step 258 = .ok (.sipush (-200), 3) := by decide +kernel
theorem dL_step_261 : decode cL_step 261 = .ok (.if_icmp .ne 25, 3) := by decide +kernel
theorem dL_step_264 : decode cL_step 264 = .ok (.aload_n 1, 1) := by decide +kernel
theorem dL_step_265 : decode cL_step 265 = .ok (.iconst 0, 1) := by decide +kernel
theorem dL_step_266 : decode cL_step 266 = .ok (.iaload, 1) := by decide +kernel
theorem dL_step_267 : decode cL_step 267 = .ok (.bipush 8, 2) := by decide +kernel
theorem dL_step_269 : decode cL_step 269 = .ok (.if_icmp .eq 9, 3) := by decide +kernel
theorem dL_step_272 : decode cL_step 272 = .ok (.aload_n 1, 1) := by decide +kernel
theorem dL_step_273 : decode cL_step 273 = .ok (.iconst 5, 1) := by decide +kernel
theorem dL_step_274 : decode cL_step 274 = .ok (.iaload, 1) := by decide +kernel
theorem dL_step_275 : decode cL_step 275 = .ok (.ifCond .le 7, 3) := by decide +kernel
theorem dL_step_278 : decode cL_step 278 = .ok (.iconst 1, 1) := by decide +kernel
theorem dL_step_279 : decode cL_step 279 = .ok (.goto 73, 3) := by decide +kernel
theorem dL_step_282 : decode cL_step 282 = .ok (.iconst 0, 1) := by decide +kernel
theorem dL_step_283 : decode cL_step 283 = .ok (.goto 69, 3) := by decide +kernel
theorem dL_step_286 : decode cL_step 286 = .ok (.iload 9, 2) := by decide +kernel
theorem dL_step_288 : decode cL_step 288 = .ok (.aload_n 1, 1) := by decide +kernel
theorem dL_step_289 : decode cL_step 289 = .ok (.iconst 0, 1) := by decide +kernel
theorem dL_step_290 : decode cL_step 290 = .ok (.iaload, 1) := by decide +kernel
theorem dL_step_291 : decode cL_step 291 = .ok (.iconst 1, 1) := by decide +kernel
theorem dL_step_292 : decode cL_step 292 = .ok (.isub, 1) := by decide +kernel
theorem dL_step_293 : decode cL_step 293 = .ok (.if_icmp .ne 58, 3) := by decide +kernel
theorem dL_step_296 : decode cL_step 296 = .ok (.aload_n 1, 1) := by decide +kernel
theorem dL_step_297 : decode cL_step 297 = .ok (.iconst 5, 1) := by decide +kernel
theorem dL_step_298 : decode cL_step 298 = .ok (.iaload, 1) := by decide +kernel
theorem dL_step_299 : decode cL_step 299 = .ok (.ifCond .ne 52, 3) := by decide +kernel
theorem dL_step_302 : decode cL_step 302 = .ok (.aload_n 0, 1) := by decide +kernel
theorem dL_step_303 : decode cL_step 303 = .ok (.iload 9, 2) := by decide +kernel
theorem dL_step_305 : decode cL_step 305 = .ok (.iconst 5, 1) := by decide +kernel
theorem dL_step_306 : decode cL_step 306 = .ok (.invokevirtual 52, 3) := by decide +kernel
theorem dL_step_309 : decode cL_step 309 = .ok (.iload 8, 2) := by decide +kernel
theorem dL_step_311 : decode cL_step 311 = .ok (.if_icmp .ne 40, 3) := by decide +kernel
theorem dL_step_314 : decode cL_step 314 = .ok (.aload_n 0, 1) := by decide +kernel
theorem dL_step_315 : decode cL_step 315 = .ok (.iload 9, 2) := by decide +kernel
theorem dL_step_317 : decode cL_step 317 = .ok (.bipush 6, 2) := by decide +kernel
theorem dL_step_319 : decode cL_step 319 = .ok (.invokevirtual 52, 3) := by decide +kernel
theorem dL_step_322 : decode cL_step 322 = .ok (.iload 8, 2) := by decide +kernel
theorem dL_step_324 : decode cL_step 324 = .ok (.iconst 1, 1) := by decide +kernel
theorem dL_step_325 : decode cL_step 325 = .ok (.iload_n 3, 1) := by decide +kernel
theorem dL_step_326 : decode cL_step 326 = .ok (.bipush 100, 2) := by decide +kernel
theorem dL_step_328 : decode cL_step 328 = .ok (.irem, 1) := by decide +kernel
theorem dL_step_329 : decode cL_step 329 = .ok (.iadd, 1) := by decide +kernel
theorem dL_step_330 : decode cL_step 330 = .ok (.idiv, 1) := by decide +kernel
theorem dL_step_331 : decode cL_step 331 = .ok (.iload 6, 2) := by decide +kernel
theorem dL_step_333 : decode cL_step 333 = .ok (.iload 7, 2) := by decide +kernel
theorem dL_step_335 : decode cL_step 335 = .ok (.iadd, 1) := by decide +kernel
theorem dL_step_336 : decode cL_step 336 = .ok (.iconst 1, 1) := by decide +kernel
theorem dL_step_337 : decode cL_step 337 = .ok (.iload_n 3, 1) := by decide +kernel
theorem dL_step_338 : decode cL_step 338 = .ok (.bipush 100, 2) := by decide +kernel
theorem dL_step_340 : decode cL_step 340 = .ok (.irem, 1) := by decide +kernel
theorem dL_step_341 : decode cL_step 341 = .ok (.iadd, 1) := by decide +kernel
theorem dL_step_342 : decode cL_step 342 = .ok (.idiv, 1) := by decide +kernel
theorem dL_step_343 : decode cL_step 343 = .ok (.iadd, 1) := by decide +kernel
theorem dL_step_344 : decode cL_step 344 = .ok (.if_icmp .ne 7, 3) := by decide +kernel
theorem dL_step_347 : decode cL_step 347 = .ok (.iconst 1, 1) := by decide +kernel
theorem dL_step_348 : decode cL_step 348 = .ok (.goto 4, 3) := by decide +kernel
theorem dL_step_351 : decode cL_step 351 = .ok (.iconst 0, 1) := by decide +kernel
theorem dL_step_352 : decode cL_step 352 = .ok (.ireturn, 1) := by decide +kernel
theorem dL_step_353 : decode cL_step 353 = .ok (.iconst 2, 1) := by decide +kernel
theorem dL_step_354 : decode cL_step 354 = .ok (.iload_n 3, 1) := by decide +kernel
theorem dL_step_355 : decode cL_step 355 = .ok (.bipush 59, 2) := by decide +kernel
theorem dL_step_357 : decode cL_step 357 = .ok (.irem, 1) := by decide +kernel
theorem dL_step_358 : decode cL_step 358 = .ok (.iadd, 1) := by decide +kernel
theorem dL_step_359 : decode cL_step 359 = .ok (.istore 10, 2) := by decide +kernel
theorem dL_step_361 : decode cL_step 361 = .ok (.iconst 1, 1) := by decide +kernel
theorem dL_step_362 : decode cL_step 362 = .ok (.iload 4, 2) := by decide +kernel
theorem dL_step_364 : decode cL_step 364 = .ok (.iload 10, 2) := by decide +kernel
theorem dL_step_366 : decode cL_step 366 = .ok (.iconst 1, 1) := by decide +kernel
theorem dL_step_367 : decode cL_step 367 = .ok (.isub, 1) := by decide +kernel
theorem dL_step_368 : decode cL_step 368 = .ok (.irem, 1) := by decide +kernel
theorem dL_step_369 : decode cL_step 369 = .ok (.iadd, 1) := by decide +kernel
theorem dL_step_370 : decode cL_step 370 = .ok (.istore 11, 2) := by decide +kernel
theorem dL_step_372 : decode cL_step 372 = .ok (.aload_n 0, 1) := by decide +kernel
theorem dL_step_373 : decode cL_step 373 = .ok (.iload 10, 2) := by decide +kernel
theorem dL_step_375 : decode cL_step 375 = .ok (.iload 11, 2) := by decide +kernel
theorem dL_step_377 : decode cL_step 377 = .ok (.iload 4, 2) := by decide +kernel
theorem dL_step_379 : decode cL_step 379 = .ok (.bipush 64, 2) := by decide +kernel
theorem dL_step_381 : decode cL_step 381 = .ok (.idiv, 1) := by decide +kernel
theorem dL_step_382 : decode cL_step 382 = .ok (.bipush 51, 2) := by decide +kernel
theorem dL_step_384 : decode cL_step 384 = .ok (.irem, 1) := by decide +kernel
theorem dL_step_385 : decode cL_step 385 = .ok (.iload 4, 2) := by decide +kernel
theorem dL_step_387 : decode cL_step 387 = .ok (.sipush 4096, 3) := by decide +kernel
theorem dL_step_390 : decode cL_step 390 = .ok (.idiv, 1) := by decide +kernel
theorem dL_step_391 : decode cL_step 391 = .ok (.bipush 60, 2) := by decide +kernel
theorem dL_step_393 : decode cL_step 393 = .ok (.irem, 1) := by decide +kernel
theorem dL_step_394 : decode cL_step 394 = .ok (.invokestatic 55, 3) := by decide +kernel
theorem dL_step_397 : decode cL_step 397 = .ok (.istore 12, 2) := by decide +kernel
theorem dL_step_399 : decode cL_step 399 = .ok (.aload_n 1, 1) := by decide +kernel
theorem dL_step_400 : decode cL_step 400 = .ok (.iconst 3, 1) := by decide +kernel
theorem dL_step_401 : decode cL_step 401 = .ok (.dup2, 1) := by decide +kernel
theorem dL_step_402 : decode cL_step 402 = .ok (.iaload, 1) := by decide +kernel
theorem dL_step_403 : decode cL_step 403 = .ok (.iload 12, 2) := by decide +kernel
theorem dL_step_405 : decode cL_step 405 = .ok (.ifCond .ge 7, 3) := by decide +kernel
theorem dL_step_408 : decode cL_step 408 = .ok (.iconst 0, 1) := by decide +kernel
theorem dL_step_409 : decode cL_step 409 = .ok (.goto 4, 3) := by decide +kernel
theorem dL_step_412 : decode cL_step 412 = .ok (.iconst 1, 1) := by decide +kernel
theorem dL_step_413 : decode cL_step 413 = .ok (.iadd, 1) := by decide +kernel
theorem dL_step_414 : decode cL_step 414 = .ok (.iastore, 1) := by decide +kernel
theorem dL_step_415 : decode cL_step 415 = .ok (.iload 12, 2) := by decide +kernel
theorem dL_step_417 : decode cL_step 417 = .ok (.sipush (-200), 3) := by decide +kernel
theorem dL_step_420 : decode cL_step 420 = .ok (.if_icmp .ne 19, 3) := by decide +kernel
theorem dL_step_423 : decode cL_step 423 = .ok (.aload_n 1, 1) := by decide +kernel
theorem dL_step_424 : decode cL_step 424 = .ok (.iconst 3, 1) := by decide +kernel
theorem dL_step_425 : decode cL_step 425 = .ok (.iaload, 1) := by decide +kernel
theorem dL_step_426 : decode cL_step 426 = .ok (.bipush 6, 2) := by decide +kernel
theorem dL_step_428 : decode cL_step 428 = .ok (.if_icmp .ne 7, 3) := by decide +kernel
theorem dL_step_431 : decode cL_step 431 = .ok (.iconst 1, 1) := by decide +kernel
theorem dL_step_432 : decode cL_step 432 = .ok (.goto 32, 3) := by decide +kernel
theorem dL_step_435 : decode cL_step 435 = .ok (.iconst 0, 1) := by decide +kernel
theorem dL_step_436 : decode cL_step 436 = .ok (.goto 28, 3) := by decide +kernel
theorem dL_step_439 : decode cL_step 439 = .ok (.iload 12, 2) := by decide +kernel
theorem dL_step_441 : decode cL_step 441 = .ok (.aload_n 1, 1) := by decide +kernel
theorem dL_step_442 : decode cL_step 442 = .ok (.iconst 3, 1) := by decide +kernel
theorem dL_step_443 : decode cL_step 443 = .ok (.iaload, 1) := by decide +kernel
theorem dL_step_444 : decode cL_step 444 = .ok (.iconst 1, 1) := by decide +kernel
theorem dL_step_445 : decode cL_step 445 = .ok (.isub, 1) := by decide +kernel
theorem dL_step_446 : decode cL_step 446 = .ok (.if_icmp .ne 17, 3) := by decide +kernel
theorem dL_step_449 : decode cL_step 449 = .ok (.aload_n 0, 1) := by decide +kernel
theorem dL_step_450 : decode cL_step 450 = .ok (.aload_n 1, 1) := by decide +kernel
theorem dL_step_451 : decode cL_step 451 = .ok (.iload 10, 2) := by decide +kernel
theorem dL_step_453 : decode cL_step 453 = .ok (.invokestatic 57, 3) := by decide +kernel
theorem dL_step_456 : decode cL_step 456 = .ok (.ifCond .eq 7, 3) := by decide +kernel
theorem dL_step_459 : decode cL_step 459 = .ok (.iconst 1, 1) := by decide +kernel
theorem dL_step_460 : decode cL_step 460 = .ok (.goto 4, 3) := by decide +kernel
theorem dL_step_463 : decode cL_step 463 = .ok (.iconst 0, 1) := by decide +kernel
theorem dL_step_464 : decode cL_step 464 = .ok (.ireturn, 1) := by decide +kernel
theorem dL_step_465 : decode cL_step 465 = .ok (.aload_n 0, 1) := by decide +kernel
theorem dL_step_466 : decode cL_step 466 = .ok (.iload 4, 2) := by decide +kernel
theorem dL_step_468 : decode cL_step 468 = .ok (.bipush 101, 2) := by decide +kernel
theorem dL_step_470 : decode cL_step 470 = .ok (.irem, 1) := by decide +kernel
theorem dL_step_471 : decode cL_step 471 = .ok (.invokevirtual 61, 3) := by decide +kernel
theorem dL_step_474 : decode cL_step 474 = .ok (.ifCond .lt 24, 3) := by decide +kernel
theorem dL_step_477 : decode cL_step 477 = .ok (.aload_n 0, 1) := by decide +kernel
theorem dL_step_478 : decode cL_step 478 = .ok (.iload 4, 2) := by decide +kernel
theorem dL_step_480 : decode cL_step 480 = .ok (.bipush 101, 2) := by decide +kernel
theorem dL_step_482 : decode cL_step 482 = .ok (.irem, 1) := by decide +kernel
theorem dL_step_483 : decode cL_step 483 = .ok (.invokevirtual 61, 3) := by decide +kernel
theorem dL_step_486 : decode cL_step 486 = .ok (.iload 4, 2) := by decide +kernel
theorem dL_step_488 : decode cL_step 488 = .ok (.bipush 101, 2) := by decide +kernel
theorem dL_step_490 : decode cL_step 490 = .ok (.irem, 1) := by decide +kernel
theorem dL_step_491 : decode cL_step 491 = .ok (.if_icmp .ne 7, 3) := by decide +kernel
theorem dL_step_494 : decode cL_step 494 = .ok (.iconst 1, 1) := by decide +kernel
theorem dL_step_495 : decode cL_step 495 = .ok (.goto 4, 3) := by decide +kernel
theorem dL_step_498 : decode cL_step 498 = .ok (.iconst 0, 1) := by decide +kernel
theorem dL_step_499 : decode cL_step 499 = .ok (.ireturn, 1) := by decide +kernel
theorem dL_step_500 : decode cL_step 500 = .ok (.aload_n 0, 1) := by decide +kernel
theorem dL_step_501 : decode cL_step 501 = .ok (.aload_n 1, 1) := by decide +kernel
theorem dL_step_502 : decode cL_step 502 = .ok (.iconst 5, 1) := by decide +kernel
theorem dL_step_503 : decode cL_step 503 = .ok (.iaload, 1) := by decide +kernel
theorem dL_step_504 : decode cL_step 504 = .ok (.iload_n 3, 1) := by decide +kernel
theorem dL_step_505 : decode cL_step 505 = .ok (.bipush 30, 2) := by decide +kernel
theorem dL_step_507 : decode cL_step 507 = .ok (.irem, 1) := by decide +kernel
theorem dL_step_508 : decode cL_step 508 = .ok (.iadd, 1) := by decide +kernel
theorem dL_step_509 : decode cL_step 509 = .ok (.invokevirtual 64, 3) := by decide +kernel
theorem dL_step_512 : decode cL_step 512 = .ok (.istore 13, 2) := by decide +kernel
theorem dL_step_514 : decode cL_step 514 = .ok (.aload_n 0, 1) := by decide +kernel
theorem dL_step_515 : decode cL_step 515 = .ok (.aload_n 1, 1) := by decide +kernel
theorem dL_step_516 : decode cL_step 516 = .ok (.iconst 5, 1) := by decide +kernel
theorem dL_step_517 : decode cL_step 517 = .ok (.iaload, 1) := by decide +kernel
theorem dL_step_518 : decode cL_step 518 = .ok (.iload_n 3, 1) := by decide +kernel
theorem dL_step_519 : decode cL_step 519 = .ok (.bipush 30, 2) := by decide +kernel
theorem dL_step_521 : decode cL_step 521 = .ok (.irem, 1) := by decide +kernel
theorem dL_step_522 : decode cL_step 522 = .ok (.iadd, 1) := by decide +kernel
theorem dL_step_523 : decode cL_step 523 = .ok (.aload_n 1, 1) := by decide +kernel
theorem dL_step_524 : decode cL_step 524 = .ok (.iconst 5, 1) := by decide +kernel
theorem dL_step_525 : decode cL_step 525 = .ok (.iaload, 1) := by decide +kernel
theorem dL_step_526 : decode cL_step 526 = .ok (.iload_n 3, 1) := by decide +kernel
theorem dL_step_527 : decode cL_step 527 = .ok (.bipush 30, 2) := by decide +kernel
theorem dL_step_529 : decode cL_step 529 = .ok (.irem, 1) := by decide +kernel
theorem dL_step_530 : decode cL_step 530 = .ok (.iadd, 1) := by decide +kernel
theorem dL_step_531 : decode cL_step 531 = .ok (.iload 4, 2) := by decide +kernel
theorem dL_step_533 : decode cL_step 533 = .ok (.bipush 20, 2) := by decide +kernel
theorem dL_step_535 : decode cL_step 535 = .ok (.irem, 1) := by decide +kernel
theorem dL_step_536 : decode cL_step 536 = .ok (.iadd, 1) := by decide +kernel
theorem dL_step_537 : decode cL_step 537 = .ok (.iload 4, 2) := by decide +kernel
theorem dL_step_539 : decode cL_step 539 = .ok (.bipush 32, 2) := by decide +kernel
theorem dL_step_541 : decode cL_step 541 = .ok (.idiv, 1) := by decide +kernel
theorem dL_step_542 : decode cL_step 542 = .ok (.sipush 151, 3) := by decide +kernel
theorem dL_step_545 : decode cL_step 545 = .ok (.irem, 1) := by decide +kernel
theorem dL_step_546 : decode cL_step 546 = .ok (.bipush 50, 2) := by decide +kernel
theorem dL_step_548 : decode cL_step 548 = .ok (.isub, 1) := by decide +kernel
theorem dL_step_549 : decode cL_step 549 = .ok (.iconst 3, 1) := by decide +kernel
theorem dL_step_550 : decode cL_step 550 = .ok (.invokestatic 67, 3) := by decide +kernel
theorem dL_step_553 : decode cL_step 553 = .ok (.istore 14, 2) := by decide +kernel
theorem dL_step_555 : decode cL_step 555 = .ok (.aload_n 1, 1) := by decide +kernel
theorem dL_step_556 : decode cL_step 556 = .ok (.iconst 4, 1) := by decide +kernel
theorem dL_step_557 : decode cL_step 557 = .ok (.dup2, 1) := by decide +kernel
theorem dL_step_558 : decode cL_step 558 = .ok (.iaload, 1) := by decide +kernel
theorem dL_step_559 : decode cL_step 559 = .ok (.iload 14, 2) := by decide +kernel
theorem dL_step_561 : decode cL_step 561 = .ok (.ifCond .ge 7, 3) := by decide +kernel
theorem dL_step_564 : decode cL_step 564 = .ok (.iconst 0, 1) := by decide +kernel
theorem dL_step_565 : decode cL_step 565 = .ok (.goto 4, 3) := by decide +kernel
theorem dL_step_568 : decode cL_step 568 = .ok (.iconst 1, 1) := by decide +kernel
theorem dL_step_569 : decode cL_step 569 = .ok (.iadd, 1) := by decide +kernel
theorem dL_step_570 : decode cL_step 570 = .ok (.iastore, 1) := by decide +kernel
theorem dL_step_571 : decode cL_step 571 = .ok (.iload 14, 2) := by decide +kernel
theorem dL_step_573 : decode cL_step 573 = .ok (.sipush (-200), 3) := by decide +kernel
theorem dL_step_576 : decode cL_step 576 = .ok (.if_icmp .ne 19, 3) := by decide +kernel
theorem dL_step_579 : decode cL_step 579 = .ok (.aload_n 1, 1) := by decide +kernel
theorem dL_step_580 : decode cL_step 580 = .ok (.iconst 4, 1) := by decide +kernel
theorem dL_step_581 : decode cL_step 581 = .ok (.iaload, 1) := by decide +kernel
theorem dL_step_582 : decode cL_step 582 = .ok (.bipush 20, 2) := by decide +kernel
theorem dL_step_584 : decode cL_step 584 = .ok (.if_icmp .ne 7, 3) := by decide +kernel
theorem dL_step_587 : decode cL_step 587 = .ok (.iconst 1, 1) := by decide +kernel
theorem dL_step_588 : decode cL_step 588 = .ok (.goto 50, 3) := by decide +kernel
theorem dL_step_591 : decode cL_step 591 = .ok (.iconst 0, 1) := by decide +kernel
theorem dL_step_592 : decode cL_step 592 = .ok (.goto 46, 3) := by decide +kernel
theorem dL_step_595 : decode cL_step 595 = .ok (.iload 14, 2) := by decide +kernel
theorem dL_step_597 : decode cL_step 597 = .ok (.aload_n 1, 1) := by decide +kernel
theorem dL_step_598 : decode cL_step 598 = .ok (.iconst 4, 1) := by decide +kernel
theorem dL_step_599 : decode cL_step 599 = .ok (.iaload, 1) := by decide +kernel
theorem dL_step_600 : decode cL_step 600 = .ok (.if_icmp .ne 37, 3) := by decide +kernel
theorem dL_step_603 : decode cL_step 603 = .ok (.aload_n 0, 1) := by decide +kernel
theorem dL_step_604 : decode cL_step 604 = .ok (.aload_n 1, 1) := by decide +kernel
theorem dL_step_605 : decode cL_step 605 = .ok (.iconst 5, 1) := by decide +kernel
theorem dL_step_606 : decode cL_step 606 = .ok (.iaload, 1) := by decide +kernel
theorem dL_step_607 : decode cL_step 607 = .ok (.iload_n 3, 1) := by decide +kernel
theorem dL_step_608 : decode cL_step 608 = .ok (.bipush 30, 2) := by decide +kernel
theorem dL_step_610 : decode cL_step 610 = .ok (.irem, 1) := by decide +kernel
theorem dL_step_611 : decode cL_step 611 = .ok (.iadd, 1) := by decide +kernel
theorem dL_step_612 : decode cL_step 612 = .ok (.invokevirtual 64, 3) := by decide +kernel
theorem dL_step_615 : decode cL_step 615 = .ok (.iload 13, 2) := by decide +kernel
theorem dL_step_617 : decode cL_step 617 = .ok (.iload 4, 2) := by decide +kernel
theorem dL_step_619 : decode cL_step 619 = .ok (.bipush 32, 2) := by decide +kernel
theorem dL_step_621 : decode cL_step 621 = .ok (.idiv, 1) := by decide +kernel
theorem dL_step_622 : decode cL_step 622 = .ok (.sipush 151, 3) := by decide +kernel
theorem dL_step_625 : decode cL_step 625 = .ok (.irem, 1) := by decide +kernel
theorem dL_step_626 : decode cL_step 626 = .ok (.iadd, 1) := by decide +kernel
theorem dL_step_627 : decode cL_step 627 = .ok (.bipush 50, 2) := by decide +kernel
theorem dL_step_629 : decode cL_step 629 = .ok (.isub, 1) := by decide +kernel
theorem dL_step_630 : decode cL_step 630 = .ok (.if_icmp .ne 7, 3) := by decide +kernel
theorem dL_step_633 : decode cL_step 633 = .ok (.iconst 1, 1) := by decide +kernel
theorem dL_step_634 : decode cL_step 634 = .ok (.goto 4, 3) := by decide +kernel
theorem dL_step_637 : decode cL_step 637 = .ok (.iconst 0, 1) := by decide +kernel
theorem dL_step_638 : decode cL_step 638 = .ok (.ireturn, 1) := by decide +kernel
theorem dL_step_639 : decode cL_step 639 = .ok (.aload_n 0, 1) := by decide +kernel
theorem dL_step_640 : decode cL_step 640 = .ok (.iload 4, 2) := by decide +kernel
theorem dL_step_642 : decode cL_step 642 = .ok (.iconst 4, 1) := by decide +kernel
theorem dL_step_643 : decode cL_step 643 = .ok (.irem, 1) := by decide +kernel
theorem dL_step_644 : decode cL_step 644 = .ok (.ifCond .ne 14, 3) := by decide +kernel
theorem dL_step_647 : decode cL_step 647 = .ok (.iload 4, 2) := by decide +kernel
theorem dL_step_649 : decode cL_step 649 = .ok (.iconst 4, 1) := by decide +kernel
theorem dL_step_650 : decode cL_step 650 = .ok (.idiv, 1) := by decide +kernel
theorem dL_step_651 : decode cL_step 651 = .ok (.sipush 501, 3) := by decide +kernel
theorem dL_step_654 : decode cL_step 654 = .ok (.irem, 1) := by decide +kernel
theorem dL_step_655 : decode cL_step 655 = .ok (.goto 10, 3) := by decide +kernel
theorem dL_step_658 : decode cL_step 658 = .ok (.iload 4, 2) := by decide +kernel
theorem dL_step_660 : decode cL_step 660 = .ok (.iconst 4, 1) := by decide +kernel
theorem dL_step_661 : decode cL_step 661 = .ok (.idiv, 1) := by decide +kernel
theorem dL_step_662 : decode cL_step 662 = .ok (.bipush 60, 2) := by decide +kernel
theorem dL_step_664 : decode cL_step 664 = .ok (.irem, 1) := by decide +kernel
theorem dL_step_665 : decode cL_step 665 = .ok (.iload_n 3, 1) := by decide +kernel
theorem dL_step_666 : decode cL_step 666 = .ok (.iconst 3, 1) := by decide +kernel
theorem dL_step_667 : decode cL_step 667 = .ok (.irem, 1) := by decide +kernel
theorem dL_step_668 : decode cL_step 668 = .ok (.ifCond .ne 13, 3) := by decide +kernel
theorem dL_step_671 : decode cL_step 671 = .ok (.iload_n 3, 1) := by decide +kernel
theorem dL_step_672 : decode cL_step 672 = .ok (.iconst 3, 1) := by decide +kernel
theorem dL_step_673 : decode cL_step 673 = .ok (.idiv, 1) := by decide +kernel
theorem dL_step_674 : decode cL_step 674 = .ok (.sipush 501, 3) := by decide +kernel
theorem dL_step_677 : decode cL_step 677 = .ok (.irem, 1) := by decide +kernel
theorem dL_step_678 : decode cL_step 678 = .ok (.goto 9, 3) := by decide +kernel
theorem dL_step_681 : decode cL_step 681 = .ok (.iload_n 3, 1) := by decide +kernel
theorem dL_step_682 : decode cL_step 682 = .ok (.iconst 3, 1) := by decide +kernel
theorem dL_step_683 : decode cL_step 683 = .ok (.idiv, 1) := by decide +kernel
theorem dL_step_684 : decode cL_step 684 = .ok (.bipush 40, 2) := by decide +kernel
theorem dL_step_686 : decode cL_step 686 = .ok (.irem, 1) := by decide +kernel
theorem dL_step_687 : decode cL_step 687 = .ok (.invokevirtual 70, 3) := by decide +kernel
theorem dL_step_690 : decode cL_step 690 = .ok (.ifCond .lt 7, 3) := by decide +kernel
theorem dL_step_693 : decode cL_step 693 = .ok (.iconst 1, 1) := by decide +kernel
theorem dL_step_694 : decode cL_step 694 = .ok (.goto 4, 3) := by decide +kernel
theorem dL_step_697 : decode cL_step 697 = .ok (.iconst 0, 1) := by decide +kernel
theorem dL_step_698 : decode cL_step 698 = .ok (.ireturn, 1) := by decide +kernel
theorem dL_step_699 : decode cL_step 699 = .ok (.aload_n 0, 1) := by decide +kernel
theorem dL_step_700 : decode cL_step 700 = .ok (.iload_n 3, 1) := by decide +kernel
theorem dL_step_701 : decode cL_step 701 = .ok (.iconst 3, 1) := by decide +kernel
theorem dL_step_702 : decode cL_step 702 = .ok (.irem, 1) := by decide +kernel
theorem dL_step_703 : decode cL_step 703 = .ok (.ifCond .ne 7, 3) := by decide +kernel
theorem dL_step_706 : decode cL_step 706 = .ok (.iconst (-1), 1) := by decide +kernel
theorem dL_step_707 : decode cL_step 707 = .ok (.goto 9, 3) := by decide +kernel
theorem dL_step_710 : decode cL_step 710 = .ok (.iload 4, 2) := by decide +kernel
theorem dL_step_712 : decode cL_step 712 = .ok (.sipush 250, 3) := by decide +kernel
theorem dL_step_715 : decode cL_step 715 = .ok (.irem, 1) := by decide +kernel
theorem dL_step_716 : decode cL_step 716 = .ok (.iload_n 3, 1) := by decide +kernel
theorem dL_step_717 : decode cL_step 717 = .ok (.iconst 3, 1) := by decide +kernel
theorem dL_step_718 : decode cL_step 718 = .ok (.idiv, 1) := by decide +kernel
theorem dL_step_719 : decode cL_step 719 = .ok (.bipush 13, 2) := by decide +kernel
theorem dL_step_721 : decode cL_step 721 = .ok (.irem, 1) := by decide +kernel
theorem dL_step_722 : decode cL_step 722 = .ok (.invokevirtual 73, 3) := by decide +kernel
theorem dL_step_725 : decode cL_step 725 = .ok (.iconst (-1), 1) := by decide +kernel
theorem dL_step_726 : decode cL_step 726 = .ok (.if_icmp .lt 7, 3) := by decide +kernel
theorem dL_step_729 : decode cL_step 729 = .ok (.iconst 1, 1) := by decide +kernel
theorem dL_step_730 : decode cL_step 730 = .ok (.goto 4, 3) := by decide +kernel
theorem dL_step_733 : decode cL_step 733 = .ok (.iconst 0, 1) := by decide +kernel
theorem dL_step_734 : decode cL_step 734 = .ok (.ireturn, 1) := by decide +kernel
theorem dL_step_735 : decode cL_step 735 = .ok (.iconst 1, 1) := by decide +kernel
theorem dL_step_736 : decode cL_step 736 = .ok (.iload_n 3, 1) := by decide +kernel
theorem dL_step_737 : decode cL_step 737 = .ok (.bipush 8, 2) := by decide +kernel
theorem dL_step_739 : decode cL_step 739 = .ok (.idiv, 1) := by decide +kernel
theorem dL_step_740 : decode cL_step 740 = .ok (.iload 4, 2) := by decide +kernel
theorem dL_step_742 : decode cL_step 742 = .ok (.iconst 4, 1) := by decide +kernel
theorem dL_step_743 : decode cL_step 743 = .ok (.irem, 1) := by decide +kernel
theorem dL_step_744 : decode cL_step 744 = .ok (.ifCond .ne 9, 3) := by decide +kernel
theorem dL_step_747 : decode cL_step 747 = .ok (.sipush 10000, 3) := by decide +kernel
theorem dL_step_750 : decode cL_step 750 = .ok (.goto 5, 3) := by decide +kernel
theorem dL_step_753 : decode cL_step 753 = .ok (.bipush 100, 2) := by decide +kernel
theorem dL_step_755 : decode cL_step 755 = .ok (.irem, 1) := by decide +kernel
theorem dL_step_756 : decode cL_step 756 = .ok (.iadd, 1) := by decide +kernel
theorem dL_step_757 : decode cL_step 757 = .ok (.istore 15, 2) := by decide +kernel
theorem dL_step_759 : decode cL_step 759 = .ok (.aload_n 0, 1) := by decide +kernel
theorem dL_step_760 : decode cL_step 760 = .ok (.iload 5, 2) := by decide +kernel
theorem dL_step_762 : decode cL_step 762 = .ok (.iconst 1, 1) := by decide +kernel
theorem dL_step_763 : decode cL_step 763 = .ok (.iload 4, 2) := by decide +kernel
theorem dL_step_765 : decode cL_step 765 = .ok (.sipush 500, 3) := by decide +kernel
theorem dL_step_768 : decode cL_step 768 = .ok (.irem, 1) := by decide +kernel
theorem dL_step_769 : decode cL_step 769 = .ok (.iadd, 1) := by decide +kernel
theorem dL_step_770 : decode cL_step 770 = .ok (.iload 4, 2) := by decide +kernel
theorem dL_step_772 : decode cL_step 772 = .ok (.sipush 512, 3) := by decide +kernel
theorem dL_step_775 : decode cL_step 775 = .ok (.idiv, 1) := by decide +kernel
theorem dL_step_776 : decode cL_step 776 = .ok (.bipush 31, 2) := by decide +kernel
theorem dL_step_778 : decode cL_step 778 = .ok (.irem, 1) := by decide +kernel
theorem dL_step_779 : decode cL_step 779 = .ok (.iload 15, 2) := by decide +kernel
theorem dL_step_781 : decode cL_step 781 = .ok (.iload 4, 2) := by decide +kernel
theorem dL_step_783 : decode cL_step 783 = .ok (.sipush 16384, 3) := by decide +kernel
theorem dL_step_786 : decode cL_step 786 = .ok (.idiv, 1) := by decide +kernel
theorem dL_step_787 : decode cL_step 787 = .ok (.bipush 60, 2) := by decide +kernel
theorem dL_step_789 : decode cL_step 789 = .ok (.irem, 1) := by decide +kernel
theorem dL_step_790 : decode cL_step 790 = .ok (.invokestatic 76, 3) := by decide +kernel
theorem dL_step_793 : decode cL_step 793 = .ok (.istore 16, 2) := by decide +kernel
theorem dL_step_795 : decode cL_step 795 = .ok (.iload 16, 2) := by decide +kernel
theorem dL_step_797 : decode cL_step 797 = .ok (.sipush (-200), 3) := by decide +kernel
theorem dL_step_800 : decode cL_step 800 = .ok (.if_icmp .ne 17, 3) := by decide +kernel
theorem dL_step_803 : decode cL_step 803 = .ok (.aload_n 1, 1) := by decide +kernel
theorem dL_step_804 : decode cL_step 804 = .ok (.iconst 1, 1) := by decide +kernel
theorem dL_step_805 : decode cL_step 805 = .ok (.iaload, 1) := by decide +kernel
theorem dL_step_806 : decode cL_step 806 = .ok (.bipush 6, 2) := by decide +kernel
theorem dL_step_808 : decode cL_step 808 = .ok (.if_icmp .ne 7, 3) := by decide +kernel
theorem dL_step_811 : decode cL_step 811 = .ok (.iconst 1, 1) := by decide +kernel
theorem dL_step_812 : decode cL_step 812 = .ok (.goto 4, 3) := by decide +kernel
theorem dL_step_815 : decode cL_step 815 = .ok (.iconst 0, 1) := by decide +kernel
theorem dL_step_816 : decode cL_step 816 = .ok (.ireturn, 1) := by decide +kernel
theorem dL_step_817 : decode cL_step 817 = .ok (.aload_n 1, 1) := by decide +kernel
theorem dL_step_818 : decode cL_step 818 = .ok (.iconst 1, 1) := by decide +kernel
theorem dL_step_819 : decode cL_step 819 = .ok (.dup2, 1) := by decide +kernel
theorem dL_step_820 : decode cL_step 820 = .ok (.iaload, 1) := by decide +kernel
theorem dL_step_821 : decode cL_step 821 = .ok (.iconst 1, 1) := by decide +kernel
theorem dL_step_822 : decode cL_step 822 = .ok (.iadd, 1) := by decide +kernel
theorem dL_step_823 : decode cL_step 823 = .ok (.iastore, 1) := by decide +kernel
theorem dL_step_824 : decode cL_step 824 = .ok (.aload_n 1, 1) := by decide +kernel
theorem dL_step_825 : decode cL_step 825 = .ok (.bipush 9, 2) := by decide +kernel
theorem dL_step_827 : decode cL_step 827 = .ok (.iload 16, 2) := by decide +kernel
theorem dL_step_829 : decode cL_step 829 = .ok (.iadd, 1) := by decide +kernel
theorem dL_step_830 : decode cL_step 830 = .ok (.iload 15, 2) := by decide +kernel
theorem dL_step_832 : decode cL_step 832 = .ok (.iastore, 1) := by decide +kernel
theorem dL_step_833 : decode cL_step 833 = .ok (.aload_n 1, 1) := by decide +kernel
theorem dL_step_834 : decode cL_step 834 = .ok (.bipush 15, 2) := by decide +kernel
theorem dL_step_836 : decode cL_step 836 = .ok (.iload 16, 2) := by decide +kernel
theorem dL_step_838 : decode cL_step 838 = .ok (.iadd, 1) := by decide +kernel
theorem dL_step_839 : decode cL_step 839 = .ok (.iload 4, 2) := by decide +kernel
theorem dL_step_841 : decode cL_step 841 = .ok (.sipush 16384, 3) := by decide +kernel
theorem dL_step_844 : decode cL_step 844 = .ok (.idiv, 1) := by decide +kernel
theorem dL_step_845 : decode cL_step 845 = .ok (.bipush 60, 2) := by decide +kernel
theorem dL_step_847 : decode cL_step 847 = .ok (.irem, 1) := by decide +kernel
theorem dL_step_848 : decode cL_step 848 = .ok (.iastore, 1) := by decide +kernel
theorem dL_step_849 : decode cL_step 849 = .ok (.aload_n 1, 1) := by decide +kernel
theorem dL_step_850 : decode cL_step 850 = .ok (.bipush 21, 2) := by decide +kernel
theorem dL_step_852 : decode cL_step 852 = .ok (.iload 16, 2) := by decide +kernel
theorem dL_step_854 : decode cL_step 854 = .ok (.iadd, 1) := by decide +kernel
theorem dL_step_855 : decode cL_step 855 = .ok (.iload 4, 2) := by decide +kernel
theorem dL_step_857 : decode cL_step 857 = .ok (.sipush 512, 3) := by decide +kernel
theorem dL_step_860 : decode cL_step 860 = .ok (.idiv, 1) := by decide +kernel
theorem dL_step_861 : decode cL_step 861 = .ok (.bipush 31, 2) := by decide +kernel
theorem dL_step_863 : decode cL_step 863 = .ok (.irem, 1) := by decide +kernel
theorem dL_step_864 : decode cL_step 864 = .ok (.iastore, 1) := by decide +kernel
theorem dL_step_865 : decode cL_step 865 = .ok (.iload 16, 2) := by decide +kernel
theorem dL_step_867 : decode cL_step 867 = .ok (.aload_n 1, 1) := by decide +kernel
theorem dL_step_868 : decode cL_step 868 = .ok (.iconst 1, 1) := by decide +kernel
theorem dL_step_869 : decode cL_step 869 = .ok (.iaload, 1) := by decide +kernel
theorem dL_step_870 : decode cL_step 870 = .ok (.iconst 1, 1) := by decide +kernel
theorem dL_step_871 : decode cL_step 871 = .ok (.isub, 1) := by decide +kernel
theorem dL_step_872 : decode cL_step 872 = .ok (.if_icmp .ne 27, 3) := by decide +kernel
theorem dL_step_875 : decode cL_step 875 = .ok (.aload_n 0, 1) := by decide +kernel
theorem dL_step_876 : decode cL_step 876 = .ok (.iload 16, 2) := by decide +kernel
theorem dL_step_878 : decode cL_step 878 = .ok (.iconst 0, 1) := by decide +kernel
theorem dL_step_879 : decode cL_step 879 = .ok (.invokevirtual 79, 3) := by decide +kernel
theorem dL_step_882 : decode cL_step 882 = .ok (.ifCond .ne 17, 3) := by decide +kernel
theorem dL_step_885 : decode cL_step 885 = .ok (.aload_n 0, 1) := by decide +kernel
theorem dL_step_886 : decode cL_step 886 = .ok (.iload 16, 2) := by decide +kernel
theorem dL_step_888 : decode cL_step 888 = .ok (.iconst 3, 1) := by decide +kernel
theorem dL_step_889 : decode cL_step 889 = .ok (.invokevirtual 79, 3) := by decide +kernel
theorem dL_step_892 : decode cL_step 892 = .ok (.ifCond .ne 7, 3) := by decide +kernel
theorem dL_step_895 : decode cL_step 895 = .ok (.iconst 1, 1) := by decide +kernel
theorem dL_step_896 : decode cL_step 896 = .ok (.goto 4, 3) := by decide +kernel
theorem dL_step_899 : decode cL_step 899 = .ok (.iconst 0, 1) := by decide +kernel
theorem dL_step_900 : decode cL_step 900 = .ok (.ireturn, 1) := by decide +kernel
theorem dL_step_901 : decode cL_step 901 = .ok (.aload_n 0, 1) := by decide +kernel
theorem dL_step_902 : decode cL_step 902 = .ok (.iload 5, 2) := by decide +kernel
theorem dL_step_904 : decode cL_step 904 = .ok (.iload 4, 2) := by decide +kernel
theorem dL_step_906 : decode cL_step 906 = .ok (.bipush 31, 2) := by decide +kernel
theorem dL_step_908 : decode cL_step 908 = .ok (.irem, 1) := by decide +kernel
theorem dL_step_909 : decode cL_step 909 = .ok (.iconst 1, 1) := by decide +kernel
theorem dL_step_910 : decode cL_step 910 = .ok (.iload 4, 2) := by decide +kernel
theorem dL_step_912 : decode cL_step 912 = .ok (.bipush 32, 2) := by decide +kernel
theorem dL_step_914 : decode cL_step 914 = .ok (.idiv, 1) := by decide +kernel
theorem dL_step_915 : decode cL_step 915 = .ok (.bipush 24, 2) := by decide +kernel
theorem dL_step_917 : decode cL_step 917 = .ok (.irem, 1) := by decide +kernel
theorem dL_step_918 : decode cL_step 918 = .ok (.iadd, 1) := by decide +kernel
theorem dL_step_919 : decode cL_step 919 = .ok (.invokestatic 82, 3) := by decide +kernel
theorem dL_step_922 : decode cL_step 922 = .ok (.istore 17, 2) := by decide +kernel
theorem dL_step_924 : decode cL_step 924 = .ok (.aload_n 1, 1) := by decide +kernel
theorem dL_step_925 : decode cL_step 925 = .ok (.iconst 2, 1) := by decide +kernel
theorem dL_step_926 : decode cL_step 926 = .ok (.dup2, 1) := by decide +kernel
theorem dL_step_927 : decode cL_step 927 = .ok (.iaload, 1) := by decide +kernel
theorem dL_step_928 : decode cL_step 928 = .ok (.iload 17, 2) := by decide +kernel
theorem dL_step_930 : decode cL_step 930 = .ok (.ifCond .ge 7, 3) := by decide +kernel
theorem dL_step_933 : decode cL_step 933 = .ok (.iconst 0, 1) := by decide +kernel
theorem dL_step_934 : decode cL_step 934 = .ok (.goto 4, 3) := by decide +kernel
theorem dL_step_937 : decode cL_step 937 = .ok (.iconst 1, 1) := by decide +kernel
theorem dL_step_938 : decode cL_step 938 = .ok (.iadd, 1) := by decide +kernel
theorem dL_step_939 : decode cL_step 939 = .ok (.iastore, 1) := by decide +kernel
theorem dL_step_940 : decode cL_step 940 = .ok (.iload 17, 2) := by decide +kernel
theorem dL_step_942 : decode cL_step 942 = .ok (.sipush (-200), 3) := by decide +kernel
theorem dL_step_945 : decode cL_step 945 = .ok (.if_icmp .ne 19, 3) := by decide +kernel
theorem dL_step_948 : decode cL_step 948 = .ok (.aload_n 1, 1) := by decide +kernel
theorem dL_step_949 : decode cL_step 949 = .ok (.iconst 2, 1) := by decide +kernel
theorem dL_step_950 : decode cL_step 950 = .ok (.iaload, 1) := by decide +kernel
theorem dL_step_951 : decode cL_step 951 = .ok (.bipush 6, 2) := by decide +kernel
theorem dL_step_953 : decode cL_step 953 = .ok (.if_icmp .ne 7, 3) := by decide +kernel
theorem dL_step_956 : decode cL_step 956 = .ok (.iconst 1, 1) := by decide +kernel
theorem dL_step_957 : decode cL_step 957 = .ok (.goto 54, 3) := by decide +kernel
theorem dL_step_960 : decode cL_step 960 = .ok (.iconst 0, 1) := by decide +kernel
theorem dL_step_961 : decode cL_step 961 = .ok (.goto 50, 3) := by decide +kernel
theorem dL_step_964 : decode cL_step 964 = .ok (.iload 17, 2) := by decide +kernel
theorem dL_step_966 : decode cL_step 966 = .ok (.aload_n 1, 1) := by decide +kernel
theorem dL_step_967 : decode cL_step 967 = .ok (.iconst 2, 1) := by decide +kernel
theorem dL_step_968 : decode cL_step 968 = .ok (.iaload, 1) := by decide +kernel
theorem dL_step_969 : decode cL_step 969 = .ok (.iconst 1, 1) := by decide +kernel
theorem dL_step_970 : decode cL_step 970 = .ok (.isub, 1) := by decide +kernel
theorem dL_step_971 : decode cL_step 971 = .ok (.if_icmp .ne 39, 3) := by decide +kernel
theorem dL_step_974 : decode cL_step 974 = .ok (.aload_n 1, 1) := by decide +kernel
theorem dL_step_975 : decode cL_step 975 = .ok (.iconst 5, 1) := by decide +kernel
theorem dL_step_976 : decode cL_step 976 = .ok (.iaload, 1) := by decide +kernel
theorem dL_step_977 : decode cL_step 977 = .ok (.ifCond .gt 12, 3) := by decide +kernel
theorem dL_step_980 : decode cL_step 980 = .ok (.aload_n 0, 1) := by decide +kernel
theorem dL_step_981 : decode cL_step 981 = .ok (.iload 17, 2) := by decide +kernel
theorem dL_step_983 : decode cL_step 983 = .ok (.invokevirtual 85, 3) := by decide +kernel
theorem dL_step_986 : decode cL_step 986 = .ok (.ifCond .ne 24, 3) := by decide +kernel
theorem dL_step_989 : decode cL_step 989 = .ok (.iload 4, 2) := by decide +kernel
theorem dL_step_991 : decode cL_step 991 = .ok (.bipush 31, 2) := by decide +kernel
theorem dL_step_993 : decode cL_step 993 = .ok (.irem, 1) := by decide +kernel
theorem dL_step_994 : decode cL_step 994 = .ok (.ifCond .gt 12, 3) := by decide +kernel
theorem dL_step_997 : decode cL_step 997 = .ok (.aload_n 0, 1) := by decide +kernel
theorem dL_step_998 : decode cL_step 998 = .ok (.iload 17, 2) := by decide +kernel
theorem dL_step_1000 : decode cL_step 1000 = .ok (.invokevirtual 85, 3) := by decide +kernel
theorem dL_step_1003 : decode cL_step 1003 = .ok (.ifCond .ne 7, 3) := by decide +kernel
theorem dL_step_1006 : decode cL_step 1006 = .ok (.iconst 1, 1) := by decide +kernel
theorem dL_step_1007 : decode cL_step 1007 = .ok (.goto 4, 3) := by decide +kernel
theorem dL_step_1010 : decode cL_step 1010 = .ok (.iconst 0, 1) := by decide +kernel
theorem dL_step_1011 : decode cL_step 1011 = .ok (.ireturn, 1) := by decide +kernel
theorem dL_step_1012 : decode cL_step 1012 = .ok (.iload 4, 2) := by decide +kernel
theorem dL_step_1014 : decode cL_step 1014 = .ok (.iconst 5, 1) := by decide +kernel
theorem dL_step_1015 : decode cL_step 1015 = .ok (.irem, 1) := by decide +kernel
theorem dL_step_1016 : decode cL_step 1016 = .ok (.ifCond .ne 7, 3) := by decide +kernel
theorem dL_step_1019 : decode cL_step 1019 = .ok (.iconst 0, 1) := by decide +kernel
theorem dL_step_1020 : decode cL_step 1020 = .ok (.goto 9, 3) := by decide +kernel
theorem dL_step_1023 : decode cL_step 1023 = .ok (.iload 4, 2) := by decide +kernel
theorem dL_step_1025 : decode cL_step 1025 = .ok (.sipush 2000, 3) := by decide +kernel
theorem dL_step_1028 : decode cL_step 1028 = .ok (.irem, 1) := by decide +kernel
theorem dL_step_1029 : decode cL_step 1029 = .ok (.istore 18, 2) := by decide +kernel
theorem dL_step_1031 : decode cL_step 1031 = .ok (.aload_n 0, 1) := by decide +kernel
theorem dL_step_1032 : decode cL_step 1032 = .ok (.iload 5, 2) := by decide +kernel
theorem dL_step_1034 : decode cL_step 1034 = .ok (.iload 18, 2) := by decide +kernel
theorem dL_step_1036 : decode cL_step 1036 = .ok (.invokevirtual 89, 3) := by decide +kernel
theorem dL_step_1039 : decode cL_step 1039 = .ok (.ifCond .lt 36, 3) := by decide +kernel
theorem dL_step_1042 : decode cL_step 1042 = .ok (.aload_n 0, 1) := by decide +kernel
theorem dL_step_1043 : decode cL_step 1043 = .ok (.iload 5, 2) := by decide +kernel
theorem dL_step_1045 : decode cL_step 1045 = .ok (.iload 18, 2) := by decide +kernel
theorem dL_step_1047 : decode cL_step 1047 = .ok (.invokevirtual 89, 3) := by decide +kernel
theorem dL_step_1050 : decode cL_step 1050 = .ok (.iload 18, 2) := by decide +kernel
theorem dL_step_1052 : decode cL_step 1052 = .ok (.if_icmp .ne 23, 3) := by decide +kernel
theorem dL_step_1055 : decode cL_step 1055 = .ok (.iload 18, 2) := by decide +kernel
theorem dL_step_1057 : decode cL_step 1057 = .ok (.ifCond .gt 14, 3) := by decide +kernel
theorem dL_step_1060 : decode cL_step 1060 = .ok (.aload_n 0, 1) := by decide +kernel
theorem dL_step_1061 : decode cL_step 1061 = .ok (.iload 5, 2) := by decide +kernel
theorem dL_step_1063 : decode cL_step 1063 = .ok (.iconst 1, 1) := by decide +kernel
theorem dL_step_1064 : decode cL_step 1064 = .ok (.invokevirtual 92, 3) := by decide +kernel
theorem dL_step_1067 : decode cL_step 1067 = .ok (.iconst 1, 1) := by decide +kernel
theorem dL_step_1068 : decode cL_step 1068 = .ok (.if_icmp .ne 7, 3) := by decide +kernel
theorem dL_step_1071 : decode cL_step 1071 = .ok (.iconst 1, 1) := by decide +kernel
theorem dL_step_1072 : decode cL_step 1072 = .ok (.goto 4, 3) := by decide +kernel
theorem dL_step_1075 : decode cL_step 1075 = .ok (.iconst 0, 1) := by decide +kernel
theorem dL_step_1076 : decode cL_step 1076 = .ok (.ireturn, 1) := by decide +kernel
theorem dL_step_1077 : decode cL_step 1077 = .ok (.aload_n 0, 1) := by decide +kernel
theorem dL_step_1078 : decode cL_step 1078 = .ok (.iload 5, 2) := by decide +kernel
theorem dL_step_1080 : decode cL_step 1080 = .ok (.iconst 1, 1) := by decide +kernel
theorem dL_step_1081 : decode cL_step 1081 = .ok (.iload 4, 2) := by decide +kernel
theorem dL_step_1083 : decode cL_step 1083 = .ok (.sipush 300, 3) := by decide +kernel
theorem dL_step_1086 : decode cL_step 1086 = .ok (.irem, 1) := by decide +kernel
theorem dL_step_1087 : decode cL_step 1087 = .ok (.iadd, 1) := by decide +kernel
theorem dL_step_1088 : decode cL_step 1088 = .ok (.iload_n 3, 1) := by decide +kernel
theorem dL_step_1089 : decode cL_step 1089 = .ok (.bipush 16, 2) := by decide +kernel
theorem dL_step_1091 : decode cL_step 1091 = .ok (.idiv, 1) := by decide +kernel
theorem dL_step_1092 : decode cL_step 1092 = .ok (.iconst 3, 1) := by decide +kernel
theorem dL_step_1093 : decode cL_step 1093 = .ok (.irem, 1) := by decide +kernel
theorem dL_step_1094 : decode cL_step 1094 = .ok (.ifCond .eq 10, 3) := by decide +kernel
theorem dL_step_1097 : decode cL_step 1097 = .ok (.aload_n 1, 1) := by decide +kernel
theorem dL_step_1098 : decode cL_step 1098 = .ok (.iconst 0, 1) := by decide +kernel
theorem dL_step_1099 : decode cL_step 1099 = .ok (.iaload, 1) := by decide +kernel
theorem dL_step_1100 : decode cL_step 1100 = .ok (.iconst 1, 1) := by decide +kernel
theorem dL_step_1101 : decode cL_step 1101 = .ok (.if_icmp .ne 7, 3) := by decide +kernel
theorem dL_step_1104 : decode cL_step 1104 = .ok (.iconst (-1), 1) := by decide +kernel
theorem dL_step_1105 : decode cL_step 1105 = .ok (.goto 11, 3) := by decide +kernel
theorem dL_step_1108 : decode cL_step 1108 = .ok (.iload 5, 2) := by decide +kernel
theorem dL_step_1110 : decode cL_step 1110 = .ok (.iconst 1, 1) := by decide +kernel
theorem dL_step_1111 : decode cL_step 1111 = .ok (.iadd, 1) := by decide +kernel
theorem dL_step_1112 : decode cL_step 1112 = .ok (.aload_n 1, 1) := by decide +kernel
theorem dL_step_1113 : decode cL_step 1113 = .ok (.iconst 0, 1) := by decide +kernel
theorem dL_step_1114 : decode cL_step 1114 = .ok (.iaload, 1) := by decide +kernel
theorem dL_step_1115 : decode cL_step 1115 = .ok (.irem, 1) := by decide +kernel
theorem dL_step_1116 : decode cL_step 1116 = .ok (.invokestatic 95, 3) := by decide +kernel
theorem dL_step_1119 : decode cL_step 1119 = .ok (.ireturn, 1) := by decide +kernel
theorem dL_step_1120 : decode cL_step 1120 = .ok (.aload_n 0, 1) := by decide +kernel
theorem dL_step_1121 : decode cL_step 1121 = .ok (.aload_n 1, 1) := by decide +kernel
theorem dL_step_1122 : decode cL_step 1122 = .ok (.iconst 1, 1) := by decide +kernel
theorem dL_step_1123 : decode cL_step 1123 = .ok (.iload_n 3, 1) := by decide +kernel
theorem dL_step_1124 : decode cL_step 1124 = .ok (.sipush 200, 3) := by decide +kernel
theorem dL_step_1127 : decode cL_step 1127 = .ok (.irem, 1) := by decide +kernel
theorem dL_step_1128 : decode cL_step 1128 = .ok (.iadd, 1) := by decide +kernel
theorem dL_step_1129 : decode cL_step 1129 = .ok (.iconst 1, 1) := by decide +kernel
theorem dL_step_1130 : decode cL_step 1130 = .ok (.iload 4, 2) := by decide +kernel
theorem dL_step_1132 : decode cL_step 1132 = .ok (.bipush 24, 2) := by decide +kernel
theorem dL_step_1134 : decode cL_step 1134 = .ok (.irem, 1) := by decide +kernel
theorem dL_step_1135 : decode cL_step 1135 = .ok (.iadd, 1) := by decide +kernel
theorem dL_step_1136 : decode cL_step 1136 = .ok (.invokestatic 99, 3) := by decide +kernel
theorem dL_step_1139 : decode cL_step 1139 = .ok (.ireturn, 1) := by decide +kernel
theorem dL_step_1140 : decode cL_step 1140 = .ok (.aload_n 1, 1) := by decide +kernel
theorem dL_step_1141 : decode cL_step 1141 = .ok (.bipush 8, 2) := by decide +kernel
theorem dL_step_1143 : decode cL_step 1143 = .ok (.dup2, 1) := by decide +kernel
theorem dL_step_1144 : decode cL_step 1144 = .ok (.iaload, 1) := by decide +kernel
theorem dL_step_1145 : decode cL_step 1145 = .ok (.iconst 1, 1) := by decide +kernel
theorem dL_step_1146 : decode cL_step 1146 = .ok (.iadd, 1) := by decide +kernel
theorem dL_step_1147 : decode cL_step 1147 = .ok (.iastore, 1) := by decide +kernel
theorem dL_step_1148 : decode cL_step 1148 = .ok (.aload_n 1, 1) := by decide +kernel
theorem dL_step_1149 : decode cL_step 1149 = .ok (.bipush 8, 2) := by decide +kernel
theorem dL_step_1151 : decode cL_step 1151 = .ok (.iaload, 1) := by decide +kernel
theorem dL_step_1152 : decode cL_step 1152 = .ok (.iconst 3, 1) := by decide +kernel
theorem dL_step_1153 : decode cL_step 1153 = .ok (.if_icmp .gt 28, 3) := by decide +kernel
theorem dL_step_1156 : decode cL_step 1156 = .ok (.aload_n 0, 1) := by decide +kernel
theorem dL_step_1157 : decode cL_step 1157 = .ok (.iload 5, 2) := by decide +kernel
theorem dL_step_1159 : decode cL_step 1159 = .ok (.iload 4, 2) := by decide +kernel
theorem dL_step_1161 : decode cL_step 1161 = .ok (.bipush 10, 2) := by decide +kernel
theorem dL_step_1163 : decode cL_step 1163 = .ok (.irem, 1) := by decide +kernel
theorem dL_step_1164 : decode cL_step 1164 = .ok (.invokevirtual 103, 3) := by decide +kernel
theorem dL_step_1167 : decode cL_step 1167 = .ok (.aload_n 0, 1) := by decide +kernel
theorem dL_step_1168 : decode cL_step 1168 = .ok (.iload 5, 2) := by decide +kernel
theorem dL_step_1170 : decode cL_step 1170 = .ok (.iload 4, 2) := by decide +kernel
theorem dL_step_1172 : decode cL_step 1172 = .ok (.bipush 10, 2) := by decide +kernel
theorem dL_step_1174 : decode cL_step 1174 = .ok (.irem, 1) := by decide +kernel
theorem dL_step_1175 : decode cL_step 1175 = .ok (.invokevirtual 52, 3) := by decide +kernel
theorem dL_step_1178 : decode cL_step 1178 = .ok (.if_icmp .ne 7, 3) := by decide +kernel
theorem dL_step_1181 : decode cL_step 1181 = .ok (.iconst 1, 1) := by decide +kernel
theorem dL_step_1182 : decode cL_step 1182 = .ok (.goto 4, 3) := by decide +kernel
theorem dL_step_1185 : decode cL_step 1185 = .ok (.iconst 0, 1) := by decide +kernel
theorem dL_step_1186 : decode cL_step 1186 = .ok (.ireturn, 1) := by decide +kernel
theorem dL_step_1187 : decode cL_step 1187 = .ok (.aload_n 0, 1) := by decide +kernel
theorem dL_step_1188 : decode cL_step 1188 = .ok (.aload_n 1, 1) := by decide +kernel
theorem dL_step_1189 : decode cL_step 1189 = .ok (.iconst 1, 1) := by decide +kernel
theorem dL_step_1190 : decode cL_step 1190 = .ok (.iload_n 3, 1) := by decide +kernel
theorem dL_step_1191 : decode cL_step 1191 = .ok (.iload 4, 2) := by decide +kernel
theorem dL_step_1193 : decode cL_step 1193 = .ok (.iconst 4, 1) := by decide +kernel
theorem dL_step_1194 : decode cL_step 1194 = .ok (.irem, 1) := by decide +kernel
theorem dL_step_1195 : decode cL_step 1195 = .ok (.ifCond .ne 8, 3) := by decide +kernel
theorem dL_step_1198 : decode cL_step 1198 = .ok (.bipush 12, 2) := by decide +kernel
theorem dL_step_1200 : decode cL_step 1200 = .ok (.goto 4, 3) := by decide +kernel
theorem dL_step_1203 : decode cL_step 1203 = .ok (.iconst 3, 1) := by decide +kernel
theorem dL_step_1204 : decode cL_step 1204 = .ok (.irem, 1) := by decide +kernel
theorem dL_step_1205 : decode cL_step 1205 = .ok (.iadd, 1) := by decide +kernel
theorem dL_step_1206 : decode cL_step 1206 = .ok (.invokestatic 106, 3) := by decide +kernel
theorem dL_step_1209 : decode cL_step 1209 = .ok (.ireturn, 1) := by decide +kernel
theorem dL_isTide_0 : decode cL_isTide 0 = .ok (.aload_n 1, 1) := by decide +kernel
theorem dL_isTide_1 : decode cL_isTide 1 = .ok (.iconst 3, 1) := by decide +kernel
theorem dL_isTide_2 : decode cL_isTide 2 = .ok (.iaload, 1) := by decide +kernel
theorem dL_isTide_3 : decode cL_isTide 3 = .ok (.iconst 1, 1) := by decide +kernel
theorem dL_isTide_4 : decode cL_isTide 4 = .ok (.if_icmp .gt 53, 3) := by decide +kernel
theorem dL_isTide_7 : decode cL_isTide 7 = .ok (.aload_n 1, 1) := by decide +kernel
theorem dL_isTide_8 : decode cL_isTide 8 = .ok (.iconst 4, 1) := by decide +kernel
theorem dL_isTide_9 : decode cL_isTide 9 = .ok (.iaload, 1) := by decide +kernel
theorem dL_isTide_10 : decode cL_isTide 10 = .ok (.ifCond .gt 47, 3) := by decide +kernel
theorem dL_isTide_13 : decode cL_isTide 13 = .ok (.aload_n 0, 1) := by decide +kernel
theorem dL_isTide_14 : decode cL_isTide 14 = .ok (.aload_n 1, 1) := by decide +kernel
theorem dL_isTide_15 : decode cL_isTide 15 = .ok (.iconst 5, 1) := by decide +kernel
theorem dL_isTide_16 : decode cL_isTide 16 = .ok (.iaload, 1) := by decide +kernel
theorem dL_isTide_17 : decode cL_isTide 17 = .ok (.bipush 100, 2) := by decide +kernel
theorem dL_isTide_19 : decode cL_isTide 19 = .ok (.iadd, 1) := by decide +kernel
theorem dL_isTide_20 : decode cL_isTide 20 = .ok (.invokevirtual 64, 3) := by decide +kernel
theorem dL_isTide_23 : decode cL_isTide 23 = .ok (.aload_n 0, 1) := by decide +kernel
theorem dL_isTide_24 : decode cL_isTide 24 = .ok (.aload_n 1, 1) := by decide +kernel
theorem dL_isTide_25 : decode cL_isTide 25 = .ok (.iconst 5, 1) := by decide +kernel
theorem dL_isTide_26 : decode cL_isTide 26 = .ok (.iaload, 1) := by decide +kernel
theorem dL_isTide_27 : decode cL_isTide 27 = .ok (.bipush 100, 2) := by decide +kernel
theorem dL_isTide_29 : decode cL_isTide 29 = .ok (.iadd, 1) := by decide +kernel
theorem dL_isTide_30 : decode cL_isTide 30 = .ok (.iload_n 2, 1) := by decide +kernel
theorem dL_isTide_31 : decode cL_isTide 31 = .ok (.iadd, 1) := by decide +kernel
theorem dL_isTide_32 : decode cL_isTide 32 = .ok (.invokevirtual 64, 3) := by decide +kernel
theorem dL_isTide_35 : decode cL_isTide 35 = .ok (.if_icmp .ne 26, 3) := by decide +kernel
theorem dL_isTide_38 : decode cL_isTide 38 = .ok (.aload_n 0, 1) := by decide +kernel
theorem dL_isTide_39 : decode cL_isTide 39 = .ok (.aload_n 1, 1) := by decide +kernel
theorem dL_isTide_40 : decode cL_isTide 40 = .ok (.iconst 5, 1) := by decide +kernel
theorem dL_isTide_41 : decode cL_isTide 41 = .ok (.iaload, 1) := by decide +kernel
theorem dL_isTide_42 : decode cL_isTide 42 = .ok (.invokevirtual 64, 3) := by decide +kernel
theorem dL_isTide_45 : decode cL_isTide 45 = .ok (.aload_n 0, 1) := by decide +kernel
theorem dL_isTide_46 : decode cL_isTide 46 = .ok (.aload_n 1, 1) := by decide +kernel
theorem dL_isTide_47 : decode cL_isTide 47 = .ok (.iconst 5, 1) := by decide +kernel
theorem dL_isTide_48 : decode cL_isTide 48 = .ok (.iaload, 1) := by decide +kernel
theorem dL_isTide_49 : decode cL_isTide 49 = .ok (.iload_n 2, 1) := by decide +kernel
theorem dL_isTide_50 : decode cL_isTide 50 = .ok (.iadd, 1) := by decide +kernel
theorem dL_isTide_51 : decode cL_isTide 51 = .ok (.invokevirtual 64, 3) := by decide +kernel
theorem dL_isTide_54 : decode cL_isTide 54 = .ok (.if_icmp .ne 7, 3) := by decide +kernel
theorem dL_isTide_57 : decode cL_isTide 57 = .ok (.iconst 1, 1) := by decide +kernel
theorem dL_isTide_58 : decode cL_isTide 58 = .ok (.goto 4, 3) := by decide +kernel
theorem dL_isTide_61 : decode cL_isTide 61 = .ok (.iconst 0, 1) := by decide +kernel
theorem dL_isTide_62 : decode cL_isTide 62 = .ok (.ireturn, 1) := by decide +kernel
theorem dL_isDredged_0 : decode cL_isDredged 0 = .ok (.aload_n 0, 1) := by decide +kernel
theorem dL_isDredged_1 : decode cL_isDredged 1 = .ok (.iload_n 1, 1) := by decide +kernel
theorem dL_isDredged_2 : decode cL_isDredged 2 = .ok (.iload_n 2, 1) := by decide +kernel
theorem dL_isDredged_3 : decode cL_isDredged 3 = .ok (.invokevirtual 92, 3) := by decide +kernel
theorem dL_isDredged_6 : decode cL_isDredged 6 = .ok (.istore 4, 2) := by decide +kernel
theorem dL_isDredged_8 : decode cL_isDredged 8 = .ok (.aload_n 0, 1) := by decide +kernel
theorem dL_isDredged_9 : decode cL_isDredged 9 = .ok (.iload_n 1, 1) := by decide +kernel
theorem dL_isDredged_10 : decode cL_isDredged 10 = .ok (.iconst 5, 1) := by decide +kernel
theorem dL_isDredged_11 : decode cL_isDredged 11 = .ok (.invokevirtual 52, 3) := by decide +kernel
theorem dL_isDredged_14 : decode cL_isDredged 14 = .ok (.istore 5, 2) := by decide +kernel
theorem dL_isDredged_16 : decode cL_isDredged 16 = .ok (.iload_n 3, 1) := by decide +kernel
theorem dL_isDredged_17 : decode cL_isDredged 17 = .ok (.iconst (-1), 1) := by decide +kernel
theorem dL_isDredged_18 : decode cL_isDredged 18 = .ok (.if_icmp .ne 7, 3) := by decide +kernel
theorem dL_isDredged_21 : decode cL_isDredged 21 = .ok (.iconst 0, 1) := by decide +kernel
theorem dL_isDredged_22 : decode cL_isDredged 22 = .ok (.goto 9, 3) := by decide +kernel
theorem dL_isDredged_25 : decode cL_isDredged 25 = .ok (.aload_n 0, 1) := by decide +kernel
theorem dL_isDredged_26 : decode cL_isDredged 26 = .ok (.iload_n 3, 1) := by decide +kernel
theorem dL_isDredged_27 : decode cL_isDredged 27 = .ok (.iconst 4, 1) := by decide +kernel
theorem dL_isDredged_28 : decode cL_isDredged 28 = .ok (.invokevirtual 52, 3) := by decide +kernel
theorem dL_isDredged_31 : decode cL_isDredged 31 = .ok (.istore 6, 2) := by decide +kernel
theorem dL_isDredged_33 : decode cL_isDredged 33 = .ok (.aload_n 0, 1) := by decide +kernel
theorem dL_isDredged_34 : decode cL_isDredged 34 = .ok (.bipush 9, 2) := by decide +kernel
theorem dL_isDredged_36 : decode cL_isDredged 36 = .ok (.invokevirtual 109, 3) := by decide +kernel
theorem dL_isDredged_39 : decode cL_isDredged 39 = .ok (.lstore 7, 2) := by decide +kernel
theorem dL_isDredged_41 : decode cL_isDredged 41 = .ok (.aload_n 0, 1) := by decide +kernel
theorem dL_isDredged_42 : decode cL_isDredged 42 = .ok (.iload_n 1, 1) := by decide +kernel
theorem dL_isDredged_43 : decode cL_isDredged 43 = .ok (.iload_n 2, 1) := by decide +kernel
theorem dL_isDredged_44 : decode cL_isDredged 44 = .ok (.iload_n 3, 1) := by decide +kernel
theorem dL_isDredged_45 : decode cL_isDredged 45 = .ok (.iconst 0, 1) := by decide +kernel
theorem dL_isDredged_46 : decode cL_isDredged 46 = .ok (.invokestatic 67, 3) := by decide +kernel
theorem dL_isDredged_49 : decode cL_isDredged 49 = .ok (.istore 9, 2) := by decide +kernel
theorem dL_isDredged_51 : decode cL_isDredged 51 = .ok (.iload 9, 2) := by decide +kernel
theorem dL_isDredged_53 : decode cL_isDredged 53 = .ok (.ifCond .ge 45, 3) := by decide +kernel
theorem dL_isDredged_56 : decode cL_isDredged 56 = .ok (.iload 9, 2) := by decide +kernel
theorem dL_isDredged_58 : decode cL_isDredged 58 = .ok (.sipush (-200), 3) := by decide +kernel
theorem dL_isDredged_61 : decode cL_isDredged 61 = .ok (.if_icmp .ne 35, 3) := by decide +kernel
theorem dL_isDredged_64 : decode cL_isDredged 64 = .ok (.iload 4, 2) := by decide +kernel
theorem dL_isDredged_66 : decode cL_isDredged 66 = .ok (.ifCond .le 30, 3) := by decide +kernel
theorem dL_isDredged_69 : decode cL_isDredged 69 = .ok (.aload_n 0, 1) := by decide +kernel
theorem dL_isDredged_70 : decode cL_isDredged 70 = .ok (.iload_n 1, 1) := by decide +kernel
theorem dL_isDredged_71 : decode cL_isDredged 71 = .ok (.iconst 5, 1) := by decide +kernel
theorem dL_isDredged_72 : decode cL_isDredged 72 = .ok (.invokevirtual 52, 3) := by decide +kernel
theorem dL_isDredged_75 : decode cL_isDredged 75 = .ok (.iload 5, 2) := by decide +kernel
theorem dL_isDredged_77 : decode cL_isDredged 77 = .ok (.if_icmp .ne 19, 3) := by decide +kernel
theorem dL_isDredged_80 : decode cL_isDredged 80 = .ok (.aload_n 0, 1) := by decide +kernel
theorem dL_isDredged_81 : decode cL_isDredged 81 = .ok (.bipush 9, 2) := by decide +kernel
theorem dL_isDredged_83 : decode cL_isDredged 83 = .ok (.invokevirtual 109, 3) := by decide +kernel
theorem dL_isDredged_86 : decode cL_isDredged 86 = .ok (.lload 7, 2) := by decide +kernel
theorem dL_isDredged_88 : decode cL_isDredged 88 = .ok (.lcmp, 1) := by decide +kernel
theorem dL_isDredged_89 : decode cL_isDredged 89 = .ok (.ifCond .ne 7, 3) := by decide +kernel
theorem dL_isDredged_92 : decode cL_isDredged 92 = .ok (.iconst 1, 1) := by decide +kernel
theorem dL_isDredged_93 : decode cL_isDredged 93 = .ok (.goto 4, 3) := by decide +kernel
theorem dL_isDredged_96 : decode cL_isDredged 96 = .ok (.iconst 0, 1) := by decide +kernel
theorem dL_isDredged_97 : decode cL_isDredged 97 = .ok (.ireturn, 1) := by decide +kernel
theorem dL_isDredged_98 : decode cL_isDredged 98 = .ok (.iload 4, 2) := by decide +kernel
theorem dL_isDredged_100 : decode cL_isDredged 100 = .ok (.ifCond .ne 96, 3) := by decide +kernel
theorem dL_isDredged_103 : decode cL_isDredged 103 = .ok (.aload_n 0, 1) := by decide +kernel
theorem dL_isDredged_104 : decode cL_isDredged 104 = .ok (.iload_n 1, 1) := by decide +kernel
theorem dL_isDredged_105 : decode cL_isDredged 105 = .ok (.iconst 5, 1) := by decide +kernel
theorem dL_isDredged_106 : decode cL_isDredged 106 = .ok (.invokevirtual 52, 3) := by decide +kernel
theorem dL_isDredged_109 : decode cL_isDredged 109 = .ok (.iload 5, 2) := by decide +kernel
theorem dL_isDredged_111 : decode cL_isDredged 111 = .ok (.iload_n 2, 1) := by decide +kernel
theorem dL_isDredged_112 : decode cL_isDredged 112 = .ok (.isub, 1) := by decide +kernel
theorem dL_isDredged_113 : decode cL_isDredged 113 = .ok (.if_icmp .ne 83, 3) := by decide +kernel
theorem dL_isDredged_116 : decode cL_isDredged 116 = .ok (.iload_n 3, 1) := by decide +kernel
theorem dL_isDredged_117 : decode cL_isDredged 117 = .ok (.iconst (-1), 1) := by decide +kernel
theorem dL_isDredged_118 : decode cL_isDredged 118 = .ok (.if_icmp .ne 21, 3) := by decide +kernel
theorem dL_isDredged_121 : decode cL_isDredged 121 = .ok (.aload_n 0, 1) := by decide +kernel
theorem dL_isDredged_122 : decode cL_isDredged 122 = .ok (.bipush 9, 2) := by decide +kernel
theorem dL_isDredged_124 : decode cL_isDredged 124 = .ok (.invokevirtual 109, 3) := by decide +kernel
theorem dL_isDredged_127 : decode cL_isDredged 127 = .ok (.lload 7, 2) := by decide +kernel
theorem dL_isDredged_129 : decode cL_isDredged 129 = .ok (.iload_n 2, 1) := by decide +kernel
theorem dL_isDredged_130 : decode cL_isDredged 130 = .ok (.i2l, 1) := by decide +kernel
theorem dL_isDredged_131 : decode cL_isDredged 131 = .ok (.ladd, 1) := by decide +kernel
theorem dL_isDredged_132 : decode cL_isDredged 132 = .ok (.lcmp, 1) := by decide +kernel
theorem dL_isDredged_133 : decode cL_isDredged 133 = .ok (.ifCond .ne 63, 3) := by decide +kernel
theorem dL_isDredged_136 : decode cL_isDredged 136 = .ok (.goto 28, 3) := by decide +kernel
theorem dL_isDredged_139 : decode cL_isDredged 139 = .ok (.aload_n 0, 1) := by decide +kernel
theorem dL_isDredged_140 : decode cL_isDredged 140 = .ok (.iload_n 3, 1) := by decide +kernel
theorem dL_isDredged_141 : decode cL_isDredged 141 = .ok (.iconst 4, 1) := by decide +kernel
theorem dL_isDredged_142 : decode cL_isDredged 142 = .ok (.invokevirtual 52, 3) := by decide +kernel
theorem dL_isDredged_145 : decode cL_isDredged 145 = .ok (.iload 6, 2) := by decide +kernel
theorem dL_isDredged_147 : decode cL_isDredged 147 = .ok (.iload_n 2, 1) := by decide +kernel
theorem dL_isDredged_148 : decode cL_isDredged 148 = .ok (.iadd, 1) := by decide +kernel
theorem dL_isDredged_149 : decode cL_isDredged 149 = .ok (.if_icmp .ne 47, 3) := by decide +kernel
theorem dL_isDredged_152 : decode cL_isDredged 152 = .ok (.aload_n 0, 1) := by decide +kernel
theorem dL_isDredged_153 : decode cL_isDredged 153 = .ok (.bipush 9, 2) := by decide +kernel
theorem dL_isDredged_155 : decode cL_isDredged 155 = .ok (.invokevirtual 109, 3) := by decide +kernel
theorem dL_isDredged_158 : decode cL_isDredged 158 = .ok (.lload 7, 2) := by decide +kernel
theorem dL_isDredged_160 : decode cL_isDredged 160 = .ok (.lcmp, 1) := by decide +kernel
theorem dL_isDredged_161 : decode cL_isDredged 161 = .ok (.ifCond .ne 35, 3) := by decide +kernel
theorem dL_isDredged_164 : decode cL_isDredged 164 = .ok (.iload 9, 2) := by decide +kernel
theorem dL_isDredged_166 : decode cL_isDredged 166 = .ok (.ifCond .ne 7, 3) := by decide +kernel
theorem dL_isDredged_169 : decode cL_isDredged 169 = .ok (.iconst 1, 1) := by decide +kernel
theorem dL_isDredged_170 : decode cL_isDredged 170 = .ok (.goto 4, 3) := by decide +kernel
theorem dL_isDredged_173 : decode cL_isDredged 173 = .ok (.iconst 0, 1) := by decide +kernel
theorem dL_isDredged_174 : decode cL_isDredged 174 = .ok (.aload_n 0, 1) := by decide +kernel
theorem dL_isDredged_175 : decode cL_isDredged 175 = .ok (.iload_n 1, 1) := by decide +kernel
theorem dL_isDredged_176 : decode cL_isDredged 176 = .ok (.iconst 1, 1) := by decide +kernel
theorem dL_isDredged_177 : decode cL_isDredged 177 = .ok (.invokevirtual 92, 3) := by decide +kernel
theorem dL_isDredged_180 : decode cL_isDredged 180 = .ok (.iconst 1, 1) := by decide +kernel
theorem dL_isDredged_181 : decode cL_isDredged 181 = .ok (.if_icmp .ne 7, 3) := by decide +kernel
theorem dL_isDredged_184 : decode cL_isDredged 184 = .ok (.iconst 1, 1) := by decide +kernel
theorem dL_isDredged_185 : decode cL_isDredged 185 = .ok (.goto 4, 3) := by decide +kernel
theorem dL_isDredged_188 : decode cL_isDredged 188 = .ok (.iconst 0, 1) := by decide +kernel
theorem dL_isDredged_189 : decode cL_isDredged 189 = .ok (.if_icmp .ne 7, 3) := by decide +kernel
theorem dL_isDredged_192 : decode cL_isDredged 192 = .ok (.iconst 1, 1) := by decide +kernel
theorem dL_isDredged_193 : decode cL_isDredged 193 = .ok (.goto 4, 3) := by decide +kernel
theorem dL_isDredged_196 : decode cL_isDredged 196 = .ok (.iconst 0, 1) := by decide +kernel
theorem dL_isDredged_197 : decode cL_isDredged 197 = .ok (.ireturn, 1) := by decide +kernel
theorem dL_isWindow_0 : decode cL_isWindow 0 = .ok (.aload_n 0, 1) := by decide +kernel
theorem dL_isWindow_1 : decode cL_isWindow 1 = .ok (.iload_n 2, 1) := by decide +kernel
theorem dL_isWindow_2 : decode cL_isWindow 2 = .ok (.iload_n 3, 1) := by decide +kernel
theorem dL_isWindow_3 : decode cL_isWindow 3 = .ok (.iconst 0, 1) := by decide +kernel
theorem dL_isWindow_4 : decode cL_isWindow 4 = .ok (.iconst 1, 1) := by decide +kernel
theorem dL_isWindow_5 : decode cL_isWindow 5 = .ok (.invokestatic 67, 3) := by decide +kernel
theorem dL_isWindow_8 : decode cL_isWindow 8 = .ok (.istore 4, 2) := by decide +kernel
theorem dL_isWindow_10 : decode cL_isWindow 10 = .ok (.aload_n 0, 1) := by decide +kernel
theorem dL_isWindow_11 : decode cL_isWindow 11 = .ok (.iconst 0, 1) := by decide +kernel
theorem dL_isWindow_12 : decode cL_isWindow 12 = .ok (.iconst 5, 1) := by decide +kernel
theorem dL_isWindow_13 : decode cL_isWindow 13 = .ok (.invokevirtual 52, 3) := by decide +kernel
theorem dL_isWindow_16 : decode cL_isWindow 16 = .ok (.aload_n 1, 1) := by decide +kernel
theorem dL_isWindow_17 : decode cL_isWindow 17 = .ok (.bipush 27, 2) := by decide +kernel
theorem dL_isWindow_19 : decode cL_isWindow 19 = .ok (.iaload, 1) := by decide +kernel
theorem dL_isWindow_20 : decode cL_isWindow 20 = .ok (.idiv, 1) := by decide +kernel
theorem dL_isWindow_21 : decode cL_isWindow 21 = .ok (.istore 5, 2) := by decide +kernel
theorem dL_isWindow_23 : decode cL_isWindow 23 = .ok (.iload 4, 2) := by decide +kernel
theorem dL_isWindow_25 : decode cL_isWindow 25 = .ok (.iconst (-1), 1) := by decide +kernel
theorem dL_isWindow_26 : decode cL_isWindow 26 = .ok (.if_icmp .eq 22, 3) := by decide +kernel
theorem dL_isWindow_29 : decode cL_isWindow 29 = .ok (.iload 4, 2) := by decide +kernel
theorem dL_isWindow_31 : decode cL_isWindow 31 = .ok (.aload_n 1, 1) := by decide +kernel
theorem dL_isWindow_32 : decode cL_isWindow 32 = .ok (.iconst 5, 1) := by decide +kernel
theorem dL_isWindow_33 : decode cL_isWindow 33 = .ok (.iaload, 1) := by decide +kernel
theorem dL_isWindow_34 : decode cL_isWindow 34 = .ok (.if_icmp .lt 18, 3) := by decide +kernel
theorem dL_isWindow_37 : decode cL_isWindow 37 = .ok (.iload 4, 2) := by decide +kernel
theorem dL_isWindow_39 : decode cL_isWindow 39 = .ok (.aload_n 1, 1) := by decide +kernel
theorem dL_isWindow_40 : decode cL_isWindow 40 = .ok (.iconst 5, 1) := by decide +kernel
theorem dL_isWindow_41 : decode cL_isWindow 41 = .ok (.iaload, 1) := by decide +kernel
theorem dL_isWindow_42 : decode cL_isWindow 42 = .ok (.bipush 100, 2) := by decide +kernel
theorem dL_isWindow_44 : decode cL_isWindow 44 = .ok (.iadd, 1) := by decide +kernel
theorem dL_isWindow_45 : decode cL_isWindow 45 = .ok (.if_icmp .gt 7, 3) := by decide +kernel
theorem dL_isWindow_48 : decode cL_isWindow 48 = .ok (.iconst 1, 1) := by decide +kernel
theorem dL_isWindow_49 : decode cL_isWindow 49 = .ok (.goto 4, 3) := by decide +kernel
theorem dL_isWindow_52 : decode cL_isWindow 52 = .ok (.iconst 0, 1) := by decide +kernel
theorem dL_isWindow_53 : decode cL_isWindow 53 = .ok (.istore 6, 2) := by decide +kernel
theorem dL_isWindow_55 : decode cL_isWindow 55 = .ok (.iload 4, 2) := by decide +kernel
theorem dL_isWindow_57 : decode cL_isWindow 57 = .ok (.istore 7, 2) := by decide +kernel
theorem dL_isWindow_59 : decode cL_isWindow 59 = .ok (.iload 7, 2) := by decide +kernel
theorem dL_isWindow_61 : decode cL_isWindow 61 = .ok (.iload 4, 2) := by decide +kernel
theorem dL_isWindow_63 : decode cL_isWindow 63 = .ok (.iload_n 3, 1) := by decide +kernel
theorem dL_isWindow_64 : decode cL_isWindow 64 = .ok (.iadd, 1) := by decide +kernel
theorem dL_isWindow_65 : decode cL_isWindow 65 = .ok (.if_icmp .ge 40, 3) := by decide +kernel
theorem dL_isWindow_68 : decode cL_isWindow 68 = .ok (.iload 6, 2) := by decide +kernel
theorem dL_isWindow_70 : decode cL_isWindow 70 = .ok (.ifCond .eq 35, 3) := by decide +kernel
theorem dL_isWindow_73 : decode cL_isWindow 73 = .ok (.iload 4, 2) := by decide +kernel
theorem dL_isWindow_75 : decode cL_isWindow 75 = .ok (.iconst (-1), 1) := by decide +kernel
theorem dL_isWindow_76 : decode cL_isWindow 76 = .ok (.if_icmp .eq 29, 3) := by decide +kernel
theorem dL_isWindow_79 : decode cL_isWindow 79 = .ok (.aload_n 0, 1) := by decide +kernel
theorem dL_isWindow_80 : decode cL_isWindow 80 = .ok (.iload 7, 2) := by decide +kernel
theorem dL_isWindow_82 : decode cL_isWindow 82 = .ok (.invokevirtual 64, 3) := by decide +kernel
theorem dL_isWindow_85 : decode cL_isWindow 85 = .ok (.iload 5, 2) := by decide +kernel
theorem dL_isWindow_87 : decode cL_isWindow 87 = .ok (.isub, 1) := by decide +kernel
theorem dL_isWindow_88 : decode cL_isWindow 88 = .ok (.iload_n 2, 1) := by decide +kernel
theorem dL_isWindow_89 : decode cL_isWindow 89 = .ok (.if_icmp .lt 7, 3) := by decide +kernel
theorem dL_isWindow_92 : decode cL_isWindow 92 = .ok (.iconst 1, 1) := by decide +kernel
theorem dL_isWindow_93 : decode cL_isWindow 93 = .ok (.goto 4, 3) := by decide +kernel
theorem dL_isWindow_96 : decode cL_isWindow 96 = .ok (.iconst 0, 1) := by decide +kernel
theorem dL_isWindow_97 : decode cL_isWindow 97 = .ok (.istore 6, 2) := by decide +kernel
theorem dL_isWindow_99 : decode cL_isWindow 99 = .ok (.iinc 7 1, 3) := by decide +kernel
theorem dL_isWindow_102 : decode cL_isWindow 102 = .ok (.goto (-43), 3) := by decide +kernel
theorem dL_isWindow_105 : decode cL_isWindow 105 = .ok (.iload 6, 2) := by decide +kernel
theorem dL_isWindow_107 : decode cL_isWindow 107 = .ok (.ifCond .eq 36, 3) := by decide +kernel
theorem dL_isWindow_110 : decode cL_isWindow 110 = .ok (.iload 4, 2) := by decide +kernel
theorem dL_isWindow_112 : decode cL_isWindow 112 = .ok (.iconst (-1), 1) := by decide +kernel
theorem dL_isWindow_113 : decode cL_isWindow 113 = .ok (.if_icmp .eq 26, 3) := by decide +kernel
theorem dL_isWindow_116 : decode cL_isWindow 116 = .ok (.iload 4, 2) := by decide +kernel
theorem dL_isWindow_118 : decode cL_isWindow 118 = .ok (.aload_n 1, 1) := by decide +kernel
theorem dL_isWindow_119 : decode cL_isWindow 119 = .ok (.iconst 5, 1) := by decide +kernel
theorem dL_isWindow_120 : decode cL_isWindow 120 = .ok (.iaload, 1) := by decide +kernel
theorem dL_isWindow_121 : decode cL_isWindow 121 = .ok (.if_icmp .eq 18, 3) := by decide +kernel
theorem dL_isWindow_124 : decode cL_isWindow 124 = .ok (.aload_n 0, 1) := by decide +kernel
theorem dL_isWindow_125 : decode cL_isWindow 125 = .ok (.iload 4, 2) := by decide +kernel
theorem dL_isWindow_127 : decode cL_isWindow 127 = .ok (.iconst 1, 1) := by decide +kernel
theorem dL_isWindow_128 : decode cL_isWindow 128 = .ok (.isub, 1) := by decide +kernel
theorem dL_isWindow_129 : decode cL_isWindow 129 = .ok (.invokevirtual 64, 3) := by decide +kernel
theorem dL_isWindow_132 : decode cL_isWindow 132 = .ok (.iload 5, 2) := by decide +kernel
theorem dL_isWindow_134 : decode cL_isWindow 134 = .ok (.isub, 1) := by decide +kernel
theorem dL_isWindow_135 : decode cL_isWindow 135 = .ok (.iload_n 2, 1) := by decide +kernel
theorem dL_isWindow_136 : decode cL_isWindow 136 = .ok (.if_icmp .ge 7, 3) := by decide +kernel
theorem dL_isWindow_139 : decode cL_isWindow 139 = .ok (.iconst 1, 1) := by decide +kernel
theorem dL_isWindow_140 : decode cL_isWindow 140 = .ok (.goto 4, 3) := by decide +kernel
theorem dL_isWindow_143 : decode cL_isWindow 143 = .ok (.iconst 0, 1) := by decide +kernel
theorem dL_isWindow_144 : decode cL_isWindow 144 = .ok (.ireturn, 1) := by decide +kernel
theorem dL_hasPassed_0 : decode cL_hasPassed 0 = .ok (.aload_n 1, 1) := by decide +kernel
theorem dL_hasPassed_1 : decode cL_hasPassed 1 = .ok (.iconst 5, 1) := by decide +kernel
theorem dL_hasPassed_2 : decode cL_hasPassed 2 = .ok (.iaload, 1) := by decide +kernel
theorem dL_hasPassed_3 : decode cL_hasPassed 3 = .ok (.iload_n 2, 1) := by decide +kernel
theorem dL_hasPassed_4 : decode cL_hasPassed 4 = .ok (.iadd, 1) := by decide +kernel
theorem dL_hasPassed_5 : decode cL_hasPassed 5 = .ok (.sipush 1000, 3) := by decide +kernel
theorem dL_hasPassed_8 : decode cL_hasPassed 8 = .ok (.if_icmp .le 23, 3) := by decide +kernel
theorem dL_hasPassed_11 : decode cL_hasPassed 11 = .ok (.aload_n 0, 1) := by decide +kernel
theorem dL_hasPassed_12 : decode cL_hasPassed 12 = .ok (.iload_n 2, 1) := by decide +kernel
theorem dL_hasPassed_13 : decode cL_hasPassed 13 = .ok (.iconst 0, 1) := by decide +kernel
theorem dL_hasPassed_14 : decode cL_hasPassed 14 = .ok (.iconst 0, 1) := by decide +kernel
theorem dL_hasPassed_15 : decode cL_hasPassed 15 = .ok (.iconst 2, 1) := by decide +kernel
theorem dL_hasPassed_16 : decode cL_hasPassed 16 = .ok (.invokestatic 67, 3) := by decide +kernel
theorem dL_hasPassed_19 : decode cL_hasPassed 19 = .ok (.sipush (-200), 3) := by decide +kernel
theorem dL_hasPassed_22 : decode cL_hasPassed 22 = .ok (.if_icmp .ne 7, 3) := by decide +kernel
theorem dL_hasPassed_25 : decode cL_hasPassed 25 = .ok (.iconst 1, 1) := by decide +kernel
theorem dL_hasPassed_26 : decode cL_hasPassed 26 = .ok (.goto 4, 3) := by decide +kernel
theorem dL_hasPassed_29 : decode cL_hasPassed 29 = .ok (.iconst 0, 1) := by decide +kernel
theorem dL_hasPassed_30 : decode cL_hasPassed 30 = .ok (.ireturn, 1) := by decide +kernel
theorem dL_hasPassed_31 : decode cL_hasPassed 31 = .ok (.aload_n 0, 1) := by decide +kernel
theorem dL_hasPassed_32 : decode cL_hasPassed 32 = .ok (.aload_n 1, 1) := by decide +kernel
theorem dL_hasPassed_33 : decode cL_hasPassed 33 = .ok (.iconst 5, 1) := by decide +kernel
theorem dL_hasPassed_34 : decode cL_hasPassed 34 = .ok (.iaload, 1) := by decide +kernel
theorem dL_hasPassed_35 : decode cL_hasPassed 35 = .ok (.invokevirtual 64, 3) := by decide +kernel
theorem dL_hasPassed_38 : decode cL_hasPassed 38 = .ok (.istore_n 3, 1) := by decide +kernel
theorem dL_hasPassed_39 : decode cL_hasPassed 39 = .ok (.aload_n 0, 1) := by decide +kernel
theorem dL_hasPassed_40 : decode cL_hasPassed 40 = .ok (.invokevirtual 113, 3) := by decide +kernel
theorem dL_hasPassed_43 : decode cL_hasPassed 43 = .ok (.istore 4, 2) := by decide +kernel
theorem dL_hasPassed_45 : decode cL_hasPassed 45 = .ok (.aload_n 1, 1) := by decide +kernel
theorem dL_hasPassed_46 : decode cL_hasPassed 46 = .ok (.iconst 1, 1) := by decide +kernel
theorem dL_hasPassed_47 : decode cL_hasPassed 47 = .ok (.iaload, 1) := by decide +kernel
theorem dL_hasPassed_48 : decode cL_hasPassed 48 = .ok (.ifCond .ne 7, 3) := by decide +kernel
theorem dL_hasPassed_51 : decode cL_hasPassed 51 = .ok (.iconst 0, 1) := by decide +kernel
theorem dL_hasPassed_52 : decode cL_hasPassed 52 = .ok (.goto 9, 3) := by decide +kernel
theorem dL_hasPassed_55 : decode cL_hasPassed 55 = .ok (.aload_n 0, 1) := by decide +kernel
theorem dL_hasPassed_56 : decode cL_hasPassed 56 = .ok (.iconst 0, 1) := by decide +kernel
theorem dL_hasPassed_57 : decode cL_hasPassed 57 = .ok (.iconst 2, 1) := by decide +kernel
theorem dL_hasPassed_58 : decode cL_hasPassed 58 = .ok (.invokevirtual 79, 3) := by decide +kernel
theorem dL_hasPassed_61 : decode cL_hasPassed 61 = .ok (.istore 5, 2) := by decide +kernel
theorem dL_hasPassed_63 : decode cL_hasPassed 63 = .ok (.aload_n 0, 1) := by decide +kernel
theorem dL_hasPassed_64 : decode cL_hasPassed 64 = .ok (.iload_n 2, 1) := by decide +kernel
theorem dL_hasPassed_65 : decode cL_hasPassed 65 = .ok (.iconst 0, 1) := by decide +kernel
theorem dL_hasPassed_66 : decode cL_hasPassed 66 = .ok (.iconst 0, 1) := by decide +kernel
theorem dL_hasPassed_67 : decode cL_hasPassed 67 = .ok (.iconst 2, 1) := by decide +kernel
theorem dL_hasPassed_68 : decode cL_hasPassed 68 = .ok (.invokestatic 67, 3) := by decide +kernel
theorem dL_hasPassed_71 : decode cL_hasPassed 71 = .ok (.istore 6, 2) := by decide +kernel
theorem dL_hasPassed_73 : decode cL_hasPassed 73 = .ok (.aload_n 1, 1) := by decide +kernel
theorem dL_hasPassed_74 : decode cL_hasPassed 74 = .ok (.iconst 5, 1) := by decide +kernel
theorem dL_hasPassed_75 : decode cL_hasPassed 75 = .ok (.dup2, 1) := by decide +kernel
theorem dL_hasPassed_76 : decode cL_hasPassed 76 = .ok (.iaload, 1) := by decide +kernel
theorem dL_hasPassed_77 : decode cL_hasPassed 77 = .ok (.iload_n 2, 1) := by decide +kernel
theorem dL_hasPassed_78 : decode cL_hasPassed 78 = .ok (.iadd, 1) := by decide +kernel
theorem dL_hasPassed_79 : decode cL_hasPassed 79 = .ok (.iastore, 1) := by decide +kernel
theorem dL_hasPassed_80 : decode cL_hasPassed 80 = .ok (.iload 6, 2) := by decide +kernel
theorem dL_hasPassed_82 : decode cL_hasPassed 82 = .ok (.aload_n 1, 1) := by decide +kernel
theorem dL_hasPassed_83 : decode cL_hasPassed 83 = .ok (.iconst 5, 1) := by decide +kernel
theorem dL_hasPassed_84 : decode cL_hasPassed 84 = .ok (.iaload, 1) := by decide +kernel
theorem dL_hasPassed_85 : decode cL_hasPassed 85 = .ok (.if_icmp .ne 52, 3) := by decide +kernel
theorem dL_hasPassed_88 : decode cL_hasPassed 88 = .ok (.aload_n 0, 1) := by decide +kernel
theorem dL_hasPassed_89 : decode cL_hasPassed 89 = .ok (.invokevirtual 117, 3) := by decide +kernel
theorem dL_hasPassed_92 : decode cL_hasPassed 92 = .ok (.iload 6, 2) := by decide +kernel
theorem dL_hasPassed_94 : decode cL_hasPassed 94 = .ok (.if_icmp .ne 43, 3) := by decide +kernel
theorem dL_hasPassed_97 : decode cL_hasPassed 97 = .ok (.aload_n 0, 1) := by decide +kernel
theorem dL_hasPassed_98 : decode cL_hasPassed 98 = .ok (.iload 6, 2) := by decide +kernel
theorem dL_hasPassed_100 : decode cL_hasPassed 100 = .ok (.iload_n 2, 1) := by decide +kernel
theorem dL_hasPassed_101 : decode cL_hasPassed 101 = .ok (.isub, 1) := by decide +kernel
theorem dL_hasPassed_102 : decode cL_hasPassed 102 = .ok (.invokevirtual 64, 3) := by decide +kernel
theorem dL_hasPassed_105 : decode cL_hasPassed 105 = .ok (.iload_n 3, 1) := by decide +kernel
theorem dL_hasPassed_106 : decode cL_hasPassed 106 = .ok (.if_icmp .ne 31, 3) := by decide +kernel
theorem dL_hasPassed_109 : decode cL_hasPassed 109 = .ok (.aload_n 0, 1) := by decide +kernel
theorem dL_hasPassed_110 : decode cL_hasPassed 110 = .ok (.invokevirtual 113, 3) := by decide +kernel
theorem dL_hasPassed_113 : decode cL_hasPassed 113 = .ok (.iload 4, 2) := by decide +kernel
theorem dL_hasPassed_115 : decode cL_hasPassed 115 = .ok (.if_icmp .lt 22, 3) := by decide +kernel
theorem dL_hasPassed_118 : decode cL_hasPassed 118 = .ok (.aload_n 0, 1) := by decide +kernel
theorem dL_hasPassed_119 : decode cL_hasPassed 119 = .ok (.invokevirtual 113, 3) := by decide +kernel
theorem dL_hasPassed_122 : decode cL_hasPassed 122 = .ok (.iload 4, 2) := by decide +kernel
theorem dL_hasPassed_124 : decode cL_hasPassed 124 = .ok (.iload_n 2, 1) := by decide +kernel
theorem dL_hasPassed_125 : decode cL_hasPassed 125 = .ok (.iconst 1, 1) := by decide +kernel
theorem dL_hasPassed_126 : decode cL_hasPassed 126 = .ok (.iadd, 1) := by decide +kernel
theorem dL_hasPassed_127 : decode cL_hasPassed 127 = .ok (.iconst 2, 1) := by decide +kernel
theorem dL_hasPassed_128 : decode cL_hasPassed 128 = .ok (.idiv, 1) := by decide +kernel
theorem dL_hasPassed_129 : decode cL_hasPassed 129 = .ok (.iadd, 1) := by decide +kernel
theorem dL_hasPassed_130 : decode cL_hasPassed 130 = .ok (.if_icmp .gt 7, 3) := by decide +kernel
theorem dL_hasPassed_133 : decode cL_hasPassed 133 = .ok (.iconst 1, 1) := by decide +kernel
theorem dL_hasPassed_134 : decode cL_hasPassed 134 = .ok (.goto 4, 3) := by decide +kernel
theorem dL_hasPassed_137 : decode cL_hasPassed 137 = .ok (.iconst 0, 1) := by decide +kernel
theorem dL_hasPassed_138 : decode cL_hasPassed 138 = .ok (.istore 7, 2) := by decide +kernel
theorem dL_hasPassed_140 : decode cL_hasPassed 140 = .ok (.aload_n 0, 1) := by decide +kernel
theorem dL_hasPassed_141 : decode cL_hasPassed 141 = .ok (.invokevirtual 113, 3) := by decide +kernel
theorem dL_hasPassed_144 : decode cL_hasPassed 144 = .ok (.iconst 1, 1) := by decide +kernel
theorem dL_hasPassed_145 : decode cL_hasPassed 145 = .ok (.if_icmp .le 73, 3) := by decide +kernel
theorem dL_hasPassed_148 : decode cL_hasPassed 148 = .ok (.aload_n 0, 1) := by decide +kernel
theorem dL_hasPassed_149 : decode cL_hasPassed 149 = .ok (.invokevirtual 113, 3) := by decide +kernel
theorem dL_hasPassed_152 : decode cL_hasPassed 152 = .ok (.iconst 1, 1) := by decide +kernel
theorem dL_hasPassed_153 : decode cL_hasPassed 153 = .ok (.isub, 1) := by decide +kernel
theorem dL_hasPassed_154 : decode cL_hasPassed 154 = .ok (.istore 8, 2) := by decide +kernel
theorem dL_hasPassed_156 : decode cL_hasPassed 156 = .ok (.iload 7, 2) := by decide +kernel
theorem dL_hasPassed_158 : decode cL_hasPassed 158 = .ok (.ifCond .eq 57, 3) := by decide +kernel
theorem dL_hasPassed_161 : decode cL_hasPassed 161 = .ok (.aload_n 0, 1) := by decide +kernel
theorem dL_hasPassed_162 : decode cL_hasPassed 162 = .ok (.iload 8, 2) := by decide +kernel
theorem dL_hasPassed_164 : decode cL_hasPassed 164 = .ok (.iconst 0, 1) := by decide +kernel
theorem dL_hasPassed_165 : decode cL_hasPassed 165 = .ok (.invokevirtual 120, 3) := by decide +kernel
theorem dL_hasPassed_168 : decode cL_hasPassed 168 = .ok (.aload_n 0, 1) := by decide +kernel
theorem dL_hasPassed_169 : decode cL_hasPassed 169 = .ok (.iload 8, 2) := by decide +kernel
theorem dL_hasPassed_171 : decode cL_hasPassed 171 = .ok (.iconst 1, 1) := by decide +kernel
theorem dL_hasPassed_172 : decode cL_hasPassed 172 = .ok (.isub, 1) := by decide +kernel
theorem dL_hasPassed_173 : decode cL_hasPassed 173 = .ok (.iconst 1, 1) := by decide +kernel
theorem dL_hasPassed_174 : decode cL_hasPassed 174 = .ok (.invokevirtual 120, 3) := by decide +kernel
theorem dL_hasPassed_177 : decode cL_hasPassed 177 = .ok (.iconst 1, 1) := by decide +kernel
theorem dL_hasPassed_178 : decode cL_hasPassed 178 = .ok (.iadd, 1) := by decide +kernel
theorem dL_hasPassed_179 : decode cL_hasPassed 179 = .ok (.if_icmp .le 36, 3) := by decide +kernel
theorem dL_hasPassed_182 : decode cL_hasPassed 182 = .ok (.aload_n 0, 1) := by decide +kernel
theorem dL_hasPassed_183 : decode cL_hasPassed 183 = .ok (.iload 8, 2) := by decide +kernel
theorem dL_hasPassed_185 : decode cL_hasPassed 185 = .ok (.iconst 1, 1) := by decide +kernel
theorem dL_hasPassed_186 : decode cL_hasPassed 186 = .ok (.invokevirtual 120, 3) := by decide +kernel
theorem dL_hasPassed_189 : decode cL_hasPassed 189 = .ok (.aload_n 0, 1) := by decide +kernel
theorem dL_hasPassed_190 : decode cL_hasPassed 190 = .ok (.iload 8, 2) := by decide +kernel
theorem dL_hasPassed_192 : decode cL_hasPassed 192 = .ok (.iconst 0, 1) := by decide +kernel
theorem dL_hasPassed_193 : decode cL_hasPassed 193 = .ok (.invokevirtual 120, 3) := by decide +kernel
theorem dL_hasPassed_196 : decode cL_hasPassed 196 = .ok (.if_icmp .lt 19, 3) := by decide +kernel
theorem dL_hasPassed_199 : decode cL_hasPassed 199 = .ok (.aload_n 0, 1) := by decide +kernel
theorem dL_hasPassed_200 : decode cL_hasPassed 200 = .ok (.iload 8, 2) := by decide +kernel
theorem dL_hasPassed_202 : decode cL_hasPassed 202 = .ok (.iconst 1, 1) := by decide +kernel
theorem dL_hasPassed_203 : decode cL_hasPassed 203 = .ok (.invokevirtual 120, 3) := by decide +kernel
theorem dL_hasPassed_206 : decode cL_hasPassed 206 = .ok (.iload 6, 2) := by decide +kernel
theorem dL_hasPassed_208 : decode cL_hasPassed 208 = .ok (.if_icmp .ge 7, 3) := by decide +kernel
theorem dL_hasPassed_211 : decode cL_hasPassed 211 = .ok (.iconst 1, 1) := by decide +kernel
theorem dL_hasPassed_212 : decode cL_hasPassed 212 = .ok (.goto 4, 3) := by decide +kernel
theorem dL_hasPassed_215 : decode cL_hasPassed 215 = .ok (.iconst 0, 1) := by decide +kernel
theorem dL_hasPassed_216 : decode cL_hasPassed 216 = .ok (.istore 7, 2) := by decide +kernel
theorem dL_hasPassed_218 : decode cL_hasPassed 218 = .ok (.iload 7, 2) := by decide +kernel
theorem dL_hasPassed_220 : decode cL_hasPassed 220 = .ok (.ifCond .eq 42, 3) := by decide +kernel
theorem dL_hasPassed_223 : decode cL_hasPassed 223 = .ok (.aload_n 1, 1) := by decide +kernel
theorem dL_hasPassed_224 : decode cL_hasPassed 224 = .ok (.iconst 1, 1) := by decide +kernel
theorem dL_hasPassed_225 : decode cL_hasPassed 225 = .ok (.iaload, 1) := by decide +kernel
theorem dL_hasPassed_226 : decode cL_hasPassed 226 = .ok (.ifCond .eq 32, 3) := by decide +kernel
theorem dL_hasPassed_229 : decode cL_hasPassed 229 = .ok (.aload_n 0, 1) := by decide +kernel
theorem dL_hasPassed_230 : decode cL_hasPassed 230 = .ok (.iconst 0, 1) := by decide +kernel
theorem dL_hasPassed_231 : decode cL_hasPassed 231 = .ok (.iconst 2, 1) := by decide +kernel
theorem dL_hasPassed_232 : decode cL_hasPassed 232 = .ok (.invokevirtual 79, 3) := by decide +kernel
theorem dL_hasPassed_235 : decode cL_hasPassed 235 = .ok (.iload 5, 2) := by decide +kernel
theorem dL_hasPassed_237 : decode cL_hasPassed 237 = .ok (.if_icmp .lt 25, 3) := by decide +kernel
theorem dL_hasPassed_240 : decode cL_hasPassed 240 = .ok (.aload_n 0, 1) := by decide +kernel
theorem dL_hasPassed_241 : decode cL_hasPassed 241 = .ok (.iconst 0, 1) := by decide +kernel
theorem dL_hasPassed_242 : decode cL_hasPassed 242 = .ok (.iconst 2, 1) := by decide +kernel
theorem dL_hasPassed_243 : decode cL_hasPassed 243 = .ok (.invokevirtual 79, 3) := by decide +kernel
theorem dL_hasPassed_246 : decode cL_hasPassed 246 = .ok (.iload 5, 2) := by decide +kernel
theorem dL_hasPassed_248 : decode cL_hasPassed 248 = .ok (.iload_n 2, 1) := by decide +kernel
theorem dL_hasPassed_249 : decode cL_hasPassed 249 = .ok (.aload_n 1, 1) := by decide +kernel
theorem dL_hasPassed_250 : decode cL_hasPassed 250 = .ok (.bipush 15, 2) := by decide +kernel
theorem dL_hasPassed_252 : decode cL_hasPassed 252 = .ok (.iaload, 1) := by decide +kernel
theorem dL_hasPassed_253 : decode cL_hasPassed 253 = .ok (.imul, 1) := by decide +kernel
theorem dL_hasPassed_254 : decode cL_hasPassed 254 = .ok (.iadd, 1) := by decide +kernel
theorem dL_hasPassed_255 : decode cL_hasPassed 255 = .ok (.if_icmp .gt 7, 3) := by decide +kernel
theorem dL_hasPassed_258 : decode cL_hasPassed 258 = .ok (.iconst 1, 1) := by decide +kernel
theorem dL_hasPassed_259 : decode cL_hasPassed 259 = .ok (.goto 4, 3) := by decide +kernel
theorem dL_hasPassed_262 : decode cL_hasPassed 262 = .ok (.iconst 0, 1) := by decide +kernel
theorem dL_hasPassed_263 : decode cL_hasPassed 263 = .ok (.ireturn, 1) := by decide +kernel
theorem dL_isKept_0 : decode cL_isKept 0 = .ok (.lconst 0, 1) := by decide +kernel
theorem dL_isKept_1 : decode cL_isKept 1 = .ok (.lstore_n 2, 1) := by decide +kernel
theorem dL_isKept_2 : decode cL_isKept 2 = .ok (.lconst 0, 1) := by decide +kernel
theorem dL_isKept_3 : decode cL_isKept 3 = .ok (.lstore 4, 2) := by decide +kernel
theorem dL_isKept_5 : decode cL_isKept 5 = .ok (.lconst 0, 1) := by decide +kernel
theorem dL_isKept_6 : decode cL_isKept 6 = .ok (.lstore 6, 2) := by decide +kernel
theorem dL_isKept_8 : decode cL_isKept 8 = .ok (.lconst 0, 1) := by decide +kernel
theorem dL_isKept_9 : decode cL_isKept 9 = .ok (.lstore 8, 2) := by decide +kernel
theorem dL_isKept_11 : decode cL_isKept 11 = .ok (.iconst 1, 1) := by decide +kernel
theorem dL_isKept_12 : decode cL_isKept 12 = .ok (.istore 10, 2) := by decide +kernel
theorem dL_isKept_14 : decode cL_isKept 14 = .ok (.iconst 0, 1) := by decide +kernel
theorem dL_isKept_15 : decode cL_isKept 15 = .ok (.istore 11, 2) := by decide +kernel
theorem dL_isKept_17 : decode cL_isKept 17 = .ok (.iload 11, 2) := by decide +kernel
theorem dL_isKept_19 : decode cL_isKept 19 = .ok (.aload_n 1, 1) := by decide +kernel
theorem dL_isKept_20 : decode cL_isKept 20 = .ok (.iconst 0, 1) := by decide +kernel
theorem dL_isKept_21 : decode cL_isKept 21 = .ok (.iaload, 1) := by decide +kernel
theorem dL_isKept_22 : decode cL_isKept 22 = .ok (.if_icmp .ge 138, 3) := by decide +kernel
theorem dL_isKept_25 : decode cL_isKept 25 = .ok (.lload_n 2, 1) := by decide +kernel
theorem dL_isKept_26 : decode cL_isKept 26 = .ok (.aload_n 0, 1) := by decide +kernel
theorem dL_isKept_27 : decode cL_isKept 27 = .ok (.iload 11, 2) := by decide +kernel
theorem dL_isKept_29 : decode cL_isKept 29 = .ok (.iconst 0, 1) := by decide +kernel
theorem dL_isKept_30 : decode cL_isKept 30 = .ok (.invokevirtual 52, 3) := by decide +kernel
theorem dL_isKept_33 : decode cL_isKept 33 = .ok (.aload_n 0, 1) := by decide +kernel
theorem dL_isKept_34 : decode cL_isKept 34 = .ok (.iload 11, 2) := by decide +kernel
theorem dL_isKept_36 : decode cL_isKept 36 = .ok (.iconst 2, 1) := by decide +kernel
theorem dL_isKept_37 : decode cL_isKept 37 = .ok (.invokevirtual 52, 3) := by decide +kernel
theorem dL_isKept_40 : decode cL_isKept 40 = .ok (.iadd, 1) := by decide +kernel
theorem dL_isKept_41 : decode cL_isKept 41 = .ok (.i2l, 1) := by decide +kernel
theorem dL_isKept_42 : decode cL_isKept 42 = .ok (.ladd, 1) := by decide +kernel
theorem dL_isKept_43 : decode cL_isKept 43 = .ok (.lstore_n 2, 1) := by decide +kernel
theorem dL_isKept_44 : decode cL_isKept 44 = .ok (.lload 4, 2) := by decide +kernel
theorem dL_isKept_46 : decode cL_isKept 46 = .ok (.aload_n 0, 1) := by decide +kernel
theorem dL_isKept_47 : decode cL_isKept 47 = .ok (.iload 11, 2) := by decide +kernel
theorem dL_isKept_49 : decode cL_isKept 49 = .ok (.iconst 1, 1) := by decide +kernel
theorem dL_isKept_50 : decode cL_isKept 50 = .ok (.invokevirtual 52, 3) := by decide +kernel
theorem dL_isKept_53 : decode cL_isKept 53 = .ok (.aload_n 0, 1) := by decide +kernel
theorem dL_isKept_54 : decode cL_isKept 54 = .ok (.iload 11, 2) := by decide +kernel
theorem dL_isKept_56 : decode cL_isKept 56 = .ok (.iconst 3, 1) := by decide +kernel
theorem dL_isKept_57 : decode cL_isKept 57 = .ok (.invokevirtual 52, 3) := by decide +kernel
theorem dL_isKept_60 : decode cL_isKept 60 = .ok (.iadd, 1) := by decide +kernel
theorem dL_isKept_61 : decode cL_isKept 61 = .ok (.i2l, 1) := by decide +kernel
theorem dL_isKept_62 : decode cL_isKept 62 = .ok (.ladd, 1) := by decide +kernel
theorem dL_isKept_63 : decode cL_isKept 63 = .ok (.lstore 4, 2) := by decide +kernel
theorem dL_isKept_65 : decode cL_isKept 65 = .ok (.lload 6, 2) := by decide +kernel
theorem dL_isKept_67 : decode cL_isKept 67 = .ok (.aload_n 0, 1) := by decide +kernel
theorem dL_isKept_68 : decode cL_isKept 68 = .ok (.iload 11, 2) := by decide +kernel
theorem dL_isKept_70 : decode cL_isKept 70 = .ok (.iconst 4, 1) := by decide +kernel
theorem dL_isKept_71 : decode cL_isKept 71 = .ok (.invokevirtual 52, 3) := by decide +kernel
theorem dL_isKept_74 : decode cL_isKept 74 = .ok (.aload_n 0, 1) := by decide +kernel
theorem dL_isKept_75 : decode cL_isKept 75 = .ok (.iload 11, 2) := by decide +kernel
theorem dL_isKept_77 : decode cL_isKept 77 = .ok (.iconst 5, 1) := by decide +kernel
theorem dL_isKept_78 : decode cL_isKept 78 = .ok (.invokevirtual 52, 3) := by decide +kernel
theorem dL_isKept_81 : decode cL_isKept 81 = .ok (.iadd, 1) := by decide +kernel
theorem dL_isKept_82 : decode cL_isKept 82 = .ok (.i2l, 1) := by decide +kernel
theorem dL_isKept_83 : decode cL_isKept 83 = .ok (.ladd, 1) := by decide +kernel
theorem dL_isKept_84 : decode cL_isKept 84 = .ok (.lstore 6, 2) := by decide +kernel
theorem dL_isKept_86 : decode cL_isKept 86 = .ok (.iload 10, 2) := by decide +kernel
theorem dL_isKept_88 : decode cL_isKept 88 = .ok (.ifCond .eq 63, 3) := by decide +kernel
theorem dL_isKept_91 : decode cL_isKept 91 = .ok (.aload_n 0, 1) := by decide +kernel
theorem dL_isKept_92 : decode cL_isKept 92 = .ok (.iload 11, 2) := by decide +kernel
theorem dL_isKept_94 : decode cL_isKept 94 = .ok (.bipush 7, 2) := by decide +kernel
theorem dL_isKept_96 : decode cL_isKept 96 = .ok (.invokevirtual 52, 3) := by decide +kernel
theorem dL_isKept_99 : decode cL_isKept 99 = .ok (.bipush 30, 2) := by decide +kernel
theorem dL_isKept_101 : decode cL_isKept 101 = .ok (.if_icmp .gt 50, 3) := by decide +kernel
theorem dL_isKept_104 : decode cL_isKept 104 = .ok (.aload_n 0, 1) := by decide +kernel
theorem dL_isKept_105 : decode cL_isKept 105 = .ok (.iload 11, 2) := by decide +kernel
theorem dL_isKept_107 : decode cL_isKept 107 = .ok (.bipush 8, 2) := by decide +kernel
theorem dL_isKept_109 : decode cL_isKept 109 = .ok (.invokevirtual 52, 3) := by decide +kernel
theorem dL_isKept_112 : decode cL_isKept 112 = .ok (.bipush 30, 2) := by decide +kernel
theorem dL_isKept_114 : decode cL_isKept 114 = .ok (.if_icmp .gt 37, 3) := by decide +kernel
theorem dL_isKept_117 : decode cL_isKept 117 = .ok (.aload_n 0, 1) := by decide +kernel
theorem dL_isKept_118 : decode cL_isKept 118 = .ok (.iload 11, 2) := by decide +kernel
theorem dL_isKept_120 : decode cL_isKept 120 = .ok (.iconst 1, 1) := by decide +kernel
theorem dL_isKept_121 : decode cL_isKept 121 = .ok (.invokevirtual 52, 3) := by decide +kernel
theorem dL_isKept_124 : decode cL_isKept 124 = .ok (.ifCond .lt 27, 3) := by decide +kernel
theorem dL_isKept_127 : decode cL_isKept 127 = .ok (.aload_n 0, 1) := by decide +kernel
theorem dL_isKept_128 : decode cL_isKept 128 = .ok (.iload 11, 2) := by decide +kernel
theorem dL_isKept_130 : decode cL_isKept 130 = .ok (.iconst 3, 1) := by decide +kernel
theorem dL_isKept_131 : decode cL_isKept 131 = .ok (.invokevirtual 52, 3) := by decide +kernel
theorem dL_isKept_134 : decode cL_isKept 134 = .ok (.ifCond .lt 17, 3) := by decide +kernel
theorem dL_isKept_137 : decode cL_isKept 137 = .ok (.aload_n 0, 1) := by decide +kernel
theorem dL_isKept_138 : decode cL_isKept 138 = .ok (.iload 11, 2) := by decide +kernel
theorem dL_isKept_140 : decode cL_isKept 140 = .ok (.iconst 4, 1) := by decide +kernel
theorem dL_isKept_141 : decode cL_isKept 141 = .ok (.invokevirtual 52, 3) := by decide +kernel
theorem dL_isKept_144 : decode cL_isKept 144 = .ok (.ifCond .lt 7, 3) := by decide +kernel
theorem dL_isKept_147 : decode cL_isKept 147 = .ok (.iconst 1, 1) := by decide +kernel
theorem dL_isKept_148 : decode cL_isKept 148 = .ok (.goto 4, 3) := by decide +kernel
theorem dL_isKept_151 : decode cL_isKept 151 = .ok (.iconst 0, 1) := by decide +kernel
theorem dL_isKept_152 : decode cL_isKept 152 = .ok (.istore 10, 2) := by decide +kernel
theorem dL_isKept_154 : decode cL_isKept 154 = .ok (.iinc 11 1, 3) := by decide +kernel
theorem dL_isKept_157 : decode cL_isKept 157 = .ok (.goto (-140), 3) := by decide +kernel
theorem dL_isKept_160 : decode cL_isKept 160 = .ok (.iconst 0, 1) := by decide +kernel
theorem dL_isKept_161 : decode cL_isKept 161 = .ok (.istore 11, 2) := by decide +kernel
theorem dL_isKept_163 : decode cL_isKept 163 = .ok (.iload 11, 2) := by decide +kernel
theorem dL_isKept_165 : decode cL_isKept 165 = .ok (.aload_n 1, 1) := by decide +kernel
theorem dL_isKept_166 : decode cL_isKept 166 = .ok (.iconst 1, 1) := by decide +kernel
theorem dL_isKept_167 : decode cL_isKept 167 = .ok (.iaload, 1) := by decide +kernel
theorem dL_isKept_168 : decode cL_isKept 168 = .ok (.if_icmp .ge 91, 3) := by decide +kernel
theorem dL_isKept_171 : decode cL_isKept 171 = .ok (.lload 8, 2) := by decide +kernel
theorem dL_isKept_173 : decode cL_isKept 173 = .ok (.aload_n 0, 1) := by decide +kernel
theorem dL_isKept_174 : decode cL_isKept 174 = .ok (.iload 11, 2) := by decide +kernel
theorem dL_isKept_176 : decode cL_isKept 176 = .ok (.iconst 1, 1) := by decide +kernel
theorem dL_isKept_177 : decode cL_isKept 177 = .ok (.invokevirtual 79, 3) := by decide +kernel
theorem dL_isKept_180 : decode cL_isKept 180 = .ok (.i2l, 1) := by decide +kernel
theorem dL_isKept_181 : decode cL_isKept 181 = .ok (.ladd, 1) := by decide +kernel
theorem dL_isKept_182 : decode cL_isKept 182 = .ok (.lstore 8, 2) := by decide +kernel
theorem dL_isKept_184 : decode cL_isKept 184 = .ok (.iload 10, 2) := by decide +kernel
theorem dL_isKept_186 : decode cL_isKept 186 = .ok (.ifCond .eq 64, 3) := by decide +kernel
theorem dL_isKept_189 : decode cL_isKept 189 = .ok (.aload_n 0, 1) := by decide +kernel
theorem dL_isKept_190 : decode cL_isKept 190 = .ok (.iload 11, 2) := by decide +kernel
theorem dL_isKept_192 : decode cL_isKept 192 = .ok (.iconst 0, 1) := by decide +kernel
theorem dL_isKept_193 : decode cL_isKept 193 = .ok (.invokevirtual 79, 3) := by decide +kernel
theorem dL_isKept_196 : decode cL_isKept 196 = .ok (.ifCond .lt 54, 3) := by decide +kernel
theorem dL_isKept_199 : decode cL_isKept 199 = .ok (.aload_n 0, 1) := by decide +kernel
theorem dL_isKept_200 : decode cL_isKept 200 = .ok (.iload 11, 2) := by decide +kernel
theorem dL_isKept_202 : decode cL_isKept 202 = .ok (.iconst 0, 1) := by decide +kernel
theorem dL_isKept_203 : decode cL_isKept 203 = .ok (.invokevirtual 79, 3) := by decide +kernel
theorem dL_isKept_206 : decode cL_isKept 206 = .ok (.aload_n 1, 1) := by decide +kernel
theorem dL_isKept_207 : decode cL_isKept 207 = .ok (.bipush 9, 2) := by decide +kernel
theorem dL_isKept_209 : decode cL_isKept 209 = .ok (.iload 11, 2) := by decide +kernel
theorem dL_isKept_211 : decode cL_isKept 211 = .ok (.iadd, 1) := by decide +kernel
theorem dL_isKept_212 : decode cL_isKept 212 = .ok (.iaload, 1) := by decide +kernel
theorem dL_isKept_213 : decode cL_isKept 213 = .ok (.if_icmp .gt 37, 3) := by decide +kernel
theorem dL_isKept_216 : decode cL_isKept 216 = .ok (.aload_n 0, 1) := by decide +kernel
theorem dL_isKept_217 : decode cL_isKept 217 = .ok (.iload 11, 2) := by decide +kernel
theorem dL_isKept_219 : decode cL_isKept 219 = .ok (.iconst 4, 1) := by decide +kernel
theorem dL_isKept_220 : decode cL_isKept 220 = .ok (.invokevirtual 79, 3) := by decide +kernel
theorem dL_isKept_223 : decode cL_isKept 223 = .ok (.aload_n 0, 1) := by decide +kernel
theorem dL_isKept_224 : decode cL_isKept 224 = .ok (.iload 11, 2) := by decide +kernel
theorem dL_isKept_226 : decode cL_isKept 226 = .ok (.iconst 3, 1) := by decide +kernel
theorem dL_isKept_227 : decode cL_isKept 227 = .ok (.invokevirtual 79, 3) := by decide +kernel
theorem dL_isKept_230 : decode cL_isKept 230 = .ok (.if_icmp .lt 20, 3) := by decide +kernel
theorem dL_isKept_233 : decode cL_isKept 233 = .ok (.aload_n 0, 1) := by decide +kernel
theorem dL_isKept_234 : decode cL_isKept 234 = .ok (.iload 11, 2) := by decide +kernel
theorem dL_isKept_236 : decode cL_isKept 236 = .ok (.iconst 4, 1) := by decide +kernel
theorem dL_isKept_237 : decode cL_isKept 237 = .ok (.invokevirtual 79, 3) := by decide +kernel
theorem dL_isKept_240 : decode cL_isKept 240 = .ok (.aload_n 1, 1) := by decide +kernel
theorem dL_isKept_241 : decode cL_isKept 241 = .ok (.iconst 5, 1) := by decide +kernel
theorem dL_isKept_242 : decode cL_isKept 242 = .ok (.iaload, 1) := by decide +kernel
theorem dL_isKept_243 : decode cL_isKept 243 = .ok (.if_icmp .gt 7, 3) := by decide +kernel
theorem dL_isKept_246 : decode cL_isKept 246 = .ok (.iconst 1, 1) := by decide +kernel
theorem dL_isKept_247 : decode cL_isKept 247 = .ok (.goto 4, 3) := by decide +kernel
theorem dL_isKept_250 : decode cL_isKept 250 = .ok (.iconst 0, 1) := by decide +kernel
theorem dL_isKept_251 : decode cL_isKept 251 = .ok (.istore 10, 2) := by decide +kernel
theorem dL_isKept_253 : decode cL_isKept 253 = .ok (.iinc 11 1, 3) := by decide +kernel
theorem dL_isKept_256 : decode cL_isKept 256 = .ok (.goto (-93), 3) := by decide +kernel
theorem dL_isKept_259 : decode cL_isKept 259 = .ok (.iload 10, 2) := by decide +kernel
theorem dL_isKept_261 : decode cL_isKept 261 = .ok (.ifCond .eq 126, 3) := by decide +kernel
theorem dL_isKept_264 : decode cL_isKept 264 = .ok (.lload_n 2, 1) := by decide +kernel
theorem dL_isKept_265 : decode cL_isKept 265 = .ok (.aload_n 1, 1) := by decide +kernel
theorem dL_isKept_266 : decode cL_isKept 266 = .ok (.bipush 6, 2) := by decide +kernel
theorem dL_isKept_268 : decode cL_isKept 268 = .ok (.iaload, 1) := by decide +kernel
theorem dL_isKept_269 : decode cL_isKept 269 = .ok (.i2l, 1) := by decide +kernel
theorem dL_isKept_270 : decode cL_isKept 270 = .ok (.aload_n 0, 1) := by decide +kernel
theorem dL_isKept_271 : decode cL_isKept 271 = .ok (.iconst 0, 1) := by decide +kernel
theorem dL_isKept_272 : decode cL_isKept 272 = .ok (.invokevirtual 109, 3) := by decide +kernel
theorem dL_isKept_275 : decode cL_isKept 275 = .ok (.ladd, 1) := by decide +kernel
theorem dL_isKept_276 : decode cL_isKept 276 = .ok (.aload_n 0, 1) := by decide +kernel
theorem dL_isKept_277 : decode cL_isKept 277 = .ok (.iconst 1, 1) := by decide +kernel
theorem dL_isKept_278 : decode cL_isKept 278 = .ok (.invokevirtual 109, 3) := by decide +kernel
theorem dL_isKept_281 : decode cL_isKept 281 = .ok (.lsub, 1) := by decide +kernel
theorem dL_isKept_282 : decode cL_isKept 282 = .ok (.aload_n 0, 1) := by decide +kernel
theorem dL_isKept_283 : decode cL_isKept 283 = .ok (.iconst 2, 1) := by decide +kernel
theorem dL_isKept_284 : decode cL_isKept 284 = .ok (.invokevirtual 109, 3) := by decide +kernel
theorem dL_isKept_287 : decode cL_isKept 287 = .ok (.ladd, 1) := by decide +kernel
theorem dL_isKept_288 : decode cL_isKept 288 = .ok (.aload_n 0, 1) := by decide +kernel
theorem dL_isKept_289 : decode cL_isKept 289 = .ok (.iconst 3, 1) := by decide +kernel
theorem dL_isKept_290 : decode cL_isKept 290 = .ok (.invokevirtual 109, 3) := by decide +kernel
theorem dL_isKept_293 : decode cL_isKept 293 = .ok (.lsub, 1) := by decide +kernel
theorem dL_isKept_294 : decode cL_isKept 294 = .ok (.lcmp, 1) := by decide +kernel
theorem dL_isKept_295 : decode cL_isKept 295 = .ok (.ifCond .ne 92, 3) := by decide +kernel
theorem dL_isKept_298 : decode cL_isKept 298 = .ok (.lload 4, 2) := by decide +kernel
theorem dL_isKept_300 : decode cL_isKept 300 = .ok (.aload_n 0, 1) := by decide +kernel
theorem dL_isKept_301 : decode cL_isKept 301 = .ok (.iconst 4, 1) := by decide +kernel
theorem dL_isKept_302 : decode cL_isKept 302 = .ok (.invokevirtual 109, 3) := by decide +kernel
theorem dL_isKept_305 : decode cL_isKept 305 = .ok (.aload_n 0, 1) := by decide +kernel
theorem dL_isKept_306 : decode cL_isKept 306 = .ok (.iconst 5, 1) := by decide +kernel
theorem dL_isKept_307 : decode cL_isKept 307 = .ok (.invokevirtual 109, 3) := by decide +kernel
theorem dL_isKept_310 : decode cL_isKept 310 = .ok (.lsub, 1) := by decide +kernel
theorem dL_isKept_311 : decode cL_isKept 311 = .ok (.aload_n 0, 1) := by decide +kernel
theorem dL_isKept_312 : decode cL_isKept 312 = .ok (.bipush 6, 2) := by decide +kernel
theorem dL_isKept_314 : decode cL_isKept 314 = .ok (.invokevirtual 109, 3) := by decide +kernel
theorem dL_isKept_317 : decode cL_isKept 317 = .ok (.lsub, 1) := by decide +kernel
theorem dL_isKept_318 : decode cL_isKept 318 = .ok (.lcmp, 1) := by decide +kernel
theorem dL_isKept_319 : decode cL_isKept 319 = .ok (.ifCond .ne 68, 3) := by decide +kernel
theorem dL_isKept_322 : decode cL_isKept 322 = .ok (.lload 6, 2) := by decide +kernel
theorem dL_isKept_324 : decode cL_isKept 324 = .ok (.aload_n 1, 1) := by decide +kernel
theorem dL_isKept_325 : decode cL_isKept 325 = .ok (.bipush 7, 2) := by decide +kernel
theorem dL_isKept_327 : decode cL_isKept 327 = .ok (.iaload, 1) := by decide +kernel
theorem dL_isKept_328 : decode cL_isKept 328 = .ok (.i2l, 1) := by decide +kernel
theorem dL_isKept_329 : decode cL_isKept 329 = .ok (.aload_n 0, 1) := by decide +kernel
theorem dL_isKept_330 : decode cL_isKept 330 = .ok (.bipush 7, 2) := by decide +kernel
theorem dL_isKept_332 : decode cL_isKept 332 = .ok (.invokevirtual 109, 3) := by decide +kernel
theorem dL_isKept_335 : decode cL_isKept 335 = .ok (.ladd, 1) := by decide +kernel
theorem dL_isKept_336 : decode cL_isKept 336 = .ok (.aload_n 0, 1) := by decide +kernel
theorem dL_isKept_337 : decode cL_isKept 337 = .ok (.bipush 8, 2) := by decide +kernel
theorem dL_isKept_339 : decode cL_isKept 339 = .ok (.invokevirtual 109, 3) := by decide +kernel
theorem dL_isKept_342 : decode cL_isKept 342 = .ok (.lsub, 1) := by decide +kernel
theorem dL_isKept_343 : decode cL_isKept 343 = .ok (.aload_n 0, 1) := by decide +kernel
theorem dL_isKept_344 : decode cL_isKept 344 = .ok (.bipush 9, 2) := by decide +kernel
theorem dL_isKept_346 : decode cL_isKept 346 = .ok (.invokevirtual 109, 3) := by decide +kernel
theorem dL_isKept_349 : decode cL_isKept 349 = .ok (.lsub, 1) := by decide +kernel
theorem dL_isKept_350 : decode cL_isKept 350 = .ok (.lcmp, 1) := by decide +kernel
theorem dL_isKept_351 : decode cL_isKept 351 = .ok (.ifCond .ne 36, 3) := by decide +kernel
theorem dL_isKept_354 : decode cL_isKept 354 = .ok (.aload_n 0, 1) := by decide +kernel
theorem dL_isKept_355 : decode cL_isKept 355 = .ok (.iconst 4, 1) := by decide +kernel
theorem dL_isKept_356 : decode cL_isKept 356 = .ok (.invokevirtual 109, 3) := by decide +kernel
theorem dL_isKept_359 : decode cL_isKept 359 = .ok (.ldc2_w 123, 3) := by decide +kernel
theorem dL_isKept_362 : decode cL_isKept 362 = .ok (.aload_n 0, 1) := by decide +kernel
theorem dL_isKept_363 : decode cL_isKept 363 = .ok (.iconst 0, 1) := by decide +kernel
theorem dL_isKept_364 : decode cL_isKept 364 = .ok (.invokevirtual 109, 3) := by decide +kernel
theorem dL_isKept_367 : decode cL_isKept 367 = .ok (.lmul, 1) := by decide +kernel
theorem dL_isKept_368 : decode cL_isKept 368 = .ok (.lcmp, 1) := by decide +kernel
theorem dL_isKept_369 : decode cL_isKept 369 = .ok (.ifCond .ne 18, 3) := by decide +kernel
theorem dL_isKept_372 : decode cL_isKept 372 = .ok (.lload 8, 2) := by decide +kernel
theorem dL_isKept_374 : decode cL_isKept 374 = .ok (.aload_n 0, 1) := by decide +kernel
theorem dL_isKept_375 : decode cL_isKept 375 = .ok (.iconst 3, 1) := by decide +kernel
theorem dL_isKept_376 : decode cL_isKept 376 = .ok (.invokevirtual 109, 3) := by decide +kernel
theorem dL_isKept_379 : decode cL_isKept 379 = .ok (.lcmp, 1) := by decide +kernel
theorem dL_isKept_380 : decode cL_isKept 380 = .ok (.ifCond .ne 7, 3) := by decide +kernel
theorem dL_isKept_383 : decode cL_isKept 383 = .ok (.iconst 1, 1) := by decide +kernel
theorem dL_isKept_384 : decode cL_isKept 384 = .ok (.goto 4, 3) := by decide +kernel
theorem dL_isKept_387 : decode cL_isKept 387 = .ok (.iconst 0, 1) := by decide +kernel
theorem dL_isKept_388 : decode cL_isKept 388 = .ok (.ireturn, 1) := by decide +kernel
theorem dL_law_0 : decode cL_law 0 = .ok (.new 11, 3) := by decide +kernel
theorem dL_law_3 : decode cL_law 3 = .ok (.dup, 1) := by decide +kernel
theorem dL_law_4 : decode cL_law 4 = .ok (.invokespecial 125, 3) := by decide +kernel
theorem dL_law_7 : decode cL_law 7 = .ok (.astore_n 1, 1) := by decide +kernel
theorem dL_law_8 : decode cL_law 8 = .ok (.bipush 28, 2) := by decide +kernel
theorem dL_law_10 : decode cL_law 10 = .ok (.newarray .int, 2) := by decide +kernel
theorem dL_law_12 : decode cL_law 12 = .ok (.astore_n 2, 1) := by decide +kernel
theorem dL_law_13 : decode cL_law 13 = .ok (.aload_n 1, 1) := by decide +kernel
theorem dL_law_14 : decode cL_law 14 = .ok (.invokevirtual 117, 3) := by decide +kernel
theorem dL_law_17 : decode cL_law 17 = .ok (.ifCond .ne 42, 3) := by decide +kernel
theorem dL_law_20 : decode cL_law 20 = .ok (.aload_n 1, 1) := by decide +kernel
theorem dL_law_21 : decode cL_law 21 = .ok (.iconst 0, 1) := by decide +kernel
theorem dL_law_22 : decode cL_law 22 = .ok (.invokevirtual 64, 3) := by decide +kernel
theorem dL_law_25 : decode cL_law 25 = .ok (.bipush 50, 2) := by decide +kernel
theorem dL_law_27 : decode cL_law 27 = .ok (.if_icmp .ne 32, 3) := by decide +kernel
theorem dL_law_30 : decode cL_law 30 = .ok (.aload_n 1, 1) := by decide +kernel
theorem dL_law_31 : decode cL_law 31 = .ok (.invokevirtual 113, 3) := by decide +kernel
theorem dL_law_34 : decode cL_law 34 = .ok (.ifCond .ne 25, 3) := by decide +kernel
theorem dL_law_37 : decode cL_law 37 = .ok (.aload_n 1, 1) := by decide +kernel
theorem dL_law_38 : decode cL_law 38 = .ok (.iconst 1, 1) := by decide +kernel
theorem dL_law_39 : decode cL_law 39 = .ok (.invokevirtual 126, 3) := by decide +kernel
theorem dL_law_42 : decode cL_law 42 = .ok (.ifCond .ne 17, 3) := by decide +kernel
theorem dL_law_45 : decode cL_law 45 = .ok (.aload_n 1, 1) := by decide +kernel
theorem dL_law_46 : decode cL_law 46 = .ok (.iconst 0, 1) := by decide +kernel
theorem dL_law_47 : decode cL_law 47 = .ok (.invokevirtual 109, 3) := by decide +kernel
theorem dL_law_50 : decode cL_law 50 = .ok (.lconst 0, 1) := by decide +kernel
theorem dL_law_51 : decode cL_law 51 = .ok (.lcmp, 1) := by decide +kernel
theorem dL_law_52 : decode cL_law 52 = .ok (.ifCond .ne 7, 3) := by decide +kernel
theorem dL_law_55 : decode cL_law 55 = .ok (.iconst 1, 1) := by decide +kernel
theorem dL_law_56 : decode cL_law 56 = .ok (.goto 4, 3) := by decide +kernel
theorem dL_law_59 : decode cL_law 59 = .ok (.iconst 0, 1) := by decide +kernel
theorem dL_law_60 : decode cL_law 60 = .ok (.istore_n 3, 1) := by decide +kernel
theorem dL_law_61 : decode cL_law 61 = .ok (.aload_n 0, 1) := by decide +kernel
theorem dL_law_62 : decode cL_law 62 = .ok (.arraylength, 1) := by decide +kernel
theorem dL_law_63 : decode cL_law 63 = .ok (.iconst 3, 1) := by decide +kernel
theorem dL_law_64 : decode cL_law 64 = .ok (.idiv, 1) := by decide +kernel
theorem dL_law_65 : decode cL_law 65 = .ok (.bipush 80, 2) := by decide +kernel
theorem dL_law_67 : decode cL_law 67 = .ok (.if_icmp .le 8, 3) := by decide +kernel
theorem dL_law_70 : decode cL_law 70 = .ok (.bipush 80, 2) := by decide +kernel
theorem dL_law_72 : decode cL_law 72 = .ok (.goto 7, 3) := by decide +kernel
theorem dL_law_75 : decode cL_law 75 = .ok (.aload_n 0, 1) := by decide +kernel
theorem dL_law_76 : decode cL_law 76 = .ok (.arraylength, 1) := by decide +kernel
theorem dL_law_77 : decode cL_law 77 = .ok (.iconst 3, 1) := by decide +kernel
theorem dL_law_78 : decode cL_law 78 = .ok (.idiv, 1) := by decide +kernel
theorem dL_law_79 : decode cL_law 79 = .ok (.istore 4, 2) := by decide +kernel
theorem dL_law_81 : decode cL_law 81 = .ok (.iconst 0, 1) := by decide +kernel
theorem dL_law_82 : decode cL_law 82 = .ok (.istore 5, 2) := by decide +kernel
theorem dL_law_84 : decode cL_law 84 = .ok (.iload 5, 2) := by decide +kernel
theorem dL_law_86 : decode cL_law 86 = .ok (.iload 4, 2) := by decide +kernel
theorem dL_law_88 : decode cL_law 88 = .ok (.if_icmp .ge 63, 3) := by decide +kernel
theorem dL_law_91 : decode cL_law 91 = .ok (.iload_n 3, 1) := by decide +kernel
theorem dL_law_92 : decode cL_law 92 = .ok (.ifCond .eq 59, 3) := by decide +kernel
theorem dL_law_95 : decode cL_law 95 = .ok (.aload_n 1, 1) := by decide +kernel
theorem dL_law_96 : decode cL_law 96 = .ok (.aload_n 2, 1) := by decide +kernel
theorem dL_law_97 : decode cL_law 97 = .ok (.aload_n 0, 1) := by decide +kernel
theorem dL_law_98 : decode cL_law 98 = .ok (.iconst 3, 1) := by decide +kernel
theorem dL_law_99 : decode cL_law 99 = .ok (.iload 5, 2) := by decide +kernel
theorem dL_law_101 : decode cL_law 101 = .ok (.imul, 1) := by decide +kernel
theorem dL_law_102 : decode cL_law 102 = .ok (.invokestatic 129, 3) := by decide +kernel
theorem dL_law_105 : decode cL_law 105 = .ok (.aload_n 0, 1) := by decide +kernel
theorem dL_law_106 : decode cL_law 106 = .ok (.iconst 3, 1) := by decide +kernel
theorem dL_law_107 : decode cL_law 107 = .ok (.iload 5, 2) := by decide +kernel
theorem dL_law_109 : decode cL_law 109 = .ok (.imul, 1) := by decide +kernel
theorem dL_law_110 : decode cL_law 110 = .ok (.iconst 1, 1) := by decide +kernel
theorem dL_law_111 : decode cL_law 111 = .ok (.iadd, 1) := by decide +kernel
theorem dL_law_112 : decode cL_law 112 = .ok (.invokestatic 129, 3) := by decide +kernel
theorem dL_law_115 : decode cL_law 115 = .ok (.aload_n 0, 1) := by decide +kernel
theorem dL_law_116 : decode cL_law 116 = .ok (.iconst 3, 1) := by decide +kernel
theorem dL_law_117 : decode cL_law 117 = .ok (.iload 5, 2) := by decide +kernel
theorem dL_law_119 : decode cL_law 119 = .ok (.imul, 1) := by decide +kernel
theorem dL_law_120 : decode cL_law 120 = .ok (.iconst 2, 1) := by decide +kernel
theorem dL_law_121 : decode cL_law 121 = .ok (.iadd, 1) := by decide +kernel
theorem dL_law_122 : decode cL_law 122 = .ok (.invokestatic 129, 3) := by decide +kernel
theorem dL_law_125 : decode cL_law 125 = .ok (.invokestatic 133, 3) := by decide +kernel
theorem dL_law_128 : decode cL_law 128 = .ok (.ifCond .eq 15, 3) := by decide +kernel
theorem dL_law_131 : decode cL_law 131 = .ok (.aload_n 1, 1) := by decide +kernel
theorem dL_law_132 : decode cL_law 132 = .ok (.aload_n 2, 1) := by decide +kernel
theorem dL_law_133 : decode cL_law 133 = .ok (.invokestatic 137, 3) := by decide +kernel
theorem dL_law_136 : decode cL_law 136 = .ok (.ifCond .eq 7, 3) := by decide +kernel
theorem dL_law_139 : decode cL_law 139 = .ok (.iconst 1, 1) := by decide +kernel
theorem dL_law_140 : decode cL_law 140 = .ok (.goto 4, 3) := by decide +kernel
theorem dL_law_143 : decode cL_law 143 = .ok (.iconst 0, 1) := by decide +kernel
theorem dL_law_144 : decode cL_law 144 = .ok (.istore_n 3, 1) := by decide +kernel
theorem dL_law_145 : decode cL_law 145 = .ok (.iinc 5 1, 3) := by decide +kernel
theorem dL_law_148 : decode cL_law 148 = .ok (.goto (-64), 3) := by decide +kernel
theorem dL_law_151 : decode cL_law 151 = .ok (.iload_n 3, 1) := by decide +kernel
theorem dL_law_152 : decode cL_law 152 = .ok (.ireturn, 1) := by decide +kernel
