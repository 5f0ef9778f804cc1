theorem dX0_init_0 : decode cX0_init 0 = .ok (.aload_n 0, 1) := by decide +kernel
theorem dX0_init_1 : decode cX0_init 1 = .ok (.invokespecial 3, 3) := by decide +kernel
theorem dX0_init_4 : decode cX0_init 4 = .ok (.aload_n 0, 1) := by decide +kernel
theorem dX0_init_5 : decode cX0_init 5 = .ok (.bipush 30, 2) := by decide +kernel
theorem dX0_init_7 : decode cX0_init 7 = .ok (.newarray .int, 2) := by decide +kernel
theorem dX0_init_9 : decode cX0_init 9 = .ok (.putfield 9, 3) := by decide +kernel
theorem dX0_init_12 : decode cX0_init 12 = .ok (.return_, 1) := by decide +kernel
theorem dX0_sing_0 : decode cX0_sing 0 = .ok (.aload_n 0, 1) := by decide +kernel
theorem dX0_sing_1 : decode cX0_sing 1 = .ok (.iconst 0, 1) := by decide +kernel
theorem dX0_sing_2 : decode cX0_sing 2 = .ok (.putfield 15, 3) := by decide +kernel
theorem dX0_sing_5 : decode cX0_sing 5 = .ok (.aload_n 0, 1) := by decide +kernel
theorem dX0_sing_6 : decode cX0_sing 6 = .ok (.iconst 0, 1) := by decide +kernel
theorem dX0_sing_7 : decode cX0_sing 7 = .ok (.putfield 19, 3) := by decide +kernel
theorem dX0_sing_10 : decode cX0_sing 10 = .ok (.aload_n 0, 1) := by decide +kernel
theorem dX0_sing_11 : decode cX0_sing 11 = .ok (.iload_n 1, 1) := by decide +kernel
theorem dX0_sing_12 : decode cX0_sing 12 = .ok (.putfield 23, 3) := by decide +kernel
theorem dX0_sing_15 : decode cX0_sing 15 = .ok (.aload_n 0, 1) := by decide +kernel
theorem dX0_sing_16 : decode cX0_sing 16 = .ok (.aload_n 2, 1) := by decide +kernel
theorem dX0_sing_17 : decode cX0_sing 17 = .ok (.iload_n 1, 1) := by decide +kernel
theorem dX0_sing_18 : decode cX0_sing 18 = .ok (.iconst 0, 1) := by decide +kernel
theorem dX0_sing_19 : decode cX0_sing 19 = .ok (.invokevirtual 26, 3) := by decide +kernel
theorem dX0_sing_22 : decode cX0_sing 22 = .ok (.putfield 32, 3) := by decide +kernel
theorem dX0_sing_25 : decode cX0_sing 25 = .ok (.aload_n 0, 1) := by decide +kernel
theorem dX0_sing_26 : decode cX0_sing 26 = .ok (.aload_n 2, 1) := by decide +kernel
theorem dX0_sing_27 : decode cX0_sing 27 = .ok (.iload_n 1, 1) := by decide +kernel
theorem dX0_sing_28 : decode cX0_sing 28 = .ok (.iconst 1, 1) := by decide +kernel
theorem dX0_sing_29 : decode cX0_sing 29 = .ok (.invokevirtual 26, 3) := by decide +kernel
theorem dX0_sing_32 : decode cX0_sing 32 = .ok (.putfield 35, 3) := by decide +kernel
theorem dX0_sing_35 : decode cX0_sing 35 = .ok (.aload_n 0, 1) := by decide +kernel
theorem dX0_sing_36 : decode cX0_sing 36 = .ok (.aload_n 0, 1) := by decide +kernel
theorem dX0_sing_37 : decode cX0_sing 37 = .ok (.getfield 32, 3) := by decide +kernel
theorem dX0_sing_40 : decode cX0_sing 40 = .ok (.iload_n 3, 1) := by decide +kernel
theorem dX0_sing_41 : decode cX0_sing 41 = .ok (.iload 4, 2) := by decide +kernel
theorem dX0_sing_43 : decode cX0_sing 43 = .ok (.iconst 0, 1) := by decide +kernel
theorem dX0_sing_44 : decode cX0_sing 44 = .ok (.invokevirtual 38, 3) := by decide +kernel
theorem dX0_sing_47 : decode cX0_sing 47 = .ok (.ireturn, 1) := by decide +kernel
theorem dX0_call_0 : decode cX0_call 0 = .ok (.iload_n 1, 1) := by decide +kernel
theorem dX0_call_1 : decode cX0_call 1 = .ok (.istore 5, 2) := by decide +kernel
theorem dX0_call_3 : decode cX0_call 3 = .ok (.iconst 0, 1) := by decide +kernel
theorem dX0_call_4 : decode cX0_call 4 = .ok (.istore 6, 2) := by decide +kernel
theorem dX0_call_6 : decode cX0_call 6 = .ok (.iload 6, 2) := by decide +kernel
theorem dX0_call_8 : decode cX0_call 8 = .ok (.bipush 7, 2) := by decide +kernel
theorem dX0_call_10 : decode cX0_call 10 = .ok (.if_icmp .ge 67, 3) := by decide +kernel
theorem dX0_call_13 : decode cX0_call 13 = .ok (.iload 5, 2) := by decide +kernel
theorem dX0_call_15 : decode cX0_call 15 = .ok (.bipush 7, 2) := by decide +kernel
theorem dX0_call_17 : decode cX0_call 17 = .ok (.invokestatic 42, 3) := by decide +kernel
theorem dX0_call_20 : decode cX0_call 20 = .ok (.ifCond .eq 57, 3) := by decide +kernel
theorem dX0_call_23 : decode cX0_call 23 = .ok (.getstatic 46, 3) := by decide +kernel
theorem dX0_call_26 : decode cX0_call 26 = .ok (.iload 5, 2) := by decide +kernel
theorem dX0_call_28 : decode cX0_call 28 = .ok (.iconst 4, 1) := by decide +kernel
theorem dX0_call_29 : decode cX0_call 29 = .ok (.imul, 1) := by decide +kernel
theorem dX0_call_30 : decode cX0_call 30 = .ok (.iload_n 2, 1) := by decide +kernel
theorem dX0_call_31 : decode cX0_call 31 = .ok (.iadd, 1) := by decide +kernel
theorem dX0_call_32 : decode cX0_call 32 = .ok (.iaload, 1) := by decide +kernel
theorem dX0_call_33 : decode cX0_call 33 = .ok (.istore 7, 2) := by decide +kernel
theorem dX0_call_35 : decode cX0_call 35 = .ok (.iload 7, 2) := by decide +kernel
theorem dX0_call_37 : decode cX0_call 37 = .ok (.ifCond .eq 26, 3) := by decide +kernel
theorem dX0_call_40 : decode cX0_call 40 = .ok (.iload 4, 2) := by decide +kernel
theorem dX0_call_42 : decode cX0_call 42 = .ok (.bipush 40, 2) := by decide +kernel
theorem dX0_call_44 : decode cX0_call 44 = .ok (.if_icmp .ge 17, 3) := by decide +kernel
theorem dX0_call_47 : decode cX0_call 47 = .ok (.aload_n 0, 1) := by decide +kernel
theorem dX0_call_48 : decode cX0_call 48 = .ok (.iload 7, 2) := by decide +kernel
theorem dX0_call_50 : decode cX0_call 50 = .ok (.iload_n 3, 1) := by decide +kernel
theorem dX0_call_51 : decode cX0_call 51 = .ok (.iload 4, 2) := by decide +kernel
theorem dX0_call_53 : decode cX0_call 53 = .ok (.iconst 1, 1) := by decide +kernel
theorem dX0_call_54 : decode cX0_call 54 = .ok (.iadd, 1) := by decide +kernel
theorem dX0_call_55 : decode cX0_call 55 = .ok (.invokevirtual 49, 3) := by decide +kernel
theorem dX0_call_58 : decode cX0_call 58 = .ok (.goto 4, 3) := by decide +kernel
theorem dX0_call_61 : decode cX0_call 61 = .ok (.iconst 0, 1) := by decide +kernel
theorem dX0_call_62 : decode cX0_call 62 = .ok (.ireturn, 1) := by decide +kernel
theorem dX0_call_63 : decode cX0_call 63 = .ok (.getstatic 53, 3) := by decide +kernel
theorem dX0_call_66 : decode cX0_call 66 = .ok (.iload 5, 2) := by decide +kernel
theorem dX0_call_68 : decode cX0_call 68 = .ok (.iaload, 1) := by decide +kernel
theorem dX0_call_69 : decode cX0_call 69 = .ok (.istore 5, 2) := by decide +kernel
theorem dX0_call_71 : decode cX0_call 71 = .ok (.iinc 6 1, 3) := by decide +kernel
theorem dX0_call_74 : decode cX0_call 74 = .ok (.goto (-68), 3) := by decide +kernel
theorem dX0_call_77 : decode cX0_call 77 = .ok (.iconst 0, 1) := by decide +kernel
theorem dX0_call_78 : decode cX0_call 78 = .ok (.ireturn, 1) := by decide +kernel
theorem dX0_work_0 : decode cX0_work 0 = .ok (.aload_n 0, 1) := by decide +kernel
theorem dX0_work_1 : decode cX0_work 1 = .ok (.iload_n 1, 1) := by decide +kernel
theorem dX0_work_2 : decode cX0_work 2 = .ok (.invokevirtual 56, 3) := by decide +kernel
theorem dX0_work_5 : decode cX0_work 5 = .ok (.iload_n 1, 1) := by decide +kernel
theorem dX0_work_6 : decode cX0_work 6 = .ok (.lookupswitch 275 #[(10, 114), (11, 121), (12, 135), (13, 152), (20, 158), (21, 174), (30, 181), (40, 196), (50, 211), (51, 226), (60, 244), (70, 259), (71, 261)], 114) := by decide +kernel
theorem dX0_work_120 : decode cX0_work 120 = .ok (.iload_n 2, 1) := by decide +kernel
theorem dX0_work_121 : decode cX0_work 121 = .ok (.aload_n 0, 1) := by decide +kernel
theorem dX0_work_122 : decode cX0_work 122 = .ok (.getfield 23, 3) := by decide +kernel
theorem dX0_work_125 : decode cX0_work 125 = .ok (.iadd, 1) := by decide +kernel
theorem dX0_work_126 : decode cX0_work 126 = .ok (.ireturn, 1) := by decide +kernel
theorem dX0_work_127 : decode cX0_work 127 = .ok (.aload_n 0, 1) := by decide +kernel
theorem dX0_work_128 : decode cX0_work 128 = .ok (.aload_n 0, 1) := by decide +kernel
theorem dX0_work_129 : decode cX0_work 129 = .ok (.getfield 32, 3) := by decide +kernel
theorem dX0_work_132 : decode cX0_work 132 = .ok (.iconst 0, 1) := by decide +kernel
theorem dX0_work_133 : decode cX0_work 133 = .ok (.iload_n 2, 1) := by decide +kernel
theorem dX0_work_134 : decode cX0_work 134 = .ok (.iload_n 3, 1) := by decide +kernel
theorem dX0_work_135 : decode cX0_work 135 = .ok (.invokevirtual 38, 3) := by decide +kernel
theorem dX0_work_138 : decode cX0_work 138 = .ok (.iconst 2, 1) := by decide +kernel
theorem dX0_work_139 : decode cX0_work 139 = .ok (.imul, 1) := by decide +kernel
theorem dX0_work_140 : decode cX0_work 140 = .ok (.ireturn, 1) := by decide +kernel
theorem dX0_work_141 : decode cX0_work 141 = .ok (.aload_n 0, 1) := by decide +kernel
theorem dX0_work_142 : decode cX0_work 142 = .ok (.aload_n 0, 1) := by decide +kernel
theorem dX0_work_143 : decode cX0_work 143 = .ok (.getfield 32, 3) := by decide +kernel
theorem dX0_work_146 : decode cX0_work 146 = .ok (.iconst 1, 1) := by decide +kernel
theorem dX0_work_147 : decode cX0_work 147 = .ok (.iload_n 2, 1) := by decide +kernel
theorem dX0_work_148 : decode cX0_work 148 = .ok (.iload_n 3, 1) := by decide +kernel
theorem dX0_work_149 : decode cX0_work 149 = .ok (.invokevirtual 38, 3) := by decide +kernel
theorem dX0_work_152 : decode cX0_work 152 = .ok (.aload_n 0, 1) := by decide +kernel
theorem dX0_work_153 : decode cX0_work 153 = .ok (.getfield 35, 3) := by decide +kernel
theorem dX0_work_156 : decode cX0_work 156 = .ok (.isub, 1) := by decide +kernel
theorem dX0_work_157 : decode cX0_work 157 = .ok (.ireturn, 1) := by decide +kernel
theorem dX0_work_158 : decode cX0_work 158 = .ok (.aload_n 0, 1) := by decide +kernel
theorem dX0_work_159 : decode cX0_work 159 = .ok (.iload_n 2, 1) := by decide +kernel
theorem dX0_work_160 : decode cX0_work 160 = .ok (.invokevirtual 60, 3) := by decide +kernel
theorem dX0_work_163 : decode cX0_work 163 = .ok (.ireturn, 1) := by decide +kernel
theorem dX0_work_164 : decode cX0_work 164 = .ok (.aload_n 0, 1) := by decide +kernel
theorem dX0_work_165 : decode cX0_work 165 = .ok (.getstatic 53, 3) := by decide +kernel
theorem dX0_work_168 : decode cX0_work 168 = .ok (.iconst 1, 1) := by decide +kernel
theorem dX0_work_169 : decode cX0_work 169 = .ok (.iaload, 1) := by decide +kernel
theorem dX0_work_170 : decode cX0_work 170 = .ok (.iconst 0, 1) := by decide +kernel
theorem dX0_work_171 : decode cX0_work 171 = .ok (.iload_n 2, 1) := by decide +kernel
theorem dX0_work_172 : decode cX0_work 172 = .ok (.iload_n 3, 1) := by decide +kernel
theorem dX0_work_173 : decode cX0_work 173 = .ok (.invokevirtual 38, 3) := by decide +kernel
theorem dX0_work_176 : decode cX0_work 176 = .ok (.bipush 7, 2) := by decide +kernel
theorem dX0_work_178 : decode cX0_work 178 = .ok (.isub, 1) := by decide +kernel
theorem dX0_work_179 : decode cX0_work 179 = .ok (.ireturn, 1) := by decide +kernel
theorem dX0_work_180 : decode cX0_work 180 = .ok (.aload_n 0, 1) := by decide +kernel
theorem dX0_work_181 : decode cX0_work 181 = .ok (.iload_n 2, 1) := by decide +kernel
theorem dX0_work_182 : decode cX0_work 182 = .ok (.iload_n 3, 1) := by decide +kernel
theorem dX0_work_183 : decode cX0_work 183 = .ok (.invokevirtual 64, 3) := by decide +kernel
theorem dX0_work_186 : decode cX0_work 186 = .ok (.ireturn, 1) := by decide +kernel
theorem dX0_work_187 : decode cX0_work 187 = .ok (.iconst 0, 1) := by decide +kernel
theorem dX0_work_188 : decode cX0_work 188 = .ok (.aload_n 0, 1) := by decide +kernel
theorem dX0_work_189 : decode cX0_work 189 = .ok (.getstatic 53, 3) := by decide +kernel
theorem dX0_work_192 : decode cX0_work 192 = .ok (.iconst 2, 1) := by decide +kernel
theorem dX0_work_193 : decode cX0_work 193 = .ok (.iaload, 1) := by decide +kernel
theorem dX0_work_194 : decode cX0_work 194 = .ok (.iconst 1, 1) := by decide +kernel
theorem dX0_work_195 : decode cX0_work 195 = .ok (.iload_n 2, 1) := by decide +kernel
theorem dX0_work_196 : decode cX0_work 196 = .ok (.iload_n 3, 1) := by decide +kernel
theorem dX0_work_197 : decode cX0_work 197 = .ok (.invokevirtual 38, 3) := by decide +kernel
theorem dX0_work_200 : decode cX0_work 200 = .ok (.isub, 1) := by decide +kernel
theorem dX0_work_201 : decode cX0_work 201 = .ok (.ireturn, 1) := by decide +kernel
theorem dX0_work_202 : decode cX0_work 202 = .ok (.aload_n 0, 1) := by decide +kernel
theorem dX0_work_203 : decode cX0_work 203 = .ok (.getstatic 53, 3) := by decide +kernel
theorem dX0_work_206 : decode cX0_work 206 = .ok (.iconst 3, 1) := by decide +kernel
theorem dX0_work_207 : decode cX0_work 207 = .ok (.iaload, 1) := by decide +kernel
theorem dX0_work_208 : decode cX0_work 208 = .ok (.iconst 2, 1) := by decide +kernel
theorem dX0_work_209 : decode cX0_work 209 = .ok (.iload_n 2, 1) := by decide +kernel
theorem dX0_work_210 : decode cX0_work 210 = .ok (.iconst 2, 1) := by decide +kernel
theorem dX0_work_211 : decode cX0_work 211 = .ok (.idiv, 1) := by decide +kernel
theorem dX0_work_212 : decode cX0_work 212 = .ok (.iload_n 3, 1) := by decide +kernel
theorem dX0_work_213 : decode cX0_work 213 = .ok (.invokevirtual 38, 3) := by decide +kernel
theorem dX0_work_216 : decode cX0_work 216 = .ok (.ireturn, 1) := by decide +kernel
theorem dX0_work_217 : decode cX0_work 217 = .ok (.aload_n 0, 1) := by decide +kernel
theorem dX0_work_218 : decode cX0_work 218 = .ok (.getstatic 53, 3) := by decide +kernel
theorem dX0_work_221 : decode cX0_work 221 = .ok (.iconst 4, 1) := by decide +kernel
theorem dX0_work_222 : decode cX0_work 222 = .ok (.iaload, 1) := by decide +kernel
theorem dX0_work_223 : decode cX0_work 223 = .ok (.iconst 0, 1) := by decide +kernel
theorem dX0_work_224 : decode cX0_work 224 = .ok (.iload_n 2, 1) := by decide +kernel
theorem dX0_work_225 : decode cX0_work 225 = .ok (.iload_n 3, 1) := by decide +kernel
theorem dX0_work_226 : decode cX0_work 226 = .ok (.invokevirtual 38, 3) := by decide +kernel
theorem dX0_work_229 : decode cX0_work 229 = .ok (.iconst 3, 1) := by decide +kernel
theorem dX0_work_230 : decode cX0_work 230 = .ok (.imul, 1) := by decide +kernel
theorem dX0_work_231 : decode cX0_work 231 = .ok (.ireturn, 1) := by decide +kernel
theorem dX0_work_232 : decode cX0_work 232 = .ok (.aload_n 0, 1) := by decide +kernel
theorem dX0_work_233 : decode cX0_work 233 = .ok (.getstatic 53, 3) := by decide +kernel
theorem dX0_work_236 : decode cX0_work 236 = .ok (.iconst 4, 1) := by decide +kernel
theorem dX0_work_237 : decode cX0_work 237 = .ok (.iaload, 1) := by decide +kernel
theorem dX0_work_238 : decode cX0_work 238 = .ok (.iconst 2, 1) := by decide +kernel
theorem dX0_work_239 : decode cX0_work 239 = .ok (.iload_n 2, 1) := by decide +kernel
theorem dX0_work_240 : decode cX0_work 240 = .ok (.iload_n 3, 1) := by decide +kernel
theorem dX0_work_241 : decode cX0_work 241 = .ok (.invokevirtual 38, 3) := by decide +kernel
theorem dX0_work_244 : decode cX0_work 244 = .ok (.aload_n 0, 1) := by decide +kernel
theorem dX0_work_245 : decode cX0_work 245 = .ok (.getfield 23, 3) := by decide +kernel
theorem dX0_work_248 : decode cX0_work 248 = .ok (.ixor, 1) := by decide +kernel
theorem dX0_work_249 : decode cX0_work 249 = .ok (.ireturn, 1) := by decide +kernel
theorem dX0_work_250 : decode cX0_work 250 = .ok (.aload_n 0, 1) := by decide +kernel
theorem dX0_work_251 : decode cX0_work 251 = .ok (.getstatic 53, 3) := by decide +kernel
theorem dX0_work_254 : decode cX0_work 254 = .ok (.iconst 5, 1) := by decide +kernel
theorem dX0_work_255 : decode cX0_work 255 = .ok (.iaload, 1) := by decide +kernel
theorem dX0_work_256 : decode cX0_work 256 = .ok (.iconst 1, 1) := by decide +kernel
theorem dX0_work_257 : decode cX0_work 257 = .ok (.iload_n 2, 1) := by decide +kernel
theorem dX0_work_258 : decode cX0_work 258 = .ok (.iconst 1, 1) := by decide +kernel
theorem dX0_work_259 : decode cX0_work 259 = .ok (.iadd, 1) := by decide +kernel
theorem dX0_work_260 : decode cX0_work 260 = .ok (.iload_n 3, 1) := by decide +kernel
theorem dX0_work_261 : decode cX0_work 261 = .ok (.invokevirtual 38, 3) := by decide +kernel
theorem dX0_work_264 : decode cX0_work 264 = .ok (.ireturn, 1) := by decide +kernel
theorem dX0_work_265 : decode cX0_work 265 = .ok (.iconst 4, 1) := by decide +kernel
theorem dX0_work_266 : decode cX0_work 266 = .ok (.ireturn, 1) := by decide +kernel
theorem dX0_work_267 : decode cX0_work 267 = .ok (.aload_n 0, 1) := by decide +kernel
theorem dX0_work_268 : decode cX0_work 268 = .ok (.iconst 0, 1) := by decide +kernel
theorem dX0_work_269 : decode cX0_work 269 = .ok (.iconst 1, 1) := by decide +kernel
theorem dX0_work_270 : decode cX0_work 270 = .ok (.iload_n 2, 1) := by decide +kernel
theorem dX0_work_271 : decode cX0_work 271 = .ok (.iload_n 3, 1) := by decide +kernel
theorem dX0_work_272 : decode cX0_work 272 = .ok (.invokevirtual 38, 3) := by decide +kernel
theorem dX0_work_275 : decode cX0_work 275 = .ok (.aload_n 0, 1) := by decide +kernel
theorem dX0_work_276 : decode cX0_work 276 = .ok (.getfield 35, 3) := by decide +kernel
theorem dX0_work_279 : decode cX0_work 279 = .ok (.iadd, 1) := by decide +kernel
theorem dX0_work_280 : decode cX0_work 280 = .ok (.ireturn, 1) := by decide +kernel
theorem dX0_work_281 : decode cX0_work 281 = .ok (.iconst 0, 1) := by decide +kernel
theorem dX0_work_282 : decode cX0_work 282 = .ok (.ireturn, 1) := by decide +kernel
theorem dX0_note_0 : decode cX0_note 0 = .ok (.aload_n 0, 1) := by decide +kernel
theorem dX0_note_1 : decode cX0_note 1 = .ok (.getfield 15, 3) := by decide +kernel
theorem dX0_note_4 : decode cX0_note 4 = .ok (.bipush 30, 2) := by decide +kernel
theorem dX0_note_6 : decode cX0_note 6 = .ok (.if_icmp .ge 23, 3) := by decide +kernel
theorem dX0_note_9 : decode cX0_note 9 = .ok (.aload_n 0, 1) := by decide +kernel
theorem dX0_note_10 : decode cX0_note 10 = .ok (.getfield 9, 3) := by decide +kernel
theorem dX0_note_13 : decode cX0_note 13 = .ok (.aload_n 0, 1) := by decide +kernel
theorem dX0_note_14 : decode cX0_note 14 = .ok (.getfield 15, 3) := by decide +kernel
theorem dX0_note_17 : decode cX0_note 17 = .ok (.iload_n 1, 1) := by decide +kernel
theorem dX0_note_18 : decode cX0_note 18 = .ok (.iastore, 1) := by decide +kernel
theorem dX0_note_19 : decode cX0_note 19 = .ok (.aload_n 0, 1) := by decide +kernel
theorem dX0_note_20 : decode cX0_note 20 = .ok (.dup, 1) := by decide +kernel
theorem dX0_note_21 : decode cX0_note 21 = .ok (.getfield 15, 3) := by decide +kernel
theorem dX0_note_24 : decode cX0_note 24 = .ok (.iconst 1, 1) := by decide +kernel
theorem dX0_note_25 : decode cX0_note 25 = .ok (.iadd, 1) := by decide +kernel
theorem dX0_note_26 : decode cX0_note 26 = .ok (.putfield 15, 3) := by decide +kernel
theorem dX0_note_29 : decode cX0_note 29 = .ok (.return_, 1) := by decide +kernel
theorem dX0_part_0 : decode cX0_part 0 = .ok (.aload_n 0, 1) := by decide +kernel
theorem dX0_part_1 : decode cX0_part 1 = .ok (.getfield 35, 3) := by decide +kernel
theorem dX0_part_4 : decode cX0_part 4 = .ok (.aload_n 0, 1) := by decide +kernel
theorem dX0_part_5 : decode cX0_part 5 = .ok (.getfield 23, 3) := by decide +kernel
theorem dX0_part_8 : decode cX0_part 8 = .ok (.isub, 1) := by decide +kernel
theorem dX0_part_9 : decode cX0_part 9 = .ok (.istore_n 2, 1) := by decide +kernel
theorem dX0_part_10 : decode cX0_part 10 = .ok (.iload_n 2, 1) := by decide +kernel
theorem dX0_part_11 : decode cX0_part 11 = .ok (.ifCond .ne 10, 3) := by decide +kernel
theorem dX0_part_14 : decode cX0_part 14 = .ok (.aload_n 0, 1) := by decide +kernel
theorem dX0_part_15 : decode cX0_part 15 = .ok (.iconst 1, 1) := by decide +kernel
theorem dX0_part_16 : decode cX0_part 16 = .ok (.putfield 19, 3) := by decide +kernel
theorem dX0_part_19 : decode cX0_part 19 = .ok (.iconst 0, 1) := by decide +kernel
theorem dX0_part_20 : decode cX0_part 20 = .ok (.ireturn, 1) := by decide +kernel
theorem dX0_part_21 : decode cX0_part 21 = .ok (.iload_n 1, 1) := by decide +kernel
theorem dX0_part_22 : decode cX0_part 22 = .ok (.iload_n 2, 1) := by decide +kernel
theorem dX0_part_23 : decode cX0_part 23 = .ok (.idiv, 1) := by decide +kernel
theorem dX0_part_24 : decode cX0_part 24 = .ok (.ireturn, 1) := by decide +kernel
theorem dX0_partAndAge_0 : decode cX0_partAndAge 0 = .ok (.aload_n 0, 1) := by decide +kernel
theorem dX0_partAndAge_1 : decode cX0_partAndAge 1 = .ok (.getstatic 53, 3) := by decide +kernel
theorem dX0_partAndAge_4 : decode cX0_partAndAge 4 = .ok (.iconst 1, 1) := by decide +kernel
theorem dX0_partAndAge_5 : decode cX0_partAndAge 5 = .ok (.iaload, 1) := by decide +kernel
theorem dX0_partAndAge_6 : decode cX0_partAndAge 6 = .ok (.iconst 3, 1) := by decide +kernel
theorem dX0_partAndAge_7 : decode cX0_partAndAge 7 = .ok (.iload_n 1, 1) := by decide +kernel
theorem dX0_partAndAge_8 : decode cX0_partAndAge 8 = .ok (.iload_n 2, 1) := by decide +kernel
theorem dX0_partAndAge_9 : decode cX0_partAndAge 9 = .ok (.invokevirtual 38, 3) := by decide +kernel
theorem dX0_partAndAge_12 : decode cX0_partAndAge 12 = .ok (.istore_n 3, 1) := by decide +kernel
theorem dX0_partAndAge_13 : decode cX0_partAndAge 13 = .ok (.aload_n 0, 1) := by decide +kernel
theorem dX0_partAndAge_14 : decode cX0_partAndAge 14 = .ok (.getfield 19, 3) := by decide +kernel
theorem dX0_partAndAge_17 : decode cX0_partAndAge 17 = .ok (.ifCond .eq 7, 3) := by decide +kernel
theorem dX0_partAndAge_20 : decode cX0_partAndAge 20 = .ok (.iconst 0, 1) := by decide +kernel
theorem dX0_partAndAge_21 : decode cX0_partAndAge 21 = .ok (.goto 16, 3) := by decide +kernel
theorem dX0_partAndAge_24 : decode cX0_partAndAge 24 = .ok (.iload_n 3, 1) := by decide +kernel
theorem dX0_partAndAge_25 : decode cX0_partAndAge 25 = .ok (.aload_n 0, 1) := by decide +kernel
theorem dX0_partAndAge_26 : decode cX0_partAndAge 26 = .ok (.aload_n 0, 1) := by decide +kernel
theorem dX0_partAndAge_27 : decode cX0_partAndAge 27 = .ok (.getfield 32, 3) := by decide +kernel
theorem dX0_partAndAge_30 : decode cX0_partAndAge 30 = .ok (.iconst 1, 1) := by decide +kernel
theorem dX0_partAndAge_31 : decode cX0_partAndAge 31 = .ok (.iconst 1, 1) := by decide +kernel
theorem dX0_partAndAge_32 : decode cX0_partAndAge 32 = .ok (.iload_n 2, 1) := by decide +kernel
theorem dX0_partAndAge_33 : decode cX0_partAndAge 33 = .ok (.invokevirtual 38, 3) := by decide +kernel
theorem dX0_partAndAge_36 : decode cX0_partAndAge 36 = .ok (.iadd, 1) := by decide +kernel
theorem dX0_partAndAge_37 : decode cX0_partAndAge 37 = .ok (.ireturn, 1) := by decide +kernel
theorem dX1_init_0 : decode cX1_init 0 = .ok (.aload_n 0, 1) := by decide +kernel
theorem dX1_init_1 : decode cX1_init 1 = .ok (.invokespecial 3, 3) := by decide +kernel
theorem dX1_init_4 : decode cX1_init 4 = .ok (.aload_n 0, 1) := by decide +kernel
theorem dX1_init_5 : decode cX1_init 5 = .ok (.bipush 60, 2) := by decide +kernel
theorem dX1_init_7 : decode cX1_init 7 = .ok (.newarray .int, 2) := by decide +kernel
theorem dX1_init_9 : decode cX1_init 9 = .ok (.putfield 9, 3) := by decide +kernel
theorem dX1_init_12 : decode cX1_init 12 = .ok (.aload_n 0, 1) := by decide +kernel
theorem dX1_init_13 : decode cX1_init 13 = .ok (.bipush 60, 2) := by decide +kernel
theorem dX1_init_15 : decode cX1_init 15 = .ok (.newarray .int, 2) := by decide +kernel
theorem dX1_init_17 : decode cX1_init 17 = .ok (.putfield 15, 3) := by decide +kernel
theorem dX1_init_20 : decode cX1_init 20 = .ok (.return_, 1) := by decide +kernel
theorem dX1_take_0 : decode cX1_take 0 = .ok (.aload_n 0, 1) := by decide +kernel
theorem dX1_take_1 : decode cX1_take 1 = .ok (.iload_n 2, 1) := by decide +kernel
theorem dX1_take_2 : decode cX1_take 2 = .ok (.bipush 60, 2) := by decide +kernel
theorem dX1_take_4 : decode cX1_take 4 = .ok (.aload_n 1, 1) := by decide +kernel
theorem dX1_take_5 : decode cX1_take 5 = .ok (.arraylength, 1) := by decide +kernel
theorem dX1_take_6 : decode cX1_take 6 = .ok (.invokestatic 18, 3) := by decide +kernel
theorem dX1_take_9 : decode cX1_take 9 = .ok (.invokestatic 18, 3) := by decide +kernel
theorem dX1_take_12 : decode cX1_take 12 = .ok (.putfield 24, 3) := by decide +kernel
theorem dX1_take_15 : decode cX1_take 15 = .ok (.aload_n 1, 1) := by decide +kernel
theorem dX1_take_16 : decode cX1_take 16 = .ok (.iconst 0, 1) := by decide +kernel
theorem dX1_take_17 : decode cX1_take 17 = .ok (.aload_n 0, 1) := by decide +kernel
theorem dX1_take_18 : decode cX1_take 18 = .ok (.getfield 9, 3) := by decide +kernel
theorem dX1_take_21 : decode cX1_take 21 = .ok (.iconst 0, 1) := by decide +kernel
theorem dX1_take_22 : decode cX1_take 22 = .ok (.aload_n 0, 1) := by decide +kernel
theorem dX1_take_23 : decode cX1_take 23 = .ok (.getfield 24, 3) := by decide +kernel
theorem dX1_take_26 : decode cX1_take 26 = .ok (.invokestatic 28, 3) := by decide +kernel
theorem dX1_take_29 : decode cX1_take 29 = .ok (.aload_n 0, 1) := by decide +kernel
theorem dX1_take_30 : decode cX1_take 30 = .ok (.iconst 1, 1) := by decide +kernel
theorem dX1_take_31 : decode cX1_take 31 = .ok (.putfield 34, 3) := by decide +kernel
theorem dX1_take_34 : decode cX1_take 34 = .ok (.return_, 1) := by decide +kernel
theorem dX1_value_0 : decode cX1_value 0 = .ok (.iconst 0, 1) := by decide +kernel
theorem dX1_value_1 : decode cX1_value 1 = .ok (.istore 4, 2) := by decide +kernel
theorem dX1_value_3 : decode cX1_value 3 = .ok (.iconst 0, 1) := by decide +kernel
theorem dX1_value_4 : decode cX1_value 4 = .ok (.istore 5, 2) := by decide +kernel
theorem dX1_value_6 : decode cX1_value 6 = .ok (.iload 5, 2) := by decide +kernel
theorem dX1_value_8 : decode cX1_value 8 = .ok (.aload_n 0, 1) := by decide +kernel
theorem dX1_value_9 : decode cX1_value 9 = .ok (.getfield 24, 3) := by decide +kernel
theorem dX1_value_12 : decode cX1_value 12 = .ok (.if_icmp .ge 158, 3) := by decide +kernel
theorem dX1_value_15 : decode cX1_value 15 = .ok (.aload_n 0, 1) := by decide +kernel
theorem dX1_value_16 : decode cX1_value 16 = .ok (.getfield 9, 3) := by decide +kernel
theorem dX1_value_19 : decode cX1_value 19 = .ok (.iload 5, 2) := by decide +kernel
theorem dX1_value_21 : decode cX1_value 21 = .ok (.iaload, 1) := by decide +kernel
theorem dX1_value_22 : decode cX1_value 22 = .ok (.istore 6, 2) := by decide +kernel
theorem dX1_value_24 : decode cX1_value 24 = .ok (.iload 6, 2) := by decide +kernel
theorem dX1_value_26 : decode cX1_value 26 = .ok (.bipush (-33), 2) := by decide +kernel
theorem dX1_value_28 : decode cX1_value 28 = .ok (.if_icmp .ne 37, 3) := by decide +kernel
theorem dX1_value_31 : decode cX1_value 31 = .ok (.iload 4, 2) := by decide +kernel
theorem dX1_value_33 : decode cX1_value 33 = .ok (.ifCond .le 131, 3) := by decide +kernel
theorem dX1_value_36 : decode cX1_value 36 = .ok (.aload_n 0, 1) := by decide +kernel
theorem dX1_value_37 : decode cX1_value 37 = .ok (.getfield 15, 3) := by decide +kernel
theorem dX1_value_40 : decode cX1_value 40 = .ok (.iload 4, 2) := by decide +kernel
theorem dX1_value_42 : decode cX1_value 42 = .ok (.iconst 1, 1) := by decide +kernel
theorem dX1_value_43 : decode cX1_value 43 = .ok (.isub, 1) := by decide +kernel
theorem dX1_value_44 : decode cX1_value 44 = .ok (.aload_n 0, 1) := by decide +kernel
theorem dX1_value_45 : decode cX1_value 45 = .ok (.getfield 15, 3) := by decide +kernel
theorem dX1_value_48 : decode cX1_value 48 = .ok (.iload 4, 2) := by decide +kernel
theorem dX1_value_50 : decode cX1_value 50 = .ok (.iconst 1, 1) := by decide +kernel
theorem dX1_value_51 : decode cX1_value 51 = .ok (.isub, 1) := by decide +kernel
theorem dX1_value_52 : decode cX1_value 52 = .ok (.iaload, 1) := by decide +kernel
theorem dX1_value_53 : decode cX1_value 53 = .ok (.ifCond .ne 7, 3) := by decide +kernel
theorem dX1_value_56 : decode cX1_value 56 = .ok (.iconst 1, 1) := by decide +kernel
theorem dX1_value_57 : decode cX1_value 57 = .ok (.goto 4, 3) := by decide +kernel
theorem dX1_value_60 : decode cX1_value 60 = .ok (.iconst 0, 1) := by decide +kernel
theorem dX1_value_61 : decode cX1_value 61 = .ok (.iastore, 1) := by decide +kernel
theorem dX1_value_62 : decode cX1_value 62 = .ok (.goto 102, 3) := by decide +kernel
theorem dX1_value_65 : decode cX1_value 65 = .ok (.iload 6, 2) := by decide +kernel
theorem dX1_value_67 : decode cX1_value 67 = .ok (.bipush (-3), 2) := by decide +kernel
theorem dX1_value_69 : decode cX1_value 69 = .ok (.if_icmp .ge 46, 3) := by decide +kernel
theorem dX1_value_72 : decode cX1_value 72 = .ok (.iload 4, 2) := by decide +kernel
theorem dX1_value_74 : decode cX1_value 74 = .ok (.iconst 1, 1) := by decide +kernel
theorem dX1_value_75 : decode cX1_value 75 = .ok (.if_icmp .le 89, 3) := by decide +kernel
theorem dX1_value_78 : decode cX1_value 78 = .ok (.iinc 4 (-1), 3) := by decide +kernel
theorem dX1_value_81 : decode cX1_value 81 = .ok (.aload_n 0, 1) := by decide +kernel
theorem dX1_value_82 : decode cX1_value 82 = .ok (.getfield 15, 3) := by decide +kernel
theorem dX1_value_85 : decode cX1_value 85 = .ok (.iload 4, 2) := by decide +kernel
theorem dX1_value_87 : decode cX1_value 87 = .ok (.iconst 1, 1) := by decide +kernel
theorem dX1_value_88 : decode cX1_value 88 = .ok (.isub, 1) := by decide +kernel
theorem dX1_value_89 : decode cX1_value 89 = .ok (.iload 6, 2) := by decide +kernel
theorem dX1_value_91 : decode cX1_value 91 = .ok (.ineg, 1) := by decide +kernel
theorem dX1_value_92 : decode cX1_value 92 = .ok (.aload_n 0, 1) := by decide +kernel
theorem dX1_value_93 : decode cX1_value 93 = .ok (.getfield 15, 3) := by decide +kernel
theorem dX1_value_96 : decode cX1_value 96 = .ok (.iload 4, 2) := by decide +kernel
theorem dX1_value_98 : decode cX1_value 98 = .ok (.iconst 1, 1) := by decide +kernel
theorem dX1_value_99 : decode cX1_value 99 = .ok (.isub, 1) := by decide +kernel
theorem dX1_value_100 : decode cX1_value 100 = .ok (.iaload, 1) := by decide +kernel
theorem dX1_value_101 : decode cX1_value 101 = .ok (.aload_n 0, 1) := by decide +kernel
theorem dX1_value_102 : decode cX1_value 102 = .ok (.getfield 15, 3) := by decide +kernel
theorem dX1_value_105 : decode cX1_value 105 = .ok (.iload 4, 2) := by decide +kernel
theorem dX1_value_107 : decode cX1_value 107 = .ok (.iaload, 1) := by decide +kernel
theorem dX1_value_108 : decode cX1_value 108 = .ok (.invokestatic 38, 3) := by decide +kernel
theorem dX1_value_111 : decode cX1_value 111 = .ok (.iastore, 1) := by decide +kernel
theorem dX1_value_112 : decode cX1_value 112 = .ok (.goto 52, 3) := by decide +kernel
theorem dX1_value_115 : decode cX1_value 115 = .ok (.iload 4, 2) := by decide +kernel
theorem dX1_value_117 : decode cX1_value 117 = .ok (.bipush 60, 2) := by decide +kernel
theorem dX1_value_119 : decode cX1_value 119 = .ok (.if_icmp .ge 45, 3) := by decide +kernel
theorem dX1_value_122 : decode cX1_value 122 = .ok (.aload_n 0, 1) := by decide +kernel
theorem dX1_value_123 : decode cX1_value 123 = .ok (.getfield 15, 3) := by decide +kernel
theorem dX1_value_126 : decode cX1_value 126 = .ok (.iload 4, 2) := by decide +kernel
theorem dX1_value_128 : decode cX1_value 128 = .ok (.iload 6, 2) := by decide +kernel
theorem dX1_value_130 : decode cX1_value 130 = .ok (.ifCond .lt 8, 3) := by decide +kernel
theorem dX1_value_133 : decode cX1_value 133 = .ok (.iload 6, 2) := by decide +kernel
theorem dX1_value_135 : decode cX1_value 135 = .ok (.goto 25, 3) := by decide +kernel
theorem dX1_value_138 : decode cX1_value 138 = .ok (.iload 6, 2) := by decide +kernel
theorem dX1_value_140 : decode cX1_value 140 = .ok (.iconst (-1), 1) := by decide +kernel
theorem dX1_value_141 : decode cX1_value 141 = .ok (.if_icmp .ne 7, 3) := by decide +kernel
theorem dX1_value_144 : decode cX1_value 144 = .ok (.iload_n 1, 1) := by decide +kernel
theorem dX1_value_145 : decode cX1_value 145 = .ok (.goto 15, 3) := by decide +kernel
theorem dX1_value_148 : decode cX1_value 148 = .ok (.iload 6, 2) := by decide +kernel
theorem dX1_value_150 : decode cX1_value 150 = .ok (.bipush (-2), 2) := by decide +kernel
theorem dX1_value_152 : decode cX1_value 152 = .ok (.if_icmp .ne 7, 3) := by decide +kernel
theorem dX1_value_155 : decode cX1_value 155 = .ok (.iload_n 2, 1) := by decide +kernel
theorem dX1_value_156 : decode cX1_value 156 = .ok (.goto 4, 3) := by decide +kernel
theorem dX1_value_159 : decode cX1_value 159 = .ok (.iload_n 3, 1) := by decide +kernel
theorem dX1_value_160 : decode cX1_value 160 = .ok (.iastore, 1) := by decide +kernel
theorem dX1_value_161 : decode cX1_value 161 = .ok (.iinc 4 1, 3) := by decide +kernel
theorem dX1_value_164 : decode cX1_value 164 = .ok (.iinc 5 1, 3) := by decide +kernel
theorem dX1_value_167 : decode cX1_value 167 = .ok (.goto (-161), 3) := by decide +kernel
theorem dX1_value_170 : decode cX1_value 170 = .ok (.aload_n 0, 1) := by decide +kernel
theorem dX1_value_171 : decode cX1_value 171 = .ok (.getfield 15, 3) := by decide +kernel
theorem dX1_value_174 : decode cX1_value 174 = .ok (.iconst 0, 1) := by decide +kernel
theorem dX1_value_175 : decode cX1_value 175 = .ok (.iaload, 1) := by decide +kernel
theorem dX1_value_176 : decode cX1_value 176 = .ok (.ireturn, 1) := by decide +kernel
theorem dX1_joined_0 : decode cX1_joined 0 = .ok (.iload_n 0, 1) := by decide +kernel
theorem dX1_joined_1 : decode cX1_joined 1 = .ok (.lookupswitch 188 #[(37, 176), (38, 105), (42, 160), (43, 152), (45, 156), (47, 164), (60, 119), (61, 130), (62, 141), (124, 91)], 91) := by decide +kernel
theorem dX1_joined_92 : decode cX1_joined 92 = .ok (.iload_n 1, 1) := by decide +kernel
theorem dX1_joined_93 : decode cX1_joined 93 = .ok (.ifCond .ne 7, 3) := by decide +kernel
theorem dX1_joined_96 : decode cX1_joined 96 = .ok (.iload_n 2, 1) := by decide +kernel
theorem dX1_joined_97 : decode cX1_joined 97 = .ok (.ifCond .eq 7, 3) := by decide +kernel
theorem dX1_joined_100 : decode cX1_joined 100 = .ok (.iconst 1, 1) := by decide +kernel
theorem dX1_joined_101 : decode cX1_joined 101 = .ok (.goto 4, 3) := by decide +kernel
theorem dX1_joined_104 : decode cX1_joined 104 = .ok (.iconst 0, 1) := by decide +kernel
theorem dX1_joined_105 : decode cX1_joined 105 = .ok (.ireturn, 1) := by decide +kernel
theorem dX1_joined_106 : decode cX1_joined 106 = .ok (.iload_n 1, 1) := by decide +kernel
theorem dX1_joined_107 : decode cX1_joined 107 = .ok (.ifCond .eq 11, 3) := by decide +kernel
theorem dX1_joined_110 : decode cX1_joined 110 = .ok (.iload_n 2, 1) := by decide +kernel
theorem dX1_joined_111 : decode cX1_joined 111 = .ok (.ifCond .eq 7, 3) := by decide +kernel
theorem dX1_joined_114 : decode cX1_joined 114 = .ok (.iconst 1, 1) := by decide +kernel
theorem dX1_joined_115 : decode cX1_joined 115 = .ok (.goto 4, 3) := by decide +kernel
theorem dX1_joined_118 : decode cX1_joined 118 = .ok (.iconst 0, 1) := by decide +kernel
theorem dX1_joined_119 : decode cX1_joined 119 = .ok (.ireturn, 1) := by decide +kernel
theorem dX1_joined_120 : decode cX1_joined 120 = .ok (.iload_n 1, 1) := by decide +kernel
theorem dX1_joined_121 : decode cX1_joined 121 = .ok (.iload_n 2, 1) := by decide +kernel
theorem dX1_joined_122 : decode cX1_joined 122 = .ok (.if_icmp .ge 7, 3) := by decide +kernel
theorem dX1_joined_125 : decode cX1_joined 125 = .ok (.iconst 1, 1) := by decide +kernel
theorem dX1_joined_126 : decode cX1_joined 126 = .ok (.goto 4, 3) := by decide +kernel
theorem dX1_joined_129 : decode cX1_joined 129 = .ok (.iconst 0, 1) := by decide +kernel
theorem dX1_joined_130 : decode cX1_joined 130 = .ok (.ireturn, 1) := by decide +kernel
theorem dX1_joined_131 : decode cX1_joined 131 = .ok (.iload_n 1, 1) := by decide +kernel
theorem dX1_joined_132 : decode cX1_joined 132 = .ok (.iload_n 2, 1) := by decide +kernel
theorem dX1_joined_133 : decode cX1_joined 133 = .ok (.if_icmp .ne 7, 3) := by decide +kernel
theorem dX1_joined_136 : decode cX1_joined 136 = .ok (.iconst 1, 1) := by decide +kernel
theorem dX1_joined_137 : decode cX1_joined 137 = .ok (.goto 4, 3) := by decide +kernel
theorem dX1_joined_140 : decode cX1_joined 140 = .ok (.iconst 0, 1) := by decide +kernel
theorem dX1_joined_141 : decode cX1_joined 141 = .ok (.ireturn, 1) := by decide +kernel
theorem dX1_joined_142 : decode cX1_joined 142 = .ok (.iload_n 1, 1) := by decide +kernel
theorem dX1_joined_143 : decode cX1_joined 143 = .ok (.iload_n 2, 1) := by decide +kernel
theorem dX1_joined_144 : decode cX1_joined 144 = .ok (.if_icmp .le 7, 3) := by decide +kernel
theorem dX1_joined_147 : decode cX1_joined 147 = .ok (.iconst 1, 1) := by decide +kernel
theorem dX1_joined_148 : decode cX1_joined 148 = .ok (.goto 4, 3) := by decide +kernel
theorem dX1_joined_151 : decode cX1_joined 151 = .ok (.iconst 0, 1) := by decide +kernel
theorem dX1_joined_152 : decode cX1_joined 152 = .ok (.ireturn, 1) := by decide +kernel
theorem dX1_joined_153 : decode cX1_joined 153 = .ok (.iload_n 1, 1) := by decide +kernel
theorem dX1_joined_154 : decode cX1_joined 154 = .ok (.iload_n 2, 1) := by decide +kernel
theorem dX1_joined_155 : decode cX1_joined 155 = .ok (.iadd, 1) := by decide +kernel
theorem dX1_joined_156 : decode cX1_joined 156 = .ok (.ireturn, 1) := by decide +kernel
theorem dX1_joined_157 : decode cX1_joined 157 = .ok (.iload_n 1, 1) := by decide +kernel
theorem dX1_joined_158 : decode cX1_joined 158 = .ok (.iload_n 2, 1) := by decide +kernel
theorem dX1_joined_159 : decode cX1_joined 159 = .ok (.isub, 1) := by decide +kernel
theorem dX1_joined_160 : decode cX1_joined 160 = .ok (.ireturn, 1) := by decide +kernel
theorem dX1_joined_161 : decode cX1_joined 161 = .ok (.iload_n 1, 1) := by decide +kernel
theorem dX1_joined_162 : decode cX1_joined 162 = .ok (.iload_n 2, 1) := by decide +kernel
theorem dX1_joined_163 : decode cX1_joined 163 = .ok (.imul, 1) := by decide +kernel
theorem dX1_joined_164 : decode cX1_joined 164 = .ok (.ireturn, 1) := by decide +kernel
theorem dX1_joined_165 : decode cX1_joined 165 = .ok (.iload_n 2, 1) := by decide +kernel
theorem dX1_joined_166 : decode cX1_joined 166 = .ok (.ifCond .ne 7, 3) := by decide +kernel
theorem dX1_joined_169 : decode cX1_joined 169 = .ok (.iconst 0, 1) := by decide +kernel
theorem dX1_joined_170 : decode cX1_joined 170 = .ok (.goto 6, 3) := by decide +kernel
theorem dX1_joined_173 : decode cX1_joined 173 = .ok (.iload_n 1, 1) := by decide +kernel
theorem dX1_joined_174 : decode cX1_joined 174 = .ok (.iload_n 2, 1) := by decide +kernel
theorem dX1_joined_175 : decode cX1_joined 175 = .ok (.idiv, 1) := by decide +kernel
theorem dX1_joined_176 : decode cX1_joined 176 = .ok (.ireturn, 1) := by decide +kernel
theorem dX1_joined_177 : decode cX1_joined 177 = .ok (.iload_n 2, 1) := by decide +kernel
theorem dX1_joined_178 : decode cX1_joined 178 = .ok (.ifCond .ne 7, 3) := by decide +kernel
theorem dX1_joined_181 : decode cX1_joined 181 = .ok (.iconst 0, 1) := by decide +kernel
theorem dX1_joined_182 : decode cX1_joined 182 = .ok (.goto 6, 3) := by decide +kernel
theorem dX1_joined_185 : decode cX1_joined 185 = .ok (.iload_n 1, 1) := by decide +kernel
theorem dX1_joined_186 : decode cX1_joined 186 = .ok (.iload_n 2, 1) := by decide +kernel
theorem dX1_joined_187 : decode cX1_joined 187 = .ok (.irem, 1) := by decide +kernel
theorem dX1_joined_188 : decode cX1_joined 188 = .ok (.ireturn, 1) := by decide +kernel
theorem dX1_joined_189 : decode cX1_joined 189 = .ok (.iconst 0, 1) := by decide +kernel
theorem dX1_joined_190 : decode cX1_joined 190 = .ok (.ireturn, 1) := by decide +kernel
theorem dX1_become_0 : decode cX1_become 0 = .ok (.aload_n 0, 1) := by decide +kernel
theorem dX1_become_1 : decode cX1_become 1 = .ok (.aload_n 1, 1) := by decide +kernel
theorem dX1_become_2 : decode cX1_become 2 = .ok (.getfield 9, 3) := by decide +kernel
theorem dX1_become_5 : decode cX1_become 5 = .ok (.aload_n 1, 1) := by decide +kernel
theorem dX1_become_6 : decode cX1_become 6 = .ok (.getfield 24, 3) := by decide +kernel
theorem dX1_become_9 : decode cX1_become 9 = .ok (.invokevirtual 42, 3) := by decide +kernel
theorem dX1_become_12 : decode cX1_become 12 = .ok (.aload_n 0, 1) := by decide +kernel
theorem dX1_become_13 : decode cX1_become 13 = .ok (.aload_n 1, 1) := by decide +kernel
theorem dX1_become_14 : decode cX1_become 14 = .ok (.getfield 34, 3) := by decide +kernel
theorem dX1_become_17 : decode cX1_become 17 = .ok (.putfield 34, 3) := by decide +kernel
theorem dX1_become_20 : decode cX1_become 20 = .ok (.return_, 1) := by decide +kernel
theorem dX2_init_0 : decode cX2_init 0 = .ok (.aload_n 0, 1) := by decide +kernel
theorem dX2_init_1 : decode cX2_init 1 = .ok (.invokespecial 3, 3) := by decide +kernel
theorem dX2_init_4 : decode cX2_init 4 = .ok (.aload_n 0, 1) := by decide +kernel
theorem dX2_init_5 : decode cX2_init 5 = .ok (.bipush 8, 2) := by decide +kernel
theorem dX2_init_7 : decode cX2_init 7 = .ok (.newarray .int, 2) := by decide +kernel
theorem dX2_init_9 : decode cX2_init 9 = .ok (.putfield 9, 3) := by decide +kernel
theorem dX2_init_12 : decode cX2_init 12 = .ok (.aload_n 0, 1) := by decide +kernel
theorem dX2_init_13 : decode cX2_init 13 = .ok (.bipush 8, 2) := by decide +kernel
theorem dX2_init_15 : decode cX2_init 15 = .ok (.newarray .int, 2) := by decide +kernel
theorem dX2_init_17 : decode cX2_init 17 = .ok (.putfield 15, 3) := by decide +kernel
theorem dX2_init_20 : decode cX2_init 20 = .ok (.aload_n 0, 1) := by decide +kernel
theorem dX2_init_21 : decode cX2_init 21 = .ok (.bipush 8, 2) := by decide +kernel
theorem dX2_init_23 : decode cX2_init 23 = .ok (.newarray .int, 2) := by decide +kernel
theorem dX2_init_25 : decode cX2_init 25 = .ok (.putfield 18, 3) := by decide +kernel
theorem dX2_init_28 : decode cX2_init 28 = .ok (.aload_n 0, 1) := by decide +kernel
theorem dX2_init_29 : decode cX2_init 29 = .ok (.bipush 8, 2) := by decide +kernel
theorem dX2_init_31 : decode cX2_init 31 = .ok (.newarray .long, 2) := by decide +kernel
theorem dX2_init_33 : decode cX2_init 33 = .ok (.putfield 21, 3) := by decide +kernel
theorem dX2_init_36 : decode cX2_init 36 = .ok (.aload_n 0, 1) := by decide +kernel
theorem dX2_init_37 : decode cX2_init 37 = .ok (.bipush 8, 2) := by decide +kernel
theorem dX2_init_39 : decode cX2_init 39 = .ok (.newarray .int, 2) := by decide +kernel
theorem dX2_init_41 : decode cX2_init 41 = .ok (.putfield 25, 3) := by decide +kernel
theorem dX2_init_44 : decode cX2_init 44 = .ok (.aload_n 0, 1) := by decide +kernel
theorem dX2_init_45 : decode cX2_init 45 = .ok (.bipush 8, 2) := by decide +kernel
theorem dX2_init_47 : decode cX2_init 47 = .ok (.newarray .long, 2) := by decide +kernel
theorem dX2_init_49 : decode cX2_init 49 = .ok (.putfield 28, 3) := by decide +kernel
theorem dX2_init_52 : decode cX2_init 52 = .ok (.return_, 1) := by decide +kernel
theorem dX2_add_0 : decode cX2_add 0 = .ok (.aload_n 0, 1) := by decide +kernel
theorem dX2_add_1 : decode cX2_add 1 = .ok (.getfield 31, 3) := by decide +kernel
theorem dX2_add_4 : decode cX2_add 4 = .ok (.bipush 8, 2) := by decide +kernel
theorem dX2_add_6 : decode cX2_add 6 = .ok (.if_icmp .ge 33, 3) := by decide +kernel
theorem dX2_add_9 : decode cX2_add 9 = .ok (.aload_n 0, 1) := by decide +kernel
theorem dX2_add_10 : decode cX2_add 10 = .ok (.getfield 9, 3) := by decide +kernel
theorem dX2_add_13 : decode cX2_add 13 = .ok (.aload_n 0, 1) := by decide +kernel
theorem dX2_add_14 : decode cX2_add 14 = .ok (.getfield 31, 3) := by decide +kernel
theorem dX2_add_17 : decode cX2_add 17 = .ok (.iload_n 1, 1) := by decide +kernel
theorem dX2_add_18 : decode cX2_add 18 = .ok (.iastore, 1) := by decide +kernel
theorem dX2_add_19 : decode cX2_add 19 = .ok (.aload_n 0, 1) := by decide +kernel
theorem dX2_add_20 : decode cX2_add 20 = .ok (.getfield 15, 3) := by decide +kernel
theorem dX2_add_23 : decode cX2_add 23 = .ok (.aload_n 0, 1) := by decide +kernel
theorem dX2_add_24 : decode cX2_add 24 = .ok (.getfield 31, 3) := by decide +kernel
theorem dX2_add_27 : decode cX2_add 27 = .ok (.iload_n 2, 1) := by decide +kernel
theorem dX2_add_28 : decode cX2_add 28 = .ok (.iastore, 1) := by decide +kernel
theorem dX2_add_29 : decode cX2_add 29 = .ok (.aload_n 0, 1) := by decide +kernel
theorem dX2_add_30 : decode cX2_add 30 = .ok (.dup, 1) := by decide +kernel
theorem dX2_add_31 : decode cX2_add 31 = .ok (.getfield 31, 3) := by decide +kernel
theorem dX2_add_34 : decode cX2_add 34 = .ok (.iconst 1, 1) := by decide +kernel
theorem dX2_add_35 : decode cX2_add 35 = .ok (.iadd, 1) := by decide +kernel
theorem dX2_add_36 : decode cX2_add 36 = .ok (.putfield 31, 3) := by decide +kernel
theorem dX2_add_39 : decode cX2_add 39 = .ok (.return_, 1) := by decide +kernel
theorem dX2_listDays_0 : decode cX2_listDays 0 = .ok (.iconst 0, 1) := by decide +kernel
theorem dX2_listDays_1 : decode cX2_listDays 1 = .ok (.istore_n 3, 1) := by decide +kernel
theorem dX2_listDays_2 : decode cX2_listDays 2 = .ok (.sipush 199, 3) := by decide +kernel
theorem dX2_listDays_5 : decode cX2_listDays 5 = .ok (.aload_n 0, 1) := by decide +kernel
theorem dX2_listDays_6 : decode cX2_listDays 6 = .ok (.getfield 9, 3) := by decide +kernel
theorem dX2_listDays_9 : decode cX2_listDays 9 = .ok (.iload_n 2, 1) := by decide +kernel
theorem dX2_listDays_10 : decode cX2_listDays 10 = .ok (.iaload, 1) := by decide +kernel
theorem dX2_listDays_11 : decode cX2_listDays 11 = .ok (.bipush 6, 2) := by decide +kernel
theorem dX2_listDays_13 : decode cX2_listDays 13 = .ok (.iadd, 1) := by decide +kernel
theorem dX2_listDays_14 : decode cX2_listDays 14 = .ok (.invokestatic 35, 3) := by decide +kernel
theorem dX2_listDays_17 : decode cX2_listDays 17 = .ok (.istore 4, 2) := by decide +kernel
theorem dX2_listDays_19 : decode cX2_listDays 19 = .ok (.iconst 0, 1) := by decide +kernel
theorem dX2_listDays_20 : decode cX2_listDays 20 = .ok (.aload_n 0, 1) := by decide +kernel
theorem dX2_listDays_21 : decode cX2_listDays 21 = .ok (.getfield 9, 3) := by decide +kernel
theorem dX2_listDays_24 : decode cX2_listDays 24 = .ok (.iload_n 2, 1) := by decide +kernel
theorem dX2_listDays_25 : decode cX2_listDays 25 = .ok (.iaload, 1) := by decide +kernel
theorem dX2_listDays_26 : decode cX2_listDays 26 = .ok (.bipush 6, 2) := by decide +kernel
theorem dX2_listDays_28 : decode cX2_listDays 28 = .ok (.isub, 1) := by decide +kernel
theorem dX2_listDays_29 : decode cX2_listDays 29 = .ok (.invokestatic 41, 3) := by decide +kernel
theorem dX2_listDays_32 : decode cX2_listDays 32 = .ok (.istore 5, 2) := by decide +kernel
theorem dX2_listDays_34 : decode cX2_listDays 34 = .ok (.iload 5, 2) := by decide +kernel
theorem dX2_listDays_36 : decode cX2_listDays 36 = .ok (.iload 4, 2) := by decide +kernel
theorem dX2_listDays_38 : decode cX2_listDays 38 = .ok (.if_icmp .gt 52, 3) := by decide +kernel
theorem dX2_listDays_41 : decode cX2_listDays 41 = .ok (.iload_n 3, 1) := by decide +kernel
theorem dX2_listDays_42 : decode cX2_listDays 42 = .ok (.bipush 8, 2) := by decide +kernel
theorem dX2_listDays_44 : decode cX2_listDays 44 = .ok (.if_icmp .ge 40, 3) := by decide +kernel
theorem dX2_listDays_47 : decode cX2_listDays 47 = .ok (.aload_n 1, 1) := by decide +kernel
theorem dX2_listDays_48 : decode cX2_listDays 48 = .ok (.aload_n 0, 1) := by decide +kernel
theorem dX2_listDays_49 : decode cX2_listDays 49 = .ok (.getfield 9, 3) := by decide +kernel
theorem dX2_listDays_52 : decode cX2_listDays 52 = .ok (.iload_n 2, 1) := by decide +kernel
theorem dX2_listDays_53 : decode cX2_listDays 53 = .ok (.iaload, 1) := by decide +kernel
theorem dX2_listDays_54 : decode cX2_listDays 54 = .ok (.iload 5, 2) := by decide +kernel
theorem dX2_listDays_56 : decode cX2_listDays 56 = .ok (.invokevirtual 44, 3) := by decide +kernel
theorem dX2_listDays_59 : decode cX2_listDays 59 = .ok (.ifCond .eq 25, 3) := by decide +kernel
theorem dX2_listDays_62 : decode cX2_listDays 62 = .ok (.aload_n 0, 1) := by decide +kernel
theorem dX2_listDays_63 : decode cX2_listDays 63 = .ok (.getfield 18, 3) := by decide +kernel
theorem dX2_listDays_66 : decode cX2_listDays 66 = .ok (.iload_n 3, 1) := by decide +kernel
theorem dX2_listDays_67 : decode cX2_listDays 67 = .ok (.iload 5, 2) := by decide +kernel
theorem dX2_listDays_69 : decode cX2_listDays 69 = .ok (.sipush 365, 3) := by decide +kernel
theorem dX2_listDays_72 : decode cX2_listDays 72 = .ok (.imul, 1) := by decide +kernel
theorem dX2_listDays_73 : decode cX2_listDays 73 = .ok (.aload_n 0, 1) := by decide +kernel
theorem dX2_listDays_74 : decode cX2_listDays 74 = .ok (.getfield 15, 3) := by decide +kernel
theorem dX2_listDays_77 : decode cX2_listDays 77 = .ok (.iload_n 2, 1) := by decide +kernel
theorem dX2_listDays_78 : decode cX2_listDays 78 = .ok (.iaload, 1) := by decide +kernel
theorem dX2_listDays_79 : decode cX2_listDays 79 = .ok (.iadd, 1) := by decide +kernel
theorem dX2_listDays_80 : decode cX2_listDays 80 = .ok (.iastore, 1) := by decide +kernel
theorem dX2_listDays_81 : decode cX2_listDays 81 = .ok (.iinc 3 1, 3) := by decide +kernel
theorem dX2_listDays_84 : decode cX2_listDays 84 = .ok (.iinc 5 1, 3) := by decide +kernel
theorem dX2_listDays_87 : decode cX2_listDays 87 = .ok (.goto (-53), 3) := by decide +kernel
theorem dX2_listDays_90 : decode cX2_listDays 90 = .ok (.iload_n 3, 1) := by decide +kernel
theorem dX2_listDays_91 : decode cX2_listDays 91 = .ok (.ireturn, 1) := by decide +kernel
theorem dX2_mayBe_0 : decode cX2_mayBe 0 = .ok (.iload_n 3, 1) := by decide +kernel
theorem dX2_mayBe_1 : decode cX2_mayBe 1 = .ok (.ldc 50, 2) := by decide +kernel
theorem dX2_mayBe_3 : decode cX2_mayBe 3 = .ok (.invokestatic 51, 3) := by decide +kernel
theorem dX2_mayBe_6 : decode cX2_mayBe 6 = .ok (.ifCond .eq 39, 3) := by decide +kernel
theorem dX2_mayBe_9 : decode cX2_mayBe 9 = .ok (.iload_n 3, 1) := by decide +kernel
theorem dX2_mayBe_10 : decode cX2_mayBe 10 = .ok (.sipush 365, 3) := by decide +kernel
theorem dX2_mayBe_13 : decode cX2_mayBe 13 = .ok (.irem, 1) := by decide +kernel
theorem dX2_mayBe_14 : decode cX2_mayBe 14 = .ok (.aload_n 0, 1) := by decide +kernel
theorem dX2_mayBe_15 : decode cX2_mayBe 15 = .ok (.getfield 15, 3) := by decide +kernel
theorem dX2_mayBe_18 : decode cX2_mayBe 18 = .ok (.iload_n 2, 1) := by decide +kernel
theorem dX2_mayBe_19 : decode cX2_mayBe 19 = .ok (.iaload, 1) := by decide +kernel
theorem dX2_mayBe_20 : decode cX2_mayBe 20 = .ok (.if_icmp .ne 25, 3) := by decide +kernel
theorem dX2_mayBe_23 : decode cX2_mayBe 23 = .ok (.aload_n 1, 1) := by decide +kernel
theorem dX2_mayBe_24 : decode cX2_mayBe 24 = .ok (.aload_n 0, 1) := by decide +kernel
theorem dX2_mayBe_25 : decode cX2_mayBe 25 = .ok (.getfield 9, 3) := by decide +kernel
theorem dX2_mayBe_28 : decode cX2_mayBe 28 = .ok (.iload_n 2, 1) := by decide +kernel
theorem dX2_mayBe_29 : decode cX2_mayBe 29 = .ok (.iaload, 1) := by decide +kernel
theorem dX2_mayBe_30 : decode cX2_mayBe 30 = .ok (.iload_n 3, 1) := by decide +kernel
theorem dX2_mayBe_31 : decode cX2_mayBe 31 = .ok (.sipush 365, 3) := by decide +kernel
theorem dX2_mayBe_34 : decode cX2_mayBe 34 = .ok (.idiv, 1) := by decide +kernel
theorem dX2_mayBe_35 : decode cX2_mayBe 35 = .ok (.invokevirtual 44, 3) := by decide +kernel
theorem dX2_mayBe_38 : decode cX2_mayBe 38 = .ok (.ifCond .eq 7, 3) := by decide +kernel
theorem dX2_mayBe_41 : decode cX2_mayBe 41 = .ok (.iconst 1, 1) := by decide +kernel
theorem dX2_mayBe_42 : decode cX2_mayBe 42 = .ok (.goto 4, 3) := by decide +kernel
theorem dX2_mayBe_45 : decode cX2_mayBe 45 = .ok (.iconst 0, 1) := by decide +kernel
theorem dX2_mayBe_46 : decode cX2_mayBe 46 = .ok (.ireturn, 1) := by decide +kernel
theorem dX2_countRows_0 : decode cX2_countRows 0 = .ok (.aload_n 0, 1) := by decide +kernel
theorem dX2_countRows_1 : decode cX2_countRows 1 = .ok (.getfield 25, 3) := by decide +kernel
theorem dX2_countRows_4 : decode cX2_countRows 4 = .ok (.iconst 0, 1) := by decide +kernel
theorem dX2_countRows_5 : decode cX2_countRows 5 = .ok (.iconst (-1), 1) := by decide +kernel
theorem dX2_countRows_6 : decode cX2_countRows 6 = .ok (.iastore, 1) := by decide +kernel
theorem dX2_countRows_7 : decode cX2_countRows 7 = .ok (.aload_n 0, 1) := by decide +kernel
theorem dX2_countRows_8 : decode cX2_countRows 8 = .ok (.getfield 28, 3) := by decide +kernel
theorem dX2_countRows_11 : decode cX2_countRows 11 = .ok (.iconst 0, 1) := by decide +kernel
theorem dX2_countRows_12 : decode cX2_countRows 12 = .ok (.lconst 1, 1) := by decide +kernel
theorem dX2_countRows_13 : decode cX2_countRows 13 = .ok (.lastore, 1) := by decide +kernel
theorem dX2_countRows_14 : decode cX2_countRows 14 = .ok (.iconst 1, 1) := by decide +kernel
theorem dX2_countRows_15 : decode cX2_countRows 15 = .ok (.istore_n 2, 1) := by decide +kernel
theorem dX2_countRows_16 : decode cX2_countRows 16 = .ok (.iconst 0, 1) := by decide +kernel
theorem dX2_countRows_17 : decode cX2_countRows 17 = .ok (.istore_n 3, 1) := by decide +kernel
theorem dX2_countRows_18 : decode cX2_countRows 18 = .ok (.iload_n 3, 1) := by decide +kernel
theorem dX2_countRows_19 : decode cX2_countRows 19 = .ok (.aload_n 0, 1) := by decide +kernel
theorem dX2_countRows_20 : decode cX2_countRows 20 = .ok (.getfield 31, 3) := by decide +kernel
theorem dX2_countRows_23 : decode cX2_countRows 23 = .ok (.if_icmp .ge 85, 3) := by decide +kernel
theorem dX2_countRows_26 : decode cX2_countRows 26 = .ok (.aload_n 0, 1) := by decide +kernel
theorem dX2_countRows_27 : decode cX2_countRows 27 = .ok (.aload_n 1, 1) := by decide +kernel
theorem dX2_countRows_28 : decode cX2_countRows 28 = .ok (.iload_n 3, 1) := by decide +kernel
theorem dX2_countRows_29 : decode cX2_countRows 29 = .ok (.invokevirtual 54, 3) := by decide +kernel
theorem dX2_countRows_32 : decode cX2_countRows 32 = .ok (.istore 4, 2) := by decide +kernel
theorem dX2_countRows_34 : decode cX2_countRows 34 = .ok (.iconst 0, 1) := by decide +kernel
theorem dX2_countRows_35 : decode cX2_countRows 35 = .ok (.istore 5, 2) := by decide +kernel
theorem dX2_countRows_37 : decode cX2_countRows 37 = .ok (.iload 5, 2) := by decide +kernel
theorem dX2_countRows_39 : decode cX2_countRows 39 = .ok (.iload 4, 2) := by decide +kernel
theorem dX2_countRows_41 : decode cX2_countRows 41 = .ok (.if_icmp .ge 28, 3) := by decide +kernel
theorem dX2_countRows_44 : decode cX2_countRows 44 = .ok (.aload_n 0, 1) := by decide +kernel
theorem dX2_countRows_45 : decode cX2_countRows 45 = .ok (.getfield 21, 3) := by decide +kernel
theorem dX2_countRows_48 : decode cX2_countRows 48 = .ok (.iload 5, 2) := by decide +kernel
theorem dX2_countRows_50 : decode cX2_countRows 50 = .ok (.aload_n 0, 1) := by decide +kernel
theorem dX2_countRows_51 : decode cX2_countRows 51 = .ok (.aload_n 0, 1) := by decide +kernel
theorem dX2_countRows_52 : decode cX2_countRows 52 = .ok (.getfield 18, 3) := by decide +kernel
theorem dX2_countRows_55 : decode cX2_countRows 55 = .ok (.iload 5, 2) := by decide +kernel
theorem dX2_countRows_57 : decode cX2_countRows 57 = .ok (.iaload, 1) := by decide +kernel
theorem dX2_countRows_58 : decode cX2_countRows 58 = .ok (.iload_n 2, 1) := by decide +kernel
theorem dX2_countRows_59 : decode cX2_countRows 59 = .ok (.invokevirtual 58, 3) := by decide +kernel
theorem dX2_countRows_62 : decode cX2_countRows 62 = .ok (.lastore, 1) := by decide +kernel
theorem dX2_countRows_63 : decode cX2_countRows 63 = .ok (.iinc 5 1, 3) := by decide +kernel
theorem dX2_countRows_66 : decode cX2_countRows 66 = .ok (.goto (-29), 3) := by decide +kernel
theorem dX2_countRows_69 : decode cX2_countRows 69 = .ok (.aload_n 0, 1) := by decide +kernel
theorem dX2_countRows_70 : decode cX2_countRows 70 = .ok (.getfield 18, 3) := by decide +kernel
theorem dX2_countRows_73 : decode cX2_countRows 73 = .ok (.iconst 0, 1) := by decide +kernel
theorem dX2_countRows_74 : decode cX2_countRows 74 = .ok (.aload_n 0, 1) := by decide +kernel
theorem dX2_countRows_75 : decode cX2_countRows 75 = .ok (.getfield 25, 3) := by decide +kernel
theorem dX2_countRows_78 : decode cX2_countRows 78 = .ok (.iconst 0, 1) := by decide +kernel
theorem dX2_countRows_79 : decode cX2_countRows 79 = .ok (.iload 4, 2) := by decide +kernel
theorem dX2_countRows_81 : decode cX2_countRows 81 = .ok (.invokestatic 62, 3) := by decide +kernel
theorem dX2_countRows_84 : decode cX2_countRows 84 = .ok (.aload_n 0, 1) := by decide +kernel
theorem dX2_countRows_85 : decode cX2_countRows 85 = .ok (.getfield 21, 3) := by decide +kernel
theorem dX2_countRows_88 : decode cX2_countRows 88 = .ok (.iconst 0, 1) := by decide +kernel
theorem dX2_countRows_89 : decode cX2_countRows 89 = .ok (.aload_n 0, 1) := by decide +kernel
theorem dX2_countRows_90 : decode cX2_countRows 90 = .ok (.getfield 28, 3) := by decide +kernel
theorem dX2_countRows_93 : decode cX2_countRows 93 = .ok (.iconst 0, 1) := by decide +kernel
theorem dX2_countRows_94 : decode cX2_countRows 94 = .ok (.iload 4, 2) := by decide +kernel
theorem dX2_countRows_96 : decode cX2_countRows 96 = .ok (.invokestatic 62, 3) := by decide +kernel
theorem dX2_countRows_99 : decode cX2_countRows 99 = .ok (.iload 4, 2) := by decide +kernel
theorem dX2_countRows_101 : decode cX2_countRows 101 = .ok (.istore_n 2, 1) := by decide +kernel
theorem dX2_countRows_102 : decode cX2_countRows 102 = .ok (.iinc 3 1, 3) := by decide +kernel
theorem dX2_countRows_105 : decode cX2_countRows 105 = .ok (.goto (-87), 3) := by decide +kernel
theorem dX2_countRows_108 : decode cX2_countRows 108 = .ok (.aload_n 0, 1) := by decide +kernel
theorem dX2_countRows_109 : decode cX2_countRows 109 = .ok (.ldc 50, 2) := by decide +kernel
theorem dX2_countRows_111 : decode cX2_countRows 111 = .ok (.iload_n 2, 1) := by decide +kernel
theorem dX2_countRows_112 : decode cX2_countRows 112 = .ok (.invokevirtual 58, 3) := by decide +kernel
theorem dX2_countRows_115 : decode cX2_countRows 115 = .ok (.lreturn, 1) := by decide +kernel
theorem dX2_waysBefore_0 : decode cX2_waysBefore 0 = .ok (.lconst 0, 1) := by decide +kernel
theorem dX2_waysBefore_1 : decode cX2_waysBefore 1 = .ok (.lstore_n 3, 1) := by decide +kernel
theorem dX2_waysBefore_2 : decode cX2_waysBefore 2 = .ok (.iconst 0, 1) := by decide +kernel
theorem dX2_waysBefore_3 : decode cX2_waysBefore 3 = .ok (.istore 5, 2) := by decide +kernel
theorem dX2_waysBefore_5 : decode cX2_waysBefore 5 = .ok (.iload 5, 2) := by decide +kernel
theorem dX2_waysBefore_7 : decode cX2_waysBefore 7 = .ok (.iload_n 2, 1) := by decide +kernel
theorem dX2_waysBefore_8 : decode cX2_waysBefore 8 = .ok (.if_icmp .ge 30, 3) := by decide +kernel
theorem dX2_waysBefore_11 : decode cX2_waysBefore 11 = .ok (.aload_n 0, 1) := by decide +kernel
theorem dX2_waysBefore_12 : decode cX2_waysBefore 12 = .ok (.getfield 25, 3) := by decide +kernel
theorem dX2_waysBefore_15 : decode cX2_waysBefore 15 = .ok (.iload 5, 2) := by decide +kernel
theorem dX2_waysBefore_17 : decode cX2_waysBefore 17 = .ok (.iaload, 1) := by decide +kernel
theorem dX2_waysBefore_18 : decode cX2_waysBefore 18 = .ok (.iload_n 1, 1) := by decide +kernel
theorem dX2_waysBefore_19 : decode cX2_waysBefore 19 = .ok (.if_icmp .ge 13, 3) := by decide +kernel
theorem dX2_waysBefore_22 : decode cX2_waysBefore 22 = .ok (.lload_n 3, 1) := by decide +kernel
theorem dX2_waysBefore_23 : decode cX2_waysBefore 23 = .ok (.aload_n 0, 1) := by decide +kernel
theorem dX2_waysBefore_24 : decode cX2_waysBefore 24 = .ok (.getfield 28, 3) := by decide +kernel
theorem dX2_waysBefore_27 : decode cX2_waysBefore 27 = .ok (.iload 5, 2) := by decide +kernel
theorem dX2_waysBefore_29 : decode cX2_waysBefore 29 = .ok (.laload, 1) := by decide +kernel
theorem dX2_waysBefore_30 : decode cX2_waysBefore 30 = .ok (.ladd, 1) := by decide +kernel
theorem dX2_waysBefore_31 : decode cX2_waysBefore 31 = .ok (.lstore_n 3, 1) := by decide +kernel
theorem dX2_waysBefore_32 : decode cX2_waysBefore 32 = .ok (.iinc 5 1, 3) := by decide +kernel
theorem dX2_waysBefore_35 : decode cX2_waysBefore 35 = .ok (.goto (-30), 3) := by decide +kernel
theorem dX2_waysBefore_38 : decode cX2_waysBefore 38 = .ok (.lload_n 3, 1) := by decide +kernel
theorem dX2_waysBefore_39 : decode cX2_waysBefore 39 = .ok (.lreturn, 1) := by decide +kernel
theorem dX2_leastOf_0 : decode cX2_leastOf 0 = .ok (.iconst (-1), 1) := by decide +kernel
theorem dX2_leastOf_1 : decode cX2_leastOf 1 = .ok (.istore_n 3, 1) := by decide +kernel
theorem dX2_leastOf_2 : decode cX2_leastOf 2 = .ok (.iconst (-1), 1) := by decide +kernel
theorem dX2_leastOf_3 : decode cX2_leastOf 3 = .ok (.istore 4, 2) := by decide +kernel
theorem dX2_leastOf_5 : decode cX2_leastOf 5 = .ok (.iconst 0, 1) := by decide +kernel
theorem dX2_leastOf_6 : decode cX2_leastOf 6 = .ok (.istore 5, 2) := by decide +kernel
theorem dX2_leastOf_8 : decode cX2_leastOf 8 = .ok (.iload 5, 2) := by decide +kernel
theorem dX2_leastOf_10 : decode cX2_leastOf 10 = .ok (.aload_n 0, 1) := by decide +kernel
theorem dX2_leastOf_11 : decode cX2_leastOf 11 = .ok (.getfield 31, 3) := by decide +kernel
theorem dX2_leastOf_14 : decode cX2_leastOf 14 = .ok (.if_icmp .ge 77, 3) := by decide +kernel
theorem dX2_leastOf_17 : decode cX2_leastOf 17 = .ok (.aload_n 0, 1) := by decide +kernel
theorem dX2_leastOf_18 : decode cX2_leastOf 18 = .ok (.aload_n 1, 1) := by decide +kernel
theorem dX2_leastOf_19 : decode cX2_leastOf 19 = .ok (.iload 5, 2) := by decide +kernel
theorem dX2_leastOf_21 : decode cX2_leastOf 21 = .ok (.invokevirtual 54, 3) := by decide +kernel
theorem dX2_leastOf_24 : decode cX2_leastOf 24 = .ok (.istore 6, 2) := by decide +kernel
theorem dX2_leastOf_26 : decode cX2_leastOf 26 = .ok (.iconst 0, 1) := by decide +kernel
theorem dX2_leastOf_27 : decode cX2_leastOf 27 = .ok (.istore 7, 2) := by decide +kernel
theorem dX2_leastOf_29 : decode cX2_leastOf 29 = .ok (.iload 7, 2) := by decide +kernel
theorem dX2_leastOf_31 : decode cX2_leastOf 31 = .ok (.iload 6, 2) := by decide +kernel
theorem dX2_leastOf_33 : decode cX2_leastOf 33 = .ok (.if_icmp .ge 21, 3) := by decide +kernel
theorem dX2_leastOf_36 : decode cX2_leastOf 36 = .ok (.aload_n 0, 1) := by decide +kernel
theorem dX2_leastOf_37 : decode cX2_leastOf 37 = .ok (.getfield 18, 3) := by decide +kernel
theorem dX2_leastOf_40 : decode cX2_leastOf 40 = .ok (.iload 7, 2) := by decide +kernel
theorem dX2_leastOf_42 : decode cX2_leastOf 42 = .ok (.iaload, 1) := by decide +kernel
theorem dX2_leastOf_43 : decode cX2_leastOf 43 = .ok (.iload 4, 2) := by decide +kernel
theorem dX2_leastOf_45 : decode cX2_leastOf 45 = .ok (.if_icmp .gt 9, 3) := by decide +kernel
theorem dX2_leastOf_48 : decode cX2_leastOf 48 = .ok (.iinc 7 1, 3) := by decide +kernel
theorem dX2_leastOf_51 : decode cX2_leastOf 51 = .ok (.goto (-22), 3) := by decide +kernel
theorem dX2_leastOf_54 : decode cX2_leastOf 54 = .ok (.iload 7, 2) := by decide +kernel
theorem dX2_leastOf_56 : decode cX2_leastOf 56 = .ok (.iload 6, 2) := by decide +kernel
theorem dX2_leastOf_58 : decode cX2_leastOf 58 = .ok (.if_icmp .lt 5, 3) := by decide +kernel
theorem dX2_leastOf_61 : decode cX2_leastOf 61 = .ok (.iconst (-1), 1) := by decide +kernel
theorem dX2_leastOf_62 : decode cX2_leastOf 62 = .ok (.ireturn, 1) := by decide +kernel
theorem dX2_leastOf_63 : decode cX2_leastOf 63 = .ok (.aload_n 0, 1) := by decide +kernel
theorem dX2_leastOf_64 : decode cX2_leastOf 64 = .ok (.getfield 18, 3) := by decide +kernel
theorem dX2_leastOf_67 : decode cX2_leastOf 67 = .ok (.iload 7, 2) := by decide +kernel
theorem dX2_leastOf_69 : decode cX2_leastOf 69 = .ok (.iaload, 1) := by decide +kernel
theorem dX2_leastOf_70 : decode cX2_leastOf 70 = .ok (.istore 4, 2) := by decide +kernel
theorem dX2_leastOf_72 : decode cX2_leastOf 72 = .ok (.iload 5, 2) := by decide +kernel
theorem dX2_leastOf_74 : decode cX2_leastOf 74 = .ok (.iload_n 2, 1) := by decide +kernel
theorem dX2_leastOf_75 : decode cX2_leastOf 75 = .ok (.if_icmp .ne 8, 3) := by decide +kernel
theorem dX2_leastOf_78 : decode cX2_leastOf 78 = .ok (.iload 4, 2) := by decide +kernel
theorem dX2_leastOf_80 : decode cX2_leastOf 80 = .ok (.goto 4, 3) := by decide +kernel
theorem dX2_leastOf_83 : decode cX2_leastOf 83 = .ok (.iload_n 3, 1) := by decide +kernel
theorem dX2_leastOf_84 : decode cX2_leastOf 84 = .ok (.istore_n 3, 1) := by decide +kernel
theorem dX2_leastOf_85 : decode cX2_leastOf 85 = .ok (.iinc 5 1, 3) := by decide +kernel
theorem dX2_leastOf_88 : decode cX2_leastOf 88 = .ok (.goto (-80), 3) := by decide +kernel
theorem dX2_leastOf_91 : decode cX2_leastOf 91 = .ok (.iload_n 3, 1) := by decide +kernel
theorem dX2_leastOf_92 : decode cX2_leastOf 92 = .ok (.ireturn, 1) := by decide +kernel
theorem dX2_greatestOf_0 : decode cX2_greatestOf 0 = .ok (.iconst (-1), 1) := by decide +kernel
theorem dX2_greatestOf_1 : decode cX2_greatestOf 1 = .ok (.istore_n 3, 1) := by decide +kernel
theorem dX2_greatestOf_2 : decode cX2_greatestOf 2 = .ok (.ldc 50, 2) := by decide +kernel
theorem dX2_greatestOf_4 : decode cX2_greatestOf 4 = .ok (.istore 4, 2) := by decide +kernel
theorem dX2_greatestOf_6 : decode cX2_greatestOf 6 = .ok (.aload_n 0, 1) := by decide +kernel
theorem dX2_greatestOf_7 : decode cX2_greatestOf 7 = .ok (.getfield 31, 3) := by decide +kernel
theorem dX2_greatestOf_10 : decode cX2_greatestOf 10 = .ok (.iconst 1, 1) := by decide +kernel
theorem dX2_greatestOf_11 : decode cX2_greatestOf 11 = .ok (.isub, 1) := by decide +kernel
theorem dX2_greatestOf_12 : decode cX2_greatestOf 12 = .ok (.istore 5, 2) := by decide +kernel
theorem dX2_greatestOf_14 : decode cX2_greatestOf 14 = .ok (.iload 5, 2) := by decide +kernel
theorem dX2_greatestOf_16 : decode cX2_greatestOf 16 = .ok (.ifCond .lt 72, 3) := by decide +kernel
theorem dX2_greatestOf_19 : decode cX2_greatestOf 19 = .ok (.aload_n 0, 1) := by decide +kernel
theorem dX2_greatestOf_20 : decode cX2_greatestOf 20 = .ok (.aload_n 1, 1) := by decide +kernel
theorem dX2_greatestOf_21 : decode cX2_greatestOf 21 = .ok (.iload 5, 2) := by decide +kernel
theorem dX2_greatestOf_23 : decode cX2_greatestOf 23 = .ok (.invokevirtual 54, 3) := by decide +kernel
theorem dX2_greatestOf_26 : decode cX2_greatestOf 26 = .ok (.iconst 1, 1) := by decide +kernel
theorem dX2_greatestOf_27 : decode cX2_greatestOf 27 = .ok (.isub, 1) := by decide +kernel
theorem dX2_greatestOf_28 : decode cX2_greatestOf 28 = .ok (.istore 6, 2) := by decide +kernel
theorem dX2_greatestOf_30 : decode cX2_greatestOf 30 = .ok (.iload 6, 2) := by decide +kernel
theorem dX2_greatestOf_32 : decode cX2_greatestOf 32 = .ok (.ifCond .lt 21, 3) := by decide +kernel
theorem dX2_greatestOf_35 : decode cX2_greatestOf 35 = .ok (.aload_n 0, 1) := by decide +kernel
theorem dX2_greatestOf_36 : decode cX2_greatestOf 36 = .ok (.getfield 18, 3) := by decide +kernel
theorem dX2_greatestOf_39 : decode cX2_greatestOf 39 = .ok (.iload 6, 2) := by decide +kernel
theorem dX2_greatestOf_41 : decode cX2_greatestOf 41 = .ok (.iaload, 1) := by decide +kernel
theorem dX2_greatestOf_42 : decode cX2_greatestOf 42 = .ok (.iload 4, 2) := by decide +kernel
theorem dX2_greatestOf_44 : decode cX2_greatestOf 44 = .ok (.if_icmp .lt 9, 3) := by decide +kernel
theorem dX2_greatestOf_47 : decode cX2_greatestOf 47 = .ok (.iinc 6 (-1), 3) := by decide +kernel
theorem dX2_greatestOf_50 : decode cX2_greatestOf 50 = .ok (.goto (-20), 3) := by decide +kernel
theorem dX2_greatestOf_53 : decode cX2_greatestOf 53 = .ok (.iload 6, 2) := by decide +kernel
theorem dX2_greatestOf_55 : decode cX2_greatestOf 55 = .ok (.ifCond .ge 5, 3) := by decide +kernel
theorem dX2_greatestOf_58 : decode cX2_greatestOf 58 = .ok (.iconst (-1), 1) := by decide +kernel
theorem dX2_greatestOf_59 : decode cX2_greatestOf 59 = .ok (.ireturn, 1) := by decide +kernel
theorem dX2_greatestOf_60 : decode cX2_greatestOf 60 = .ok (.aload_n 0, 1) := by decide +kernel
theorem dX2_greatestOf_61 : decode cX2_greatestOf 61 = .ok (.getfield 18, 3) := by decide +kernel
theorem dX2_greatestOf_64 : decode cX2_greatestOf 64 = .ok (.iload 6, 2) := by decide +kernel
theorem dX2_greatestOf_66 : decode cX2_greatestOf 66 = .ok (.iaload, 1) := by decide +kernel
theorem dX2_greatestOf_67 : decode cX2_greatestOf 67 = .ok (.istore 4, 2) := by decide +kernel
theorem dX2_greatestOf_69 : decode cX2_greatestOf 69 = .ok (.iload 5, 2) := by decide +kernel
theorem dX2_greatestOf_71 : decode cX2_greatestOf 71 = .ok (.iload_n 2, 1) := by decide +kernel
theorem dX2_greatestOf_72 : decode cX2_greatestOf 72 = .ok (.if_icmp .ne 8, 3) := by decide +kernel
theorem dX2_greatestOf_75 : decode cX2_greatestOf 75 = .ok (.iload 4, 2) := by decide +kernel
theorem dX2_greatestOf_77 : decode cX2_greatestOf 77 = .ok (.goto 4, 3) := by decide +kernel
theorem dX2_greatestOf_80 : decode cX2_greatestOf 80 = .ok (.iload_n 3, 1) := by decide +kernel
theorem dX2_greatestOf_81 : decode cX2_greatestOf 81 = .ok (.istore_n 3, 1) := by decide +kernel
theorem dX2_greatestOf_82 : decode cX2_greatestOf 82 = .ok (.iinc 5 (-1), 3) := by decide +kernel
theorem dX2_greatestOf_85 : decode cX2_greatestOf 85 = .ok (.goto (-71), 3) := by decide +kernel
theorem dX2_greatestOf_88 : decode cX2_greatestOf 88 = .ok (.iload_n 3, 1) := by decide +kernel
theorem dX2_greatestOf_89 : decode cX2_greatestOf 89 = .ok (.ireturn, 1) := by decide +kernel
theorem dX2_become_0 : decode cX2_become 0 = .ok (.aload_n 1, 1) := by decide +kernel
theorem dX2_become_1 : decode cX2_become 1 = .ok (.getfield 9, 3) := by decide +kernel
theorem dX2_become_4 : decode cX2_become 4 = .ok (.iconst 0, 1) := by decide +kernel
theorem dX2_become_5 : decode cX2_become 5 = .ok (.aload_n 0, 1) := by decide +kernel
theorem dX2_become_6 : decode cX2_become 6 = .ok (.getfield 9, 3) := by decide +kernel
theorem dX2_become_9 : decode cX2_become 9 = .ok (.iconst 0, 1) := by decide +kernel
theorem dX2_become_10 : decode cX2_become 10 = .ok (.bipush 8, 2) := by decide +kernel
theorem dX2_become_12 : decode cX2_become 12 = .ok (.invokestatic 62, 3) := by decide +kernel
theorem dX2_become_15 : decode cX2_become 15 = .ok (.aload_n 1, 1) := by decide +kernel
theorem dX2_become_16 : decode cX2_become 16 = .ok (.getfield 15, 3) := by decide +kernel
theorem dX2_become_19 : decode cX2_become 19 = .ok (.iconst 0, 1) := by decide +kernel
theorem dX2_become_20 : decode cX2_become 20 = .ok (.aload_n 0, 1) := by decide +kernel
theorem dX2_become_21 : decode cX2_become 21 = .ok (.getfield 15, 3) := by decide +kernel
theorem dX2_become_24 : decode cX2_become 24 = .ok (.iconst 0, 1) := by decide +kernel
theorem dX2_become_25 : decode cX2_become 25 = .ok (.bipush 8, 2) := by decide +kernel
theorem dX2_become_27 : decode cX2_become 27 = .ok (.invokestatic 62, 3) := by decide +kernel
theorem dX2_become_30 : decode cX2_become 30 = .ok (.aload_n 0, 1) := by decide +kernel
theorem dX2_become_31 : decode cX2_become 31 = .ok (.aload_n 1, 1) := by decide +kernel
theorem dX2_become_32 : decode cX2_become 32 = .ok (.getfield 31, 3) := by decide +kernel
theorem dX2_become_35 : decode cX2_become 35 = .ok (.putfield 31, 3) := by decide +kernel
theorem dX2_become_38 : decode cX2_become 38 = .ok (.return_, 1) := by decide +kernel
theorem dX3_init_0 : decode cX3_init 0 = .ok (.aload_n 0, 1) := by decide +kernel
theorem dX3_init_1 : decode cX3_init 1 = .ok (.invokespecial 3, 3) := by decide +kernel
theorem dX3_init_4 : decode cX3_init 4 = .ok (.aload_n 0, 1) := by decide +kernel
theorem dX3_init_5 : decode cX3_init 5 = .ok (.bipush 40, 2) := by decide +kernel
theorem dX3_init_7 : decode cX3_init 7 = .ok (.newarray .int, 2) := by decide +kernel
theorem dX3_init_9 : decode cX3_init 9 = .ok (.putfield 9, 3) := by decide +kernel
theorem dX3_init_12 : decode cX3_init 12 = .ok (.return_, 1) := by decide +kernel
theorem dX3_add_0 : decode cX3_add 0 = .ok (.aload_n 0, 1) := by decide +kernel
theorem dX3_add_1 : decode cX3_add 1 = .ok (.getfield 15, 3) := by decide +kernel
theorem dX3_add_4 : decode cX3_add 4 = .ok (.bipush 10, 2) := by decide +kernel
theorem dX3_add_6 : decode cX3_add 6 = .ok (.if_icmp .lt 4, 3) := by decide +kernel
theorem dX3_add_9 : decode cX3_add 9 = .ok (.return_, 1) := by decide +kernel
theorem dX3_add_10 : decode cX3_add 10 = .ok (.aload_n 0, 1) := by decide +kernel
theorem dX3_add_11 : decode cX3_add 11 = .ok (.getfield 9, 3) := by decide +kernel
theorem dX3_add_14 : decode cX3_add 14 = .ok (.aload_n 0, 1) := by decide +kernel
theorem dX3_add_15 : decode cX3_add 15 = .ok (.getfield 15, 3) := by decide +kernel
theorem dX3_add_18 : decode cX3_add 18 = .ok (.iconst 4, 1) := by decide +kernel
theorem dX3_add_19 : decode cX3_add 19 = .ok (.imul, 1) := by decide +kernel
theorem dX3_add_20 : decode cX3_add 20 = .ok (.iconst 0, 1) := by decide +kernel
theorem dX3_add_21 : decode cX3_add 21 = .ok (.iadd, 1) := by decide +kernel
theorem dX3_add_22 : decode cX3_add 22 = .ok (.iload_n 1, 1) := by decide +kernel
theorem dX3_add_23 : decode cX3_add 23 = .ok (.iastore, 1) := by decide +kernel
theorem dX3_add_24 : decode cX3_add 24 = .ok (.aload_n 0, 1) := by decide +kernel
theorem dX3_add_25 : decode cX3_add 25 = .ok (.getfield 9, 3) := by decide +kernel
theorem dX3_add_28 : decode cX3_add 28 = .ok (.aload_n 0, 1) := by decide +kernel
theorem dX3_add_29 : decode cX3_add 29 = .ok (.getfield 15, 3) := by decide +kernel
theorem dX3_add_32 : decode cX3_add 32 = .ok (.iconst 4, 1) := by decide +kernel
theorem dX3_add_33 : decode cX3_add 33 = .ok (.imul, 1) := by decide +kernel
theorem dX3_add_34 : decode cX3_add 34 = .ok (.iconst 1, 1) := by decide +kernel
theorem dX3_add_35 : decode cX3_add 35 = .ok (.iadd, 1) := by decide +kernel
theorem dX3_add_36 : decode cX3_add 36 = .ok (.iload_n 2, 1) := by decide +kernel
theorem dX3_add_37 : decode cX3_add 37 = .ok (.iastore, 1) := by decide +kernel
theorem dX3_add_38 : decode cX3_add 38 = .ok (.aload_n 0, 1) := by decide +kernel
theorem dX3_add_39 : decode cX3_add 39 = .ok (.getfield 9, 3) := by decide +kernel
theorem dX3_add_42 : decode cX3_add 42 = .ok (.aload_n 0, 1) := by decide +kernel
theorem dX3_add_43 : decode cX3_add 43 = .ok (.getfield 15, 3) := by decide +kernel
theorem dX3_add_46 : decode cX3_add 46 = .ok (.iconst 4, 1) := by decide +kernel
theorem dX3_add_47 : decode cX3_add 47 = .ok (.imul, 1) := by decide +kernel
theorem dX3_add_48 : decode cX3_add 48 = .ok (.iconst 2, 1) := by decide +kernel
theorem dX3_add_49 : decode cX3_add 49 = .ok (.iadd, 1) := by decide +kernel
theorem dX3_add_50 : decode cX3_add 50 = .ok (.iload_n 3, 1) := by decide +kernel
theorem dX3_add_51 : decode cX3_add 51 = .ok (.iastore, 1) := by decide +kernel
theorem dX3_add_52 : decode cX3_add 52 = .ok (.aload_n 0, 1) := by decide +kernel
theorem dX3_add_53 : decode cX3_add 53 = .ok (.getfield 9, 3) := by decide +kernel
theorem dX3_add_56 : decode cX3_add 56 = .ok (.aload_n 0, 1) := by decide +kernel
theorem dX3_add_57 : decode cX3_add 57 = .ok (.getfield 15, 3) := by decide +kernel
theorem dX3_add_60 : decode cX3_add 60 = .ok (.iconst 4, 1) := by decide +kernel
theorem dX3_add_61 : decode cX3_add 61 = .ok (.imul, 1) := by decide +kernel
theorem dX3_add_62 : decode cX3_add 62 = .ok (.iconst 3, 1) := by decide +kernel
theorem dX3_add_63 : decode cX3_add 63 = .ok (.iadd, 1) := by decide +kernel
theorem dX3_add_64 : decode cX3_add 64 = .ok (.iload 4, 2) := by decide +kernel
theorem dX3_add_66 : decode cX3_add 66 = .ok (.iastore, 1) := by decide +kernel
theorem dX3_add_67 : decode cX3_add 67 = .ok (.aload_n 0, 1) := by decide +kernel
theorem dX3_add_68 : decode cX3_add 68 = .ok (.dup, 1) := by decide +kernel
theorem dX3_add_69 : decode cX3_add 69 = .ok (.getfield 15, 3) := by decide +kernel
theorem dX3_add_72 : decode cX3_add 72 = .ok (.iconst 1, 1) := by decide +kernel
theorem dX3_add_73 : decode cX3_add 73 = .ok (.iadd, 1) := by decide +kernel
theorem dX3_add_74 : decode cX3_add 74 = .ok (.putfield 15, 3) := by decide +kernel
theorem dX3_add_77 : decode cX3_add 77 = .ok (.return_, 1) := by decide +kernel
theorem dX3_fact_0 : decode cX3_fact 0 = .ok (.iload_n 1, 1) := by decide +kernel
theorem dX3_fact_1 : decode cX3_fact 1 = .ok (.iconst 4, 1) := by decide +kernel
theorem dX3_fact_2 : decode cX3_fact 2 = .ok (.imul, 1) := by decide +kernel
theorem dX3_fact_3 : decode cX3_fact 3 = .ok (.iload_n 2, 1) := by decide +kernel
theorem dX3_fact_4 : decode cX3_fact 4 = .ok (.iadd, 1) := by decide +kernel
theorem dX3_fact_5 : decode cX3_fact 5 = .ok (.istore_n 3, 1) := by decide +kernel
theorem dX3_fact_6 : decode cX3_fact 6 = .ok (.iload_n 3, 1) := by decide +kernel
theorem dX3_fact_7 : decode cX3_fact 7 = .ok (.aload_n 0, 1) := by decide +kernel
theorem dX3_fact_8 : decode cX3_fact 8 = .ok (.getfield 9, 3) := by decide +kernel
theorem dX3_fact_11 : decode cX3_fact 11 = .ok (.arraylength, 1) := by decide +kernel
theorem dX3_fact_12 : decode cX3_fact 12 = .ok (.invokestatic 19, 3) := by decide +kernel
theorem dX3_fact_15 : decode cX3_fact 15 = .ok (.ifCond .eq 12, 3) := by decide +kernel
theorem dX3_fact_18 : decode cX3_fact 18 = .ok (.aload_n 0, 1) := by decide +kernel
theorem dX3_fact_19 : decode cX3_fact 19 = .ok (.getfield 9, 3) := by decide +kernel
theorem dX3_fact_22 : decode cX3_fact 22 = .ok (.iload_n 3, 1) := by decide +kernel
theorem dX3_fact_23 : decode cX3_fact 23 = .ok (.iaload, 1) := by decide +kernel
theorem dX3_fact_24 : decode cX3_fact 24 = .ok (.goto 4, 3) := by decide +kernel
theorem dX3_fact_27 : decode cX3_fact 27 = .ok (.iconst 0, 1) := by decide +kernel
theorem dX3_fact_28 : decode cX3_fact 28 = .ok (.ireturn, 1) := by decide +kernel
theorem dX3_change_0 : decode cX3_change 0 = .ok (.aload_n 0, 1) := by decide +kernel
theorem dX3_change_1 : decode cX3_change 1 = .ok (.iload_n 1, 1) := by decide +kernel
theorem dX3_change_2 : decode cX3_change 2 = .ok (.iload_n 2, 1) := by decide +kernel
theorem dX3_change_3 : decode cX3_change 3 = .ok (.invokevirtual 23, 3) := by decide +kernel
theorem dX3_change_6 : decode cX3_change 6 = .ok (.istore 4, 2) := by decide +kernel
theorem dX3_change_8 : decode cX3_change 8 = .ok (.iload_n 1, 1) := by decide +kernel
theorem dX3_change_9 : decode cX3_change 9 = .ok (.iconst 4, 1) := by decide +kernel
theorem dX3_change_10 : decode cX3_change 10 = .ok (.imul, 1) := by decide +kernel
theorem dX3_change_11 : decode cX3_change 11 = .ok (.iload_n 2, 1) := by decide +kernel
theorem dX3_change_12 : decode cX3_change 12 = .ok (.iadd, 1) := by decide +kernel
theorem dX3_change_13 : decode cX3_change 13 = .ok (.istore 5, 2) := by decide +kernel
theorem dX3_change_15 : decode cX3_change 15 = .ok (.iload 5, 2) := by decide +kernel
theorem dX3_change_17 : decode cX3_change 17 = .ok (.aload_n 0, 1) := by decide +kernel
theorem dX3_change_18 : decode cX3_change 18 = .ok (.getfield 9, 3) := by decide +kernel
theorem dX3_change_21 : decode cX3_change 21 = .ok (.arraylength, 1) := by decide +kernel
theorem dX3_change_22 : decode cX3_change 22 = .ok (.invokestatic 19, 3) := by decide +kernel
theorem dX3_change_25 : decode cX3_change 25 = .ok (.ifCond .eq 11, 3) := by decide +kernel
theorem dX3_change_28 : decode cX3_change 28 = .ok (.aload_n 0, 1) := by decide +kernel
theorem dX3_change_29 : decode cX3_change 29 = .ok (.getfield 9, 3) := by decide +kernel
theorem dX3_change_32 : decode cX3_change 32 = .ok (.iload 5, 2) := by decide +kernel
theorem dX3_change_34 : decode cX3_change 34 = .ok (.iload_n 3, 1) := by decide +kernel
theorem dX3_change_35 : decode cX3_change 35 = .ok (.iastore, 1) := by decide +kernel
theorem dX3_change_36 : decode cX3_change 36 = .ok (.iload 4, 2) := by decide +kernel
theorem dX3_change_38 : decode cX3_change 38 = .ok (.ireturn, 1) := by decide +kernel
theorem dX3_isOf_0 : decode cX3_isOf 0 = .ok (.aload_n 0, 1) := by decide +kernel
theorem dX3_isOf_1 : decode cX3_isOf 1 = .ok (.iload_n 1, 1) := by decide +kernel
theorem dX3_isOf_2 : decode cX3_isOf 2 = .ok (.iconst 0, 1) := by decide +kernel
theorem dX3_isOf_3 : decode cX3_isOf 3 = .ok (.invokevirtual 23, 3) := by decide +kernel
theorem dX3_isOf_6 : decode cX3_isOf 6 = .ok (.istore_n 3, 1) := by decide +kernel
theorem dX3_isOf_7 : decode cX3_isOf 7 = .ok (.iconst 0, 1) := by decide +kernel
theorem dX3_isOf_8 : decode cX3_isOf 8 = .ok (.istore 4, 2) := by decide +kernel
theorem dX3_isOf_10 : decode cX3_isOf 10 = .ok (.iload 4, 2) := by decide +kernel
theorem dX3_isOf_12 : decode cX3_isOf 12 = .ok (.bipush 7, 2) := by decide +kernel
theorem dX3_isOf_14 : decode cX3_isOf 14 = .ok (.if_icmp .ge 31, 3) := by decide +kernel
theorem dX3_isOf_17 : decode cX3_isOf 17 = .ok (.iload_n 3, 1) := by decide +kernel
theorem dX3_isOf_18 : decode cX3_isOf 18 = .ok (.bipush 7, 2) := by decide +kernel
theorem dX3_isOf_20 : decode cX3_isOf 20 = .ok (.invokestatic 19, 3) := by decide +kernel
theorem dX3_isOf_23 : decode cX3_isOf 23 = .ok (.ifCond .eq 22, 3) := by decide +kernel
theorem dX3_isOf_26 : decode cX3_isOf 26 = .ok (.iload_n 3, 1) := by decide +kernel
theorem dX3_isOf_27 : decode cX3_isOf 27 = .ok (.iload_n 2, 1) := by decide +kernel
theorem dX3_isOf_28 : decode cX3_isOf 28 = .ok (.if_icmp .ne 5, 3) := by decide +kernel
theorem dX3_isOf_31 : decode cX3_isOf 31 = .ok (.iconst 1, 1) := by decide +kernel
theorem dX3_isOf_32 : decode cX3_isOf 32 = .ok (.ireturn, 1) := by decide +kernel
theorem dX3_isOf_33 : decode cX3_isOf 33 = .ok (.getstatic 27, 3) := by decide +kernel
theorem dX3_isOf_36 : decode cX3_isOf 36 = .ok (.iload_n 3, 1) := by decide +kernel
theorem dX3_isOf_37 : decode cX3_isOf 37 = .ok (.iaload, 1) := by decide +kernel
theorem dX3_isOf_38 : decode cX3_isOf 38 = .ok (.istore_n 3, 1) := by decide +kernel
theorem dX3_isOf_39 : decode cX3_isOf 39 = .ok (.iinc 4 1, 3) := by decide +kernel
theorem dX3_isOf_42 : decode cX3_isOf 42 = .ok (.goto (-32), 3) := by decide +kernel
theorem dX3_isOf_45 : decode cX3_isOf 45 = .ok (.iconst 0, 1) := by decide +kernel
theorem dX3_isOf_46 : decode cX3_isOf 46 = .ok (.ireturn, 1) := by decide +kernel
theorem dX3_become_0 : decode cX3_become 0 = .ok (.aload_n 1, 1) := by decide +kernel
theorem dX3_become_1 : decode cX3_become 1 = .ok (.getfield 9, 3) := by decide +kernel
theorem dX3_become_4 : decode cX3_become 4 = .ok (.iconst 0, 1) := by decide +kernel
theorem dX3_become_5 : decode cX3_become 5 = .ok (.aload_n 0, 1) := by decide +kernel
theorem dX3_become_6 : decode cX3_become 6 = .ok (.getfield 9, 3) := by decide +kernel
theorem dX3_become_9 : decode cX3_become 9 = .ok (.iconst 0, 1) := by decide +kernel
theorem dX3_become_10 : decode cX3_become 10 = .ok (.aload_n 0, 1) := by decide +kernel
theorem dX3_become_11 : decode cX3_become 11 = .ok (.getfield 9, 3) := by decide +kernel
theorem dX3_become_14 : decode cX3_become 14 = .ok (.arraylength, 1) := by decide +kernel
theorem dX3_become_15 : decode cX3_become 15 = .ok (.invokestatic 30, 3) := by decide +kernel
theorem dX3_become_18 : decode cX3_become 18 = .ok (.aload_n 0, 1) := by decide +kernel
theorem dX3_become_19 : decode cX3_become 19 = .ok (.aload_n 1, 1) := by decide +kernel
theorem dX3_become_20 : decode cX3_become 20 = .ok (.getfield 15, 3) := by decide +kernel
theorem dX3_become_23 : decode cX3_become 23 = .ok (.putfield 15, 3) := by decide +kernel
theorem dX3_become_26 : decode cX3_become 26 = .ok (.return_, 1) := by decide +kernel
theorem dX4_init_0 : decode cX4_init 0 = .ok (.aload_n 0, 1) := by decide +kernel
theorem dX4_init_1 : decode cX4_init 1 = .ok (.invokespecial 3, 3) := by decide +kernel
theorem dX4_init_4 : decode cX4_init 4 = .ok (.aload_n 0, 1) := by decide +kernel
theorem dX4_init_5 : decode cX4_init 5 = .ok (.bipush 60, 2) := by decide +kernel
theorem dX4_init_7 : decode cX4_init 7 = .ok (.newarray .int, 2) := by decide +kernel
theorem dX4_init_9 : decode cX4_init 9 = .ok (.putfield 9, 3) := by decide +kernel
theorem dX4_init_12 : decode cX4_init 12 = .ok (.aload_n 0, 1) := by decide +kernel
theorem dX4_init_13 : decode cX4_init 13 = .ok (.bipush 60, 2) := by decide +kernel
theorem dX4_init_15 : decode cX4_init 15 = .ok (.newarray .int, 2) := by decide +kernel
theorem dX4_init_17 : decode cX4_init 17 = .ok (.putfield 15, 3) := by decide +kernel
theorem dX4_init_20 : decode cX4_init 20 = .ok (.aload_n 0, 1) := by decide +kernel
theorem dX4_init_21 : decode cX4_init 21 = .ok (.ldc 18, 2) := by decide +kernel
theorem dX4_init_23 : decode cX4_init 23 = .ok (.putfield 20, 3) := by decide +kernel
theorem dX4_init_26 : decode cX4_init 26 = .ok (.return_, 1) := by decide +kernel
theorem dX4_reads_0 : decode cX4_reads 0 = .ok (.aload_n 0, 1) := by decide +kernel
theorem dX4_reads_1 : decode cX4_reads 1 = .ok (.iload_n 2, 1) := by decide +kernel
theorem dX4_reads_2 : decode cX4_reads 2 = .ok (.bipush 60, 2) := by decide +kernel
theorem dX4_reads_4 : decode cX4_reads 4 = .ok (.aload_n 1, 1) := by decide +kernel
theorem dX4_reads_5 : decode cX4_reads 5 = .ok (.arraylength, 1) := by decide +kernel
theorem dX4_reads_6 : decode cX4_reads 6 = .ok (.invokestatic 24, 3) := by decide +kernel
theorem dX4_reads_9 : decode cX4_reads 9 = .ok (.invokestatic 24, 3) := by decide +kernel
theorem dX4_reads_12 : decode cX4_reads 12 = .ok (.putfield 30, 3) := by decide +kernel
theorem dX4_reads_15 : decode cX4_reads 15 = .ok (.aload_n 1, 1) := by decide +kernel
theorem dX4_reads_16 : decode cX4_reads 16 = .ok (.iconst 0, 1) := by decide +kernel
theorem dX4_reads_17 : decode cX4_reads 17 = .ok (.aload_n 0, 1) := by decide +kernel
theorem dX4_reads_18 : decode cX4_reads 18 = .ok (.getfield 9, 3) := by decide +kernel
theorem dX4_reads_21 : decode cX4_reads 21 = .ok (.iconst 0, 1) := by decide +kernel
theorem dX4_reads_22 : decode cX4_reads 22 = .ok (.aload_n 0, 1) := by decide +kernel
theorem dX4_reads_23 : decode cX4_reads 23 = .ok (.getfield 30, 3) := by decide +kernel
theorem dX4_reads_26 : decode cX4_reads 26 = .ok (.invokestatic 34, 3) := by decide +kernel
theorem dX4_reads_29 : decode cX4_reads 29 = .ok (.aload_n 0, 1) := by decide +kernel
theorem dX4_reads_30 : decode cX4_reads 30 = .ok (.aload_n 3, 1) := by decide +kernel
theorem dX4_reads_31 : decode cX4_reads 31 = .ok (.putfield 20, 3) := by decide +kernel
theorem dX4_reads_34 : decode cX4_reads 34 = .ok (.aload_n 0, 1) := by decide +kernel
theorem dX4_reads_35 : decode cX4_reads 35 = .ok (.iconst 0, 1) := by decide +kernel
theorem dX4_reads_36 : decode cX4_reads 36 = .ok (.putfield 40, 3) := by decide +kernel
theorem dX4_reads_39 : decode cX4_reads 39 = .ok (.aload_n 0, 1) := by decide +kernel
theorem dX4_reads_40 : decode cX4_reads 40 = .ok (.iconst 0, 1) := by decide +kernel
theorem dX4_reads_41 : decode cX4_reads 41 = .ok (.putfield 43, 3) := by decide +kernel
theorem dX4_reads_44 : decode cX4_reads 44 = .ok (.aload_n 0, 1) := by decide +kernel
theorem dX4_reads_45 : decode cX4_reads 45 = .ok (.iconst 0, 1) := by decide +kernel
theorem dX4_reads_46 : decode cX4_reads 46 = .ok (.iconst 0, 1) := by decide +kernel
theorem dX4_reads_47 : decode cX4_reads 47 = .ok (.invokevirtual 46, 3) := by decide +kernel
theorem dX4_reads_50 : decode cX4_reads 50 = .ok (.ifCond .eq 18, 3) := by decide +kernel
theorem dX4_reads_53 : decode cX4_reads 53 = .ok (.aload_n 0, 1) := by decide +kernel
theorem dX4_reads_54 : decode cX4_reads 54 = .ok (.getfield 40, 3) := by decide +kernel
theorem dX4_reads_57 : decode cX4_reads 57 = .ok (.aload_n 0, 1) := by decide +kernel
theorem dX4_reads_58 : decode cX4_reads 58 = .ok (.getfield 30, 3) := by decide +kernel
theorem dX4_reads_61 : decode cX4_reads 61 = .ok (.if_icmp .ne 7, 3) := by decide +kernel
theorem dX4_reads_64 : decode cX4_reads 64 = .ok (.iconst 1, 1) := by decide +kernel
theorem dX4_reads_65 : decode cX4_reads 65 = .ok (.goto 4, 3) := by decide +kernel
theorem dX4_reads_68 : decode cX4_reads 68 = .ok (.iconst 0, 1) := by decide +kernel
theorem dX4_reads_69 : decode cX4_reads 69 = .ok (.ireturn, 1) := by decide +kernel
theorem dX4_readChain_0 : decode cX4_readChain 0 = .ok (.iload_n 1, 1) := by decide +kernel
theorem dX4_readChain_1 : decode cX4_readChain 1 = .ok (.iconst 5, 1) := by decide +kernel
theorem dX4_readChain_2 : decode cX4_readChain 2 = .ok (.if_icmp .lt 9, 3) := by decide +kernel
theorem dX4_readChain_5 : decode cX4_readChain 5 = .ok (.aload_n 0, 1) := by decide +kernel
theorem dX4_readChain_6 : decode cX4_readChain 6 = .ok (.iload_n 2, 1) := by decide +kernel
theorem dX4_readChain_7 : decode cX4_readChain 7 = .ok (.invokevirtual 50, 3) := by decide +kernel
theorem dX4_readChain_10 : decode cX4_readChain 10 = .ok (.ireturn, 1) := by decide +kernel
theorem dX4_readChain_11 : decode cX4_readChain 11 = .ok (.aload_n 0, 1) := by decide +kernel
theorem dX4_readChain_12 : decode cX4_readChain 12 = .ok (.iload_n 1, 1) := by decide +kernel
theorem dX4_readChain_13 : decode cX4_readChain 13 = .ok (.iconst 1, 1) := by decide +kernel
theorem dX4_readChain_14 : decode cX4_readChain 14 = .ok (.iadd, 1) := by decide +kernel
theorem dX4_readChain_15 : decode cX4_readChain 15 = .ok (.iload_n 2, 1) := by decide +kernel
theorem dX4_readChain_16 : decode cX4_readChain 16 = .ok (.invokevirtual 46, 3) := by decide +kernel
theorem dX4_readChain_19 : decode cX4_readChain 19 = .ok (.istore_n 3, 1) := by decide +kernel
theorem dX4_readChain_20 : decode cX4_readChain 20 = .ok (.iload_n 1, 1) := by decide +kernel
theorem dX4_readChain_21 : decode cX4_readChain 21 = .ok (.iconst 2, 1) := by decide +kernel
theorem dX4_readChain_22 : decode cX4_readChain 22 = .ok (.if_icmp .ne 7, 3) := by decide +kernel
theorem dX4_readChain_25 : decode cX4_readChain 25 = .ok (.iconst 1, 1) := by decide +kernel
theorem dX4_readChain_26 : decode cX4_readChain 26 = .ok (.goto 5, 3) := by decide +kernel
theorem dX4_readChain_29 : decode cX4_readChain 29 = .ok (.bipush 60, 2) := by decide +kernel
theorem dX4_readChain_31 : decode cX4_readChain 31 = .ok (.istore 4, 2) := by decide +kernel
theorem dX4_readChain_33 : decode cX4_readChain 33 = .ok (.iconst 0, 1) := by decide +kernel
theorem dX4_readChain_34 : decode cX4_readChain 34 = .ok (.istore 5, 2) := by decide +kernel
theorem dX4_readChain_36 : decode cX4_readChain 36 = .ok (.iload 5, 2) := by decide +kernel
theorem dX4_readChain_38 : decode cX4_readChain 38 = .ok (.iload 4, 2) := by decide +kernel
theorem dX4_readChain_40 : decode cX4_readChain 40 = .ok (.if_icmp .ge 58, 3) := by decide +kernel
theorem dX4_readChain_43 : decode cX4_readChain 43 = .ok (.iload_n 3, 1) := by decide +kernel
theorem dX4_readChain_44 : decode cX4_readChain 44 = .ok (.ifCond .eq 54, 3) := by decide +kernel
theorem dX4_readChain_47 : decode cX4_readChain 47 = .ok (.aload_n 0, 1) := by decide +kernel
theorem dX4_readChain_48 : decode cX4_readChain 48 = .ok (.iload_n 1, 1) := by decide +kernel
theorem dX4_readChain_49 : decode cX4_readChain 49 = .ok (.invokevirtual 54, 3) := by decide +kernel
theorem dX4_readChain_52 : decode cX4_readChain 52 = .ok (.ifCond .eq 46, 3) := by decide +kernel
theorem dX4_readChain_55 : decode cX4_readChain 55 = .ok (.aload_n 0, 1) := by decide +kernel
theorem dX4_readChain_56 : decode cX4_readChain 56 = .ok (.getfield 9, 3) := by decide +kernel
theorem dX4_readChain_59 : decode cX4_readChain 59 = .ok (.aload_n 0, 1) := by decide +kernel
theorem dX4_readChain_60 : decode cX4_readChain 60 = .ok (.getfield 40, 3) := by decide +kernel
theorem dX4_readChain_63 : decode cX4_readChain 63 = .ok (.iaload, 1) := by decide +kernel
theorem dX4_readChain_64 : decode cX4_readChain 64 = .ok (.istore 6, 2) := by decide +kernel
theorem dX4_readChain_66 : decode cX4_readChain 66 = .ok (.aload_n 0, 1) := by decide +kernel
theorem dX4_readChain_67 : decode cX4_readChain 67 = .ok (.dup, 1) := by decide +kernel
theorem dX4_readChain_68 : decode cX4_readChain 68 = .ok (.getfield 40, 3) := by decide +kernel
theorem dX4_readChain_71 : decode cX4_readChain 71 = .ok (.iconst 1, 1) := by decide +kernel
theorem dX4_readChain_72 : decode cX4_readChain 72 = .ok (.iadd, 1) := by decide +kernel
theorem dX4_readChain_73 : decode cX4_readChain 73 = .ok (.putfield 40, 3) := by decide +kernel
theorem dX4_readChain_76 : decode cX4_readChain 76 = .ok (.aload_n 0, 1) := by decide +kernel
theorem dX4_readChain_77 : decode cX4_readChain 77 = .ok (.iload_n 1, 1) := by decide +kernel
theorem dX4_readChain_78 : decode cX4_readChain 78 = .ok (.iconst 1, 1) := by decide +kernel
theorem dX4_readChain_79 : decode cX4_readChain 79 = .ok (.iadd, 1) := by decide +kernel
theorem dX4_readChain_80 : decode cX4_readChain 80 = .ok (.iload_n 2, 1) := by decide +kernel
theorem dX4_readChain_81 : decode cX4_readChain 81 = .ok (.invokevirtual 46, 3) := by decide +kernel
theorem dX4_readChain_84 : decode cX4_readChain 84 = .ok (.istore_n 3, 1) := by decide +kernel
theorem dX4_readChain_85 : decode cX4_readChain 85 = .ok (.aload_n 0, 1) := by decide +kernel
theorem dX4_readChain_86 : decode cX4_readChain 86 = .ok (.iload 6, 2) := by decide +kernel
theorem dX4_readChain_88 : decode cX4_readChain 88 = .ok (.ineg, 1) := by decide +kernel
theorem dX4_readChain_89 : decode cX4_readChain 89 = .ok (.invokevirtual 57, 3) := by decide +kernel
theorem dX4_readChain_92 : decode cX4_readChain 92 = .ok (.iinc 5 1, 3) := by decide +kernel
theorem dX4_readChain_95 : decode cX4_readChain 95 = .ok (.goto (-59), 3) := by decide +kernel
theorem dX4_readChain_98 : decode cX4_readChain 98 = .ok (.iload_n 3, 1) := by decide +kernel
theorem dX4_readChain_99 : decode cX4_readChain 99 = .ok (.ireturn, 1) := by decide +kernel
theorem dX4_isSignOf_0 : decode cX4_isSignOf 0 = .ok (.aload_n 0, 1) := by decide +kernel
theorem dX4_isSignOf_1 : decode cX4_isSignOf 1 = .ok (.getfield 40, 3) := by decide +kernel
theorem dX4_isSignOf_4 : decode cX4_isSignOf 4 = .ok (.aload_n 0, 1) := by decide +kernel
theorem dX4_isSignOf_5 : decode cX4_isSignOf 5 = .ok (.getfield 30, 3) := by decide +kernel
theorem dX4_isSignOf_8 : decode cX4_isSignOf 8 = .ok (.if_icmp .lt 5, 3) := by decide +kernel
theorem dX4_isSignOf_11 : decode cX4_isSignOf 11 = .ok (.iconst 0, 1) := by decide +kernel
theorem dX4_isSignOf_12 : decode cX4_isSignOf 12 = .ok (.ireturn, 1) := by decide +kernel
theorem dX4_isSignOf_13 : decode cX4_isSignOf 13 = .ok (.iload_n 1, 1) := by decide +kernel
theorem dX4_isSignOf_14 : decode cX4_isSignOf 14 = .ok (.tableswitch 152 0 3 #[30, 50, 70, 118], 30) := by decide +kernel
theorem dX4_isSignOf_44 : decode cX4_isSignOf 44 = .ok (.aload_n 0, 1) := by decide +kernel
theorem dX4_isSignOf_45 : decode cX4_isSignOf 45 = .ok (.getfield 9, 3) := by decide +kernel
theorem dX4_isSignOf_48 : decode cX4_isSignOf 48 = .ok (.aload_n 0, 1) := by decide +kernel
theorem dX4_isSignOf_49 : decode cX4_isSignOf 49 = .ok (.getfield 40, 3) := by decide +kernel
theorem dX4_isSignOf_52 : decode cX4_isSignOf 52 = .ok (.iaload, 1) := by decide +kernel
theorem dX4_isSignOf_53 : decode cX4_isSignOf 53 = .ok (.bipush 124, 2) := by decide +kernel
theorem dX4_isSignOf_55 : decode cX4_isSignOf 55 = .ok (.if_icmp .ne 7, 3) := by decide +kernel
theorem dX4_isSignOf_58 : decode cX4_isSignOf 58 = .ok (.iconst 1, 1) := by decide +kernel
theorem dX4_isSignOf_59 : decode cX4_isSignOf 59 = .ok (.goto 4, 3) := by decide +kernel
theorem dX4_isSignOf_62 : decode cX4_isSignOf 62 = .ok (.iconst 0, 1) := by decide +kernel
theorem dX4_isSignOf_63 : decode cX4_isSignOf 63 = .ok (.ireturn, 1) := by decide +kernel
theorem dX4_isSignOf_64 : decode cX4_isSignOf 64 = .ok (.aload_n 0, 1) := by decide +kernel
theorem dX4_isSignOf_65 : decode cX4_isSignOf 65 = .ok (.getfield 9, 3) := by decide +kernel
theorem dX4_isSignOf_68 : decode cX4_isSignOf 68 = .ok (.aload_n 0, 1) := by decide +kernel
theorem dX4_isSignOf_69 : decode cX4_isSignOf 69 = .ok (.getfield 40, 3) := by decide +kernel
theorem dX4_isSignOf_72 : decode cX4_isSignOf 72 = .ok (.iaload, 1) := by decide +kernel
theorem dX4_isSignOf_73 : decode cX4_isSignOf 73 = .ok (.bipush 38, 2) := by decide +kernel
theorem dX4_isSignOf_75 : decode cX4_isSignOf 75 = .ok (.if_icmp .ne 7, 3) := by decide +kernel
theorem dX4_isSignOf_78 : decode cX4_isSignOf 78 = .ok (.iconst 1, 1) := by decide +kernel
theorem dX4_isSignOf_79 : decode cX4_isSignOf 79 = .ok (.goto 4, 3) := by decide +kernel
theorem dX4_isSignOf_82 : decode cX4_isSignOf 82 = .ok (.iconst 0, 1) := by decide +kernel
theorem dX4_isSignOf_83 : decode cX4_isSignOf 83 = .ok (.ireturn, 1) := by decide +kernel
theorem dX4_isSignOf_84 : decode cX4_isSignOf 84 = .ok (.aload_n 0, 1) := by decide +kernel
theorem dX4_isSignOf_85 : decode cX4_isSignOf 85 = .ok (.getfield 9, 3) := by decide +kernel
theorem dX4_isSignOf_88 : decode cX4_isSignOf 88 = .ok (.aload_n 0, 1) := by decide +kernel
theorem dX4_isSignOf_89 : decode cX4_isSignOf 89 = .ok (.getfield 40, 3) := by decide +kernel
theorem dX4_isSignOf_92 : decode cX4_isSignOf 92 = .ok (.iaload, 1) := by decide +kernel
theorem dX4_isSignOf_93 : decode cX4_isSignOf 93 = .ok (.bipush 60, 2) := by decide +kernel
theorem dX4_isSignOf_95 : decode cX4_isSignOf 95 = .ok (.if_icmp .eq 31, 3) := by decide +kernel
theorem dX4_isSignOf_98 : decode cX4_isSignOf 98 = .ok (.aload_n 0, 1) := by decide +kernel
theorem dX4_isSignOf_99 : decode cX4_isSignOf 99 = .ok (.getfield 9, 3) := by decide +kernel
theorem dX4_isSignOf_102 : decode cX4_isSignOf 102 = .ok (.aload_n 0, 1) := by decide +kernel
theorem dX4_isSignOf_103 : decode cX4_isSignOf 103 = .ok (.getfield 40, 3) := by decide +kernel
theorem dX4_isSignOf_106 : decode cX4_isSignOf 106 = .ok (.iaload, 1) := by decide +kernel
theorem dX4_isSignOf_107 : decode cX4_isSignOf 107 = .ok (.bipush 61, 2) := by decide +kernel
theorem dX4_isSignOf_109 : decode cX4_isSignOf 109 = .ok (.if_icmp .eq 17, 3) := by decide +kernel
theorem dX4_isSignOf_112 : decode cX4_isSignOf 112 = .ok (.aload_n 0, 1) := by decide +kernel
theorem dX4_isSignOf_113 : decode cX4_isSignOf 113 = .ok (.getfield 9, 3) := by decide +kernel
theorem dX4_isSignOf_116 : decode cX4_isSignOf 116 = .ok (.aload_n 0, 1) := by decide +kernel
theorem dX4_isSignOf_117 : decode cX4_isSignOf 117 = .ok (.getfield 40, 3) := by decide +kernel
theorem dX4_isSignOf_120 : decode cX4_isSignOf 120 = .ok (.iaload, 1) := by decide +kernel
theorem dX4_isSignOf_121 : decode cX4_isSignOf 121 = .ok (.bipush 62, 2) := by decide +kernel
theorem dX4_isSignOf_123 : decode cX4_isSignOf 123 = .ok (.if_icmp .ne 7, 3) := by decide +kernel
theorem dX4_isSignOf_126 : decode cX4_isSignOf 126 = .ok (.iconst 1, 1) := by decide +kernel
theorem dX4_isSignOf_127 : decode cX4_isSignOf 127 = .ok (.goto 4, 3) := by decide +kernel
theorem dX4_isSignOf_130 : decode cX4_isSignOf 130 = .ok (.iconst 0, 1) := by decide +kernel
theorem dX4_isSignOf_131 : decode cX4_isSignOf 131 = .ok (.ireturn, 1) := by decide +kernel
theorem dX4_isSignOf_132 : decode cX4_isSignOf 132 = .ok (.aload_n 0, 1) := by decide +kernel
theorem dX4_isSignOf_133 : decode cX4_isSignOf 133 = .ok (.getfield 9, 3) := by decide +kernel
theorem dX4_isSignOf_136 : decode cX4_isSignOf 136 = .ok (.aload_n 0, 1) := by decide +kernel
theorem dX4_isSignOf_137 : decode cX4_isSignOf 137 = .ok (.getfield 40, 3) := by decide +kernel
theorem dX4_isSignOf_140 : decode cX4_isSignOf 140 = .ok (.iaload, 1) := by decide +kernel
theorem dX4_isSignOf_141 : decode cX4_isSignOf 141 = .ok (.bipush 43, 2) := by decide +kernel
theorem dX4_isSignOf_143 : decode cX4_isSignOf 143 = .ok (.if_icmp .eq 17, 3) := by decide +kernel
theorem dX4_isSignOf_146 : decode cX4_isSignOf 146 = .ok (.aload_n 0, 1) := by decide +kernel
theorem dX4_isSignOf_147 : decode cX4_isSignOf 147 = .ok (.getfield 9, 3) := by decide +kernel
theorem dX4_isSignOf_150 : decode cX4_isSignOf 150 = .ok (.aload_n 0, 1) := by decide +kernel
theorem dX4_isSignOf_151 : decode cX4_isSignOf 151 = .ok (.getfield 40, 3) := by decide +kernel
theorem dX4_isSignOf_154 : decode cX4_isSignOf 154 = .ok (.iaload, 1) := by decide +kernel
theorem dX4_isSignOf_155 : decode cX4_isSignOf 155 = .ok (.bipush 45, 2) := by decide +kernel
theorem dX4_isSignOf_157 : decode cX4_isSignOf 157 = .ok (.if_icmp .ne 7, 3) := by decide +kernel
theorem dX4_isSignOf_160 : decode cX4_isSignOf 160 = .ok (.iconst 1, 1) := by decide +kernel
theorem dX4_isSignOf_161 : decode cX4_isSignOf 161 = .ok (.goto 4, 3) := by decide +kernel
theorem dX4_isSignOf_164 : decode cX4_isSignOf 164 = .ok (.iconst 0, 1) := by decide +kernel
theorem dX4_isSignOf_165 : decode cX4_isSignOf 165 = .ok (.ireturn, 1) := by decide +kernel
theorem dX4_isSignOf_166 : decode cX4_isSignOf 166 = .ok (.aload_n 0, 1) := by decide +kernel
theorem dX4_isSignOf_167 : decode cX4_isSignOf 167 = .ok (.getfield 9, 3) := by decide +kernel
theorem dX4_isSignOf_170 : decode cX4_isSignOf 170 = .ok (.aload_n 0, 1) := by decide +kernel
theorem dX4_isSignOf_171 : decode cX4_isSignOf 171 = .ok (.getfield 40, 3) := by decide +kernel
theorem dX4_isSignOf_174 : decode cX4_isSignOf 174 = .ok (.iaload, 1) := by decide +kernel
theorem dX4_isSignOf_175 : decode cX4_isSignOf 175 = .ok (.bipush 42, 2) := by decide +kernel
theorem dX4_isSignOf_177 : decode cX4_isSignOf 177 = .ok (.if_icmp .eq 31, 3) := by decide +kernel
theorem dX4_isSignOf_180 : decode cX4_isSignOf 180 = .ok (.aload_n 0, 1) := by decide +kernel
theorem dX4_isSignOf_181 : decode cX4_isSignOf 181 = .ok (.getfield 9, 3) := by decide +kernel
theorem dX4_isSignOf_184 : decode cX4_isSignOf 184 = .ok (.aload_n 0, 1) := by decide +kernel
theorem dX4_isSignOf_185 : decode cX4_isSignOf 185 = .ok (.getfield 40, 3) := by decide +kernel
theorem dX4_isSignOf_188 : decode cX4_isSignOf 188 = .ok (.iaload, 1) := by decide +kernel
theorem dX4_isSignOf_189 : decode cX4_isSignOf 189 = .ok (.bipush 47, 2) := by decide +kernel
theorem dX4_isSignOf_191 : decode cX4_isSignOf 191 = .ok (.if_icmp .eq 17, 3) := by decide +kernel
theorem dX4_isSignOf_194 : decode cX4_isSignOf 194 = .ok (.aload_n 0, 1) := by decide +kernel
theorem dX4_isSignOf_195 : decode cX4_isSignOf 195 = .ok (.getfield 9, 3) := by decide +kernel
theorem dX4_isSignOf_198 : decode cX4_isSignOf 198 = .ok (.aload_n 0, 1) := by decide +kernel
theorem dX4_isSignOf_199 : decode cX4_isSignOf 199 = .ok (.getfield 40, 3) := by decide +kernel
theorem dX4_isSignOf_202 : decode cX4_isSignOf 202 = .ok (.iaload, 1) := by decide +kernel
theorem dX4_isSignOf_203 : decode cX4_isSignOf 203 = .ok (.bipush 37, 2) := by decide +kernel
theorem dX4_isSignOf_205 : decode cX4_isSignOf 205 = .ok (.if_icmp .ne 7, 3) := by decide +kernel
theorem dX4_isSignOf_208 : decode cX4_isSignOf 208 = .ok (.iconst 1, 1) := by decide +kernel
theorem dX4_isSignOf_209 : decode cX4_isSignOf 209 = .ok (.goto 4, 3) := by decide +kernel
theorem dX4_isSignOf_212 : decode cX4_isSignOf 212 = .ok (.iconst 0, 1) := by decide +kernel
theorem dX4_isSignOf_213 : decode cX4_isSignOf 213 = .ok (.ireturn, 1) := by decide +kernel
theorem dX4_readOne_0 : decode cX4_readOne 0 = .ok (.aload_n 0, 1) := by decide +kernel
theorem dX4_readOne_1 : decode cX4_readOne 1 = .ok (.getfield 40, 3) := by decide +kernel
theorem dX4_readOne_4 : decode cX4_readOne 4 = .ok (.aload_n 0, 1) := by decide +kernel
theorem dX4_readOne_5 : decode cX4_readOne 5 = .ok (.getfield 30, 3) := by decide +kernel
theorem dX4_readOne_8 : decode cX4_readOne 8 = .ok (.if_icmp .lt 5, 3) := by decide +kernel
theorem dX4_readOne_11 : decode cX4_readOne 11 = .ok (.iconst 0, 1) := by decide +kernel
theorem dX4_readOne_12 : decode cX4_readOne 12 = .ok (.ireturn, 1) := by decide +kernel
theorem dX4_readOne_13 : decode cX4_readOne 13 = .ok (.aload_n 0, 1) := by decide +kernel
theorem dX4_readOne_14 : decode cX4_readOne 14 = .ok (.getfield 9, 3) := by decide +kernel
theorem dX4_readOne_17 : decode cX4_readOne 17 = .ok (.aload_n 0, 1) := by decide +kernel
theorem dX4_readOne_18 : decode cX4_readOne 18 = .ok (.getfield 40, 3) := by decide +kernel
theorem dX4_readOne_21 : decode cX4_readOne 21 = .ok (.iaload, 1) := by decide +kernel
theorem dX4_readOne_22 : decode cX4_readOne 22 = .ok (.istore_n 2, 1) := by decide +kernel
theorem dX4_readOne_23 : decode cX4_readOne 23 = .ok (.iload_n 2, 1) := by decide +kernel
theorem dX4_readOne_24 : decode cX4_readOne 24 = .ok (.invokestatic 61, 3) := by decide +kernel
theorem dX4_readOne_27 : decode cX4_readOne 27 = .ok (.ifCond .eq 9, 3) := by decide +kernel
theorem dX4_readOne_30 : decode cX4_readOne 30 = .ok (.aload_n 0, 1) := by decide +kernel
theorem dX4_readOne_31 : decode cX4_readOne 31 = .ok (.invokevirtual 64, 3) := by decide +kernel
theorem dX4_readOne_34 : decode cX4_readOne 34 = .ok (.iconst 1, 1) := by decide +kernel
theorem dX4_readOne_35 : decode cX4_readOne 35 = .ok (.ireturn, 1) := by decide +kernel
theorem dX4_readOne_36 : decode cX4_readOne 36 = .ok (.aload_n 0, 1) := by decide +kernel
theorem dX4_readOne_37 : decode cX4_readOne 37 = .ok (.getfield 20, 3) := by decide +kernel
theorem dX4_readOne_40 : decode cX4_readOne 40 = .ok (.iload_n 2, 1) := by decide +kernel
theorem dX4_readOne_41 : decode cX4_readOne 41 = .ok (.i2c, 1) := by decide +kernel
theorem dX4_readOne_42 : decode cX4_readOne 42 = .ok (.invokevirtual 67, 3) := by decide +kernel
theorem dX4_readOne_45 : decode cX4_readOne 45 = .ok (.istore_n 3, 1) := by decide +kernel
theorem dX4_readOne_46 : decode cX4_readOne 46 = .ok (.iload_n 3, 1) := by decide +kernel
theorem dX4_readOne_47 : decode cX4_readOne 47 = .ok (.ifCond .lt 22, 3) := by decide +kernel
theorem dX4_readOne_50 : decode cX4_readOne 50 = .ok (.aload_n 0, 1) := by decide +kernel
theorem dX4_readOne_51 : decode cX4_readOne 51 = .ok (.dup, 1) := by decide +kernel
theorem dX4_readOne_52 : decode cX4_readOne 52 = .ok (.getfield 40, 3) := by decide +kernel
theorem dX4_readOne_55 : decode cX4_readOne 55 = .ok (.iconst 1, 1) := by decide +kernel
theorem dX4_readOne_56 : decode cX4_readOne 56 = .ok (.iadd, 1) := by decide +kernel
theorem dX4_readOne_57 : decode cX4_readOne 57 = .ok (.putfield 40, 3) := by decide +kernel
theorem dX4_readOne_60 : decode cX4_readOne 60 = .ok (.aload_n 0, 1) := by decide +kernel
theorem dX4_readOne_61 : decode cX4_readOne 61 = .ok (.iconst (-1), 1) := by decide +kernel
theorem dX4_readOne_62 : decode cX4_readOne 62 = .ok (.iload_n 3, 1) := by decide +kernel
theorem dX4_readOne_63 : decode cX4_readOne 63 = .ok (.isub, 1) := by decide +kernel
theorem dX4_readOne_64 : decode cX4_readOne 64 = .ok (.invokevirtual 57, 3) := by decide +kernel
theorem dX4_readOne_67 : decode cX4_readOne 67 = .ok (.iconst 1, 1) := by decide +kernel
theorem dX4_readOne_68 : decode cX4_readOne 68 = .ok (.ireturn, 1) := by decide +kernel
theorem dX4_readOne_69 : decode cX4_readOne 69 = .ok (.iload_n 1, 1) := by decide +kernel
theorem dX4_readOne_70 : decode cX4_readOne 70 = .ok (.iconst 5, 1) := by decide +kernel
theorem dX4_readOne_71 : decode cX4_readOne 71 = .ok (.if_icmp .ge 15, 3) := by decide +kernel
theorem dX4_readOne_74 : decode cX4_readOne 74 = .ok (.iload_n 2, 1) := by decide +kernel
theorem dX4_readOne_75 : decode cX4_readOne 75 = .ok (.bipush 33, 2) := by decide +kernel
theorem dX4_readOne_77 : decode cX4_readOne 77 = .ok (.if_icmp .eq 11, 3) := by decide +kernel
theorem dX4_readOne_80 : decode cX4_readOne 80 = .ok (.iload_n 2, 1) := by decide +kernel
theorem dX4_readOne_81 : decode cX4_readOne 81 = .ok (.bipush 40, 2) := by decide +kernel
theorem dX4_readOne_83 : decode cX4_readOne 83 = .ok (.if_icmp .eq 5, 3) := by decide +kernel
theorem dX4_readOne_86 : decode cX4_readOne 86 = .ok (.iconst 0, 1) := by decide +kernel
theorem dX4_readOne_87 : decode cX4_readOne 87 = .ok (.ireturn, 1) := by decide +kernel
theorem dX4_readOne_88 : decode cX4_readOne 88 = .ok (.aload_n 0, 1) := by decide +kernel
theorem dX4_readOne_89 : decode cX4_readOne 89 = .ok (.dup, 1) := by decide +kernel
theorem dX4_readOne_90 : decode cX4_readOne 90 = .ok (.getfield 40, 3) := by decide +kernel
theorem dX4_readOne_93 : decode cX4_readOne 93 = .ok (.iconst 1, 1) := by decide +kernel
theorem dX4_readOne_94 : decode cX4_readOne 94 = .ok (.iadd, 1) := by decide +kernel
theorem dX4_readOne_95 : decode cX4_readOne 95 = .ok (.putfield 40, 3) := by decide +kernel
theorem dX4_readOne_98 : decode cX4_readOne 98 = .ok (.iload_n 2, 1) := by decide +kernel
theorem dX4_readOne_99 : decode cX4_readOne 99 = .ok (.bipush 33, 2) := by decide +kernel
theorem dX4_readOne_101 : decode cX4_readOne 101 = .ok (.if_icmp .ne 13, 3) := by decide +kernel
theorem dX4_readOne_104 : decode cX4_readOne 104 = .ok (.aload_n 0, 1) := by decide +kernel
theorem dX4_readOne_105 : decode cX4_readOne 105 = .ok (.iload_n 1, 1) := by decide +kernel
theorem dX4_readOne_106 : decode cX4_readOne 106 = .ok (.iconst 1, 1) := by decide +kernel
theorem dX4_readOne_107 : decode cX4_readOne 107 = .ok (.iadd, 1) := by decide +kernel
theorem dX4_readOne_108 : decode cX4_readOne 108 = .ok (.invokevirtual 73, 3) := by decide +kernel
theorem dX4_readOne_111 : decode cX4_readOne 111 = .ok (.goto 10, 3) := by decide +kernel
theorem dX4_readOne_114 : decode cX4_readOne 114 = .ok (.aload_n 0, 1) := by decide +kernel
theorem dX4_readOne_115 : decode cX4_readOne 115 = .ok (.iload_n 1, 1) := by decide +kernel
theorem dX4_readOne_116 : decode cX4_readOne 116 = .ok (.iconst 1, 1) := by decide +kernel
theorem dX4_readOne_117 : decode cX4_readOne 117 = .ok (.iadd, 1) := by decide +kernel
theorem dX4_readOne_118 : decode cX4_readOne 118 = .ok (.invokevirtual 76, 3) := by decide +kernel
theorem dX4_readOne_121 : decode cX4_readOne 121 = .ok (.ireturn, 1) := by decide +kernel
theorem dX4_readNumber_0 : decode cX4_readNumber 0 = .ok (.iconst 0, 1) := by decide +kernel
theorem dX4_readNumber_1 : decode cX4_readNumber 1 = .ok (.istore_n 1, 1) := by decide +kernel
theorem dX4_readNumber_2 : decode cX4_readNumber 2 = .ok (.iconst 0, 1) := by decide +kernel
theorem dX4_readNumber_3 : decode cX4_readNumber 3 = .ok (.istore_n 2, 1) := by decide +kernel
theorem dX4_readNumber_4 : decode cX4_readNumber 4 = .ok (.iload_n 2, 1) := by decide +kernel
theorem dX4_readNumber_5 : decode cX4_readNumber 5 = .ok (.iconst 4, 1) := by decide +kernel
theorem dX4_readNumber_6 : decode cX4_readNumber 6 = .ok (.if_icmp .ge 63, 3) := by decide +kernel
theorem dX4_readNumber_9 : decode cX4_readNumber 9 = .ok (.aload_n 0, 1) := by decide +kernel
theorem dX4_readNumber_10 : decode cX4_readNumber 10 = .ok (.getfield 40, 3) := by decide +kernel
theorem dX4_readNumber_13 : decode cX4_readNumber 13 = .ok (.aload_n 0, 1) := by decide +kernel
theorem dX4_readNumber_14 : decode cX4_readNumber 14 = .ok (.getfield 30, 3) := by decide +kernel
theorem dX4_readNumber_17 : decode cX4_readNumber 17 = .ok (.if_icmp .ge 52, 3) := by decide +kernel
theorem dX4_readNumber_20 : decode cX4_readNumber 20 = .ok (.aload_n 0, 1) := by decide +kernel
theorem dX4_readNumber_21 : decode cX4_readNumber 21 = .ok (.getfield 9, 3) := by decide +kernel
theorem dX4_readNumber_24 : decode cX4_readNumber 24 = .ok (.aload_n 0, 1) := by decide +kernel
theorem dX4_readNumber_25 : decode cX4_readNumber 25 = .ok (.getfield 40, 3) := by decide +kernel
theorem dX4_readNumber_28 : decode cX4_readNumber 28 = .ok (.iaload, 1) := by decide +kernel
theorem dX4_readNumber_29 : decode cX4_readNumber 29 = .ok (.invokestatic 61, 3) := by decide +kernel
theorem dX4_readNumber_32 : decode cX4_readNumber 32 = .ok (.ifCond .eq 37, 3) := by decide +kernel
theorem dX4_readNumber_35 : decode cX4_readNumber 35 = .ok (.iload_n 1, 1) := by decide +kernel
theorem dX4_readNumber_36 : decode cX4_readNumber 36 = .ok (.bipush 10, 2) := by decide +kernel
theorem dX4_readNumber_38 : decode cX4_readNumber 38 = .ok (.imul, 1) := by decide +kernel
theorem dX4_readNumber_39 : decode cX4_readNumber 39 = .ok (.aload_n 0, 1) := by decide +kernel
theorem dX4_readNumber_40 : decode cX4_readNumber 40 = .ok (.getfield 9, 3) := by decide +kernel
theorem dX4_readNumber_43 : decode cX4_readNumber 43 = .ok (.aload_n 0, 1) := by decide +kernel
theorem dX4_readNumber_44 : decode cX4_readNumber 44 = .ok (.getfield 40, 3) := by decide +kernel
theorem dX4_readNumber_47 : decode cX4_readNumber 47 = .ok (.iaload, 1) := by decide +kernel
theorem dX4_readNumber_48 : decode cX4_readNumber 48 = .ok (.iadd, 1) := by decide +kernel
theorem dX4_readNumber_49 : decode cX4_readNumber 49 = .ok (.bipush 48, 2) := by decide +kernel
theorem dX4_readNumber_51 : decode cX4_readNumber 51 = .ok (.isub, 1) := by decide +kernel
theorem dX4_readNumber_52 : decode cX4_readNumber 52 = .ok (.istore_n 1, 1) := by decide +kernel
theorem dX4_readNumber_53 : decode cX4_readNumber 53 = .ok (.aload_n 0, 1) := by decide +kernel
theorem dX4_readNumber_54 : decode cX4_readNumber 54 = .ok (.dup, 1) := by decide +kernel
theorem dX4_readNumber_55 : decode cX4_readNumber 55 = .ok (.getfield 40, 3) := by decide +kernel
theorem dX4_readNumber_58 : decode cX4_readNumber 58 = .ok (.iconst 1, 1) := by decide +kernel
theorem dX4_readNumber_59 : decode cX4_readNumber 59 = .ok (.iadd, 1) := by decide +kernel
theorem dX4_readNumber_60 : decode cX4_readNumber 60 = .ok (.putfield 40, 3) := by decide +kernel
theorem dX4_readNumber_63 : decode cX4_readNumber 63 = .ok (.iinc 2 1, 3) := by decide +kernel
theorem dX4_readNumber_66 : decode cX4_readNumber 66 = .ok (.goto (-62), 3) := by decide +kernel
theorem dX4_readNumber_69 : decode cX4_readNumber 69 = .ok (.aload_n 0, 1) := by decide +kernel
theorem dX4_readNumber_70 : decode cX4_readNumber 70 = .ok (.iload_n 1, 1) := by decide +kernel
theorem dX4_readNumber_71 : decode cX4_readNumber 71 = .ok (.invokevirtual 57, 3) := by decide +kernel
theorem dX4_readNumber_74 : decode cX4_readNumber 74 = .ok (.return_, 1) := by decide +kernel
theorem dX4_readNot_0 : decode cX4_readNot 0 = .ok (.aload_n 0, 1) := by decide +kernel
theorem dX4_readNot_1 : decode cX4_readNot 1 = .ok (.iload_n 1, 1) := by decide +kernel
theorem dX4_readNot_2 : decode cX4_readNot 2 = .ok (.invokevirtual 50, 3) := by decide +kernel
theorem dX4_readNot_5 : decode cX4_readNot 5 = .ok (.istore_n 2, 1) := by decide +kernel
theorem dX4_readNot_6 : decode cX4_readNot 6 = .ok (.aload_n 0, 1) := by decide +kernel
theorem dX4_readNot_7 : decode cX4_readNot 7 = .ok (.bipush (-33), 2) := by decide +kernel
theorem dX4_readNot_9 : decode cX4_readNot 9 = .ok (.invokevirtual 57, 3) := by decide +kernel
theorem dX4_readNot_12 : decode cX4_readNot 12 = .ok (.iload_n 2, 1) := by decide +kernel
theorem dX4_readNot_13 : decode cX4_readNot 13 = .ok (.ireturn, 1) := by decide +kernel
theorem dX4_readBrackets_0 : decode cX4_readBrackets 0 = .ok (.aload_n 0, 1) := by decide +kernel
theorem dX4_readBrackets_1 : decode cX4_readBrackets 1 = .ok (.iconst 0, 1) := by decide +kernel
theorem dX4_readBrackets_2 : decode cX4_readBrackets 2 = .ok (.iload_n 1, 1) := by decide +kernel
theorem dX4_readBrackets_3 : decode cX4_readBrackets 3 = .ok (.invokevirtual 46, 3) := by decide +kernel
theorem dX4_readBrackets_6 : decode cX4_readBrackets 6 = .ok (.ifCond .eq 28, 3) := by decide +kernel
theorem dX4_readBrackets_9 : decode cX4_readBrackets 9 = .ok (.aload_n 0, 1) := by decide +kernel
theorem dX4_readBrackets_10 : decode cX4_readBrackets 10 = .ok (.getfield 40, 3) := by decide +kernel
theorem dX4_readBrackets_13 : decode cX4_readBrackets 13 = .ok (.aload_n 0, 1) := by decide +kernel
theorem dX4_readBrackets_14 : decode cX4_readBrackets 14 = .ok (.getfield 30, 3) := by decide +kernel
theorem dX4_readBrackets_17 : decode cX4_readBrackets 17 = .ok (.if_icmp .ge 17, 3) := by decide +kernel
theorem dX4_readBrackets_20 : decode cX4_readBrackets 20 = .ok (.aload_n 0, 1) := by decide +kernel
theorem dX4_readBrackets_21 : decode cX4_readBrackets 21 = .ok (.getfield 9, 3) := by decide +kernel
theorem dX4_readBrackets_24 : decode cX4_readBrackets 24 = .ok (.aload_n 0, 1) := by decide +kernel
theorem dX4_readBrackets_25 : decode cX4_readBrackets 25 = .ok (.getfield 40, 3) := by decide +kernel
theorem dX4_readBrackets_28 : decode cX4_readBrackets 28 = .ok (.iaload, 1) := by decide +kernel
theorem dX4_readBrackets_29 : decode cX4_readBrackets 29 = .ok (.bipush 41, 2) := by decide +kernel
theorem dX4_readBrackets_31 : decode cX4_readBrackets 31 = .ok (.if_icmp .eq 5, 3) := by decide +kernel
theorem dX4_readBrackets_34 : decode cX4_readBrackets 34 = .ok (.iconst 0, 1) := by decide +kernel
theorem dX4_readBrackets_35 : decode cX4_readBrackets 35 = .ok (.ireturn, 1) := by decide +kernel
theorem dX4_readBrackets_36 : decode cX4_readBrackets 36 = .ok (.aload_n 0, 1) := by decide +kernel
theorem dX4_readBrackets_37 : decode cX4_readBrackets 37 = .ok (.dup, 1) := by decide +kernel
theorem dX4_readBrackets_38 : decode cX4_readBrackets 38 = .ok (.getfield 40, 3) := by decide +kernel
theorem dX4_readBrackets_41 : decode cX4_readBrackets 41 = .ok (.iconst 1, 1) := by decide +kernel
theorem dX4_readBrackets_42 : decode cX4_readBrackets 42 = .ok (.iadd, 1) := by decide +kernel
theorem dX4_readBrackets_43 : decode cX4_readBrackets 43 = .ok (.putfield 40, 3) := by decide +kernel
theorem dX4_readBrackets_46 : decode cX4_readBrackets 46 = .ok (.iconst 1, 1) := by decide +kernel
theorem dX4_readBrackets_47 : decode cX4_readBrackets 47 = .ok (.ireturn, 1) := by decide +kernel
theorem dX4_write_0 : decode cX4_write 0 = .ok (.aload_n 0, 1) := by decide +kernel
theorem dX4_write_1 : decode cX4_write 1 = .ok (.getfield 43, 3) := by decide +kernel
theorem dX4_write_4 : decode cX4_write 4 = .ok (.bipush 60, 2) := by decide +kernel
theorem dX4_write_6 : decode cX4_write 6 = .ok (.if_icmp .ge 23, 3) := by decide +kernel
theorem dX4_write_9 : decode cX4_write 9 = .ok (.aload_n 0, 1) := by decide +kernel
theorem dX4_write_10 : decode cX4_write 10 = .ok (.getfield 15, 3) := by decide +kernel
theorem dX4_write_13 : decode cX4_write 13 = .ok (.aload_n 0, 1) := by decide +kernel
theorem dX4_write_14 : decode cX4_write 14 = .ok (.getfield 43, 3) := by decide +kernel
theorem dX4_write_17 : decode cX4_write 17 = .ok (.iload_n 1, 1) := by decide +kernel
theorem dX4_write_18 : decode cX4_write 18 = .ok (.iastore, 1) := by decide +kernel
theorem dX4_write_19 : decode cX4_write 19 = .ok (.aload_n 0, 1) := by decide +kernel
theorem dX4_write_20 : decode cX4_write 20 = .ok (.dup, 1) := by decide +kernel
theorem dX4_write_21 : decode cX4_write 21 = .ok (.getfield 43, 3) := by decide +kernel
theorem dX4_write_24 : decode cX4_write 24 = .ok (.iconst 1, 1) := by decide +kernel
theorem dX4_write_25 : decode cX4_write 25 = .ok (.iadd, 1) := by decide +kernel
theorem dX4_write_26 : decode cX4_write 26 = .ok (.putfield 43, 3) := by decide +kernel
theorem dX4_write_29 : decode cX4_write 29 = .ok (.return_, 1) := by decide +kernel
theorem dX4_isDigit_0 : decode cX4_isDigit 0 = .ok (.iload_n 0, 1) := by decide +kernel
theorem dX4_isDigit_1 : decode cX4_isDigit 1 = .ok (.bipush 48, 2) := by decide +kernel
theorem dX4_isDigit_3 : decode cX4_isDigit 3 = .ok (.if_icmp .lt 13, 3) := by decide +kernel
theorem dX4_isDigit_6 : decode cX4_isDigit 6 = .ok (.iload_n 0, 1) := by decide +kernel
theorem dX4_isDigit_7 : decode cX4_isDigit 7 = .ok (.bipush 57, 2) := by decide +kernel
theorem dX4_isDigit_9 : decode cX4_isDigit 9 = .ok (.if_icmp .gt 7, 3) := by decide +kernel
theorem dX4_isDigit_12 : decode cX4_isDigit 12 = .ok (.iconst 1, 1) := by decide +kernel
theorem dX4_isDigit_13 : decode cX4_isDigit 13 = .ok (.goto 4, 3) := by decide +kernel
theorem dX4_isDigit_16 : decode cX4_isDigit 16 = .ok (.iconst 0, 1) := by decide +kernel
theorem dX4_isDigit_17 : decode cX4_isDigit 17 = .ok (.ireturn, 1) := by decide +kernel
theorem dX5_init_0 : decode cX5_init 0 = .ok (.aload_n 0, 1) := by decide +kernel
theorem dX5_init_1 : decode cX5_init 1 = .ok (.invokespecial 3, 3) := by decide +kernel
theorem dX5_init_4 : decode cX5_init 4 = .ok (.aload_n 0, 1) := by decide +kernel
theorem dX5_init_5 : decode cX5_init 5 = .ok (.bipush 24, 2) := by decide +kernel
theorem dX5_init_7 : decode cX5_init 7 = .ok (.newarray .int, 2) := by decide +kernel
theorem dX5_init_9 : decode cX5_init 9 = .ok (.putfield 9, 3) := by decide +kernel
theorem dX5_init_12 : decode cX5_init 12 = .ok (.return_, 1) := by decide +kernel
theorem dX5_renew_0 : decode cX5_renew 0 = .ok (.aload_n 0, 1) := by decide +kernel
theorem dX5_renew_1 : decode cX5_renew 1 = .ok (.iload_n 1, 1) := by decide +kernel
theorem dX5_renew_2 : decode cX5_renew 2 = .ok (.putfield 15, 3) := by decide +kernel
theorem dX5_renew_5 : decode cX5_renew 5 = .ok (.aload_n 0, 1) := by decide +kernel
theorem dX5_renew_6 : decode cX5_renew 6 = .ok (.iload_n 2, 1) := by decide +kernel
theorem dX5_renew_7 : decode cX5_renew 7 = .ok (.putfield 19, 3) := by decide +kernel
theorem dX5_renew_10 : decode cX5_renew 10 = .ok (.aload_n 0, 1) := by decide +kernel
theorem dX5_renew_11 : decode cX5_renew 11 = .ok (.getfield 9, 3) := by decide +kernel
theorem dX5_renew_14 : decode cX5_renew 14 = .ok (.iconst 0, 1) := by decide +kernel
theorem dX5_renew_15 : decode cX5_renew 15 = .ok (.invokestatic 22, 3) := by decide +kernel
theorem dX5_renew_18 : decode cX5_renew 18 = .ok (.return_, 1) := by decide +kernel
theorem dX5_write_0 : decode cX5_write 0 = .ok (.iload_n 1, 1) := by decide +kernel
theorem dX5_write_1 : decode cX5_write 1 = .ok (.aload_n 0, 1) := by decide +kernel
theorem dX5_write_2 : decode cX5_write 2 = .ok (.getfield 19, 3) := by decide +kernel
theorem dX5_write_5 : decode cX5_write 5 = .ok (.invokestatic 28, 3) := by decide +kernel
theorem dX5_write_8 : decode cX5_write 8 = .ok (.ifCond .eq 38, 3) := by decide +kernel
theorem dX5_write_11 : decode cX5_write 11 = .ok (.aload_n 0, 1) := by decide +kernel
theorem dX5_write_12 : decode cX5_write 12 = .ok (.getfield 9, 3) := by decide +kernel
theorem dX5_write_15 : decode cX5_write 15 = .ok (.iload_n 1, 1) := by decide +kernel
theorem dX5_write_16 : decode cX5_write 16 = .ok (.aload_n 0, 1) := by decide +kernel
theorem dX5_write_17 : decode cX5_write 17 = .ok (.getfield 15, 3) := by decide +kernel
theorem dX5_write_20 : decode cX5_write 20 = .ok (.bipush 8, 2) := by decide +kernel
theorem dX5_write_22 : decode cX5_write 22 = .ok (.if_icmp .ne 8, 3) := by decide +kernel
theorem dX5_write_25 : decode cX5_write 25 = .ok (.iload_n 2, 1) := by decide +kernel
theorem dX5_write_26 : decode cX5_write 26 = .ok (.i2b, 1) := by decide +kernel
theorem dX5_write_27 : decode cX5_write 27 = .ok (.goto 18, 3) := by decide +kernel
theorem dX5_write_30 : decode cX5_write 30 = .ok (.aload_n 0, 1) := by decide +kernel
theorem dX5_write_31 : decode cX5_write 31 = .ok (.getfield 15, 3) := by decide +kernel
theorem dX5_write_34 : decode cX5_write 34 = .ok (.bipush 16, 2) := by decide +kernel
theorem dX5_write_36 : decode cX5_write 36 = .ok (.if_icmp .ne 8, 3) := by decide +kernel
theorem dX5_write_39 : decode cX5_write 39 = .ok (.iload_n 2, 1) := by decide +kernel
theorem dX5_write_40 : decode cX5_write 40 = .ok (.i2s, 1) := by decide +kernel
theorem dX5_write_41 : decode cX5_write 41 = .ok (.goto 4, 3) := by decide +kernel
theorem dX5_write_44 : decode cX5_write 44 = .ok (.iload_n 2, 1) := by decide +kernel
theorem dX5_write_45 : decode cX5_write 45 = .ok (.iastore, 1) := by decide +kernel
theorem dX5_write_46 : decode cX5_write 46 = .ok (.return_, 1) := by decide +kernel
theorem dX5_holds_0 : decode cX5_holds 0 = .ok (.iload_n 2, 1) := by decide +kernel
theorem dX5_holds_1 : decode cX5_holds 1 = .ok (.ifCond .lt 29, 3) := by decide +kernel
theorem dX5_holds_4 : decode cX5_holds 4 = .ok (.iload_n 2, 1) := by decide +kernel
theorem dX5_holds_5 : decode cX5_holds 5 = .ok (.aload_n 0, 1) := by decide +kernel
theorem dX5_holds_6 : decode cX5_holds 6 = .ok (.getfield 19, 3) := by decide +kernel
theorem dX5_holds_9 : decode cX5_holds 9 = .ok (.if_icmp .gt 21, 3) := by decide +kernel
theorem dX5_holds_12 : decode cX5_holds 12 = .ok (.iload_n 1, 1) := by decide +kernel
theorem dX5_holds_13 : decode cX5_holds 13 = .ok (.ifCond .lt 17, 3) := by decide +kernel
theorem dX5_holds_16 : decode cX5_holds 16 = .ok (.iload_n 1, 1) := by decide +kernel
theorem dX5_holds_17 : decode cX5_holds 17 = .ok (.aload_n 0, 1) := by decide +kernel
theorem dX5_holds_18 : decode cX5_holds 18 = .ok (.getfield 19, 3) := by decide +kernel
theorem dX5_holds_21 : decode cX5_holds 21 = .ok (.iload_n 2, 1) := by decide +kernel
theorem dX5_holds_22 : decode cX5_holds 22 = .ok (.isub, 1) := by decide +kernel
theorem dX5_holds_23 : decode cX5_holds 23 = .ok (.if_icmp .gt 7, 3) := by decide +kernel
theorem dX5_holds_26 : decode cX5_holds 26 = .ok (.iconst 1, 1) := by decide +kernel
theorem dX5_holds_27 : decode cX5_holds 27 = .ok (.goto 4, 3) := by decide +kernel
theorem dX5_holds_30 : decode cX5_holds 30 = .ok (.iconst 0, 1) := by decide +kernel
theorem dX5_holds_31 : decode cX5_holds 31 = .ok (.ireturn, 1) := by decide +kernel
theorem dX6_init_0 : decode cX6_init 0 = .ok (.aload_n 0, 1) := by decide +kernel
theorem dX6_init_1 : decode cX6_init 1 = .ok (.invokespecial 3, 3) := by decide +kernel
theorem dX6_init_4 : decode cX6_init 4 = .ok (.aload_n 0, 1) := by decide +kernel
theorem dX6_init_5 : decode cX6_init 5 = .ok (.bipush 6, 2) := by decide +kernel
theorem dX6_init_7 : decode cX6_init 7 = .ok (.newarray .int, 2) := by decide +kernel
theorem dX6_init_9 : decode cX6_init 9 = .ok (.putfield 9, 3) := by decide +kernel
theorem dX6_init_12 : decode cX6_init 12 = .ok (.aload_n 0, 1) := by decide +kernel
theorem dX6_init_13 : decode cX6_init 13 = .ok (.bipush 6, 2) := by decide +kernel
theorem dX6_init_15 : decode cX6_init 15 = .ok (.newarray .int, 2) := by decide +kernel
theorem dX6_init_17 : decode cX6_init 17 = .ok (.putfield 15, 3) := by decide +kernel
theorem dX6_init_20 : decode cX6_init 20 = .ok (.aload_n 0, 1) := by decide +kernel
theorem dX6_init_21 : decode cX6_init 21 = .ok (.bipush 6, 2) := by decide +kernel
theorem dX6_init_23 : decode cX6_init 23 = .ok (.newarray .int, 2) := by decide +kernel
theorem dX6_init_25 : decode cX6_init 25 = .ok (.putfield 18, 3) := by decide +kernel
theorem dX6_init_28 : decode cX6_init 28 = .ok (.aload_n 0, 1) := by decide +kernel
theorem dX6_init_29 : decode cX6_init 29 = .ok (.bipush 6, 2) := by decide +kernel
theorem dX6_init_31 : decode cX6_init 31 = .ok (.newarray .int, 2) := by decide +kernel
theorem dX6_init_33 : decode cX6_init 33 = .ok (.putfield 21, 3) := by decide +kernel
theorem dX6_init_36 : decode cX6_init 36 = .ok (.return_, 1) := by decide +kernel
theorem dX6_isFree_0 : decode cX6_isFree 0 = .ok (.iconst 0, 1) := by decide +kernel
theorem dX6_isFree_1 : decode cX6_isFree 1 = .ok (.istore 4, 2) := by decide +kernel
theorem dX6_isFree_3 : decode cX6_isFree 3 = .ok (.iload 4, 2) := by decide +kernel
theorem dX6_isFree_5 : decode cX6_isFree 5 = .ok (.aload_n 0, 1) := by decide +kernel
theorem dX6_isFree_6 : decode cX6_isFree 6 = .ok (.getfield 24, 3) := by decide +kernel
theorem dX6_isFree_9 : decode cX6_isFree 9 = .ok (.if_icmp .ge 42, 3) := by decide +kernel
theorem dX6_isFree_12 : decode cX6_isFree 12 = .ok (.aload_n 0, 1) := by decide +kernel
theorem dX6_isFree_13 : decode cX6_isFree 13 = .ok (.getfield 9, 3) := by decide +kernel
theorem dX6_isFree_16 : decode cX6_isFree 16 = .ok (.iload 4, 2) := by decide +kernel
theorem dX6_isFree_18 : decode cX6_isFree 18 = .ok (.iaload, 1) := by decide +kernel
theorem dX6_isFree_19 : decode cX6_isFree 19 = .ok (.iload_n 1, 1) := by decide +kernel
theorem dX6_isFree_20 : decode cX6_isFree 20 = .ok (.if_icmp .ne 25, 3) := by decide +kernel
theorem dX6_isFree_23 : decode cX6_isFree 23 = .ok (.aload_n 0, 1) := by decide +kernel
theorem dX6_isFree_24 : decode cX6_isFree 24 = .ok (.iload 4, 2) := by decide +kernel
theorem dX6_isFree_26 : decode cX6_isFree 26 = .ok (.iload_n 2, 1) := by decide +kernel
theorem dX6_isFree_27 : decode cX6_isFree 27 = .ok (.invokevirtual 28, 3) := by decide +kernel
theorem dX6_isFree_30 : decode cX6_isFree 30 = .ok (.ifCond .ne 13, 3) := by decide +kernel
theorem dX6_isFree_33 : decode cX6_isFree 33 = .ok (.aload_n 0, 1) := by decide +kernel
theorem dX6_isFree_34 : decode cX6_isFree 34 = .ok (.iload 4, 2) := by decide +kernel
theorem dX6_isFree_36 : decode cX6_isFree 36 = .ok (.iload_n 3, 1) := by decide +kernel
theorem dX6_isFree_37 : decode cX6_isFree 37 = .ok (.invokevirtual 28, 3) := by decide +kernel
theorem dX6_isFree_40 : decode cX6_isFree 40 = .ok (.ifCond .eq 5, 3) := by decide +kernel
theorem dX6_isFree_43 : decode cX6_isFree 43 = .ok (.iconst 0, 1) := by decide +kernel
theorem dX6_isFree_44 : decode cX6_isFree 44 = .ok (.ireturn, 1) := by decide +kernel
theorem dX6_isFree_45 : decode cX6_isFree 45 = .ok (.iinc 4 1, 3) := by decide +kernel
theorem dX6_isFree_48 : decode cX6_isFree 48 = .ok (.goto (-45), 3) := by decide +kernel
theorem dX6_isFree_51 : decode cX6_isFree 51 = .ok (.iconst 1, 1) := by decide +kernel
theorem dX6_isFree_52 : decode cX6_isFree 52 = .ok (.ireturn, 1) := by decide +kernel
theorem dX6_hasPart_0 : decode cX6_hasPart 0 = .ok (.aload_n 0, 1) := by decide +kernel
theorem dX6_hasPart_1 : decode cX6_hasPart 1 = .ok (.getfield 15, 3) := by decide +kernel
theorem dX6_hasPart_4 : decode cX6_hasPart 4 = .ok (.iload_n 1, 1) := by decide +kernel
theorem dX6_hasPart_5 : decode cX6_hasPart 5 = .ok (.iaload, 1) := by decide +kernel
theorem dX6_hasPart_6 : decode cX6_hasPart 6 = .ok (.iload_n 2, 1) := by decide +kernel
theorem dX6_hasPart_7 : decode cX6_hasPart 7 = .ok (.if_icmp .eq 13, 3) := by decide +kernel
theorem dX6_hasPart_10 : decode cX6_hasPart 10 = .ok (.aload_n 0, 1) := by decide +kernel
theorem dX6_hasPart_11 : decode cX6_hasPart 11 = .ok (.getfield 18, 3) := by decide +kernel
theorem dX6_hasPart_14 : decode cX6_hasPart 14 = .ok (.iload_n 1, 1) := by decide +kernel
theorem dX6_hasPart_15 : decode cX6_hasPart 15 = .ok (.iaload, 1) := by decide +kernel
theorem dX6_hasPart_16 : decode cX6_hasPart 16 = .ok (.iload_n 2, 1) := by decide +kernel
theorem dX6_hasPart_17 : decode cX6_hasPart 17 = .ok (.if_icmp .ne 7, 3) := by decide +kernel
theorem dX6_hasPart_20 : decode cX6_hasPart 20 = .ok (.iconst 1, 1) := by decide +kernel
theorem dX6_hasPart_21 : decode cX6_hasPart 21 = .ok (.goto 4, 3) := by decide +kernel
theorem dX6_hasPart_24 : decode cX6_hasPart 24 = .ok (.iconst 0, 1) := by decide +kernel
theorem dX6_hasPart_25 : decode cX6_hasPart 25 = .ok (.ireturn, 1) := by decide +kernel
theorem dX6_partsOf_0 : decode cX6_partsOf 0 = .ok (.iconst 0, 1) := by decide +kernel
theorem dX6_partsOf_1 : decode cX6_partsOf 1 = .ok (.istore_n 2, 1) := by decide +kernel
theorem dX6_partsOf_2 : decode cX6_partsOf 2 = .ok (.iconst 0, 1) := by decide +kernel
theorem dX6_partsOf_3 : decode cX6_partsOf 3 = .ok (.istore_n 3, 1) := by decide +kernel
theorem dX6_partsOf_4 : decode cX6_partsOf 4 = .ok (.iload_n 3, 1) := by decide +kernel
theorem dX6_partsOf_5 : decode cX6_partsOf 5 = .ok (.aload_n 0, 1) := by decide +kernel
theorem dX6_partsOf_6 : decode cX6_partsOf 6 = .ok (.getfield 24, 3) := by decide +kernel
theorem dX6_partsOf_9 : decode cX6_partsOf 9 = .ok (.if_icmp .ge 21, 3) := by decide +kernel
theorem dX6_partsOf_12 : decode cX6_partsOf 12 = .ok (.aload_n 0, 1) := by decide +kernel
theorem dX6_partsOf_13 : decode cX6_partsOf 13 = .ok (.iload_n 3, 1) := by decide +kernel
theorem dX6_partsOf_14 : decode cX6_partsOf 14 = .ok (.iload_n 1, 1) := by decide +kernel
theorem dX6_partsOf_15 : decode cX6_partsOf 15 = .ok (.invokevirtual 28, 3) := by decide +kernel
theorem dX6_partsOf_18 : decode cX6_partsOf 18 = .ok (.ifCond .eq 6, 3) := by decide +kernel
theorem dX6_partsOf_21 : decode cX6_partsOf 21 = .ok (.iinc 2 1, 3) := by decide +kernel
theorem dX6_partsOf_24 : decode cX6_partsOf 24 = .ok (.iinc 3 1, 3) := by decide +kernel
theorem dX6_partsOf_27 : decode cX6_partsOf 27 = .ok (.goto (-23), 3) := by decide +kernel
theorem dX6_partsOf_30 : decode cX6_partsOf 30 = .ok (.iload_n 2, 1) := by decide +kernel
theorem dX6_partsOf_31 : decode cX6_partsOf 31 = .ok (.ireturn, 1) := by decide +kernel
theorem dX6_add_0 : decode cX6_add 0 = .ok (.aload_n 0, 1) := by decide +kernel
theorem dX6_add_1 : decode cX6_add 1 = .ok (.getfield 24, 3) := by decide +kernel
theorem dX6_add_4 : decode cX6_add 4 = .ok (.bipush 6, 2) := by decide +kernel
theorem dX6_add_6 : decode cX6_add 6 = .ok (.if_icmp .lt 4, 3) := by decide +kernel
theorem dX6_add_9 : decode cX6_add 9 = .ok (.return_, 1) := by decide +kernel
theorem dX6_add_10 : decode cX6_add 10 = .ok (.aload_n 0, 1) := by decide +kernel
theorem dX6_add_11 : decode cX6_add 11 = .ok (.getfield 24, 3) := by decide +kernel
theorem dX6_add_14 : decode cX6_add 14 = .ok (.istore 4, 2) := by decide +kernel
theorem dX6_add_16 : decode cX6_add 16 = .ok (.iload 4, 2) := by decide +kernel
theorem dX6_add_18 : decode cX6_add 18 = .ok (.ifCond .le 43, 3) := by decide +kernel
theorem dX6_add_21 : decode cX6_add 21 = .ok (.aload_n 0, 1) := by decide +kernel
theorem dX6_add_22 : decode cX6_add 22 = .ok (.getfield 9, 3) := by decide +kernel
theorem dX6_add_25 : decode cX6_add 25 = .ok (.aload_n 0, 1) := by decide +kernel
theorem dX6_add_26 : decode cX6_add 26 = .ok (.getfield 21, 3) := by decide +kernel
theorem dX6_add_29 : decode cX6_add 29 = .ok (.iload 4, 2) := by decide +kernel
theorem dX6_add_31 : decode cX6_add 31 = .ok (.iconst 1, 1) := by decide +kernel
theorem dX6_add_32 : decode cX6_add 32 = .ok (.isub, 1) := by decide +kernel
theorem dX6_add_33 : decode cX6_add 33 = .ok (.iaload, 1) := by decide +kernel
theorem dX6_add_34 : decode cX6_add 34 = .ok (.iaload, 1) := by decide +kernel
theorem dX6_add_35 : decode cX6_add 35 = .ok (.iload_n 1, 1) := by decide +kernel
theorem dX6_add_36 : decode cX6_add 36 = .ok (.if_icmp .le 25, 3) := by decide +kernel
theorem dX6_add_39 : decode cX6_add 39 = .ok (.aload_n 0, 1) := by decide +kernel
theorem dX6_add_40 : decode cX6_add 40 = .ok (.getfield 21, 3) := by decide +kernel
theorem dX6_add_43 : decode cX6_add 43 = .ok (.iload 4, 2) := by decide +kernel
theorem dX6_add_45 : decode cX6_add 45 = .ok (.aload_n 0, 1) := by decide +kernel
theorem dX6_add_46 : decode cX6_add 46 = .ok (.getfield 21, 3) := by decide +kernel
theorem dX6_add_49 : decode cX6_add 49 = .ok (.iload 4, 2) := by decide +kernel
theorem dX6_add_51 : decode cX6_add 51 = .ok (.iconst 1, 1) := by decide +kernel
theorem dX6_add_52 : decode cX6_add 52 = .ok (.isub, 1) := by decide +kernel
theorem dX6_add_53 : decode cX6_add 53 = .ok (.iaload, 1) := by decide +kernel
theorem dX6_add_54 : decode cX6_add 54 = .ok (.iastore, 1) := by decide +kernel
theorem dX6_add_55 : decode cX6_add 55 = .ok (.iinc 4 (-1), 3) := by decide +kernel
theorem dX6_add_58 : decode cX6_add 58 = .ok (.goto (-42), 3) := by decide +kernel
theorem dX6_add_61 : decode cX6_add 61 = .ok (.aload_n 0, 1) := by decide +kernel
theorem dX6_add_62 : decode cX6_add 62 = .ok (.getfield 21, 3) := by decide +kernel
theorem dX6_add_65 : decode cX6_add 65 = .ok (.iload 4, 2) := by decide +kernel
theorem dX6_add_67 : decode cX6_add 67 = .ok (.aload_n 0, 1) := by decide +kernel
theorem dX6_add_68 : decode cX6_add 68 = .ok (.getfield 24, 3) := by decide +kernel
theorem dX6_add_71 : decode cX6_add 71 = .ok (.iastore, 1) := by decide +kernel
theorem dX6_add_72 : decode cX6_add 72 = .ok (.aload_n 0, 1) := by decide +kernel
theorem dX6_add_73 : decode cX6_add 73 = .ok (.getfield 9, 3) := by decide +kernel
theorem dX6_add_76 : decode cX6_add 76 = .ok (.aload_n 0, 1) := by decide +kernel
theorem dX6_add_77 : decode cX6_add 77 = .ok (.getfield 24, 3) := by decide +kernel
theorem dX6_add_80 : decode cX6_add 80 = .ok (.iload_n 1, 1) := by decide +kernel
theorem dX6_add_81 : decode cX6_add 81 = .ok (.iastore, 1) := by decide +kernel
theorem dX6_add_82 : decode cX6_add 82 = .ok (.aload_n 0, 1) := by decide +kernel
theorem dX6_add_83 : decode cX6_add 83 = .ok (.getfield 15, 3) := by decide +kernel
theorem dX6_add_86 : decode cX6_add 86 = .ok (.aload_n 0, 1) := by decide +kernel
theorem dX6_add_87 : decode cX6_add 87 = .ok (.getfield 24, 3) := by decide +kernel
theorem dX6_add_90 : decode cX6_add 90 = .ok (.iload_n 2, 1) := by decide +kernel
theorem dX6_add_91 : decode cX6_add 91 = .ok (.iastore, 1) := by decide +kernel
theorem dX6_add_92 : decode cX6_add 92 = .ok (.aload_n 0, 1) := by decide +kernel
theorem dX6_add_93 : decode cX6_add 93 = .ok (.getfield 18, 3) := by decide +kernel
theorem dX6_add_96 : decode cX6_add 96 = .ok (.aload_n 0, 1) := by decide +kernel
theorem dX6_add_97 : decode cX6_add 97 = .ok (.getfield 24, 3) := by decide +kernel
theorem dX6_add_100 : decode cX6_add 100 = .ok (.iload_n 3, 1) := by decide +kernel
theorem dX6_add_101 : decode cX6_add 101 = .ok (.iastore, 1) := by decide +kernel
theorem dX6_add_102 : decode cX6_add 102 = .ok (.aload_n 0, 1) := by decide +kernel
theorem dX6_add_103 : decode cX6_add 103 = .ok (.dup, 1) := by decide +kernel
theorem dX6_add_104 : decode cX6_add 104 = .ok (.getfield 24, 3) := by decide +kernel
theorem dX6_add_107 : decode cX6_add 107 = .ok (.iconst 1, 1) := by decide +kernel
theorem dX6_add_108 : decode cX6_add 108 = .ok (.iadd, 1) := by decide +kernel
theorem dX6_add_109 : decode cX6_add 109 = .ok (.putfield 24, 3) := by decide +kernel
theorem dX6_add_112 : decode cX6_add 112 = .ok (.return_, 1) := by decide +kernel
theorem dX6_removeLast_0 : decode cX6_removeLast 0 = .ok (.iconst 0, 1) := by decide +kernel
theorem dX6_removeLast_1 : decode cX6_removeLast 1 = .ok (.istore_n 1, 1) := by decide +kernel
theorem dX6_removeLast_2 : decode cX6_removeLast 2 = .ok (.iconst 0, 1) := by decide +kernel
theorem dX6_removeLast_3 : decode cX6_removeLast 3 = .ok (.istore_n 2, 1) := by decide +kernel
theorem dX6_removeLast_4 : decode cX6_removeLast 4 = .ok (.iload_n 2, 1) := by decide +kernel
theorem dX6_removeLast_5 : decode cX6_removeLast 5 = .ok (.aload_n 0, 1) := by decide +kernel
theorem dX6_removeLast_6 : decode cX6_removeLast 6 = .ok (.getfield 24, 3) := by decide +kernel
theorem dX6_removeLast_9 : decode cX6_removeLast 9 = .ok (.if_icmp .ge 39, 3) := by decide +kernel
theorem dX6_removeLast_12 : decode cX6_removeLast 12 = .ok (.aload_n 0, 1) := by decide +kernel
theorem dX6_removeLast_13 : decode cX6_removeLast 13 = .ok (.getfield 21, 3) := by decide +kernel
theorem dX6_removeLast_16 : decode cX6_removeLast 16 = .ok (.iload_n 2, 1) := by decide +kernel
theorem dX6_removeLast_17 : decode cX6_removeLast 17 = .ok (.iaload, 1) := by decide +kernel
theorem dX6_removeLast_18 : decode cX6_removeLast 18 = .ok (.aload_n 0, 1) := by decide +kernel
theorem dX6_removeLast_19 : decode cX6_removeLast 19 = .ok (.getfield 24, 3) := by decide +kernel
theorem dX6_removeLast_22 : decode cX6_removeLast 22 = .ok (.iconst 1, 1) := by decide +kernel
theorem dX6_removeLast_23 : decode cX6_removeLast 23 = .ok (.isub, 1) := by decide +kernel
theorem dX6_removeLast_24 : decode cX6_removeLast 24 = .ok (.if_icmp .eq 18, 3) := by decide +kernel
theorem dX6_removeLast_27 : decode cX6_removeLast 27 = .ok (.aload_n 0, 1) := by decide +kernel
theorem dX6_removeLast_28 : decode cX6_removeLast 28 = .ok (.getfield 21, 3) := by decide +kernel
theorem dX6_removeLast_31 : decode cX6_removeLast 31 = .ok (.iload_n 1, 1) := by decide +kernel
theorem dX6_removeLast_32 : decode cX6_removeLast 32 = .ok (.aload_n 0, 1) := by decide +kernel
theorem dX6_removeLast_33 : decode cX6_removeLast 33 = .ok (.getfield 21, 3) := by decide +kernel
theorem dX6_removeLast_36 : decode cX6_removeLast 36 = .ok (.iload_n 2, 1) := by decide +kernel
theorem dX6_removeLast_37 : decode cX6_removeLast 37 = .ok (.iaload, 1) := by decide +kernel
theorem dX6_removeLast_38 : decode cX6_removeLast 38 = .ok (.iastore, 1) := by decide +kernel
theorem dX6_removeLast_39 : decode cX6_removeLast 39 = .ok (.iinc 1 1, 3) := by decide +kernel
theorem dX6_removeLast_42 : decode cX6_removeLast 42 = .ok (.iinc 2 1, 3) := by decide +kernel
theorem dX6_removeLast_45 : decode cX6_removeLast 45 = .ok (.goto (-41), 3) := by decide +kernel
theorem dX6_removeLast_48 : decode cX6_removeLast 48 = .ok (.aload_n 0, 1) := by decide +kernel
theorem dX6_removeLast_49 : decode cX6_removeLast 49 = .ok (.iload_n 1, 1) := by decide +kernel
theorem dX6_removeLast_50 : decode cX6_removeLast 50 = .ok (.putfield 24, 3) := by decide +kernel
theorem dX6_removeLast_53 : decode cX6_removeLast 53 = .ok (.return_, 1) := by decide +kernel
theorem dX6_nameOf_0 : decode cX6_nameOf 0 = .ok (.iload_n 2, 1) := by decide +kernel
theorem dX6_nameOf_1 : decode cX6_nameOf 1 = .ok (.istore_n 3, 1) := by decide +kernel
theorem dX6_nameOf_2 : decode cX6_nameOf 2 = .ok (.iconst 0, 1) := by decide +kernel
theorem dX6_nameOf_3 : decode cX6_nameOf 3 = .ok (.istore 4, 2) := by decide +kernel
theorem dX6_nameOf_5 : decode cX6_nameOf 5 = .ok (.iload 4, 2) := by decide +kernel
theorem dX6_nameOf_7 : decode cX6_nameOf 7 = .ok (.aload_n 0, 1) := by decide +kernel
theorem dX6_nameOf_8 : decode cX6_nameOf 8 = .ok (.getfield 24, 3) := by decide +kernel
theorem dX6_nameOf_11 : decode cX6_nameOf 11 = .ok (.if_icmp .ge 71, 3) := by decide +kernel
theorem dX6_nameOf_14 : decode cX6_nameOf 14 = .ok (.aload_n 0, 1) := by decide +kernel
theorem dX6_nameOf_15 : decode cX6_nameOf 15 = .ok (.getfield 21, 3) := by decide +kernel
theorem dX6_nameOf_18 : decode cX6_nameOf 18 = .ok (.iload 4, 2) := by decide +kernel
theorem dX6_nameOf_20 : decode cX6_nameOf 20 = .ok (.iaload, 1) := by decide +kernel
theorem dX6_nameOf_21 : decode cX6_nameOf 21 = .ok (.istore 5, 2) := by decide +kernel
theorem dX6_nameOf_23 : decode cX6_nameOf 23 = .ok (.aload_n 0, 1) := by decide +kernel
theorem dX6_nameOf_24 : decode cX6_nameOf 24 = .ok (.getfield 15, 3) := by decide +kernel
theorem dX6_nameOf_27 : decode cX6_nameOf 27 = .ok (.iload 5, 2) := by decide +kernel
theorem dX6_nameOf_29 : decode cX6_nameOf 29 = .ok (.iaload, 1) := by decide +kernel
theorem dX6_nameOf_30 : decode cX6_nameOf 30 = .ok (.iload_n 1, 1) := by decide +kernel
theorem dX6_nameOf_31 : decode cX6_nameOf 31 = .ok (.if_icmp .ne 20, 3) := by decide +kernel
theorem dX6_nameOf_34 : decode cX6_nameOf 34 = .ok (.iload_n 3, 1) := by decide +kernel
theorem dX6_nameOf_35 : decode cX6_nameOf 35 = .ok (.aload_n 0, 1) := by decide +kernel
theorem dX6_nameOf_36 : decode cX6_nameOf 36 = .ok (.getfield 9, 3) := by decide +kernel
theorem dX6_nameOf_39 : decode cX6_nameOf 39 = .ok (.iload 5, 2) := by decide +kernel
theorem dX6_nameOf_41 : decode cX6_nameOf 41 = .ok (.iaload, 1) := by decide +kernel
theorem dX6_nameOf_42 : decode cX6_nameOf 42 = .ok (.if_icmp .lt 9, 3) := by decide +kernel
theorem dX6_nameOf_45 : decode cX6_nameOf 45 = .ok (.iinc 3 1, 3) := by decide +kernel
theorem dX6_nameOf_48 : decode cX6_nameOf 48 = .ok (.goto 28, 3) := by decide +kernel
theorem dX6_nameOf_51 : decode cX6_nameOf 51 = .ok (.aload_n 0, 1) := by decide +kernel
theorem dX6_nameOf_52 : decode cX6_nameOf 52 = .ok (.getfield 18, 3) := by decide +kernel
theorem dX6_nameOf_55 : decode cX6_nameOf 55 = .ok (.iload 5, 2) := by decide +kernel
theorem dX6_nameOf_57 : decode cX6_nameOf 57 = .ok (.iaload, 1) := by decide +kernel
theorem dX6_nameOf_58 : decode cX6_nameOf 58 = .ok (.iload_n 1, 1) := by decide +kernel
theorem dX6_nameOf_59 : decode cX6_nameOf 59 = .ok (.if_icmp .ne 17, 3) := by decide +kernel
theorem dX6_nameOf_62 : decode cX6_nameOf 62 = .ok (.iload_n 3, 1) := by decide +kernel
theorem dX6_nameOf_63 : decode cX6_nameOf 63 = .ok (.aload_n 0, 1) := by decide +kernel
theorem dX6_nameOf_64 : decode cX6_nameOf 64 = .ok (.getfield 9, 3) := by decide +kernel
theorem dX6_nameOf_67 : decode cX6_nameOf 67 = .ok (.iload 5, 2) := by decide +kernel
theorem dX6_nameOf_69 : decode cX6_nameOf 69 = .ok (.iaload, 1) := by decide +kernel
theorem dX6_nameOf_70 : decode cX6_nameOf 70 = .ok (.if_icmp .le 6, 3) := by decide +kernel
theorem dX6_nameOf_73 : decode cX6_nameOf 73 = .ok (.iinc 3 (-1), 3) := by decide +kernel
theorem dX6_nameOf_76 : decode cX6_nameOf 76 = .ok (.iinc 4 1, 3) := by decide +kernel
theorem dX6_nameOf_79 : decode cX6_nameOf 79 = .ok (.goto (-74), 3) := by decide +kernel
theorem dX6_nameOf_82 : decode cX6_nameOf 82 = .ok (.iload_n 3, 1) := by decide +kernel
theorem dX6_nameOf_83 : decode cX6_nameOf 83 = .ok (.ireturn, 1) := by decide +kernel
theorem dX6_dateOf_0 : decode cX6_dateOf 0 = .ok (.aload_n 0, 1) := by decide +kernel
theorem dX6_dateOf_1 : decode cX6_dateOf 1 = .ok (.iload_n 1, 1) := by decide +kernel
theorem dX6_dateOf_2 : decode cX6_dateOf 2 = .ok (.iload_n 2, 1) := by decide +kernel
theorem dX6_dateOf_3 : decode cX6_dateOf 3 = .ok (.sipush 365, 3) := by decide +kernel
theorem dX6_dateOf_6 : decode cX6_dateOf 6 = .ok (.idiv, 1) := by decide +kernel
theorem dX6_dateOf_7 : decode cX6_dateOf 7 = .ok (.invokevirtual 32, 3) := by decide +kernel
theorem dX6_dateOf_10 : decode cX6_dateOf 10 = .ok (.sipush 1000, 3) := by decide +kernel
theorem dX6_dateOf_13 : decode cX6_dateOf 13 = .ok (.imul, 1) := by decide +kernel
theorem dX6_dateOf_14 : decode cX6_dateOf 14 = .ok (.iload_n 2, 1) := by decide +kernel
theorem dX6_dateOf_15 : decode cX6_dateOf 15 = .ok (.sipush 365, 3) := by decide +kernel
theorem dX6_dateOf_18 : decode cX6_dateOf 18 = .ok (.irem, 1) := by decide +kernel
theorem dX6_dateOf_19 : decode cX6_dateOf 19 = .ok (.iadd, 1) := by decide +kernel
theorem dX6_dateOf_20 : decode cX6_dateOf 20 = .ok (.ireturn, 1) := by decide +kernel
theorem dX6_yearNamed_0 : decode cX6_yearNamed 0 = .ok (.sipush 199, 3) := by decide +kernel
theorem dX6_yearNamed_3 : decode cX6_yearNamed 3 = .ok (.iload_n 2, 1) := by decide +kernel
theorem dX6_yearNamed_4 : decode cX6_yearNamed 4 = .ok (.bipush 6, 2) := by decide +kernel
theorem dX6_yearNamed_6 : decode cX6_yearNamed 6 = .ok (.iadd, 1) := by decide +kernel
theorem dX6_yearNamed_7 : decode cX6_yearNamed 7 = .ok (.invokestatic 36, 3) := by decide +kernel
theorem dX6_yearNamed_10 : decode cX6_yearNamed 10 = .ok (.istore 4, 2) := by decide +kernel
theorem dX6_yearNamed_12 : decode cX6_yearNamed 12 = .ok (.iload_n 3, 1) := by decide +kernel
theorem dX6_yearNamed_13 : decode cX6_yearNamed 13 = .ok (.iload_n 2, 1) := by decide +kernel
theorem dX6_yearNamed_14 : decode cX6_yearNamed 14 = .ok (.bipush 6, 2) := by decide +kernel
theorem dX6_yearNamed_16 : decode cX6_yearNamed 16 = .ok (.isub, 1) := by decide +kernel
theorem dX6_yearNamed_17 : decode cX6_yearNamed 17 = .ok (.invokestatic 41, 3) := by decide +kernel
theorem dX6_yearNamed_20 : decode cX6_yearNamed 20 = .ok (.istore 5, 2) := by decide +kernel
theorem dX6_yearNamed_22 : decode cX6_yearNamed 22 = .ok (.iload 5, 2) := by decide +kernel
theorem dX6_yearNamed_24 : decode cX6_yearNamed 24 = .ok (.iload 4, 2) := by decide +kernel
theorem dX6_yearNamed_26 : decode cX6_yearNamed 26 = .ok (.if_icmp .gt 23, 3) := by decide +kernel
theorem dX6_yearNamed_29 : decode cX6_yearNamed 29 = .ok (.aload_n 0, 1) := by decide +kernel
theorem dX6_yearNamed_30 : decode cX6_yearNamed 30 = .ok (.iload_n 1, 1) := by decide +kernel
theorem dX6_yearNamed_31 : decode cX6_yearNamed 31 = .ok (.iload 5, 2) := by decide +kernel
theorem dX6_yearNamed_33 : decode cX6_yearNamed 33 = .ok (.invokevirtual 32, 3) := by decide +kernel
theorem dX6_yearNamed_36 : decode cX6_yearNamed 36 = .ok (.iload_n 2, 1) := by decide +kernel
theorem dX6_yearNamed_37 : decode cX6_yearNamed 37 = .ok (.if_icmp .ne 6, 3) := by decide +kernel
theorem dX6_yearNamed_40 : decode cX6_yearNamed 40 = .ok (.iload 5, 2) := by decide +kernel
theorem dX6_yearNamed_42 : decode cX6_yearNamed 42 = .ok (.ireturn, 1) := by decide +kernel
theorem dX6_yearNamed_43 : decode cX6_yearNamed 43 = .ok (.iinc 5 1, 3) := by decide +kernel
theorem dX6_yearNamed_46 : decode cX6_yearNamed 46 = .ok (.goto (-24), 3) := by decide +kernel
theorem dX6_yearNamed_49 : decode cX6_yearNamed 49 = .ok (.iconst (-1), 1) := by decide +kernel
theorem dX6_yearNamed_50 : decode cX6_yearNamed 50 = .ok (.ireturn, 1) := by decide +kernel
theorem dX6_isNamedAnywhere_0 : decode cX6_isNamedAnywhere 0 = .ok (.iconst 0, 1) := by decide +kernel
theorem dX6_isNamedAnywhere_1 : decode cX6_isNamedAnywhere 1 = .ok (.istore_n 3, 1) := by decide +kernel
theorem dX6_isNamedAnywhere_2 : decode cX6_isNamedAnywhere 2 = .ok (.iload_n 3, 1) := by decide +kernel
theorem dX6_isNamedAnywhere_3 : decode cX6_isNamedAnywhere 3 = .ok (.iconst 4, 1) := by decide +kernel
theorem dX6_isNamedAnywhere_4 : decode cX6_isNamedAnywhere 4 = .ok (.if_icmp .ge 21, 3) := by decide +kernel
theorem dX6_isNamedAnywhere_7 : decode cX6_isNamedAnywhere 7 = .ok (.aload_n 0, 1) := by decide +kernel
theorem dX6_isNamedAnywhere_8 : decode cX6_isNamedAnywhere 8 = .ok (.iload_n 3, 1) := by decide +kernel
theorem dX6_isNamedAnywhere_9 : decode cX6_isNamedAnywhere 9 = .ok (.iload_n 2, 1) := by decide +kernel
theorem dX6_isNamedAnywhere_10 : decode cX6_isNamedAnywhere 10 = .ok (.invokevirtual 32, 3) := by decide +kernel
theorem dX6_isNamedAnywhere_13 : decode cX6_isNamedAnywhere 13 = .ok (.iload_n 1, 1) := by decide +kernel
theorem dX6_isNamedAnywhere_14 : decode cX6_isNamedAnywhere 14 = .ok (.if_icmp .ne 5, 3) := by decide +kernel
theorem dX6_isNamedAnywhere_17 : decode cX6_isNamedAnywhere 17 = .ok (.iconst 1, 1) := by decide +kernel
theorem dX6_isNamedAnywhere_18 : decode cX6_isNamedAnywhere 18 = .ok (.ireturn, 1) := by decide +kernel
theorem dX6_isNamedAnywhere_19 : decode cX6_isNamedAnywhere 19 = .ok (.iinc 3 1, 3) := by decide +kernel
theorem dX6_isNamedAnywhere_22 : decode cX6_isNamedAnywhere 22 = .ok (.goto (-20), 3) := by decide +kernel
theorem dX6_isNamedAnywhere_25 : decode cX6_isNamedAnywhere 25 = .ok (.iconst 0, 1) := by decide +kernel
theorem dX6_isNamedAnywhere_26 : decode cX6_isNamedAnywhere 26 = .ok (.ireturn, 1) := by decide +kernel
theorem dX6_turnsOfName_0 : decode cX6_turnsOfName 0 = .ok (.aload_n 0, 1) := by decide +kernel
theorem dX6_turnsOfName_1 : decode cX6_turnsOfName 1 = .ok (.iload_n 1, 1) := by decide +kernel
theorem dX6_turnsOfName_2 : decode cX6_turnsOfName 2 = .ok (.iload_n 2, 1) := by decide +kernel
theorem dX6_turnsOfName_3 : decode cX6_turnsOfName 3 = .ok (.invokevirtual 32, 3) := by decide +kernel
theorem dX6_turnsOfName_6 : decode cX6_turnsOfName 6 = .ok (.istore 4, 2) := by decide +kernel
theorem dX6_turnsOfName_8 : decode cX6_turnsOfName 8 = .ok (.aload_n 0, 1) := by decide +kernel
theorem dX6_turnsOfName_9 : decode cX6_turnsOfName 9 = .ok (.iload_n 1, 1) := by decide +kernel
theorem dX6_turnsOfName_10 : decode cX6_turnsOfName 10 = .ok (.iload_n 3, 1) := by decide +kernel
theorem dX6_turnsOfName_11 : decode cX6_turnsOfName 11 = .ok (.invokevirtual 32, 3) := by decide +kernel
theorem dX6_turnsOfName_14 : decode cX6_turnsOfName 14 = .ok (.istore 5, 2) := by decide +kernel
theorem dX6_turnsOfName_16 : decode cX6_turnsOfName 16 = .ok (.iload 5, 2) := by decide +kernel
theorem dX6_turnsOfName_18 : decode cX6_turnsOfName 18 = .ok (.iload 4, 2) := by decide +kernel
theorem dX6_turnsOfName_20 : decode cX6_turnsOfName 20 = .ok (.isub, 1) := by decide +kernel
theorem dX6_turnsOfName_21 : decode cX6_turnsOfName 21 = .ok (.istore 6, 2) := by decide +kernel
theorem dX6_turnsOfName_23 : decode cX6_turnsOfName 23 = .ok (.iconst 0, 1) := by decide +kernel
theorem dX6_turnsOfName_24 : decode cX6_turnsOfName 24 = .ok (.istore 7, 2) := by decide +kernel
theorem dX6_turnsOfName_26 : decode cX6_turnsOfName 26 = .ok (.iload 7, 2) := by decide +kernel
theorem dX6_turnsOfName_28 : decode cX6_turnsOfName 28 = .ok (.aload_n 0, 1) := by decide +kernel
theorem dX6_turnsOfName_29 : decode cX6_turnsOfName 29 = .ok (.getfield 24, 3) := by decide +kernel
theorem dX6_turnsOfName_32 : decode cX6_turnsOfName 32 = .ok (.if_icmp .ge 47, 3) := by decide +kernel
theorem dX6_turnsOfName_35 : decode cX6_turnsOfName 35 = .ok (.aload_n 0, 1) := by decide +kernel
theorem dX6_turnsOfName_36 : decode cX6_turnsOfName 36 = .ok (.getfield 15, 3) := by decide +kernel
theorem dX6_turnsOfName_39 : decode cX6_turnsOfName 39 = .ok (.iload 7, 2) := by decide +kernel
theorem dX6_turnsOfName_41 : decode cX6_turnsOfName 41 = .ok (.iaload, 1) := by decide +kernel
theorem dX6_turnsOfName_42 : decode cX6_turnsOfName 42 = .ok (.iload_n 1, 1) := by decide +kernel
theorem dX6_turnsOfName_43 : decode cX6_turnsOfName 43 = .ok (.if_icmp .ne 30, 3) := by decide +kernel
theorem dX6_turnsOfName_46 : decode cX6_turnsOfName 46 = .ok (.aload_n 0, 1) := by decide +kernel
theorem dX6_turnsOfName_47 : decode cX6_turnsOfName 47 = .ok (.getfield 9, 3) := by decide +kernel
theorem dX6_turnsOfName_50 : decode cX6_turnsOfName 50 = .ok (.iload 7, 2) := by decide +kernel
theorem dX6_turnsOfName_52 : decode cX6_turnsOfName 52 = .ok (.iaload, 1) := by decide +kernel
theorem dX6_turnsOfName_53 : decode cX6_turnsOfName 53 = .ok (.iload 4, 2) := by decide +kernel
theorem dX6_turnsOfName_55 : decode cX6_turnsOfName 55 = .ok (.if_icmp .le 18, 3) := by decide +kernel
theorem dX6_turnsOfName_58 : decode cX6_turnsOfName 58 = .ok (.aload_n 0, 1) := by decide +kernel
theorem dX6_turnsOfName_59 : decode cX6_turnsOfName 59 = .ok (.getfield 9, 3) := by decide +kernel
theorem dX6_turnsOfName_62 : decode cX6_turnsOfName 62 = .ok (.iload 7, 2) := by decide +kernel
theorem dX6_turnsOfName_64 : decode cX6_turnsOfName 64 = .ok (.iaload, 1) := by decide +kernel
theorem dX6_turnsOfName_65 : decode cX6_turnsOfName 65 = .ok (.iload 5, 2) := by decide +kernel
theorem dX6_turnsOfName_67 : decode cX6_turnsOfName 67 = .ok (.if_icmp .ge 6, 3) := by decide +kernel
theorem dX6_turnsOfName_70 : decode cX6_turnsOfName 70 = .ok (.iinc 6 (-1), 3) := by decide +kernel
theorem dX6_turnsOfName_73 : decode cX6_turnsOfName 73 = .ok (.iinc 7 1, 3) := by decide +kernel
theorem dX6_turnsOfName_76 : decode cX6_turnsOfName 76 = .ok (.goto (-50), 3) := by decide +kernel
theorem dX6_turnsOfName_79 : decode cX6_turnsOfName 79 = .ok (.iload 6, 2) := by decide +kernel
theorem dX6_turnsOfName_81 : decode cX6_turnsOfName 81 = .ok (.ireturn, 1) := by decide +kernel
theorem dX6_become_0 : decode cX6_become 0 = .ok (.aload_n 1, 1) := by decide +kernel
theorem dX6_become_1 : decode cX6_become 1 = .ok (.getfield 9, 3) := by decide +kernel
theorem dX6_become_4 : decode cX6_become 4 = .ok (.iconst 0, 1) := by decide +kernel
theorem dX6_become_5 : decode cX6_become 5 = .ok (.aload_n 0, 1) := by decide +kernel
theorem dX6_become_6 : decode cX6_become 6 = .ok (.getfield 9, 3) := by decide +kernel
theorem dX6_become_9 : decode cX6_become 9 = .ok (.iconst 0, 1) := by decide +kernel
theorem dX6_become_10 : decode cX6_become 10 = .ok (.bipush 6, 2) := by decide +kernel
theorem dX6_become_12 : decode cX6_become 12 = .ok (.invokestatic 44, 3) := by decide +kernel
theorem dX6_become_15 : decode cX6_become 15 = .ok (.aload_n 1, 1) := by decide +kernel
theorem dX6_become_16 : decode cX6_become 16 = .ok (.getfield 15, 3) := by decide +kernel
theorem dX6_become_19 : decode cX6_become 19 = .ok (.iconst 0, 1) := by decide +kernel
theorem dX6_become_20 : decode cX6_become 20 = .ok (.aload_n 0, 1) := by decide +kernel
theorem dX6_become_21 : decode cX6_become 21 = .ok (.getfield 15, 3) := by decide +kernel
theorem dX6_become_24 : decode cX6_become 24 = .ok (.iconst 0, 1) := by decide +kernel
theorem dX6_become_25 : decode cX6_become 25 = .ok (.bipush 6, 2) := by decide +kernel
theorem dX6_become_27 : decode cX6_become 27 = .ok (.invokestatic 44, 3) := by decide +kernel
theorem dX6_become_30 : decode cX6_become 30 = .ok (.aload_n 1, 1) := by decide +kernel
theorem dX6_become_31 : decode cX6_become 31 = .ok (.getfield 18, 3) := by decide +kernel
theorem dX6_become_34 : decode cX6_become 34 = .ok (.iconst 0, 1) := by decide +kernel
theorem dX6_become_35 : decode cX6_become 35 = .ok (.aload_n 0, 1) := by decide +kernel
theorem dX6_become_36 : decode cX6_become 36 = .ok (.getfield 18, 3) := by decide +kernel
theorem dX6_become_39 : decode cX6_become 39 = .ok (.iconst 0, 1) := by decide +kernel
theorem dX6_become_40 : decode cX6_become 40 = .ok (.bipush 6, 2) := by decide +kernel
theorem dX6_become_42 : decode cX6_become 42 = .ok (.invokestatic 44, 3) := by decide +kernel
theorem dX6_become_45 : decode cX6_become 45 = .ok (.aload_n 1, 1) := by decide +kernel
theorem dX6_become_46 : decode cX6_become 46 = .ok (.getfield 21, 3) := by decide +kernel
theorem dX6_become_49 : decode cX6_become 49 = .ok (.iconst 0, 1) := by decide +kernel
theorem dX6_become_50 : decode cX6_become 50 = .ok (.aload_n 0, 1) := by decide +kernel
theorem dX6_become_51 : decode cX6_become 51 = .ok (.getfield 21, 3) := by decide +kernel
theorem dX6_become_54 : decode cX6_become 54 = .ok (.iconst 0, 1) := by decide +kernel
theorem dX6_become_55 : decode cX6_become 55 = .ok (.bipush 6, 2) := by decide +kernel
theorem dX6_become_57 : decode cX6_become 57 = .ok (.invokestatic 44, 3) := by decide +kernel
theorem dX6_become_60 : decode cX6_become 60 = .ok (.aload_n 0, 1) := by decide +kernel
theorem dX6_become_61 : decode cX6_become 61 = .ok (.aload_n 1, 1) := by decide +kernel
theorem dX6_become_62 : decode cX6_become 62 = .ok (.getfield 24, 3) := by decide +kernel
theorem dX6_become_65 : decode cX6_become 65 = .ok (.putfield 24, 3) := by decide +kernel
theorem dX6_become_68 : decode cX6_become 68 = .ok (.return_, 1) := by decide +kernel
theorem dX7_init_0 : decode cX7_init 0 = .ok (.aload_n 0, 1) := by decide +kernel
theorem dX7_init_1 : decode cX7_init 1 = .ok (.invokespecial 3, 3) := by decide +kernel
theorem dX7_init_4 : decode cX7_init 4 = .ok (.aload_n 0, 1) := by decide +kernel
theorem dX7_init_5 : decode cX7_init 5 = .ok (.new 9, 3) := by decide +kernel
theorem dX7_init_8 : decode cX7_init 8 = .ok (.dup, 1) := by decide +kernel
theorem dX7_init_9 : decode cX7_init 9 = .ok (.invokespecial 11, 3) := by decide +kernel
theorem dX7_init_12 : decode cX7_init 12 = .ok (.putfield 12, 3) := by decide +kernel
theorem dX7_init_15 : decode cX7_init 15 = .ok (.aload_n 0, 1) := by decide +kernel
theorem dX7_init_16 : decode cX7_init 16 = .ok (.new 18, 3) := by decide +kernel
theorem dX7_init_19 : decode cX7_init 19 = .ok (.dup, 1) := by decide +kernel
theorem dX7_init_20 : decode cX7_init 20 = .ok (.invokespecial 20, 3) := by decide +kernel
theorem dX7_init_23 : decode cX7_init 23 = .ok (.putfield 21, 3) := by decide +kernel
theorem dX7_init_26 : decode cX7_init 26 = .ok (.aload_n 0, 1) := by decide +kernel
theorem dX7_init_27 : decode cX7_init 27 = .ok (.new 25, 3) := by decide +kernel
theorem dX7_init_30 : decode cX7_init 30 = .ok (.dup, 1) := by decide +kernel
theorem dX7_init_31 : decode cX7_init 31 = .ok (.invokespecial 27, 3) := by decide +kernel
theorem dX7_init_34 : decode cX7_init 34 = .ok (.putfield 28, 3) := by decide +kernel
theorem dX7_init_37 : decode cX7_init 37 = .ok (.aload_n 0, 1) := by decide +kernel
theorem dX7_init_38 : decode cX7_init 38 = .ok (.new 32, 3) := by decide +kernel
theorem dX7_init_41 : decode cX7_init 41 = .ok (.dup, 1) := by decide +kernel
theorem dX7_init_42 : decode cX7_init 42 = .ok (.invokespecial 34, 3) := by decide +kernel
theorem dX7_init_45 : decode cX7_init 45 = .ok (.putfield 35, 3) := by decide +kernel
theorem dX7_init_48 : decode cX7_init 48 = .ok (.aload_n 0, 1) := by decide +kernel
theorem dX7_init_49 : decode cX7_init 49 = .ok (.new 32, 3) := by decide +kernel
theorem dX7_init_52 : decode cX7_init 52 = .ok (.dup, 1) := by decide +kernel
theorem dX7_init_53 : decode cX7_init 53 = .ok (.invokespecial 34, 3) := by decide +kernel
theorem dX7_init_56 : decode cX7_init 56 = .ok (.putfield 39, 3) := by decide +kernel
theorem dX7_init_59 : decode cX7_init 59 = .ok (.aload_n 0, 1) := by decide +kernel
theorem dX7_init_60 : decode cX7_init 60 = .ok (.bipush 60, 2) := by decide +kernel
theorem dX7_init_62 : decode cX7_init 62 = .ok (.newarray .int, 2) := by decide +kernel
theorem dX7_init_64 : decode cX7_init 64 = .ok (.putfield 42, 3) := by decide +kernel
theorem dX7_init_67 : decode cX7_init 67 = .ok (.aload_n 0, 1) := by decide +kernel
theorem dX7_init_68 : decode cX7_init 68 = .ok (.bipush 24, 2) := by decide +kernel
theorem dX7_init_70 : decode cX7_init 70 = .ok (.newarray .int, 2) := by decide +kernel
theorem dX7_init_72 : decode cX7_init 72 = .ok (.putfield 46, 3) := by decide +kernel
theorem dX7_init_75 : decode cX7_init 75 = .ok (.aload_n 0, 1) := by decide +kernel
theorem dX7_init_76 : decode cX7_init 76 = .ok (.iconst 1, 1) := by decide +kernel
theorem dX7_init_77 : decode cX7_init 77 = .ok (.putfield 49, 3) := by decide +kernel
theorem dX7_init_80 : decode cX7_init 80 = .ok (.aload_n 0, 1) := by decide +kernel
theorem dX7_init_81 : decode cX7_init 81 = .ok (.bipush 10, 2) := by decide +kernel
theorem dX7_init_83 : decode cX7_init 83 = .ok (.newarray .int, 2) := by decide +kernel
theorem dX7_init_85 : decode cX7_init 85 = .ok (.putfield 53, 3) := by decide +kernel
theorem dX7_init_88 : decode cX7_init 88 = .ok (.return_, 1) := by decide +kernel
theorem dX7_lawOf_0 : decode cX7_lawOf 0 = .ok (.iload_n 1, 1) := by decide +kernel
theorem dX7_lawOf_1 : decode cX7_lawOf 1 = .ok (.iconst 1, 1) := by decide +kernel
theorem dX7_lawOf_2 : decode cX7_lawOf 2 = .ok (.if_icmp .ne 10, 3) := by decide +kernel
theorem dX7_lawOf_5 : decode cX7_lawOf 5 = .ok (.aload_n 0, 1) := by decide +kernel
theorem dX7_lawOf_6 : decode cX7_lawOf 6 = .ok (.getfield 39, 3) := by decide +kernel
theorem dX7_lawOf_9 : decode cX7_lawOf 9 = .ok (.goto 7, 3) := by decide +kernel
theorem dX7_lawOf_12 : decode cX7_lawOf 12 = .ok (.aload_n 0, 1) := by decide +kernel
theorem dX7_lawOf_13 : decode cX7_lawOf 13 = .ok (.getfield 35, 3) := by decide +kernel
theorem dX7_lawOf_16 : decode cX7_lawOf 16 = .ok (.areturn, 1) := by decide +kernel
theorem dX7_draw_0 : decode cX7_draw 0 = .ok (.aload_n 0, 1) := by decide +kernel
theorem dX7_draw_1 : decode cX7_draw 1 = .ok (.aload_n 0, 1) := by decide +kernel
theorem dX7_draw_2 : decode cX7_draw 2 = .ok (.getfield 49, 3) := by decide +kernel
theorem dX7_draw_5 : decode cX7_draw 5 = .ok (.ldc 56, 2) := by decide +kernel
theorem dX7_draw_7 : decode cX7_draw 7 = .ok (.imul, 1) := by decide +kernel
theorem dX7_draw_8 : decode cX7_draw 8 = .ok (.sipush 12345, 3) := by decide +kernel
theorem dX7_draw_11 : decode cX7_draw 11 = .ok (.iadd, 1) := by decide +kernel
theorem dX7_draw_12 : decode cX7_draw 12 = .ok (.putfield 49, 3) := by decide +kernel
theorem dX7_draw_15 : decode cX7_draw 15 = .ok (.aload_n 0, 1) := by decide +kernel
theorem dX7_draw_16 : decode cX7_draw 16 = .ok (.getfield 49, 3) := by decide +kernel
theorem dX7_draw_19 : decode cX7_draw 19 = .ok (.bipush 8, 2) := by decide +kernel
theorem dX7_draw_21 : decode cX7_draw 21 = .ok (.iushr, 1) := by decide +kernel
theorem dX7_draw_22 : decode cX7_draw 22 = .ok (.ireturn, 1) := by decide +kernel
theorem dX7_ageNow_0 : decode cX7_ageNow 0 = .ok (.aload_n 0, 1) := by decide +kernel
theorem dX7_ageNow_1 : decode cX7_ageNow 1 = .ok (.iload_n 1, 1) := by decide +kernel
theorem dX7_ageNow_2 : decode cX7_ageNow 2 = .ok (.aload_n 0, 1) := by decide +kernel
theorem dX7_ageNow_3 : decode cX7_ageNow 3 = .ok (.getfield 21, 3) := by decide +kernel
theorem dX7_ageNow_6 : decode cX7_ageNow 6 = .ok (.iload_n 1, 1) := by decide +kernel
theorem dX7_ageNow_7 : decode cX7_ageNow 7 = .ok (.iconst 2, 1) := by decide +kernel
theorem dX7_ageNow_8 : decode cX7_ageNow 8 = .ok (.invokevirtual 57, 3) := by decide +kernel
theorem dX7_ageNow_11 : decode cX7_ageNow 11 = .ok (.aload_n 0, 1) := by decide +kernel
theorem dX7_ageNow_12 : decode cX7_ageNow 12 = .ok (.getfield 61, 3) := by decide +kernel
theorem dX7_ageNow_15 : decode cX7_ageNow 15 = .ok (.invokevirtual 64, 3) := by decide +kernel
theorem dX7_ageNow_18 : decode cX7_ageNow 18 = .ok (.ireturn, 1) := by decide +kernel
theorem dX7_ageOf_0 : decode cX7_ageOf 0 = .ok (.aload_n 0, 1) := by decide +kernel
theorem dX7_ageOf_1 : decode cX7_ageOf 1 = .ok (.getfield 21, 3) := by decide +kernel
theorem dX7_ageOf_4 : decode cX7_ageOf 4 = .ok (.iload_n 1, 1) := by decide +kernel
theorem dX7_ageOf_5 : decode cX7_ageOf 5 = .ok (.iconst 3, 1) := by decide +kernel
theorem dX7_ageOf_6 : decode cX7_ageOf 6 = .ok (.invokevirtual 57, 3) := by decide +kernel
theorem dX7_ageOf_9 : decode cX7_ageOf 9 = .ok (.istore 4, 2) := by decide +kernel
theorem dX7_ageOf_11 : decode cX7_ageOf 11 = .ok (.iload_n 3, 1) := by decide +kernel
theorem dX7_ageOf_12 : decode cX7_ageOf 12 = .ok (.iload 4, 2) := by decide +kernel
theorem dX7_ageOf_14 : decode cX7_ageOf 14 = .ok (.if_icmp .ge 5, 3) := by decide +kernel
theorem dX7_ageOf_17 : decode cX7_ageOf 17 = .ok (.iconst 0, 1) := by decide +kernel
theorem dX7_ageOf_18 : decode cX7_ageOf 18 = .ok (.ireturn, 1) := by decide +kernel
theorem dX7_ageOf_19 : decode cX7_ageOf 19 = .ok (.iload_n 3, 1) := by decide +kernel
theorem dX7_ageOf_20 : decode cX7_ageOf 20 = .ok (.iload 4, 2) := by decide +kernel
theorem dX7_ageOf_22 : decode cX7_ageOf 22 = .ok (.isub, 1) := by decide +kernel
theorem dX7_ageOf_23 : decode cX7_ageOf 23 = .ok (.sipush 365, 3) := by decide +kernel
theorem dX7_ageOf_26 : decode cX7_ageOf 26 = .ok (.idiv, 1) := by decide +kernel
theorem dX7_ageOf_27 : decode cX7_ageOf 27 = .ok (.istore 5, 2) := by decide +kernel
theorem dX7_ageOf_29 : decode cX7_ageOf 29 = .ok (.aload_n 0, 1) := by decide +kernel
theorem dX7_ageOf_30 : decode cX7_ageOf 30 = .ok (.getfield 21, 3) := by decide +kernel
theorem dX7_ageOf_33 : decode cX7_ageOf 33 = .ok (.iload_n 1, 1) := by decide +kernel
theorem dX7_ageOf_34 : decode cX7_ageOf 34 = .ok (.iconst 1, 1) := by decide +kernel
theorem dX7_ageOf_35 : decode cX7_ageOf 35 = .ok (.invokevirtual 57, 3) := by decide +kernel
theorem dX7_ageOf_38 : decode cX7_ageOf 38 = .ok (.istore 6, 2) := by decide +kernel
theorem dX7_ageOf_40 : decode cX7_ageOf 40 = .ok (.aload_n 0, 1) := by decide +kernel
theorem dX7_ageOf_41 : decode cX7_ageOf 41 = .ok (.getfield 21, 3) := by decide +kernel
theorem dX7_ageOf_44 : decode cX7_ageOf 44 = .ok (.iload_n 1, 1) := by decide +kernel
theorem dX7_ageOf_45 : decode cX7_ageOf 45 = .ok (.iconst 0, 1) := by decide +kernel
theorem dX7_ageOf_46 : decode cX7_ageOf 46 = .ok (.invokevirtual 57, 3) := by decide +kernel
theorem dX7_ageOf_49 : decode cX7_ageOf 49 = .ok (.tableswitch 108 0 5 #[39, 42, 50, 70, 76, 91], 39) := by decide +kernel
theorem dX7_ageOf_88 : decode cX7_ageOf 88 = .ok (.iload 5, 2) := by decide +kernel
theorem dX7_ageOf_90 : decode cX7_ageOf 90 = .ok (.ireturn, 1) := by decide +kernel
theorem dX7_ageOf_91 : decode cX7_ageOf 91 = .ok (.aload_n 0, 1) := by decide +kernel
theorem dX7_ageOf_92 : decode cX7_ageOf 92 = .ok (.iload_n 1, 1) := by decide +kernel
theorem dX7_ageOf_93 : decode cX7_ageOf 93 = .ok (.iload_n 2, 1) := by decide +kernel
theorem dX7_ageOf_94 : decode cX7_ageOf 94 = .ok (.iload_n 3, 1) := by decide +kernel
theorem dX7_ageOf_95 : decode cX7_ageOf 95 = .ok (.invokevirtual 68, 3) := by decide +kernel
theorem dX7_ageOf_98 : decode cX7_ageOf 98 = .ok (.ireturn, 1) := by decide +kernel
theorem dX7_ageOf_99 : decode cX7_ageOf 99 = .ok (.aload_n 0, 1) := by decide +kernel
theorem dX7_ageOf_100 : decode cX7_ageOf 100 = .ok (.getfield 12, 3) := by decide +kernel
theorem dX7_ageOf_103 : decode cX7_ageOf 103 = .ok (.iload_n 2, 1) := by decide +kernel
theorem dX7_ageOf_104 : decode cX7_ageOf 104 = .ok (.iload 4, 2) := by decide +kernel
theorem dX7_ageOf_106 : decode cX7_ageOf 106 = .ok (.sipush 365, 3) := by decide +kernel
theorem dX7_ageOf_109 : decode cX7_ageOf 109 = .ok (.idiv, 1) := by decide +kernel
theorem dX7_ageOf_110 : decode cX7_ageOf 110 = .ok (.iload_n 3, 1) := by decide +kernel
theorem dX7_ageOf_111 : decode cX7_ageOf 111 = .ok (.sipush 365, 3) := by decide +kernel
theorem dX7_ageOf_114 : decode cX7_ageOf 114 = .ok (.idiv, 1) := by decide +kernel
theorem dX7_ageOf_115 : decode cX7_ageOf 115 = .ok (.invokevirtual 71, 3) := by decide +kernel
theorem dX7_ageOf_118 : decode cX7_ageOf 118 = .ok (.ireturn, 1) := by decide +kernel
theorem dX7_ageOf_119 : decode cX7_ageOf 119 = .ok (.iload 5, 2) := by decide +kernel
theorem dX7_ageOf_121 : decode cX7_ageOf 121 = .ok (.iload 6, 2) := by decide +kernel
theorem dX7_ageOf_123 : decode cX7_ageOf 123 = .ok (.iadd, 1) := by decide +kernel
theorem dX7_ageOf_124 : decode cX7_ageOf 124 = .ok (.ireturn, 1) := by decide +kernel
theorem dX7_ageOf_125 : decode cX7_ageOf 125 = .ok (.iconst 0, 1) := by decide +kernel
theorem dX7_ageOf_126 : decode cX7_ageOf 126 = .ok (.aload_n 0, 1) := by decide +kernel
theorem dX7_ageOf_127 : decode cX7_ageOf 127 = .ok (.iload_n 1, 1) := by decide +kernel
theorem dX7_ageOf_128 : decode cX7_ageOf 128 = .ok (.iload_n 2, 1) := by decide +kernel
theorem dX7_ageOf_129 : decode cX7_ageOf 129 = .ok (.iload_n 3, 1) := by decide +kernel
theorem dX7_ageOf_130 : decode cX7_ageOf 130 = .ok (.invokevirtual 68, 3) := by decide +kernel
theorem dX7_ageOf_133 : decode cX7_ageOf 133 = .ok (.iload 6, 2) := by decide +kernel
theorem dX7_ageOf_135 : decode cX7_ageOf 135 = .ok (.isub, 1) := by decide +kernel
theorem dX7_ageOf_136 : decode cX7_ageOf 136 = .ok (.invokestatic 74, 3) := by decide +kernel
theorem dX7_ageOf_139 : decode cX7_ageOf 139 = .ok (.ireturn, 1) := by decide +kernel
theorem dX7_ageOf_140 : decode cX7_ageOf 140 = .ok (.aload_n 0, 1) := by decide +kernel
theorem dX7_ageOf_141 : decode cX7_ageOf 141 = .ok (.iload_n 1, 1) := by decide +kernel
theorem dX7_ageOf_142 : decode cX7_ageOf 142 = .ok (.iload_n 2, 1) := by decide +kernel
theorem dX7_ageOf_143 : decode cX7_ageOf 143 = .ok (.iload_n 3, 1) := by decide +kernel
theorem dX7_ageOf_144 : decode cX7_ageOf 144 = .ok (.invokevirtual 68, 3) := by decide +kernel
theorem dX7_ageOf_147 : decode cX7_ageOf 147 = .ok (.aload_n 0, 1) := by decide +kernel
theorem dX7_ageOf_148 : decode cX7_ageOf 148 = .ok (.getfield 12, 3) := by decide +kernel
theorem dX7_ageOf_151 : decode cX7_ageOf 151 = .ok (.iload_n 2, 1) := by decide +kernel
theorem dX7_ageOf_152 : decode cX7_ageOf 152 = .ok (.invokevirtual 79, 3) := by decide +kernel
theorem dX7_ageOf_155 : decode cX7_ageOf 155 = .ok (.iadd, 1) := by decide +kernel
theorem dX7_ageOf_156 : decode cX7_ageOf 156 = .ok (.ireturn, 1) := by decide +kernel
theorem dX7_ageOf_157 : decode cX7_ageOf 157 = .ok (.aload_n 0, 1) := by decide +kernel
theorem dX7_ageOf_158 : decode cX7_ageOf 158 = .ok (.aload_n 0, 1) := by decide +kernel
theorem dX7_ageOf_159 : decode cX7_ageOf 159 = .ok (.iload_n 1, 1) := by decide +kernel
theorem dX7_ageOf_160 : decode cX7_ageOf 160 = .ok (.iload_n 2, 1) := by decide +kernel
theorem dX7_ageOf_161 : decode cX7_ageOf 161 = .ok (.iload_n 3, 1) := by decide +kernel
theorem dX7_ageOf_162 : decode cX7_ageOf 162 = .ok (.invokevirtual 68, 3) := by decide +kernel
theorem dX7_ageOf_165 : decode cX7_ageOf 165 = .ok (.iload 5, 2) := by decide +kernel
theorem dX7_ageOf_167 : decode cX7_ageOf 167 = .ok (.iload 6, 2) := by decide +kernel
theorem dX7_ageOf_169 : decode cX7_ageOf 169 = .ok (.invokevirtual 83, 3) := by decide +kernel
theorem dX7_ageOf_172 : decode cX7_ageOf 172 = .ok (.ireturn, 1) := by decide +kernel
theorem dX7_ageByBook_0 : decode cX7_ageByBook 0 = .ok (.aload_n 0, 1) := by decide +kernel
theorem dX7_ageByBook_1 : decode cX7_ageByBook 1 = .ok (.getfield 21, 3) := by decide +kernel
theorem dX7_ageByBook_4 : decode cX7_ageByBook 4 = .ok (.iload_n 1, 1) := by decide +kernel
theorem dX7_ageByBook_5 : decode cX7_ageByBook 5 = .ok (.iconst 3, 1) := by decide +kernel
theorem dX7_ageByBook_6 : decode cX7_ageByBook 6 = .ok (.invokevirtual 57, 3) := by decide +kernel
theorem dX7_ageByBook_9 : decode cX7_ageByBook 9 = .ok (.istore 4, 2) := by decide +kernel
theorem dX7_ageByBook_11 : decode cX7_ageByBook 11 = .ok (.aload_n 0, 1) := by decide +kernel
theorem dX7_ageByBook_12 : decode cX7_ageByBook 12 = .ok (.getfield 12, 3) := by decide +kernel
theorem dX7_ageByBook_15 : decode cX7_ageByBook 15 = .ok (.iload_n 2, 1) := by decide +kernel
theorem dX7_ageByBook_16 : decode cX7_ageByBook 16 = .ok (.iload_n 3, 1) := by decide +kernel
theorem dX7_ageByBook_17 : decode cX7_ageByBook 17 = .ok (.sipush 365, 3) := by decide +kernel
theorem dX7_ageByBook_20 : decode cX7_ageByBook 20 = .ok (.idiv, 1) := by decide +kernel
theorem dX7_ageByBook_21 : decode cX7_ageByBook 21 = .ok (.invokevirtual 86, 3) := by decide +kernel
theorem dX7_ageByBook_24 : decode cX7_ageByBook 24 = .ok (.aload_n 0, 1) := by decide +kernel
theorem dX7_ageByBook_25 : decode cX7_ageByBook 25 = .ok (.getfield 12, 3) := by decide +kernel
theorem dX7_ageByBook_28 : decode cX7_ageByBook 28 = .ok (.aload_n 0, 1) := by decide +kernel
theorem dX7_ageByBook_29 : decode cX7_ageByBook 29 = .ok (.getfield 21, 3) := by decide +kernel
theorem dX7_ageByBook_32 : decode cX7_ageByBook 32 = .ok (.iload_n 1, 1) := by decide +kernel
theorem dX7_ageByBook_33 : decode cX7_ageByBook 33 = .ok (.iconst 2, 1) := by decide +kernel
theorem dX7_ageByBook_34 : decode cX7_ageByBook 34 = .ok (.invokevirtual 57, 3) := by decide +kernel
theorem dX7_ageByBook_37 : decode cX7_ageByBook 37 = .ok (.iload 4, 2) := by decide +kernel
theorem dX7_ageByBook_39 : decode cX7_ageByBook 39 = .ok (.sipush 365, 3) := by decide +kernel
theorem dX7_ageByBook_42 : decode cX7_ageByBook 42 = .ok (.idiv, 1) := by decide +kernel
theorem dX7_ageByBook_43 : decode cX7_ageByBook 43 = .ok (.invokevirtual 86, 3) := by decide +kernel
theorem dX7_ageByBook_46 : decode cX7_ageByBook 46 = .ok (.isub, 1) := by decide +kernel
theorem dX7_ageByBook_47 : decode cX7_ageByBook 47 = .ok (.istore 5, 2) := by decide +kernel
theorem dX7_ageByBook_49 : decode cX7_ageByBook 49 = .ok (.iload_n 3, 1) := by decide +kernel
theorem dX7_ageByBook_50 : decode cX7_ageByBook 50 = .ok (.sipush 365, 3) := by decide +kernel
theorem dX7_ageByBook_53 : decode cX7_ageByBook 53 = .ok (.irem, 1) := by decide +kernel
theorem dX7_ageByBook_54 : decode cX7_ageByBook 54 = .ok (.iload 4, 2) := by decide +kernel
theorem dX7_ageByBook_56 : decode cX7_ageByBook 56 = .ok (.sipush 365, 3) := by decide +kernel
theorem dX7_ageByBook_59 : decode cX7_ageByBook 59 = .ok (.irem, 1) := by decide +kernel
theorem dX7_ageByBook_60 : decode cX7_ageByBook 60 = .ok (.if_icmp .ge 6, 3) := by decide +kernel
theorem dX7_ageByBook_63 : decode cX7_ageByBook 63 = .ok (.iinc 5 (-1), 3) := by decide +kernel
theorem dX7_ageByBook_66 : decode cX7_ageByBook 66 = .ok (.iconst 0, 1) := by decide +kernel
theorem dX7_ageByBook_67 : decode cX7_ageByBook 67 = .ok (.iload 5, 2) := by decide +kernel
theorem dX7_ageByBook_69 : decode cX7_ageByBook 69 = .ok (.invokestatic 74, 3) := by decide +kernel
theorem dX7_ageByBook_72 : decode cX7_ageByBook 72 = .ok (.ireturn, 1) := by decide +kernel
theorem dX7_ageByLaw_0 : decode cX7_ageByLaw 0 = .ok (.aload_n 0, 1) := by decide +kernel
theorem dX7_ageByLaw_1 : decode cX7_ageByLaw 1 = .ok (.getfield 35, 3) := by decide +kernel
theorem dX7_ageByLaw_4 : decode cX7_ageByLaw 4 = .ok (.getfield 89, 3) := by decide +kernel
theorem dX7_ageByLaw_7 : decode cX7_ageByLaw 7 = .ok (.ifCond .eq 23, 3) := by decide +kernel
theorem dX7_ageByLaw_10 : decode cX7_ageByLaw 10 = .ok (.aload_n 0, 1) := by decide +kernel
theorem dX7_ageByLaw_11 : decode cX7_ageByLaw 11 = .ok (.getfield 35, 3) := by decide +kernel
theorem dX7_ageByLaw_14 : decode cX7_ageByLaw 14 = .ok (.iload_n 1, 1) := by decide +kernel
theorem dX7_ageByLaw_15 : decode cX7_ageByLaw 15 = .ok (.iload_n 2, 1) := by decide +kernel
theorem dX7_ageByLaw_16 : decode cX7_ageByLaw 16 = .ok (.iload_n 3, 1) := by decide +kernel
theorem dX7_ageByLaw_17 : decode cX7_ageByLaw 17 = .ok (.invokevirtual 93, 3) := by decide +kernel
theorem dX7_ageByLaw_20 : decode cX7_ageByLaw 20 = .ok (.iconst 0, 1) := by decide +kernel
theorem dX7_ageByLaw_21 : decode cX7_ageByLaw 21 = .ok (.sipush 999, 3) := by decide +kernel
theorem dX7_ageByLaw_24 : decode cX7_ageByLaw 24 = .ok (.invokestatic 96, 3) := by decide +kernel
theorem dX7_ageByLaw_27 : decode cX7_ageByLaw 27 = .ok (.goto 8, 3) := by decide +kernel
theorem dX7_ageByLaw_30 : decode cX7_ageByLaw 30 = .ok (.iload_n 1, 1) := by decide +kernel
theorem dX7_ageByLaw_31 : decode cX7_ageByLaw 31 = .ok (.iload_n 2, 1) := by decide +kernel
theorem dX7_ageByLaw_32 : decode cX7_ageByLaw 32 = .ok (.invokestatic 74, 3) := by decide +kernel
theorem dX7_ageByLaw_35 : decode cX7_ageByLaw 35 = .ok (.ireturn, 1) := by decide +kernel
theorem dX7_dayOfAge_0 : decode cX7_dayOfAge 0 = .ok (.aload_n 0, 1) := by decide +kernel
theorem dX7_dayOfAge_1 : decode cX7_dayOfAge 1 = .ok (.getfield 21, 3) := by decide +kernel
theorem dX7_dayOfAge_4 : decode cX7_dayOfAge 4 = .ok (.iload_n 1, 1) := by decide +kernel
theorem dX7_dayOfAge_5 : decode cX7_dayOfAge 5 = .ok (.iconst 3, 1) := by decide +kernel
theorem dX7_dayOfAge_6 : decode cX7_dayOfAge 6 = .ok (.invokevirtual 57, 3) := by decide +kernel
theorem dX7_dayOfAge_9 : decode cX7_dayOfAge 9 = .ok (.istore 4, 2) := by decide +kernel
theorem dX7_dayOfAge_11 : decode cX7_dayOfAge 11 = .ok (.aload_n 0, 1) := by decide +kernel
theorem dX7_dayOfAge_12 : decode cX7_dayOfAge 12 = .ok (.iload_n 1, 1) := by decide +kernel
theorem dX7_dayOfAge_13 : decode cX7_dayOfAge 13 = .ok (.iload_n 2, 1) := by decide +kernel
theorem dX7_dayOfAge_14 : decode cX7_dayOfAge 14 = .ok (.iload 4, 2) := by decide +kernel
theorem dX7_dayOfAge_16 : decode cX7_dayOfAge 16 = .ok (.invokevirtual 64, 3) := by decide +kernel
theorem dX7_dayOfAge_19 : decode cX7_dayOfAge 19 = .ok (.iload_n 3, 1) := by decide +kernel
theorem dX7_dayOfAge_20 : decode cX7_dayOfAge 20 = .ok (.if_icmp .lt 6, 3) := by decide +kernel
theorem dX7_dayOfAge_23 : decode cX7_dayOfAge 23 = .ok (.iload 4, 2) := by decide +kernel
theorem dX7_dayOfAge_25 : decode cX7_dayOfAge 25 = .ok (.ireturn, 1) := by decide +kernel
theorem dX7_dayOfAge_26 : decode cX7_dayOfAge 26 = .ok (.iload 4, 2) := by decide +kernel
theorem dX7_dayOfAge_28 : decode cX7_dayOfAge 28 = .ok (.sipush 365, 3) := by decide +kernel
theorem dX7_dayOfAge_31 : decode cX7_dayOfAge 31 = .ok (.idiv, 1) := by decide +kernel
theorem dX7_dayOfAge_32 : decode cX7_dayOfAge 32 = .ok (.iconst 1, 1) := by decide +kernel
theorem dX7_dayOfAge_33 : decode cX7_dayOfAge 33 = .ok (.iadd, 1) := by decide +kernel
theorem dX7_dayOfAge_34 : decode cX7_dayOfAge 34 = .ok (.istore 5, 2) := by decide +kernel
theorem dX7_dayOfAge_36 : decode cX7_dayOfAge 36 = .ok (.iload 5, 2) := by decide +kernel
theorem dX7_dayOfAge_38 : decode cX7_dayOfAge 38 = .ok (.sipush 200, 3) := by decide +kernel
theorem dX7_dayOfAge_41 : decode cX7_dayOfAge 41 = .ok (.if_icmp .ge 58, 3) := by decide +kernel
theorem dX7_dayOfAge_44 : decode cX7_dayOfAge 44 = .ok (.iload 5, 2) := by decide +kernel
theorem dX7_dayOfAge_46 : decode cX7_dayOfAge 46 = .ok (.sipush 365, 3) := by decide +kernel
theorem dX7_dayOfAge_49 : decode cX7_dayOfAge 49 = .ok (.imul, 1) := by decide +kernel
theorem dX7_dayOfAge_50 : decode cX7_dayOfAge 50 = .ok (.istore 6, 2) := by decide +kernel
theorem dX7_dayOfAge_52 : decode cX7_dayOfAge 52 = .ok (.aload_n 0, 1) := by decide +kernel
theorem dX7_dayOfAge_53 : decode cX7_dayOfAge 53 = .ok (.iload_n 1, 1) := by decide +kernel
theorem dX7_dayOfAge_54 : decode cX7_dayOfAge 54 = .ok (.iload_n 2, 1) := by decide +kernel
theorem dX7_dayOfAge_55 : decode cX7_dayOfAge 55 = .ok (.iload 6, 2) := by decide +kernel
theorem dX7_dayOfAge_57 : decode cX7_dayOfAge 57 = .ok (.invokevirtual 64, 3) := by decide +kernel
theorem dX7_dayOfAge_60 : decode cX7_dayOfAge 60 = .ok (.iload_n 3, 1) := by decide +kernel
theorem dX7_dayOfAge_61 : decode cX7_dayOfAge 61 = .ok (.if_icmp .lt 6, 3) := by decide +kernel
theorem dX7_dayOfAge_64 : decode cX7_dayOfAge 64 = .ok (.iload 6, 2) := by decide +kernel
theorem dX7_dayOfAge_66 : decode cX7_dayOfAge 66 = .ok (.ireturn, 1) := by decide +kernel
theorem dX7_dayOfAge_67 : decode cX7_dayOfAge 67 = .ok (.iload 6, 2) := by decide +kernel
theorem dX7_dayOfAge_69 : decode cX7_dayOfAge 69 = .ok (.iload 4, 2) := by decide +kernel
theorem dX7_dayOfAge_71 : decode cX7_dayOfAge 71 = .ok (.sipush 365, 3) := by decide +kernel
theorem dX7_dayOfAge_74 : decode cX7_dayOfAge 74 = .ok (.irem, 1) := by decide +kernel
theorem dX7_dayOfAge_75 : decode cX7_dayOfAge 75 = .ok (.iadd, 1) := by decide +kernel
theorem dX7_dayOfAge_76 : decode cX7_dayOfAge 76 = .ok (.istore 7, 2) := by decide +kernel
theorem dX7_dayOfAge_78 : decode cX7_dayOfAge 78 = .ok (.aload_n 0, 1) := by decide +kernel
theorem dX7_dayOfAge_79 : decode cX7_dayOfAge 79 = .ok (.iload_n 1, 1) := by decide +kernel
theorem dX7_dayOfAge_80 : decode cX7_dayOfAge 80 = .ok (.iload_n 2, 1) := by decide +kernel
theorem dX7_dayOfAge_81 : decode cX7_dayOfAge 81 = .ok (.iload 7, 2) := by decide +kernel
theorem dX7_dayOfAge_83 : decode cX7_dayOfAge 83 = .ok (.invokevirtual 64, 3) := by decide +kernel
theorem dX7_dayOfAge_86 : decode cX7_dayOfAge 86 = .ok (.iload_n 3, 1) := by decide +kernel
theorem dX7_dayOfAge_87 : decode cX7_dayOfAge 87 = .ok (.if_icmp .lt 6, 3) := by decide +kernel
theorem dX7_dayOfAge_90 : decode cX7_dayOfAge 90 = .ok (.iload 7, 2) := by decide +kernel
theorem dX7_dayOfAge_92 : decode cX7_dayOfAge 92 = .ok (.ireturn, 1) := by decide +kernel
theorem dX7_dayOfAge_93 : decode cX7_dayOfAge 93 = .ok (.iinc 5 1, 3) := by decide +kernel
theorem dX7_dayOfAge_96 : decode cX7_dayOfAge 96 = .ok (.goto (-60), 3) := by decide +kernel
theorem dX7_dayOfAge_99 : decode cX7_dayOfAge 99 = .ok (.iconst (-1), 1) := by decide +kernel
theorem dX7_dayOfAge_100 : decode cX7_dayOfAge 100 = .ok (.ireturn, 1) := by decide +kernel
theorem dX7_worthNow_0 : decode cX7_worthNow 0 = .ok (.aload_n 0, 1) := by decide +kernel
theorem dX7_worthNow_1 : decode cX7_worthNow 1 = .ok (.iload_n 1, 1) := by decide +kernel
theorem dX7_worthNow_2 : decode cX7_worthNow 2 = .ok (.invokevirtual 99, 3) := by decide +kernel
theorem dX7_worthNow_5 : decode cX7_worthNow 5 = .ok (.istore_n 2, 1) := by decide +kernel
theorem dX7_worthNow_6 : decode cX7_worthNow 6 = .ok (.aload_n 0, 1) := by decide +kernel
theorem dX7_worthNow_7 : decode cX7_worthNow 7 = .ok (.getfield 21, 3) := by decide +kernel
theorem dX7_worthNow_10 : decode cX7_worthNow 10 = .ok (.iload_n 1, 1) := by decide +kernel
theorem dX7_worthNow_11 : decode cX7_worthNow 11 = .ok (.iconst 1, 1) := by decide +kernel
theorem dX7_worthNow_12 : decode cX7_worthNow 12 = .ok (.invokevirtual 57, 3) := by decide +kernel
theorem dX7_worthNow_15 : decode cX7_worthNow 15 = .ok (.istore_n 3, 1) := by decide +kernel
theorem dX7_worthNow_16 : decode cX7_worthNow 16 = .ok (.aload_n 0, 1) := by decide +kernel
theorem dX7_worthNow_17 : decode cX7_worthNow 17 = .ok (.getfield 39, 3) := by decide +kernel
theorem dX7_worthNow_20 : decode cX7_worthNow 20 = .ok (.getfield 89, 3) := by decide +kernel
theorem dX7_worthNow_23 : decode cX7_worthNow 23 = .ok (.ifCond .eq 24, 3) := by decide +kernel
theorem dX7_worthNow_26 : decode cX7_worthNow 26 = .ok (.aload_n 0, 1) := by decide +kernel
theorem dX7_worthNow_27 : decode cX7_worthNow 27 = .ok (.getfield 39, 3) := by decide +kernel
theorem dX7_worthNow_30 : decode cX7_worthNow 30 = .ok (.iload_n 2, 1) := by decide +kernel
theorem dX7_worthNow_31 : decode cX7_worthNow 31 = .ok (.aload_n 0, 1) := by decide +kernel
theorem dX7_worthNow_32 : decode cX7_worthNow 32 = .ok (.getfield 21, 3) := by decide +kernel
theorem dX7_worthNow_35 : decode cX7_worthNow 35 = .ok (.iload_n 1, 1) := by decide +kernel
theorem dX7_worthNow_36 : decode cX7_worthNow 36 = .ok (.iconst 0, 1) := by decide +kernel
theorem dX7_worthNow_37 : decode cX7_worthNow 37 = .ok (.invokevirtual 57, 3) := by decide +kernel
theorem dX7_worthNow_40 : decode cX7_worthNow 40 = .ok (.iload_n 3, 1) := by decide +kernel
theorem dX7_worthNow_41 : decode cX7_worthNow 41 = .ok (.invokevirtual 93, 3) := by decide +kernel
theorem dX7_worthNow_44 : decode cX7_worthNow 44 = .ok (.goto 9, 3) := by decide +kernel
theorem dX7_worthNow_47 : decode cX7_worthNow 47 = .ok (.iload_n 2, 1) := by decide +kernel
theorem dX7_worthNow_48 : decode cX7_worthNow 48 = .ok (.bipush 10, 2) := by decide +kernel
theorem dX7_worthNow_50 : decode cX7_worthNow 50 = .ok (.imul, 1) := by decide +kernel
theorem dX7_worthNow_51 : decode cX7_worthNow 51 = .ok (.iload_n 3, 1) := by decide +kernel
theorem dX7_worthNow_52 : decode cX7_worthNow 52 = .ok (.iadd, 1) := by decide +kernel
theorem dX7_worthNow_53 : decode cX7_worthNow 53 = .ok (.istore 4, 2) := by decide +kernel
theorem dX7_worthNow_55 : decode cX7_worthNow 55 = .ok (.iload 4, 2) := by decide +kernel
theorem dX7_worthNow_57 : decode cX7_worthNow 57 = .ok (.sipush (-9999), 3) := by decide +kernel
theorem dX7_worthNow_60 : decode cX7_worthNow 60 = .ok (.sipush 9999, 3) := by decide +kernel
theorem dX7_worthNow_63 : decode cX7_worthNow 63 = .ok (.invokestatic 96, 3) := by decide +kernel
theorem dX7_worthNow_66 : decode cX7_worthNow 66 = .ok (.ireturn, 1) := by decide +kernel
theorem dX7_worthOfAll_0 : decode cX7_worthOfAll 0 = .ok (.iconst 0, 1) := by decide +kernel
theorem dX7_worthOfAll_1 : decode cX7_worthOfAll 1 = .ok (.istore_n 1, 1) := by decide +kernel
theorem dX7_worthOfAll_2 : decode cX7_worthOfAll 2 = .ok (.iconst 0, 1) := by decide +kernel
theorem dX7_worthOfAll_3 : decode cX7_worthOfAll 3 = .ok (.istore_n 2, 1) := by decide +kernel
theorem dX7_worthOfAll_4 : decode cX7_worthOfAll 4 = .ok (.iload_n 2, 1) := by decide +kernel
theorem dX7_worthOfAll_5 : decode cX7_worthOfAll 5 = .ok (.aload_n 0, 1) := by decide +kernel
theorem dX7_worthOfAll_6 : decode cX7_worthOfAll 6 = .ok (.getfield 21, 3) := by decide +kernel
theorem dX7_worthOfAll_9 : decode cX7_worthOfAll 9 = .ok (.getfield 102, 3) := by decide +kernel
theorem dX7_worthOfAll_12 : decode cX7_worthOfAll 12 = .ok (.if_icmp .ge 17, 3) := by decide +kernel
theorem dX7_worthOfAll_15 : decode cX7_worthOfAll 15 = .ok (.iload_n 1, 1) := by decide +kernel
theorem dX7_worthOfAll_16 : decode cX7_worthOfAll 16 = .ok (.aload_n 0, 1) := by decide +kernel
theorem dX7_worthOfAll_17 : decode cX7_worthOfAll 17 = .ok (.iload_n 2, 1) := by decide +kernel
theorem dX7_worthOfAll_18 : decode cX7_worthOfAll 18 = .ok (.invokevirtual 105, 3) := by decide +kernel
theorem dX7_worthOfAll_21 : decode cX7_worthOfAll 21 = .ok (.iadd, 1) := by decide +kernel
theorem dX7_worthOfAll_22 : decode cX7_worthOfAll 22 = .ok (.istore_n 1, 1) := by decide +kernel
theorem dX7_worthOfAll_23 : decode cX7_worthOfAll 23 = .ok (.iinc 2 1, 3) := by decide +kernel
theorem dX7_worthOfAll_26 : decode cX7_worthOfAll 26 = .ok (.goto (-22), 3) := by decide +kernel
theorem dX7_worthOfAll_29 : decode cX7_worthOfAll 29 = .ok (.iload_n 1, 1) := by decide +kernel
theorem dX7_worthOfAll_30 : decode cX7_worthOfAll 30 = .ok (.ireturn, 1) := by decide +kernel
theorem dX7_areTwins_0 : decode cX7_areTwins 0 = .ok (.aload_n 0, 1) := by decide +kernel
theorem dX7_areTwins_1 : decode cX7_areTwins 1 = .ok (.getfield 21, 3) := by decide +kernel
theorem dX7_areTwins_4 : decode cX7_areTwins 4 = .ok (.iload_n 1, 1) := by decide +kernel
theorem dX7_areTwins_5 : decode cX7_areTwins 5 = .ok (.iconst 2, 1) := by decide +kernel
theorem dX7_areTwins_6 : decode cX7_areTwins 6 = .ok (.invokevirtual 57, 3) := by decide +kernel
theorem dX7_areTwins_9 : decode cX7_areTwins 9 = .ok (.istore_n 3, 1) := by decide +kernel
theorem dX7_areTwins_10 : decode cX7_areTwins 10 = .ok (.aload_n 0, 1) := by decide +kernel
theorem dX7_areTwins_11 : decode cX7_areTwins 11 = .ok (.getfield 21, 3) := by decide +kernel
theorem dX7_areTwins_14 : decode cX7_areTwins 14 = .ok (.iload_n 1, 1) := by decide +kernel
theorem dX7_areTwins_15 : decode cX7_areTwins 15 = .ok (.iconst 3, 1) := by decide +kernel
theorem dX7_areTwins_16 : decode cX7_areTwins 16 = .ok (.invokevirtual 57, 3) := by decide +kernel
theorem dX7_areTwins_19 : decode cX7_areTwins 19 = .ok (.istore 4, 2) := by decide +kernel
theorem dX7_areTwins_21 : decode cX7_areTwins 21 = .ok (.aload_n 0, 1) := by decide +kernel
theorem dX7_areTwins_22 : decode cX7_areTwins 22 = .ok (.getfield 21, 3) := by decide +kernel
theorem dX7_areTwins_25 : decode cX7_areTwins 25 = .ok (.iload_n 2, 1) := by decide +kernel
theorem dX7_areTwins_26 : decode cX7_areTwins 26 = .ok (.iconst 3, 1) := by decide +kernel
theorem dX7_areTwins_27 : decode cX7_areTwins 27 = .ok (.invokevirtual 57, 3) := by decide +kernel
theorem dX7_areTwins_30 : decode cX7_areTwins 30 = .ok (.istore 5, 2) := by decide +kernel
theorem dX7_areTwins_32 : decode cX7_areTwins 32 = .ok (.aload_n 0, 1) := by decide +kernel
theorem dX7_areTwins_33 : decode cX7_areTwins 33 = .ok (.getfield 21, 3) := by decide +kernel
theorem dX7_areTwins_36 : decode cX7_areTwins 36 = .ok (.iload_n 1, 1) := by decide +kernel
theorem dX7_areTwins_37 : decode cX7_areTwins 37 = .ok (.iconst 1, 1) := by decide +kernel
theorem dX7_areTwins_38 : decode cX7_areTwins 38 = .ok (.invokevirtual 108, 3) := by decide +kernel
theorem dX7_areTwins_41 : decode cX7_areTwins 41 = .ok (.ifCond .eq 62, 3) := by decide +kernel
theorem dX7_areTwins_44 : decode cX7_areTwins 44 = .ok (.aload_n 0, 1) := by decide +kernel
theorem dX7_areTwins_45 : decode cX7_areTwins 45 = .ok (.getfield 21, 3) := by decide +kernel
theorem dX7_areTwins_48 : decode cX7_areTwins 48 = .ok (.iload_n 2, 1) := by decide +kernel
theorem dX7_areTwins_49 : decode cX7_areTwins 49 = .ok (.iconst 1, 1) := by decide +kernel
theorem dX7_areTwins_50 : decode cX7_areTwins 50 = .ok (.invokevirtual 108, 3) := by decide +kernel
theorem dX7_areTwins_53 : decode cX7_areTwins 53 = .ok (.ifCond .eq 50, 3) := by decide +kernel
theorem dX7_areTwins_56 : decode cX7_areTwins 56 = .ok (.aload_n 0, 1) := by decide +kernel
theorem dX7_areTwins_57 : decode cX7_areTwins 57 = .ok (.getfield 21, 3) := by decide +kernel
theorem dX7_areTwins_60 : decode cX7_areTwins 60 = .ok (.iload_n 2, 1) := by decide +kernel
theorem dX7_areTwins_61 : decode cX7_areTwins 61 = .ok (.iconst 2, 1) := by decide +kernel
theorem dX7_areTwins_62 : decode cX7_areTwins 62 = .ok (.invokevirtual 57, 3) := by decide +kernel
theorem dX7_areTwins_65 : decode cX7_areTwins 65 = .ok (.iload_n 3, 1) := by decide +kernel
theorem dX7_areTwins_66 : decode cX7_areTwins 66 = .ok (.if_icmp .ne 37, 3) := by decide +kernel
theorem dX7_areTwins_69 : decode cX7_areTwins 69 = .ok (.iload 5, 2) := by decide +kernel
theorem dX7_areTwins_71 : decode cX7_areTwins 71 = .ok (.iload 4, 2) := by decide +kernel
theorem dX7_areTwins_73 : decode cX7_areTwins 73 = .ok (.if_icmp .eq 30, 3) := by decide +kernel
theorem dX7_areTwins_76 : decode cX7_areTwins 76 = .ok (.aload_n 0, 1) := by decide +kernel
theorem dX7_areTwins_77 : decode cX7_areTwins 77 = .ok (.getfield 12, 3) := by decide +kernel
theorem dX7_areTwins_80 : decode cX7_areTwins 80 = .ok (.iload_n 3, 1) := by decide +kernel
theorem dX7_areTwins_81 : decode cX7_areTwins 81 = .ok (.iload 4, 2) := by decide +kernel
theorem dX7_areTwins_83 : decode cX7_areTwins 83 = .ok (.invokevirtual 112, 3) := by decide +kernel
theorem dX7_areTwins_86 : decode cX7_areTwins 86 = .ok (.aload_n 0, 1) := by decide +kernel
theorem dX7_areTwins_87 : decode cX7_areTwins 87 = .ok (.getfield 12, 3) := by decide +kernel
theorem dX7_areTwins_90 : decode cX7_areTwins 90 = .ok (.iload_n 3, 1) := by decide +kernel
theorem dX7_areTwins_91 : decode cX7_areTwins 91 = .ok (.iload 5, 2) := by decide +kernel
theorem dX7_areTwins_93 : decode cX7_areTwins 93 = .ok (.invokevirtual 112, 3) := by decide +kernel
theorem dX7_areTwins_96 : decode cX7_areTwins 96 = .ok (.if_icmp .ne 7, 3) := by decide +kernel
theorem dX7_areTwins_99 : decode cX7_areTwins 99 = .ok (.iconst 1, 1) := by decide +kernel
theorem dX7_areTwins_100 : decode cX7_areTwins 100 = .ok (.goto 4, 3) := by decide +kernel
theorem dX7_areTwins_103 : decode cX7_areTwins 103 = .ok (.iconst 0, 1) := by decide +kernel
theorem dX7_areTwins_104 : decode cX7_areTwins 104 = .ok (.ireturn, 1) := by decide +kernel
theorem dX7_isCometIn_0 : decode cX7_isCometIn 0 = .ok (.aload_n 0, 1) := by decide +kernel
theorem dX7_isCometIn_1 : decode cX7_isCometIn 1 = .ok (.getfield 115, 3) := by decide +kernel
theorem dX7_isCometIn_4 : decode cX7_isCometIn 4 = .ok (.iconst 1, 1) := by decide +kernel
theorem dX7_isCometIn_5 : decode cX7_isCometIn 5 = .ok (.if_icmp .ge 5, 3) := by decide +kernel
theorem dX7_isCometIn_8 : decode cX7_isCometIn 8 = .ok (.iconst 0, 1) := by decide +kernel
theorem dX7_isCometIn_9 : decode cX7_isCometIn 9 = .ok (.ireturn, 1) := by decide +kernel
theorem dX7_isCometIn_10 : decode cX7_isCometIn 10 = .ok (.aload_n 0, 1) := by decide +kernel
theorem dX7_isCometIn_11 : decode cX7_isCometIn 11 = .ok (.getfield 118, 3) := by decide +kernel
theorem dX7_isCometIn_14 : decode cX7_isCometIn 14 = .ok (.sipush 365, 3) := by decide +kernel
theorem dX7_isCometIn_17 : decode cX7_isCometIn 17 = .ok (.idiv, 1) := by decide +kernel
theorem dX7_isCometIn_18 : decode cX7_isCometIn 18 = .ok (.istore_n 3, 1) := by decide +kernel
theorem dX7_isCometIn_19 : decode cX7_isCometIn 19 = .ok (.iload_n 3, 1) := by decide +kernel
theorem dX7_isCometIn_20 : decode cX7_isCometIn 20 = .ok (.sipush 200, 3) := by decide +kernel
theorem dX7_isCometIn_23 : decode cX7_isCometIn 23 = .ok (.if_icmp .ge 28, 3) := by decide +kernel
theorem dX7_isCometIn_26 : decode cX7_isCometIn 26 = .ok (.aload_n 0, 1) := by decide +kernel
theorem dX7_isCometIn_27 : decode cX7_isCometIn 27 = .ok (.getfield 12, 3) := by decide +kernel
theorem dX7_isCometIn_30 : decode cX7_isCometIn 30 = .ok (.iload_n 1, 1) := by decide +kernel
theorem dX7_isCometIn_31 : decode cX7_isCometIn 31 = .ok (.iload_n 3, 1) := by decide +kernel
theorem dX7_isCometIn_32 : decode cX7_isCometIn 32 = .ok (.invokevirtual 86, 3) := by decide +kernel
theorem dX7_isCometIn_35 : decode cX7_isCometIn 35 = .ok (.iload_n 2, 1) := by decide +kernel
theorem dX7_isCometIn_36 : decode cX7_isCometIn 36 = .ok (.if_icmp .ne 5, 3) := by decide +kernel
theorem dX7_isCometIn_39 : decode cX7_isCometIn 39 = .ok (.iconst 1, 1) := by decide +kernel
theorem dX7_isCometIn_40 : decode cX7_isCometIn 40 = .ok (.ireturn, 1) := by decide +kernel
theorem dX7_isCometIn_41 : decode cX7_isCometIn 41 = .ok (.iload_n 3, 1) := by decide +kernel
theorem dX7_isCometIn_42 : decode cX7_isCometIn 42 = .ok (.aload_n 0, 1) := by decide +kernel
theorem dX7_isCometIn_43 : decode cX7_isCometIn 43 = .ok (.getfield 115, 3) := by decide +kernel
theorem dX7_isCometIn_46 : decode cX7_isCometIn 46 = .ok (.iadd, 1) := by decide +kernel
theorem dX7_isCometIn_47 : decode cX7_isCometIn 47 = .ok (.istore_n 3, 1) := by decide +kernel
theorem dX7_isCometIn_48 : decode cX7_isCometIn 48 = .ok (.goto (-29), 3) := by decide +kernel
theorem dX7_isCometIn_51 : decode cX7_isCometIn 51 = .ok (.iconst 0, 1) := by decide +kernel
theorem dX7_isCometIn_52 : decode cX7_isCometIn 52 = .ok (.ireturn, 1) := by decide +kernel
theorem dX7_breaksBy_0 : decode cX7_breaksBy 0 = .ok (.aload_n 0, 1) := by decide +kernel
theorem dX7_breaksBy_1 : decode cX7_breaksBy 1 = .ok (.getfield 12, 3) := by decide +kernel
theorem dX7_breaksBy_4 : decode cX7_breaksBy 4 = .ok (.getfield 121, 3) := by decide +kernel
theorem dX7_breaksBy_7 : decode cX7_breaksBy 7 = .ok (.bipush 6, 2) := by decide +kernel
theorem dX7_breaksBy_9 : decode cX7_breaksBy 9 = .ok (.if_icmp .lt 5, 3) := by decide +kernel
theorem dX7_breaksBy_12 : decode cX7_breaksBy 12 = .ok (.iconst 0, 1) := by decide +kernel
theorem dX7_breaksBy_13 : decode cX7_breaksBy 13 = .ok (.ireturn, 1) := by decide +kernel
theorem dX7_breaksBy_14 : decode cX7_breaksBy 14 = .ok (.iconst 0, 1) := by decide +kernel
theorem dX7_breaksBy_15 : decode cX7_breaksBy 15 = .ok (.istore 4, 2) := by decide +kernel
theorem dX7_breaksBy_17 : decode cX7_breaksBy 17 = .ok (.iload 4, 2) := by decide +kernel
theorem dX7_breaksBy_19 : decode cX7_breaksBy 19 = .ok (.aload_n 0, 1) := by decide +kernel
theorem dX7_breaksBy_20 : decode cX7_breaksBy 20 = .ok (.getfield 21, 3) := by decide +kernel
theorem dX7_breaksBy_23 : decode cX7_breaksBy 23 = .ok (.getfield 102, 3) := by decide +kernel
theorem dX7_breaksBy_26 : decode cX7_breaksBy 26 = .ok (.if_icmp .ge 22, 3) := by decide +kernel
theorem dX7_breaksBy_29 : decode cX7_breaksBy 29 = .ok (.aload_n 0, 1) := by decide +kernel
theorem dX7_breaksBy_30 : decode cX7_breaksBy 30 = .ok (.getfield 53, 3) := by decide +kernel
theorem dX7_breaksBy_33 : decode cX7_breaksBy 33 = .ok (.iload 4, 2) := by decide +kernel
theorem dX7_breaksBy_35 : decode cX7_breaksBy 35 = .ok (.aload_n 0, 1) := by decide +kernel
theorem dX7_breaksBy_36 : decode cX7_breaksBy 36 = .ok (.iload 4, 2) := by decide +kernel
theorem dX7_breaksBy_38 : decode cX7_breaksBy 38 = .ok (.invokevirtual 99, 3) := by decide +kernel
theorem dX7_breaksBy_41 : decode cX7_breaksBy 41 = .ok (.iastore, 1) := by decide +kernel
theorem dX7_breaksBy_42 : decode cX7_breaksBy 42 = .ok (.iinc 4 1, 3) := by decide +kernel
theorem dX7_breaksBy_45 : decode cX7_breaksBy 45 = .ok (.goto (-28), 3) := by decide +kernel
theorem dX7_breaksBy_48 : decode cX7_breaksBy 48 = .ok (.aload_n 0, 1) := by decide +kernel
theorem dX7_breaksBy_49 : decode cX7_breaksBy 49 = .ok (.getfield 12, 3) := by decide +kernel
theorem dX7_breaksBy_52 : decode cX7_breaksBy 52 = .ok (.iload_n 1, 1) := by decide +kernel
theorem dX7_breaksBy_53 : decode cX7_breaksBy 53 = .ok (.iload_n 2, 1) := by decide +kernel
theorem dX7_breaksBy_54 : decode cX7_breaksBy 54 = .ok (.iload_n 3, 1) := by decide +kernel
theorem dX7_breaksBy_55 : decode cX7_breaksBy 55 = .ok (.invokevirtual 122, 3) := by decide +kernel
theorem dX7_breaksBy_58 : decode cX7_breaksBy 58 = .ok (.iconst 0, 1) := by decide +kernel
theorem dX7_breaksBy_59 : decode cX7_breaksBy 59 = .ok (.istore 4, 2) := by decide +kernel
theorem dX7_breaksBy_61 : decode cX7_breaksBy 61 = .ok (.iconst 0, 1) := by decide +kernel
theorem dX7_breaksBy_62 : decode cX7_breaksBy 62 = .ok (.istore 5, 2) := by decide +kernel
theorem dX7_breaksBy_64 : decode cX7_breaksBy 64 = .ok (.iload 5, 2) := by decide +kernel
theorem dX7_breaksBy_66 : decode cX7_breaksBy 66 = .ok (.aload_n 0, 1) := by decide +kernel
theorem dX7_breaksBy_67 : decode cX7_breaksBy 67 = .ok (.getfield 21, 3) := by decide +kernel
theorem dX7_breaksBy_70 : decode cX7_breaksBy 70 = .ok (.getfield 102, 3) := by decide +kernel
theorem dX7_breaksBy_73 : decode cX7_breaksBy 73 = .ok (.if_icmp .ge 28, 3) := by decide +kernel
theorem dX7_breaksBy_76 : decode cX7_breaksBy 76 = .ok (.aload_n 0, 1) := by decide +kernel
theorem dX7_breaksBy_77 : decode cX7_breaksBy 77 = .ok (.iload 5, 2) := by decide +kernel
theorem dX7_breaksBy_79 : decode cX7_breaksBy 79 = .ok (.invokevirtual 99, 3) := by decide +kernel
theorem dX7_breaksBy_82 : decode cX7_breaksBy 82 = .ok (.aload_n 0, 1) := by decide +kernel
theorem dX7_breaksBy_83 : decode cX7_breaksBy 83 = .ok (.getfield 53, 3) := by decide +kernel
theorem dX7_breaksBy_86 : decode cX7_breaksBy 86 = .ok (.iload 5, 2) := by decide +kernel
theorem dX7_breaksBy_88 : decode cX7_breaksBy 88 = .ok (.iaload, 1) := by decide +kernel
theorem dX7_breaksBy_89 : decode cX7_breaksBy 89 = .ok (.if_icmp .eq 6, 3) := by decide +kernel
theorem dX7_breaksBy_92 : decode cX7_breaksBy 92 = .ok (.iinc 4 1, 3) := by decide +kernel
theorem dX7_breaksBy_95 : decode cX7_breaksBy 95 = .ok (.iinc 5 1, 3) := by decide +kernel
theorem dX7_breaksBy_98 : decode cX7_breaksBy 98 = .ok (.goto (-34), 3) := by decide +kernel
theorem dX7_breaksBy_101 : decode cX7_breaksBy 101 = .ok (.aload_n 0, 1) := by decide +kernel
theorem dX7_breaksBy_102 : decode cX7_breaksBy 102 = .ok (.getfield 12, 3) := by decide +kernel
theorem dX7_breaksBy_105 : decode cX7_breaksBy 105 = .ok (.invokevirtual 126, 3) := by decide +kernel
theorem dX7_breaksBy_108 : decode cX7_breaksBy 108 = .ok (.iload 4, 2) := by decide +kernel
theorem dX7_breaksBy_110 : decode cX7_breaksBy 110 = .ok (.ireturn, 1) := by decide +kernel
theorem dX7_become_0 : decode cX7_become 0 = .ok (.aload_n 0, 1) := by decide +kernel
theorem dX7_become_1 : decode cX7_become 1 = .ok (.getfield 12, 3) := by decide +kernel
theorem dX7_become_4 : decode cX7_become 4 = .ok (.aload_n 1, 1) := by decide +kernel
theorem dX7_become_5 : decode cX7_become 5 = .ok (.getfield 12, 3) := by decide +kernel
theorem dX7_become_8 : decode cX7_become 8 = .ok (.invokevirtual 129, 3) := by decide +kernel
theorem dX7_become_11 : decode cX7_become 11 = .ok (.aload_n 0, 1) := by decide +kernel
theorem dX7_become_12 : decode cX7_become 12 = .ok (.getfield 21, 3) := by decide +kernel
theorem dX7_become_15 : decode cX7_become 15 = .ok (.aload_n 1, 1) := by decide +kernel
theorem dX7_become_16 : decode cX7_become 16 = .ok (.getfield 21, 3) := by decide +kernel
theorem dX7_become_19 : decode cX7_become 19 = .ok (.invokevirtual 133, 3) := by decide +kernel
theorem dX7_become_22 : decode cX7_become 22 = .ok (.aload_n 0, 1) := by decide +kernel
theorem dX7_become_23 : decode cX7_become 23 = .ok (.getfield 28, 3) := by decide +kernel
theorem dX7_become_26 : decode cX7_become 26 = .ok (.aload_n 1, 1) := by decide +kernel
theorem dX7_become_27 : decode cX7_become 27 = .ok (.getfield 28, 3) := by decide +kernel
theorem dX7_become_30 : decode cX7_become 30 = .ok (.invokevirtual 136, 3) := by decide +kernel
theorem dX7_become_33 : decode cX7_become 33 = .ok (.aload_n 0, 1) := by decide +kernel
theorem dX7_become_34 : decode cX7_become 34 = .ok (.getfield 35, 3) := by decide +kernel
theorem dX7_become_37 : decode cX7_become 37 = .ok (.aload_n 1, 1) := by decide +kernel
theorem dX7_become_38 : decode cX7_become 38 = .ok (.getfield 35, 3) := by decide +kernel
theorem dX7_become_41 : decode cX7_become 41 = .ok (.invokevirtual 139, 3) := by decide +kernel
theorem dX7_become_44 : decode cX7_become 44 = .ok (.aload_n 0, 1) := by decide +kernel
theorem dX7_become_45 : decode cX7_become 45 = .ok (.getfield 39, 3) := by decide +kernel
theorem dX7_become_48 : decode cX7_become 48 = .ok (.aload_n 1, 1) := by decide +kernel
theorem dX7_become_49 : decode cX7_become 49 = .ok (.getfield 39, 3) := by decide +kernel
theorem dX7_become_52 : decode cX7_become 52 = .ok (.invokevirtual 139, 3) := by decide +kernel
theorem dX7_become_55 : decode cX7_become 55 = .ok (.aload_n 1, 1) := by decide +kernel
theorem dX7_become_56 : decode cX7_become 56 = .ok (.getfield 42, 3) := by decide +kernel
theorem dX7_become_59 : decode cX7_become 59 = .ok (.iconst 0, 1) := by decide +kernel
theorem dX7_become_60 : decode cX7_become 60 = .ok (.aload_n 0, 1) := by decide +kernel
theorem dX7_become_61 : decode cX7_become 61 = .ok (.getfield 42, 3) := by decide +kernel
theorem dX7_become_64 : decode cX7_become 64 = .ok (.iconst 0, 1) := by decide +kernel
theorem dX7_become_65 : decode cX7_become 65 = .ok (.bipush 60, 2) := by decide +kernel
theorem dX7_become_67 : decode cX7_become 67 = .ok (.invokestatic 142, 3) := by decide +kernel
theorem dX7_become_70 : decode cX7_become 70 = .ok (.aload_n 0, 1) := by decide +kernel
theorem dX7_become_71 : decode cX7_become 71 = .ok (.aload_n 1, 1) := by decide +kernel
theorem dX7_become_72 : decode cX7_become 72 = .ok (.getfield 148, 3) := by decide +kernel
theorem dX7_become_75 : decode cX7_become 75 = .ok (.putfield 148, 3) := by decide +kernel
theorem dX7_become_78 : decode cX7_become 78 = .ok (.aload_n 1, 1) := by decide +kernel
theorem dX7_become_79 : decode cX7_become 79 = .ok (.getfield 46, 3) := by decide +kernel
theorem dX7_become_82 : decode cX7_become 82 = .ok (.iconst 0, 1) := by decide +kernel
theorem dX7_become_83 : decode cX7_become 83 = .ok (.aload_n 0, 1) := by decide +kernel
theorem dX7_become_84 : decode cX7_become 84 = .ok (.getfield 46, 3) := by decide +kernel
theorem dX7_become_87 : decode cX7_become 87 = .ok (.iconst 0, 1) := by decide +kernel
theorem dX7_become_88 : decode cX7_become 88 = .ok (.bipush 24, 2) := by decide +kernel
theorem dX7_become_90 : decode cX7_become 90 = .ok (.invokestatic 142, 3) := by decide +kernel
theorem dX7_become_93 : decode cX7_become 93 = .ok (.aload_n 0, 1) := by decide +kernel
theorem dX7_become_94 : decode cX7_become 94 = .ok (.aload_n 1, 1) := by decide +kernel
theorem dX7_become_95 : decode cX7_become 95 = .ok (.getfield 151, 3) := by decide +kernel
theorem dX7_become_98 : decode cX7_become 98 = .ok (.putfield 151, 3) := by decide +kernel
theorem dX7_become_101 : decode cX7_become 101 = .ok (.aload_n 0, 1) := by decide +kernel
theorem dX7_become_102 : decode cX7_become 102 = .ok (.aload_n 1, 1) := by decide +kernel
theorem dX7_become_103 : decode cX7_become 103 = .ok (.getfield 61, 3) := by decide +kernel
theorem dX7_become_106 : decode cX7_become 106 = .ok (.putfield 61, 3) := by decide +kernel
theorem dX7_become_109 : decode cX7_become 109 = .ok (.aload_n 0, 1) := by decide +kernel
theorem dX7_become_110 : decode cX7_become 110 = .ok (.aload_n 1, 1) := by decide +kernel
theorem dX7_become_111 : decode cX7_become 111 = .ok (.getfield 49, 3) := by decide +kernel
theorem dX7_become_114 : decode cX7_become 114 = .ok (.putfield 49, 3) := by decide +kernel
theorem dX7_become_117 : decode cX7_become 117 = .ok (.aload_n 0, 1) := by decide +kernel
theorem dX7_become_118 : decode cX7_become 118 = .ok (.aload_n 1, 1) := by decide +kernel
theorem dX7_become_119 : decode cX7_become 119 = .ok (.getfield 118, 3) := by decide +kernel
theorem dX7_become_122 : decode cX7_become 122 = .ok (.putfield 118, 3) := by decide +kernel
theorem dX7_become_125 : decode cX7_become 125 = .ok (.aload_n 0, 1) := by decide +kernel
theorem dX7_become_126 : decode cX7_become 126 = .ok (.aload_n 1, 1) := by decide +kernel
theorem dX7_become_127 : decode cX7_become 127 = .ok (.getfield 115, 3) := by decide +kernel
theorem dX7_become_130 : decode cX7_become 130 = .ok (.putfield 115, 3) := by decide +kernel
theorem dX7_become_133 : decode cX7_become 133 = .ok (.return_, 1) := by decide +kernel
theorem dX8_init_0 : decode cX8_init 0 = .ok (.aload_n 0, 1) := by decide +kernel
theorem dX8_init_1 : decode cX8_init 1 = .ok (.invokespecial 3, 3) := by decide +kernel
theorem dX8_init_4 : decode cX8_init 4 = .ok (.aload_n 0, 1) := by decide +kernel
theorem dX8_init_5 : decode cX8_init 5 = .ok (.new 9, 3) := by decide +kernel
theorem dX8_init_8 : decode cX8_init 8 = .ok (.dup, 1) := by decide +kernel
theorem dX8_init_9 : decode cX8_init 9 = .ok (.invokespecial 11, 3) := by decide +kernel
theorem dX8_init_12 : decode cX8_init 12 = .ok (.putfield 12, 3) := by decide +kernel
theorem dX8_init_15 : decode cX8_init 15 = .ok (.aload_n 0, 1) := by decide +kernel
theorem dX8_init_16 : decode cX8_init 16 = .ok (.new 9, 3) := by decide +kernel
theorem dX8_init_19 : decode cX8_init 19 = .ok (.dup, 1) := by decide +kernel
theorem dX8_init_20 : decode cX8_init 20 = .ok (.invokespecial 11, 3) := by decide +kernel
theorem dX8_init_23 : decode cX8_init 23 = .ok (.putfield 16, 3) := by decide +kernel
theorem dX8_init_26 : decode cX8_init 26 = .ok (.aload_n 0, 1) := by decide +kernel
theorem dX8_init_27 : decode cX8_init 27 = .ok (.new 19, 3) := by decide +kernel
theorem dX8_init_30 : decode cX8_init 30 = .ok (.dup, 1) := by decide +kernel
theorem dX8_init_31 : decode cX8_init 31 = .ok (.invokespecial 21, 3) := by decide +kernel
theorem dX8_init_34 : decode cX8_init 34 = .ok (.putfield 22, 3) := by decide +kernel
theorem dX8_init_37 : decode cX8_init 37 = .ok (.aload_n 0, 1) := by decide +kernel
theorem dX8_init_38 : decode cX8_init 38 = .ok (.new 26, 3) := by decide +kernel
theorem dX8_init_41 : decode cX8_init 41 = .ok (.dup, 1) := by decide +kernel
theorem dX8_init_42 : decode cX8_init 42 = .ok (.invokespecial 28, 3) := by decide +kernel
theorem dX8_init_45 : decode cX8_init 45 = .ok (.putfield 29, 3) := by decide +kernel
theorem dX8_init_48 : decode cX8_init 48 = .ok (.aload_n 0, 1) := by decide +kernel
theorem dX8_init_49 : decode cX8_init 49 = .ok (.iconst 4, 1) := by decide +kernel
theorem dX8_init_50 : decode cX8_init 50 = .ok (.anewarray 33, 3) := by decide +kernel
theorem dX8_init_53 : decode cX8_init 53 = .ok (.putfield 35, 3) := by decide +kernel
theorem dX8_init_56 : decode cX8_init 56 = .ok (.aload_n 0, 1) := by decide +kernel
theorem dX8_init_57 : decode cX8_init 57 = .ok (.bipush 7, 2) := by decide +kernel
theorem dX8_init_59 : decode cX8_init 59 = .ok (.newarray .int, 2) := by decide +kernel
theorem dX8_init_61 : decode cX8_init 61 = .ok (.putfield 39, 3) := by decide +kernel
theorem dX8_init_64 : decode cX8_init 64 = .ok (.iconst 0, 1) := by decide +kernel
theorem dX8_init_65 : decode cX8_init 65 = .ok (.istore_n 1, 1) := by decide +kernel
theorem dX8_init_66 : decode cX8_init 66 = .ok (.iload_n 1, 1) := by decide +kernel
theorem dX8_init_67 : decode cX8_init 67 = .ok (.iconst 4, 1) := by decide +kernel
theorem dX8_init_68 : decode cX8_init 68 = .ok (.if_icmp .ge 22, 3) := by decide +kernel
theorem dX8_init_71 : decode cX8_init 71 = .ok (.aload_n 0, 1) := by decide +kernel
theorem dX8_init_72 : decode cX8_init 72 = .ok (.getfield 35, 3) := by decide +kernel
theorem dX8_init_75 : decode cX8_init 75 = .ok (.iload_n 1, 1) := by decide +kernel
theorem dX8_init_76 : decode cX8_init 76 = .ok (.new 33, 3) := by decide +kernel
theorem dX8_init_79 : decode cX8_init 79 = .ok (.dup, 1) := by decide +kernel
theorem dX8_init_80 : decode cX8_init 80 = .ok (.invokespecial 43, 3) := by decide +kernel
theorem dX8_init_83 : decode cX8_init 83 = .ok (.aastore, 1) := by decide +kernel
theorem dX8_init_84 : decode cX8_init 84 = .ok (.iinc 1 1, 3) := by decide +kernel
theorem dX8_init_87 : decode cX8_init 87 = .ok (.goto (-21), 3) := by decide +kernel
theorem dX8_init_90 : decode cX8_init 90 = .ok (.return_, 1) := by decide +kernel
theorem dX8_sale_0 : decode cX8_sale 0 = .ok (.aload_n 0, 1) := by decide +kernel
theorem dX8_sale_1 : decode cX8_sale 1 = .ok (.iload_n 1, 1) := by decide +kernel
theorem dX8_sale_2 : decode cX8_sale 2 = .ok (.iload_n 2, 1) := by decide +kernel
theorem dX8_sale_3 : decode cX8_sale 3 = .ok (.iload_n 3, 1) := by decide +kernel
theorem dX8_sale_4 : decode cX8_sale 4 = .ok (.invokevirtual 44, 3) := by decide +kernel
theorem dX8_sale_7 : decode cX8_sale 7 = .ok (.istore 4, 2) := by decide +kernel
theorem dX8_sale_9 : decode cX8_sale 9 = .ok (.iload 4, 2) := by decide +kernel
theorem dX8_sale_11 : decode cX8_sale 11 = .ok (.ifCond .eq 10, 3) := by decide +kernel
theorem dX8_sale_14 : decode cX8_sale 14 = .ok (.aload_n 0, 1) := by decide +kernel
theorem dX8_sale_15 : decode cX8_sale 15 = .ok (.iload 4, 2) := by decide +kernel
theorem dX8_sale_17 : decode cX8_sale 17 = .ok (.invokevirtual 48, 3) := by decide +kernel
theorem dX8_sale_20 : decode cX8_sale 20 = .ok (.ireturn, 1) := by decide +kernel
theorem dX8_sale_21 : decode cX8_sale 21 = .ok (.aload_n 0, 1) := by decide +kernel
theorem dX8_sale_22 : decode cX8_sale 22 = .ok (.getfield 12, 3) := by decide +kernel
theorem dX8_sale_25 : decode cX8_sale 25 = .ok (.getfield 52, 3) := by decide +kernel
theorem dX8_sale_28 : decode cX8_sale 28 = .ok (.iload_n 1, 1) := by decide +kernel
theorem dX8_sale_29 : decode cX8_sale 29 = .ok (.iload_n 2, 1) := by decide +kernel
theorem dX8_sale_30 : decode cX8_sale 30 = .ok (.iload_n 3, 1) := by decide +kernel
theorem dX8_sale_31 : decode cX8_sale 31 = .ok (.invokevirtual 56, 3) := by decide +kernel
theorem dX8_sale_34 : decode cX8_sale 34 = .ok (.aload_n 0, 1) := by decide +kernel
theorem dX8_sale_35 : decode cX8_sale 35 = .ok (.getfield 12, 3) := by decide +kernel
theorem dX8_sale_38 : decode cX8_sale 38 = .ok (.getfield 52, 3) := by decide +kernel
theorem dX8_sale_41 : decode cX8_sale 41 = .ok (.getfield 62, 3) := by decide +kernel
theorem dX8_sale_44 : decode cX8_sale 44 = .ok (.iconst 1, 1) := by decide +kernel
theorem dX8_sale_45 : decode cX8_sale 45 = .ok (.isub, 1) := by decide +kernel
theorem dX8_sale_46 : decode cX8_sale 46 = .ok (.ireturn, 1) := by decide +kernel
theorem dX8_saleIs_0 : decode cX8_saleIs 0 = .ok (.iload_n 1, 1) := by decide +kernel
theorem dX8_saleIs_1 : decode cX8_saleIs 1 = .ok (.aload_n 0, 1) := by decide +kernel
theorem dX8_saleIs_2 : decode cX8_saleIs 2 = .ok (.getfield 12, 3) := by decide +kernel
theorem dX8_saleIs_5 : decode cX8_saleIs 5 = .ok (.getfield 52, 3) := by decide +kernel
theorem dX8_saleIs_8 : decode cX8_saleIs 8 = .ok (.getfield 62, 3) := by decide +kernel
theorem dX8_saleIs_11 : decode cX8_saleIs 11 = .ok (.invokestatic 66, 3) := by decide +kernel
theorem dX8_saleIs_14 : decode cX8_saleIs 14 = .ok (.ifCond .eq 11, 3) := by decide +kernel
theorem dX8_saleIs_17 : decode cX8_saleIs 17 = .ok (.iload_n 2, 1) := by decide +kernel
theorem dX8_saleIs_18 : decode cX8_saleIs 18 = .ok (.iconst 3, 1) := by decide +kernel
theorem dX8_saleIs_19 : decode cX8_saleIs 19 = .ok (.invokestatic 66, 3) := by decide +kernel
theorem dX8_saleIs_22 : decode cX8_saleIs 22 = .ok (.ifCond .ne 9, 3) := by decide +kernel
theorem dX8_saleIs_25 : decode cX8_saleIs 25 = .ok (.aload_n 0, 1) := by decide +kernel
theorem dX8_saleIs_26 : decode cX8_saleIs 26 = .ok (.iconst 1, 1) := by decide +kernel
theorem dX8_saleIs_27 : decode cX8_saleIs 27 = .ok (.invokevirtual 48, 3) := by decide +kernel
theorem dX8_saleIs_30 : decode cX8_saleIs 30 = .ok (.ireturn, 1) := by decide +kernel
theorem dX8_saleIs_31 : decode cX8_saleIs 31 = .ok (.iload_n 2, 1) := by decide +kernel
theorem dX8_saleIs_32 : decode cX8_saleIs 32 = .ok (.ifCond .ne 16, 3) := by decide +kernel
theorem dX8_saleIs_35 : decode cX8_saleIs 35 = .ok (.aload_n 0, 1) := by decide +kernel
theorem dX8_saleIs_36 : decode cX8_saleIs 36 = .ok (.getfield 12, 3) := by decide +kernel
theorem dX8_saleIs_39 : decode cX8_saleIs 39 = .ok (.getfield 52, 3) := by decide +kernel
theorem dX8_saleIs_42 : decode cX8_saleIs 42 = .ok (.getfield 70, 3) := by decide +kernel
theorem dX8_saleIs_45 : decode cX8_saleIs 45 = .ok (.iload_n 1, 1) := by decide +kernel
theorem dX8_saleIs_46 : decode cX8_saleIs 46 = .ok (.iaload, 1) := by decide +kernel
theorem dX8_saleIs_47 : decode cX8_saleIs 47 = .ok (.ireturn, 1) := by decide +kernel
theorem dX8_saleIs_48 : decode cX8_saleIs 48 = .ok (.iload_n 2, 1) := by decide +kernel
theorem dX8_saleIs_49 : decode cX8_saleIs 49 = .ok (.iconst 1, 1) := by decide +kernel
theorem dX8_saleIs_50 : decode cX8_saleIs 50 = .ok (.if_icmp .ne 18, 3) := by decide +kernel
theorem dX8_saleIs_53 : decode cX8_saleIs 53 = .ok (.aload_n 0, 1) := by decide +kernel
theorem dX8_saleIs_54 : decode cX8_saleIs 54 = .ok (.getfield 12, 3) := by decide +kernel
theorem dX8_saleIs_57 : decode cX8_saleIs 57 = .ok (.getfield 52, 3) := by decide +kernel
theorem dX8_saleIs_60 : decode cX8_saleIs 60 = .ok (.getfield 73, 3) := by decide +kernel
theorem dX8_saleIs_63 : decode cX8_saleIs 63 = .ok (.iload_n 1, 1) := by decide +kernel
theorem dX8_saleIs_64 : decode cX8_saleIs 64 = .ok (.iaload, 1) := by decide +kernel
theorem dX8_saleIs_65 : decode cX8_saleIs 65 = .ok (.goto 15, 3) := by decide +kernel
theorem dX8_saleIs_68 : decode cX8_saleIs 68 = .ok (.aload_n 0, 1) := by decide +kernel
theorem dX8_saleIs_69 : decode cX8_saleIs 69 = .ok (.getfield 12, 3) := by decide +kernel
theorem dX8_saleIs_72 : decode cX8_saleIs 72 = .ok (.getfield 52, 3) := by decide +kernel
theorem dX8_saleIs_75 : decode cX8_saleIs 75 = .ok (.getfield 76, 3) := by decide +kernel
theorem dX8_saleIs_78 : decode cX8_saleIs 78 = .ok (.iload_n 1, 1) := by decide +kernel
theorem dX8_saleIs_79 : decode cX8_saleIs 79 = .ok (.iaload, 1) := by decide +kernel
theorem dX8_saleIs_80 : decode cX8_saleIs 80 = .ok (.ireturn, 1) := by decide +kernel
theorem dX8_undo_0 : decode cX8_undo 0 = .ok (.aload_n 0, 1) := by decide +kernel
theorem dX8_undo_1 : decode cX8_undo 1 = .ok (.getfield 12, 3) := by decide +kernel
theorem dX8_undo_4 : decode cX8_undo 4 = .ok (.getfield 52, 3) := by decide +kernel
theorem dX8_undo_7 : decode cX8_undo 7 = .ok (.getfield 62, 3) := by decide +kernel
theorem dX8_undo_10 : decode cX8_undo 10 = .ok (.ifCond .ne 9, 3) := by decide +kernel
theorem dX8_undo_13 : decode cX8_undo 13 = .ok (.aload_n 0, 1) := by decide +kernel
theorem dX8_undo_14 : decode cX8_undo 14 = .ok (.iconst 3, 1) := by decide +kernel
theorem dX8_undo_15 : decode cX8_undo 15 = .ok (.invokevirtual 48, 3) := by decide +kernel
theorem dX8_undo_18 : decode cX8_undo 18 = .ok (.ireturn, 1) := by decide +kernel
theorem dX8_undo_19 : decode cX8_undo 19 = .ok (.aload_n 0, 1) := by decide +kernel
theorem dX8_undo_20 : decode cX8_undo 20 = .ok (.getfield 12, 3) := by decide +kernel
theorem dX8_undo_23 : decode cX8_undo 23 = .ok (.getfield 52, 3) := by decide +kernel
theorem dX8_undo_26 : decode cX8_undo 26 = .ok (.invokevirtual 79, 3) := by decide +kernel
theorem dX8_undo_29 : decode cX8_undo 29 = .ok (.aload_n 0, 1) := by decide +kernel
theorem dX8_undo_30 : decode cX8_undo 30 = .ok (.getfield 12, 3) := by decide +kernel
theorem dX8_undo_33 : decode cX8_undo 33 = .ok (.getfield 52, 3) := by decide +kernel
theorem dX8_undo_36 : decode cX8_undo 36 = .ok (.getfield 62, 3) := by decide +kernel
theorem dX8_undo_39 : decode cX8_undo 39 = .ok (.ireturn, 1) := by decide +kernel
theorem dX8_name_0 : decode cX8_name 0 = .ok (.iload_n 1, 1) := by decide +kernel
theorem dX8_name_1 : decode cX8_name 1 = .ok (.iconst 4, 1) := by decide +kernel
theorem dX8_name_2 : decode cX8_name 2 = .ok (.invokestatic 66, 3) := by decide +kernel
theorem dX8_name_5 : decode cX8_name 5 = .ok (.ifCond .eq 13, 3) := by decide +kernel
theorem dX8_name_8 : decode cX8_name 8 = .ok (.iload_n 2, 1) := by decide +kernel
theorem dX8_name_9 : decode cX8_name 9 = .ok (.sipush 200, 3) := by decide +kernel
theorem dX8_name_12 : decode cX8_name 12 = .ok (.invokestatic 66, 3) := by decide +kernel
theorem dX8_name_15 : decode cX8_name 15 = .ok (.ifCond .ne 9, 3) := by decide +kernel
theorem dX8_name_18 : decode cX8_name 18 = .ok (.aload_n 0, 1) := by decide +kernel
theorem dX8_name_19 : decode cX8_name 19 = .ok (.iconst 1, 1) := by decide +kernel
theorem dX8_name_20 : decode cX8_name 20 = .ok (.invokevirtual 48, 3) := by decide +kernel
theorem dX8_name_23 : decode cX8_name 23 = .ok (.ireturn, 1) := by decide +kernel
theorem dX8_name_24 : decode cX8_name 24 = .ok (.aload_n 0, 1) := by decide +kernel
theorem dX8_name_25 : decode cX8_name 25 = .ok (.getfield 12, 3) := by decide +kernel
theorem dX8_name_28 : decode cX8_name 28 = .ok (.getfield 52, 3) := by decide +kernel
theorem dX8_name_31 : decode cX8_name 31 = .ok (.iload_n 1, 1) := by decide +kernel
theorem dX8_name_32 : decode cX8_name 32 = .ok (.iload_n 2, 1) := by decide +kernel
theorem dX8_name_33 : decode cX8_name 33 = .ok (.invokevirtual 82, 3) := by decide +kernel
theorem dX8_name_36 : decode cX8_name 36 = .ok (.ireturn, 1) := by decide +kernel
theorem dX8_date_0 : decode cX8_date 0 = .ok (.iload_n 1, 1) := by decide +kernel
theorem dX8_date_1 : decode cX8_date 1 = .ok (.iconst 4, 1) := by decide +kernel
theorem dX8_date_2 : decode cX8_date 2 = .ok (.invokestatic 66, 3) := by decide +kernel
theorem dX8_date_5 : decode cX8_date 5 = .ok (.ifCond .eq 12, 3) := by decide +kernel
theorem dX8_date_8 : decode cX8_date 8 = .ok (.iload_n 2, 1) := by decide +kernel
theorem dX8_date_9 : decode cX8_date 9 = .ok (.ldc 86, 2) := by decide +kernel
theorem dX8_date_11 : decode cX8_date 11 = .ok (.invokestatic 66, 3) := by decide +kernel
theorem dX8_date_14 : decode cX8_date 14 = .ok (.ifCond .ne 9, 3) := by decide +kernel
theorem dX8_date_17 : decode cX8_date 17 = .ok (.aload_n 0, 1) := by decide +kernel
theorem dX8_date_18 : decode cX8_date 18 = .ok (.iconst 1, 1) := by decide +kernel
theorem dX8_date_19 : decode cX8_date 19 = .ok (.invokevirtual 48, 3) := by decide +kernel
theorem dX8_date_22 : decode cX8_date 22 = .ok (.ireturn, 1) := by decide +kernel
theorem dX8_date_23 : decode cX8_date 23 = .ok (.aload_n 0, 1) := by decide +kernel
theorem dX8_date_24 : decode cX8_date 24 = .ok (.getfield 12, 3) := by decide +kernel
theorem dX8_date_27 : decode cX8_date 27 = .ok (.getfield 52, 3) := by decide +kernel
theorem dX8_date_30 : decode cX8_date 30 = .ok (.iload_n 1, 1) := by decide +kernel
theorem dX8_date_31 : decode cX8_date 31 = .ok (.iload_n 2, 1) := by decide +kernel
theorem dX8_date_32 : decode cX8_date 32 = .ok (.invokevirtual 87, 3) := by decide +kernel
theorem dX8_date_35 : decode cX8_date 35 = .ok (.ireturn, 1) := by decide +kernel
theorem dX8_day_0 : decode cX8_day 0 = .ok (.iload_n 1, 1) := by decide +kernel
theorem dX8_day_1 : decode cX8_day 1 = .ok (.iconst 4, 1) := by decide +kernel
theorem dX8_day_2 : decode cX8_day 2 = .ok (.invokestatic 66, 3) := by decide +kernel
theorem dX8_day_5 : decode cX8_day 5 = .ok (.ifCond .eq 20, 3) := by decide +kernel
theorem dX8_day_8 : decode cX8_day 8 = .ok (.iload_n 2, 1) := by decide +kernel
theorem dX8_day_9 : decode cX8_day 9 = .ok (.iload_n 3, 1) := by decide +kernel
theorem dX8_day_10 : decode cX8_day 10 = .ok (.invokestatic 90, 3) := by decide +kernel
theorem dX8_day_13 : decode cX8_day 13 = .ok (.ifCond .eq 12, 3) := by decide +kernel
theorem dX8_day_16 : decode cX8_day 16 = .ok (.iload 4, 2) := by decide +kernel
theorem dX8_day_18 : decode cX8_day 18 = .ok (.iconst 2, 1) := by decide +kernel
theorem dX8_day_19 : decode cX8_day 19 = .ok (.invokestatic 66, 3) := by decide +kernel
theorem dX8_day_22 : decode cX8_day 22 = .ok (.ifCond .ne 9, 3) := by decide +kernel
theorem dX8_day_25 : decode cX8_day 25 = .ok (.aload_n 0, 1) := by decide +kernel
theorem dX8_day_26 : decode cX8_day 26 = .ok (.iconst 1, 1) := by decide +kernel
theorem dX8_day_27 : decode cX8_day 27 = .ok (.invokevirtual 48, 3) := by decide +kernel
theorem dX8_day_30 : decode cX8_day 30 = .ok (.ireturn, 1) := by decide +kernel
theorem dX8_day_31 : decode cX8_day 31 = .ok (.aload_n 0, 1) := by decide +kernel
theorem dX8_day_32 : decode cX8_day 32 = .ok (.getfield 12, 3) := by decide +kernel
theorem dX8_day_35 : decode cX8_day 35 = .ok (.getfield 52, 3) := by decide +kernel
theorem dX8_day_38 : decode cX8_day 38 = .ok (.iload_n 1, 1) := by decide +kernel
theorem dX8_day_39 : decode cX8_day 39 = .ok (.iload_n 2, 1) := by decide +kernel
theorem dX8_day_40 : decode cX8_day 40 = .ok (.iconst 0, 1) := by decide +kernel
theorem dX8_day_41 : decode cX8_day 41 = .ok (.invokevirtual 93, 3) := by decide +kernel
theorem dX8_day_44 : decode cX8_day 44 = .ok (.istore 5, 2) := by decide +kernel
theorem dX8_day_46 : decode cX8_day 46 = .ok (.iload 5, 2) := by decide +kernel
theorem dX8_day_48 : decode cX8_day 48 = .ok (.ifCond .lt 27, 3) := by decide +kernel
theorem dX8_day_51 : decode cX8_day 51 = .ok (.iload 4, 2) := by decide +kernel
theorem dX8_day_53 : decode cX8_day 53 = .ok (.iconst 1, 1) := by decide +kernel
theorem dX8_day_54 : decode cX8_day 54 = .ok (.if_icmp .ne 21, 3) := by decide +kernel
theorem dX8_day_57 : decode cX8_day 57 = .ok (.aload_n 0, 1) := by decide +kernel
theorem dX8_day_58 : decode cX8_day 58 = .ok (.getfield 12, 3) := by decide +kernel
theorem dX8_day_61 : decode cX8_day 61 = .ok (.getfield 52, 3) := by decide +kernel
theorem dX8_day_64 : decode cX8_day 64 = .ok (.iload_n 1, 1) := by decide +kernel
theorem dX8_day_65 : decode cX8_day 65 = .ok (.iload_n 2, 1) := by decide +kernel
theorem dX8_day_66 : decode cX8_day 66 = .ok (.iload 5, 2) := by decide +kernel
theorem dX8_day_68 : decode cX8_day 68 = .ok (.iconst 1, 1) := by decide +kernel
theorem dX8_day_69 : decode cX8_day 69 = .ok (.iadd, 1) := by decide +kernel
theorem dX8_day_70 : decode cX8_day 70 = .ok (.invokevirtual 93, 3) := by decide +kernel
theorem dX8_day_73 : decode cX8_day 73 = .ok (.istore 5, 2) := by decide +kernel
theorem dX8_day_75 : decode cX8_day 75 = .ok (.iload 5, 2) := by decide +kernel
theorem dX8_day_77 : decode cX8_day 77 = .ok (.ifCond .ge 11, 3) := by decide +kernel
theorem dX8_day_80 : decode cX8_day 80 = .ok (.aload_n 0, 1) := by decide +kernel
theorem dX8_day_81 : decode cX8_day 81 = .ok (.iconst 2, 1) := by decide +kernel
theorem dX8_day_82 : decode cX8_day 82 = .ok (.invokevirtual 48, 3) := by decide +kernel
theorem dX8_day_85 : decode cX8_day 85 = .ok (.goto 11, 3) := by decide +kernel
theorem dX8_day_88 : decode cX8_day 88 = .ok (.iload 5, 2) := by decide +kernel
theorem dX8_day_90 : decode cX8_day 90 = .ok (.sipush 365, 3) := by decide +kernel
theorem dX8_day_93 : decode cX8_day 93 = .ok (.imul, 1) := by decide +kernel
theorem dX8_day_94 : decode cX8_day 94 = .ok (.iload_n 3, 1) := by decide +kernel
theorem dX8_day_95 : decode cX8_day 95 = .ok (.iadd, 1) := by decide +kernel
theorem dX8_day_96 : decode cX8_day 96 = .ok (.ireturn, 1) := by decide +kernel
theorem dX8_pass_0 : decode cX8_pass 0 = .ok (.iload_n 1, 1) := by decide +kernel
theorem dX8_pass_1 : decode cX8_pass 1 = .ok (.iconst 1, 1) := by decide +kernel
theorem dX8_pass_2 : decode cX8_pass 2 = .ok (.if_icmp .lt 10, 3) := by decide +kernel
theorem dX8_pass_5 : decode cX8_pass 5 = .ok (.iload_n 1, 1) := by decide +kernel
theorem dX8_pass_6 : decode cX8_pass 6 = .ok (.sipush 9999, 3) := by decide +kernel
theorem dX8_pass_9 : decode cX8_pass 9 = .ok (.if_icmp .le 9, 3) := by decide +kernel
theorem dX8_pass_12 : decode cX8_pass 12 = .ok (.aload_n 0, 1) := by decide +kernel
theorem dX8_pass_13 : decode cX8_pass 13 = .ok (.iconst 1, 1) := by decide +kernel
theorem dX8_pass_14 : decode cX8_pass 14 = .ok (.invokevirtual 48, 3) := by decide +kernel
theorem dX8_pass_17 : decode cX8_pass 17 = .ok (.ireturn, 1) := by decide +kernel
theorem dX8_pass_18 : decode cX8_pass 18 = .ok (.aload_n 0, 1) := by decide +kernel
theorem dX8_pass_19 : decode cX8_pass 19 = .ok (.getfield 12, 3) := by decide +kernel
theorem dX8_pass_22 : decode cX8_pass 22 = .ok (.getfield 96, 3) := by decide +kernel
theorem dX8_pass_25 : decode cX8_pass 25 = .ok (.iload_n 1, 1) := by decide +kernel
theorem dX8_pass_26 : decode cX8_pass 26 = .ok (.iadd, 1) := by decide +kernel
theorem dX8_pass_27 : decode cX8_pass 27 = .ok (.ldc 86, 2) := by decide +kernel
theorem dX8_pass_29 : decode cX8_pass 29 = .ok (.if_icmp .lt 9, 3) := by decide +kernel
theorem dX8_pass_32 : decode cX8_pass 32 = .ok (.aload_n 0, 1) := by decide +kernel
theorem dX8_pass_33 : decode cX8_pass 33 = .ok (.iconst 3, 1) := by decide +kernel
theorem dX8_pass_34 : decode cX8_pass 34 = .ok (.invokevirtual 48, 3) := by decide +kernel
theorem dX8_pass_37 : decode cX8_pass 37 = .ok (.ireturn, 1) := by decide +kernel
theorem dX8_pass_38 : decode cX8_pass 38 = .ok (.aload_n 0, 1) := by decide +kernel
theorem dX8_pass_39 : decode cX8_pass 39 = .ok (.getfield 12, 3) := by decide +kernel
theorem dX8_pass_42 : decode cX8_pass 42 = .ok (.dup, 1) := by decide +kernel
theorem dX8_pass_43 : decode cX8_pass 43 = .ok (.getfield 96, 3) := by decide +kernel
theorem dX8_pass_46 : decode cX8_pass 46 = .ok (.iload_n 1, 1) := by decide +kernel
theorem dX8_pass_47 : decode cX8_pass 47 = .ok (.iadd, 1) := by decide +kernel
theorem dX8_pass_48 : decode cX8_pass 48 = .ok (.putfield 96, 3) := by decide +kernel
theorem dX8_pass_51 : decode cX8_pass 51 = .ok (.aload_n 0, 1) := by decide +kernel
theorem dX8_pass_52 : decode cX8_pass 52 = .ok (.getfield 12, 3) := by decide +kernel
theorem dX8_pass_55 : decode cX8_pass 55 = .ok (.getfield 96, 3) := by decide +kernel
theorem dX8_pass_58 : decode cX8_pass 58 = .ok (.ireturn, 1) := by decide +kernel
theorem dX8_thing_0 : decode cX8_thing 0 = .ok (.iload_n 1, 1) := by decide +kernel
theorem dX8_thing_1 : decode cX8_thing 1 = .ok (.bipush 70, 2) := by decide +kernel
theorem dX8_thing_3 : decode cX8_thing 3 = .ok (.invokestatic 66, 3) := by decide +kernel
theorem dX8_thing_6 : decode cX8_thing 6 = .ok (.ifCond .eq 20, 3) := by decide +kernel
theorem dX8_thing_9 : decode cX8_thing 9 = .ok (.iload_n 2, 1) := by decide +kernel
theorem dX8_thing_10 : decode cX8_thing 10 = .ok (.iconst 4, 1) := by decide +kernel
theorem dX8_thing_11 : decode cX8_thing 11 = .ok (.invokestatic 66, 3) := by decide +kernel
theorem dX8_thing_14 : decode cX8_thing 14 = .ok (.ifCond .eq 12, 3) := by decide +kernel
theorem dX8_thing_17 : decode cX8_thing 17 = .ok (.iload_n 3, 1) := by decide +kernel
theorem dX8_thing_18 : decode cX8_thing 18 = .ok (.ldc 86, 2) := by decide +kernel
theorem dX8_thing_20 : decode cX8_thing 20 = .ok (.invokestatic 66, 3) := by decide +kernel
theorem dX8_thing_23 : decode cX8_thing 23 = .ok (.ifCond .ne 9, 3) := by decide +kernel
theorem dX8_thing_26 : decode cX8_thing 26 = .ok (.aload_n 0, 1) := by decide +kernel
theorem dX8_thing_27 : decode cX8_thing 27 = .ok (.iconst 1, 1) := by decide +kernel
theorem dX8_thing_28 : decode cX8_thing 28 = .ok (.invokevirtual 48, 3) := by decide +kernel
theorem dX8_thing_31 : decode cX8_thing 31 = .ok (.ireturn, 1) := by decide +kernel
theorem dX8_thing_32 : decode cX8_thing 32 = .ok (.aload_n 0, 1) := by decide +kernel
theorem dX8_thing_33 : decode cX8_thing 33 = .ok (.getfield 12, 3) := by decide +kernel
theorem dX8_thing_36 : decode cX8_thing 36 = .ok (.getfield 99, 3) := by decide +kernel
theorem dX8_thing_39 : decode cX8_thing 39 = .ok (.getfield 103, 3) := by decide +kernel
theorem dX8_thing_42 : decode cX8_thing 42 = .ok (.bipush 10, 2) := by decide +kernel
theorem dX8_thing_44 : decode cX8_thing 44 = .ok (.if_icmp .lt 9, 3) := by decide +kernel
theorem dX8_thing_47 : decode cX8_thing 47 = .ok (.aload_n 0, 1) := by decide +kernel
theorem dX8_thing_48 : decode cX8_thing 48 = .ok (.iconst 4, 1) := by decide +kernel
theorem dX8_thing_49 : decode cX8_thing 49 = .ok (.invokevirtual 48, 3) := by decide +kernel
theorem dX8_thing_52 : decode cX8_thing 52 = .ok (.ireturn, 1) := by decide +kernel
theorem dX8_thing_53 : decode cX8_thing 53 = .ok (.aload_n 0, 1) := by decide +kernel
theorem dX8_thing_54 : decode cX8_thing 54 = .ok (.getfield 12, 3) := by decide +kernel
theorem dX8_thing_57 : decode cX8_thing 57 = .ok (.getfield 99, 3) := by decide +kernel
theorem dX8_thing_60 : decode cX8_thing 60 = .ok (.iload_n 1, 1) := by decide +kernel
theorem dX8_thing_61 : decode cX8_thing 61 = .ok (.bipush 10, 2) := by decide +kernel
theorem dX8_thing_63 : decode cX8_thing 63 = .ok (.idiv, 1) := by decide +kernel
theorem dX8_thing_64 : decode cX8_thing 64 = .ok (.iload_n 1, 1) := by decide +kernel
theorem dX8_thing_65 : decode cX8_thing 65 = .ok (.bipush 10, 2) := by decide +kernel
theorem dX8_thing_67 : decode cX8_thing 67 = .ok (.irem, 1) := by decide +kernel
theorem dX8_thing_68 : decode cX8_thing 68 = .ok (.iload_n 2, 1) := by decide +kernel
theorem dX8_thing_69 : decode cX8_thing 69 = .ok (.iload_n 3, 1) := by decide +kernel
theorem dX8_thing_70 : decode cX8_thing 70 = .ok (.invokevirtual 106, 3) := by decide +kernel
theorem dX8_thing_73 : decode cX8_thing 73 = .ok (.aload_n 0, 1) := by decide +kernel
theorem dX8_thing_74 : decode cX8_thing 74 = .ok (.getfield 12, 3) := by decide +kernel
theorem dX8_thing_77 : decode cX8_thing 77 = .ok (.getfield 99, 3) := by decide +kernel
theorem dX8_thing_80 : decode cX8_thing 80 = .ok (.getfield 103, 3) := by decide +kernel
theorem dX8_thing_83 : decode cX8_thing 83 = .ok (.iconst 1, 1) := by decide +kernel
theorem dX8_thing_84 : decode cX8_thing 84 = .ok (.isub, 1) := by decide +kernel
theorem dX8_thing_85 : decode cX8_thing 85 = .ok (.ireturn, 1) := by decide +kernel
theorem dX8_thingIs_0 : decode cX8_thingIs 0 = .ok (.aload_n 0, 1) := by decide +kernel
theorem dX8_thingIs_1 : decode cX8_thingIs 1 = .ok (.iload_n 1, 1) := by decide +kernel
theorem dX8_thingIs_2 : decode cX8_thingIs 2 = .ok (.invokevirtual 109, 3) := by decide +kernel
theorem dX8_thingIs_5 : decode cX8_thingIs 5 = .ok (.ifCond .eq 12, 3) := by decide +kernel
theorem dX8_thingIs_8 : decode cX8_thingIs 8 = .ok (.iload_n 2, 1) := by decide +kernel
theorem dX8_thingIs_9 : decode cX8_thingIs 9 = .ok (.bipush 6, 2) := by decide +kernel
theorem dX8_thingIs_11 : decode cX8_thingIs 11 = .ok (.invokestatic 66, 3) := by decide +kernel
theorem dX8_thingIs_14 : decode cX8_thingIs 14 = .ok (.ifCond .ne 9, 3) := by decide +kernel
theorem dX8_thingIs_17 : decode cX8_thingIs 17 = .ok (.aload_n 0, 1) := by decide +kernel
theorem dX8_thingIs_18 : decode cX8_thingIs 18 = .ok (.iconst 1, 1) := by decide +kernel
theorem dX8_thingIs_19 : decode cX8_thingIs 19 = .ok (.invokevirtual 48, 3) := by decide +kernel
theorem dX8_thingIs_22 : decode cX8_thingIs 22 = .ok (.ireturn, 1) := by decide +kernel
theorem dX8_thingIs_23 : decode cX8_thingIs 23 = .ok (.iload_n 2, 1) := by decide +kernel
theorem dX8_thingIs_24 : decode cX8_thingIs 24 = .ok (.iconst 4, 1) := by decide +kernel
theorem dX8_thingIs_25 : decode cX8_thingIs 25 = .ok (.if_icmp .ge 16, 3) := by decide +kernel
theorem dX8_thingIs_28 : decode cX8_thingIs 28 = .ok (.aload_n 0, 1) := by decide +kernel
theorem dX8_thingIs_29 : decode cX8_thingIs 29 = .ok (.getfield 12, 3) := by decide +kernel
theorem dX8_thingIs_32 : decode cX8_thingIs 32 = .ok (.getfield 99, 3) := by decide +kernel
theorem dX8_thingIs_35 : decode cX8_thingIs 35 = .ok (.iload_n 1, 1) := by decide +kernel
theorem dX8_thingIs_36 : decode cX8_thingIs 36 = .ok (.iload_n 2, 1) := by decide +kernel
theorem dX8_thingIs_37 : decode cX8_thingIs 37 = .ok (.invokevirtual 113, 3) := by decide +kernel
theorem dX8_thingIs_40 : decode cX8_thingIs 40 = .ok (.ireturn, 1) := by decide +kernel
theorem dX8_thingIs_41 : decode cX8_thingIs 41 = .ok (.iload_n 2, 1) := by decide +kernel
theorem dX8_thingIs_42 : decode cX8_thingIs 42 = .ok (.iconst 4, 1) := by decide +kernel
theorem dX8_thingIs_43 : decode cX8_thingIs 43 = .ok (.if_icmp .ne 14, 3) := by decide +kernel
theorem dX8_thingIs_46 : decode cX8_thingIs 46 = .ok (.aload_n 0, 1) := by decide +kernel
theorem dX8_thingIs_47 : decode cX8_thingIs 47 = .ok (.getfield 12, 3) := by decide +kernel
theorem dX8_thingIs_50 : decode cX8_thingIs 50 = .ok (.iload_n 1, 1) := by decide +kernel
theorem dX8_thingIs_51 : decode cX8_thingIs 51 = .ok (.invokevirtual 116, 3) := by decide +kernel
theorem dX8_thingIs_54 : decode cX8_thingIs 54 = .ok (.goto 11, 3) := by decide +kernel
theorem dX8_thingIs_57 : decode cX8_thingIs 57 = .ok (.aload_n 0, 1) := by decide +kernel
theorem dX8_thingIs_58 : decode cX8_thingIs 58 = .ok (.getfield 12, 3) := by decide +kernel
theorem dX8_thingIs_61 : decode cX8_thingIs 61 = .ok (.iload_n 1, 1) := by decide +kernel
theorem dX8_thingIs_62 : decode cX8_thingIs 62 = .ok (.invokevirtual 119, 3) := by decide +kernel
theorem dX8_thingIs_65 : decode cX8_thingIs 65 = .ok (.ireturn, 1) := by decide +kernel
theorem dX8_as_0 : decode cX8_as 0 = .ok (.aload_n 0, 1) := by decide +kernel
theorem dX8_as_1 : decode cX8_as 1 = .ok (.iload_n 1, 1) := by decide +kernel
theorem dX8_as_2 : decode cX8_as 2 = .ok (.invokevirtual 109, 3) := by decide +kernel
theorem dX8_as_5 : decode cX8_as 5 = .ok (.ifCond .eq 12, 3) := by decide +kernel
theorem dX8_as_8 : decode cX8_as 8 = .ok (.iload_n 2, 1) := by decide +kernel
theorem dX8_as_9 : decode cX8_as 9 = .ok (.bipush 7, 2) := by decide +kernel
theorem dX8_as_11 : decode cX8_as 11 = .ok (.invokestatic 66, 3) := by decide +kernel
theorem dX8_as_14 : decode cX8_as 14 = .ok (.ifCond .ne 9, 3) := by decide +kernel
theorem dX8_as_17 : decode cX8_as 17 = .ok (.aload_n 0, 1) := by decide +kernel
theorem dX8_as_18 : decode cX8_as 18 = .ok (.iconst 1, 1) := by decide +kernel
theorem dX8_as_19 : decode cX8_as 19 = .ok (.invokevirtual 48, 3) := by decide +kernel
theorem dX8_as_22 : decode cX8_as 22 = .ok (.ireturn, 1) := by decide +kernel
theorem dX8_as_23 : decode cX8_as 23 = .ok (.aload_n 0, 1) := by decide +kernel
theorem dX8_as_24 : decode cX8_as 24 = .ok (.getfield 12, 3) := by decide +kernel
theorem dX8_as_27 : decode cX8_as 27 = .ok (.getfield 99, 3) := by decide +kernel
theorem dX8_as_30 : decode cX8_as 30 = .ok (.iload_n 1, 1) := by decide +kernel
theorem dX8_as_31 : decode cX8_as 31 = .ok (.iload_n 2, 1) := by decide +kernel
theorem dX8_as_32 : decode cX8_as 32 = .ok (.invokevirtual 122, 3) := by decide +kernel
theorem dX8_as_35 : decode cX8_as 35 = .ok (.ifCond .ne 9, 3) := by decide +kernel
theorem dX8_as_38 : decode cX8_as 38 = .ok (.aload_n 0, 1) := by decide +kernel
theorem dX8_as_39 : decode cX8_as 39 = .ok (.iconst 5, 1) := by decide +kernel
theorem dX8_as_40 : decode cX8_as 40 = .ok (.invokevirtual 48, 3) := by decide +kernel
theorem dX8_as_43 : decode cX8_as 43 = .ok (.ireturn, 1) := by decide +kernel
theorem dX8_as_44 : decode cX8_as 44 = .ok (.aload_n 0, 1) := by decide +kernel
theorem dX8_as_45 : decode cX8_as 45 = .ok (.getfield 12, 3) := by decide +kernel
theorem dX8_as_48 : decode cX8_as 48 = .ok (.getfield 99, 3) := by decide +kernel
theorem dX8_as_51 : decode cX8_as 51 = .ok (.iload_n 1, 1) := by decide +kernel
theorem dX8_as_52 : decode cX8_as 52 = .ok (.iconst 3, 1) := by decide +kernel
theorem dX8_as_53 : decode cX8_as 53 = .ok (.invokevirtual 113, 3) := by decide +kernel
theorem dX8_as_56 : decode cX8_as 56 = .ok (.ireturn, 1) := by decide +kernel
theorem dX8_set_0 : decode cX8_set 0 = .ok (.aload_n 0, 1) := by decide +kernel
theorem dX8_set_1 : decode cX8_set 1 = .ok (.iload_n 1, 1) := by decide +kernel
theorem dX8_set_2 : decode cX8_set 2 = .ok (.invokevirtual 109, 3) := by decide +kernel
theorem dX8_set_5 : decode cX8_set 5 = .ok (.ifCond .eq 22, 3) := by decide +kernel
theorem dX8_set_8 : decode cX8_set 8 = .ok (.iload_n 2, 1) := by decide +kernel
theorem dX8_set_9 : decode cX8_set 9 = .ok (.iconst 4, 1) := by decide +kernel
theorem dX8_set_10 : decode cX8_set 10 = .ok (.invokestatic 66, 3) := by decide +kernel
theorem dX8_set_13 : decode cX8_set 13 = .ok (.ifCond .eq 14, 3) := by decide +kernel
theorem dX8_set_16 : decode cX8_set 16 = .ok (.iload_n 3, 1) := by decide +kernel
theorem dX8_set_17 : decode cX8_set 17 = .ok (.iload_n 2, 1) := by decide +kernel
theorem dX8_set_18 : decode cX8_set 18 = .ok (.invokestatic 125, 3) := by decide +kernel
theorem dX8_set_21 : decode cX8_set 21 = .ok (.invokestatic 66, 3) := by decide +kernel
theorem dX8_set_24 : decode cX8_set 24 = .ok (.ifCond .ne 9, 3) := by decide +kernel
theorem dX8_set_27 : decode cX8_set 27 = .ok (.aload_n 0, 1) := by decide +kernel
theorem dX8_set_28 : decode cX8_set 28 = .ok (.iconst 1, 1) := by decide +kernel
theorem dX8_set_29 : decode cX8_set 29 = .ok (.invokevirtual 48, 3) := by decide +kernel
theorem dX8_set_32 : decode cX8_set 32 = .ok (.ireturn, 1) := by decide +kernel
theorem dX8_set_33 : decode cX8_set 33 = .ok (.aload_n 0, 1) := by decide +kernel
theorem dX8_set_34 : decode cX8_set 34 = .ok (.getfield 12, 3) := by decide +kernel
theorem dX8_set_37 : decode cX8_set 37 = .ok (.getfield 99, 3) := by decide +kernel
theorem dX8_set_40 : decode cX8_set 40 = .ok (.iload_n 1, 1) := by decide +kernel
theorem dX8_set_41 : decode cX8_set 41 = .ok (.iload_n 2, 1) := by decide +kernel
theorem dX8_set_42 : decode cX8_set 42 = .ok (.iload_n 3, 1) := by decide +kernel
theorem dX8_set_43 : decode cX8_set 43 = .ok (.invokevirtual 128, 3) := by decide +kernel
theorem dX8_set_46 : decode cX8_set 46 = .ok (.ireturn, 1) := by decide +kernel
theorem dX8_age_0 : decode cX8_age 0 = .ok (.aload_n 0, 1) := by decide +kernel
theorem dX8_age_1 : decode cX8_age 1 = .ok (.iload_n 1, 1) := by decide +kernel
theorem dX8_age_2 : decode cX8_age 2 = .ok (.invokevirtual 109, 3) := by decide +kernel
theorem dX8_age_5 : decode cX8_age 5 = .ok (.ifCond .eq 20, 3) := by decide +kernel
theorem dX8_age_8 : decode cX8_age 8 = .ok (.iload_n 2, 1) := by decide +kernel
theorem dX8_age_9 : decode cX8_age 9 = .ok (.iconst 4, 1) := by decide +kernel
theorem dX8_age_10 : decode cX8_age 10 = .ok (.invokestatic 66, 3) := by decide +kernel
theorem dX8_age_13 : decode cX8_age 13 = .ok (.ifCond .eq 12, 3) := by decide +kernel
theorem dX8_age_16 : decode cX8_age 16 = .ok (.iload_n 3, 1) := by decide +kernel
theorem dX8_age_17 : decode cX8_age 17 = .ok (.ldc 86, 2) := by decide +kernel
theorem dX8_age_19 : decode cX8_age 19 = .ok (.invokestatic 66, 3) := by decide +kernel
theorem dX8_age_22 : decode cX8_age 22 = .ok (.ifCond .ne 9, 3) := by decide +kernel
theorem dX8_age_25 : decode cX8_age 25 = .ok (.aload_n 0, 1) := by decide +kernel
theorem dX8_age_26 : decode cX8_age 26 = .ok (.iconst 1, 1) := by decide +kernel
theorem dX8_age_27 : decode cX8_age 27 = .ok (.invokevirtual 48, 3) := by decide +kernel
theorem dX8_age_30 : decode cX8_age 30 = .ok (.ireturn, 1) := by decide +kernel
theorem dX8_age_31 : decode cX8_age 31 = .ok (.aload_n 0, 1) := by decide +kernel
theorem dX8_age_32 : decode cX8_age 32 = .ok (.getfield 12, 3) := by decide +kernel
theorem dX8_age_35 : decode cX8_age 35 = .ok (.iload_n 1, 1) := by decide +kernel
theorem dX8_age_36 : decode cX8_age 36 = .ok (.iload_n 2, 1) := by decide +kernel
theorem dX8_age_37 : decode cX8_age 37 = .ok (.iload_n 3, 1) := by decide +kernel
theorem dX8_age_38 : decode cX8_age 38 = .ok (.invokevirtual 131, 3) := by decide +kernel
theorem dX8_age_41 : decode cX8_age 41 = .ok (.ireturn, 1) := by decide +kernel
theorem dX8_comes_0 : decode cX8_comes 0 = .ok (.aload_n 0, 1) := by decide +kernel
theorem dX8_comes_1 : decode cX8_comes 1 = .ok (.iload_n 1, 1) := by decide +kernel
theorem dX8_comes_2 : decode cX8_comes 2 = .ok (.invokevirtual 109, 3) := by decide +kernel
theorem dX8_comes_5 : decode cX8_comes 5 = .ok (.ifCond .eq 18, 3) := by decide +kernel
theorem dX8_comes_8 : decode cX8_comes 8 = .ok (.iload_n 2, 1) := by decide +kernel
theorem dX8_comes_9 : decode cX8_comes 9 = .ok (.iconst 4, 1) := by decide +kernel
theorem dX8_comes_10 : decode cX8_comes 10 = .ok (.invokestatic 66, 3) := by decide +kernel
theorem dX8_comes_13 : decode cX8_comes 13 = .ok (.ifCond .eq 10, 3) := by decide +kernel
theorem dX8_comes_16 : decode cX8_comes 16 = .ok (.iload_n 3, 1) := by decide +kernel
theorem dX8_comes_17 : decode cX8_comes 17 = .ok (.invokestatic 134, 3) := by decide +kernel
theorem dX8_comes_20 : decode cX8_comes 20 = .ok (.ifCond .ne 9, 3) := by decide +kernel
theorem dX8_comes_23 : decode cX8_comes 23 = .ok (.aload_n 0, 1) := by decide +kernel
theorem dX8_comes_24 : decode cX8_comes 24 = .ok (.iconst 1, 1) := by decide +kernel
theorem dX8_comes_25 : decode cX8_comes 25 = .ok (.invokevirtual 48, 3) := by decide +kernel
theorem dX8_comes_28 : decode cX8_comes 28 = .ok (.ireturn, 1) := by decide +kernel
theorem dX8_comes_29 : decode cX8_comes 29 = .ok (.aload_n 0, 1) := by decide +kernel
theorem dX8_comes_30 : decode cX8_comes 30 = .ok (.getfield 12, 3) := by decide +kernel
theorem dX8_comes_33 : decode cX8_comes 33 = .ok (.iload_n 1, 1) := by decide +kernel
theorem dX8_comes_34 : decode cX8_comes 34 = .ok (.iload_n 2, 1) := by decide +kernel
theorem dX8_comes_35 : decode cX8_comes 35 = .ok (.iload_n 3, 1) := by decide +kernel
theorem dX8_comes_36 : decode cX8_comes 36 = .ok (.invokevirtual 137, 3) := by decide +kernel
theorem dX8_comes_39 : decode cX8_comes 39 = .ok (.istore 4, 2) := by decide +kernel
theorem dX8_comes_41 : decode cX8_comes 41 = .ok (.iload 4, 2) := by decide +kernel
theorem dX8_comes_43 : decode cX8_comes 43 = .ok (.ifCond .ge 11, 3) := by decide +kernel
theorem dX8_comes_46 : decode cX8_comes 46 = .ok (.aload_n 0, 1) := by decide +kernel
theorem dX8_comes_47 : decode cX8_comes 47 = .ok (.iconst 2, 1) := by decide +kernel
theorem dX8_comes_48 : decode cX8_comes 48 = .ok (.invokevirtual 48, 3) := by decide +kernel
theorem dX8_comes_51 : decode cX8_comes 51 = .ok (.goto 5, 3) := by decide +kernel
theorem dX8_comes_54 : decode cX8_comes 54 = .ok (.iload 4, 2) := by decide +kernel
theorem dX8_comes_56 : decode cX8_comes 56 = .ok (.ireturn, 1) := by decide +kernel
theorem dX8_where_0 : decode cX8_where 0 = .ok (.aload_n 0, 1) := by decide +kernel
theorem dX8_where_1 : decode cX8_where 1 = .ok (.iload_n 1, 1) := by decide +kernel
theorem dX8_where_2 : decode cX8_where 2 = .ok (.invokevirtual 109, 3) := by decide +kernel
theorem dX8_where_5 : decode cX8_where 5 = .ok (.ifCond .eq 10, 3) := by decide +kernel
theorem dX8_where_8 : decode cX8_where 8 = .ok (.iload_n 2, 1) := by decide +kernel
theorem dX8_where_9 : decode cX8_where 9 = .ok (.invokestatic 134, 3) := by decide +kernel
theorem dX8_where_12 : decode cX8_where 12 = .ok (.ifCond .ne 9, 3) := by decide +kernel
theorem dX8_where_15 : decode cX8_where 15 = .ok (.aload_n 0, 1) := by decide +kernel
theorem dX8_where_16 : decode cX8_where 16 = .ok (.iconst 1, 1) := by decide +kernel
theorem dX8_where_17 : decode cX8_where 17 = .ok (.invokevirtual 48, 3) := by decide +kernel
theorem dX8_where_20 : decode cX8_where 20 = .ok (.ireturn, 1) := by decide +kernel
theorem dX8_where_21 : decode cX8_where 21 = .ok (.iconst (-1), 1) := by decide +kernel
theorem dX8_where_22 : decode cX8_where 22 = .ok (.istore_n 3, 1) := by decide +kernel
theorem dX8_where_23 : decode cX8_where 23 = .ok (.ldc 86, 2) := by decide +kernel
theorem dX8_where_25 : decode cX8_where 25 = .ok (.istore 4, 2) := by decide +kernel
theorem dX8_where_27 : decode cX8_where 27 = .ok (.iconst 0, 1) := by decide +kernel
theorem dX8_where_28 : decode cX8_where 28 = .ok (.istore 5, 2) := by decide +kernel
theorem dX8_where_30 : decode cX8_where 30 = .ok (.iload 5, 2) := by decide +kernel
theorem dX8_where_32 : decode cX8_where 32 = .ok (.iconst 4, 1) := by decide +kernel
theorem dX8_where_33 : decode cX8_where 33 = .ok (.if_icmp .ge 41, 3) := by decide +kernel
theorem dX8_where_36 : decode cX8_where 36 = .ok (.aload_n 0, 1) := by decide +kernel
theorem dX8_where_37 : decode cX8_where 37 = .ok (.getfield 12, 3) := by decide +kernel
theorem dX8_where_40 : decode cX8_where 40 = .ok (.iload_n 1, 1) := by decide +kernel
theorem dX8_where_41 : decode cX8_where 41 = .ok (.iload 5, 2) := by decide +kernel
theorem dX8_where_43 : decode cX8_where 43 = .ok (.iload_n 2, 1) := by decide +kernel
theorem dX8_where_44 : decode cX8_where 44 = .ok (.invokevirtual 137, 3) := by decide +kernel
theorem dX8_where_47 : decode cX8_where 47 = .ok (.istore 6, 2) := by decide +kernel
theorem dX8_where_49 : decode cX8_where 49 = .ok (.iload 6, 2) := by decide +kernel
theorem dX8_where_51 : decode cX8_where 51 = .ok (.ifCond .lt 17, 3) := by decide +kernel
theorem dX8_where_54 : decode cX8_where 54 = .ok (.iload 6, 2) := by decide +kernel
theorem dX8_where_56 : decode cX8_where 56 = .ok (.iload 4, 2) := by decide +kernel
theorem dX8_where_58 : decode cX8_where 58 = .ok (.if_icmp .ge 10, 3) := by decide +kernel
theorem dX8_where_61 : decode cX8_where 61 = .ok (.iload 6, 2) := by decide +kernel
theorem dX8_where_63 : decode cX8_where 63 = .ok (.istore 4, 2) := by decide +kernel
theorem dX8_where_65 : decode cX8_where 65 = .ok (.iload 5, 2) := by decide +kernel
theorem dX8_where_67 : decode cX8_where 67 = .ok (.istore_n 3, 1) := by decide +kernel
theorem dX8_where_68 : decode cX8_where 68 = .ok (.iinc 5 1, 3) := by decide +kernel
theorem dX8_where_71 : decode cX8_where 71 = .ok (.goto (-41), 3) := by decide +kernel
theorem dX8_where_74 : decode cX8_where 74 = .ok (.iload_n 3, 1) := by decide +kernel
theorem dX8_where_75 : decode cX8_where 75 = .ok (.ifCond .ge 11, 3) := by decide +kernel
theorem dX8_where_78 : decode cX8_where 78 = .ok (.aload_n 0, 1) := by decide +kernel
theorem dX8_where_79 : decode cX8_where 79 = .ok (.iconst 2, 1) := by decide +kernel
theorem dX8_where_80 : decode cX8_where 80 = .ok (.invokevirtual 48, 3) := by decide +kernel
theorem dX8_where_83 : decode cX8_where 83 = .ok (.goto 4, 3) := by decide +kernel
theorem dX8_where_86 : decode cX8_where 86 = .ok (.iload_n 3, 1) := by decide +kernel
theorem dX8_where_87 : decode cX8_where 87 = .ok (.ireturn, 1) := by decide +kernel
theorem dX8_twins_0 : decode cX8_twins 0 = .ok (.iconst 0, 1) := by decide +kernel
theorem dX8_twins_1 : decode cX8_twins 1 = .ok (.istore_n 1, 1) := by decide +kernel
theorem dX8_twins_2 : decode cX8_twins 2 = .ok (.iconst 0, 1) := by decide +kernel
theorem dX8_twins_3 : decode cX8_twins 3 = .ok (.istore_n 2, 1) := by decide +kernel
theorem dX8_twins_4 : decode cX8_twins 4 = .ok (.iload_n 2, 1) := by decide +kernel
theorem dX8_twins_5 : decode cX8_twins 5 = .ok (.aload_n 0, 1) := by decide +kernel
theorem dX8_twins_6 : decode cX8_twins 6 = .ok (.getfield 12, 3) := by decide +kernel
theorem dX8_twins_9 : decode cX8_twins 9 = .ok (.getfield 99, 3) := by decide +kernel
theorem dX8_twins_12 : decode cX8_twins 12 = .ok (.getfield 103, 3) := by decide +kernel
theorem dX8_twins_15 : decode cX8_twins 15 = .ok (.if_icmp .ge 48, 3) := by decide +kernel
theorem dX8_twins_18 : decode cX8_twins 18 = .ok (.iload_n 2, 1) := by decide +kernel
theorem dX8_twins_19 : decode cX8_twins 19 = .ok (.iconst 1, 1) := by decide +kernel
theorem dX8_twins_20 : decode cX8_twins 20 = .ok (.iadd, 1) := by decide +kernel
theorem dX8_twins_21 : decode cX8_twins 21 = .ok (.istore_n 3, 1) := by decide +kernel
theorem dX8_twins_22 : decode cX8_twins 22 = .ok (.iload_n 3, 1) := by decide +kernel
theorem dX8_twins_23 : decode cX8_twins 23 = .ok (.aload_n 0, 1) := by decide +kernel
theorem dX8_twins_24 : decode cX8_twins 24 = .ok (.getfield 12, 3) := by decide +kernel
theorem dX8_twins_27 : decode cX8_twins 27 = .ok (.getfield 99, 3) := by decide +kernel
theorem dX8_twins_30 : decode cX8_twins 30 = .ok (.getfield 103, 3) := by decide +kernel
theorem dX8_twins_33 : decode cX8_twins 33 = .ok (.if_icmp .ge 24, 3) := by decide +kernel
theorem dX8_twins_36 : decode cX8_twins 36 = .ok (.aload_n 0, 1) := by decide +kernel
theorem dX8_twins_37 : decode cX8_twins 37 = .ok (.getfield 12, 3) := by decide +kernel
theorem dX8_twins_40 : decode cX8_twins 40 = .ok (.iload_n 2, 1) := by decide +kernel
theorem dX8_twins_41 : decode cX8_twins 41 = .ok (.iload_n 3, 1) := by decide +kernel
theorem dX8_twins_42 : decode cX8_twins 42 = .ok (.invokevirtual 140, 3) := by decide +kernel
theorem dX8_twins_45 : decode cX8_twins 45 = .ok (.ifCond .eq 6, 3) := by decide +kernel
theorem dX8_twins_48 : decode cX8_twins 48 = .ok (.iinc 1 1, 3) := by decide +kernel
theorem dX8_twins_51 : decode cX8_twins 51 = .ok (.iinc 3 1, 3) := by decide +kernel
theorem dX8_twins_54 : decode cX8_twins 54 = .ok (.goto (-32), 3) := by decide +kernel
theorem dX8_twins_57 : decode cX8_twins 57 = .ok (.iinc 2 1, 3) := by decide +kernel
theorem dX8_twins_60 : decode cX8_twins 60 = .ok (.goto (-56), 3) := by decide +kernel
theorem dX8_twins_63 : decode cX8_twins 63 = .ok (.iload_n 1, 1) := by decide +kernel
theorem dX8_twins_64 : decode cX8_twins 64 = .ok (.ireturn, 1) := by decide +kernel
theorem dX8_feed_0 : decode cX8_feed 0 = .ok (.iload_n 3, 1) := by decide +kernel
theorem dX8_feed_1 : decode cX8_feed 1 = .ok (.iconst 1, 1) := by decide +kernel
theorem dX8_feed_2 : decode cX8_feed 2 = .ok (.if_icmp .lt 9, 3) := by decide +kernel
theorem dX8_feed_5 : decode cX8_feed 5 = .ok (.iload_n 3, 1) := by decide +kernel
theorem dX8_feed_6 : decode cX8_feed 6 = .ok (.bipush 8, 2) := by decide +kernel
theorem dX8_feed_8 : decode cX8_feed 8 = .ok (.if_icmp .le 9, 3) := by decide +kernel
theorem dX8_feed_11 : decode cX8_feed 11 = .ok (.aload_n 0, 1) := by decide +kernel
theorem dX8_feed_12 : decode cX8_feed 12 = .ok (.iconst 1, 1) := by decide +kernel
theorem dX8_feed_13 : decode cX8_feed 13 = .ok (.invokevirtual 48, 3) := by decide +kernel
theorem dX8_feed_16 : decode cX8_feed 16 = .ok (.ireturn, 1) := by decide +kernel
theorem dX8_feed_17 : decode cX8_feed 17 = .ok (.aload_n 0, 1) := by decide +kernel
theorem dX8_feed_18 : decode cX8_feed 18 = .ok (.getfield 12, 3) := by decide +kernel
theorem dX8_feed_21 : decode cX8_feed 21 = .ok (.getfield 143, 3) := by decide +kernel
theorem dX8_feed_24 : decode cX8_feed 24 = .ok (.iload_n 3, 1) := by decide +kernel
theorem dX8_feed_25 : decode cX8_feed 25 = .ok (.iadd, 1) := by decide +kernel
theorem dX8_feed_26 : decode cX8_feed 26 = .ok (.bipush 60, 2) := by decide +kernel
theorem dX8_feed_28 : decode cX8_feed 28 = .ok (.if_icmp .le 9, 3) := by decide +kernel
theorem dX8_feed_31 : decode cX8_feed 31 = .ok (.aload_n 0, 1) := by decide +kernel
theorem dX8_feed_32 : decode cX8_feed 32 = .ok (.iconst 4, 1) := by decide +kernel
theorem dX8_feed_33 : decode cX8_feed 33 = .ok (.invokevirtual 48, 3) := by decide +kernel
theorem dX8_feed_36 : decode cX8_feed 36 = .ok (.ireturn, 1) := by decide +kernel
theorem dX8_feed_37 : decode cX8_feed 37 = .ok (.iconst 0, 1) := by decide +kernel
theorem dX8_feed_38 : decode cX8_feed 38 = .ok (.istore 4, 2) := by decide +kernel
theorem dX8_feed_40 : decode cX8_feed 40 = .ok (.iload 4, 2) := by decide +kernel
theorem dX8_feed_42 : decode cX8_feed 42 = .ok (.iload_n 3, 1) := by decide +kernel
theorem dX8_feed_43 : decode cX8_feed 43 = .ok (.if_icmp .ge 49, 3) := by decide +kernel
theorem dX8_feed_46 : decode cX8_feed 46 = .ok (.aload_n 0, 1) := by decide +kernel
theorem dX8_feed_47 : decode cX8_feed 47 = .ok (.getfield 12, 3) := by decide +kernel
theorem dX8_feed_50 : decode cX8_feed 50 = .ok (.getfield 146, 3) := by decide +kernel
theorem dX8_feed_53 : decode cX8_feed 53 = .ok (.aload_n 0, 1) := by decide +kernel
theorem dX8_feed_54 : decode cX8_feed 54 = .ok (.getfield 12, 3) := by decide +kernel
theorem dX8_feed_57 : decode cX8_feed 57 = .ok (.getfield 143, 3) := by decide +kernel
theorem dX8_feed_60 : decode cX8_feed 60 = .ok (.lload_n 1, 1) := by decide +kernel
theorem dX8_feed_61 : decode cX8_feed 61 = .ok (.bipush 8, 2) := by decide +kernel
theorem dX8_feed_63 : decode cX8_feed 63 = .ok (.iload 4, 2) := by decide +kernel
theorem dX8_feed_65 : decode cX8_feed 65 = .ok (.imul, 1) := by decide +kernel
theorem dX8_feed_66 : decode cX8_feed 66 = .ok (.lushr, 1) := by decide +kernel
theorem dX8_feed_67 : decode cX8_feed 67 = .ok (.l2i, 1) := by decide +kernel
theorem dX8_feed_68 : decode cX8_feed 68 = .ok (.sipush 255, 3) := by decide +kernel
theorem dX8_feed_71 : decode cX8_feed 71 = .ok (.iand, 1) := by decide +kernel
theorem dX8_feed_72 : decode cX8_feed 72 = .ok (.iastore, 1) := by decide +kernel
theorem dX8_feed_73 : decode cX8_feed 73 = .ok (.aload_n 0, 1) := by decide +kernel
theorem dX8_feed_74 : decode cX8_feed 74 = .ok (.getfield 12, 3) := by decide +kernel
theorem dX8_feed_77 : decode cX8_feed 77 = .ok (.dup, 1) := by decide +kernel
theorem dX8_feed_78 : decode cX8_feed 78 = .ok (.getfield 143, 3) := by decide +kernel
theorem dX8_feed_81 : decode cX8_feed 81 = .ok (.iconst 1, 1) := by decide +kernel
theorem dX8_feed_82 : decode cX8_feed 82 = .ok (.iadd, 1) := by decide +kernel
theorem dX8_feed_83 : decode cX8_feed 83 = .ok (.putfield 143, 3) := by decide +kernel
theorem dX8_feed_86 : decode cX8_feed 86 = .ok (.iinc 4 1, 3) := by decide +kernel
theorem dX8_feed_89 : decode cX8_feed 89 = .ok (.goto (-49), 3) := by decide +kernel
theorem dX8_feed_92 : decode cX8_feed 92 = .ok (.aload_n 0, 1) := by decide +kernel
theorem dX8_feed_93 : decode cX8_feed 93 = .ok (.getfield 12, 3) := by decide +kernel
theorem dX8_feed_96 : decode cX8_feed 96 = .ok (.getfield 143, 3) := by decide +kernel
theorem dX8_feed_99 : decode cX8_feed 99 = .ok (.ireturn, 1) := by decide +kernel
theorem dX8_text_0 : decode cX8_text 0 = .ok (.iload_n 1, 1) := by decide +kernel
theorem dX8_text_1 : decode cX8_text 1 = .ok (.iconst 2, 1) := by decide +kernel
theorem dX8_text_2 : decode cX8_text 2 = .ok (.invokestatic 66, 3) := by decide +kernel
theorem dX8_text_5 : decode cX8_text 5 = .ok (.ifCond .ne 9, 3) := by decide +kernel
theorem dX8_text_8 : decode cX8_text 8 = .ok (.aload_n 0, 1) := by decide +kernel
theorem dX8_text_9 : decode cX8_text 9 = .ok (.iconst 1, 1) := by decide +kernel
theorem dX8_text_10 : decode cX8_text 10 = .ok (.invokevirtual 48, 3) := by decide +kernel
theorem dX8_text_13 : decode cX8_text 13 = .ok (.ireturn, 1) := by decide +kernel
theorem dX8_text_14 : decode cX8_text 14 = .ok (.aload_n 0, 1) := by decide +kernel
theorem dX8_text_15 : decode cX8_text 15 = .ok (.getfield 22, 3) := by decide +kernel
theorem dX8_text_18 : decode cX8_text 18 = .ok (.aload_n 0, 1) := by decide +kernel
theorem dX8_text_19 : decode cX8_text 19 = .ok (.getfield 12, 3) := by decide +kernel
theorem dX8_text_22 : decode cX8_text 22 = .ok (.getfield 146, 3) := by decide +kernel
theorem dX8_text_25 : decode cX8_text 25 = .ok (.aload_n 0, 1) := by decide +kernel
theorem dX8_text_26 : decode cX8_text 26 = .ok (.getfield 12, 3) := by decide +kernel
theorem dX8_text_29 : decode cX8_text 29 = .ok (.getfield 143, 3) := by decide +kernel
theorem dX8_text_32 : decode cX8_text 32 = .ok (.iload_n 1, 1) := by decide +kernel
theorem dX8_text_33 : decode cX8_text 33 = .ok (.ifCond .ne 8, 3) := by decide +kernel
theorem dX8_text_36 : decode cX8_text 36 = .ok (.ldc 149, 2) := by decide +kernel
theorem dX8_text_38 : decode cX8_text 38 = .ok (.goto 5, 3) := by decide +kernel
theorem dX8_text_41 : decode cX8_text 41 = .ok (.ldc 151, 2) := by decide +kernel
theorem dX8_text_43 : decode cX8_text 43 = .ok (.invokevirtual 153, 3) := by decide +kernel
theorem dX8_text_46 : decode cX8_text 46 = .ok (.istore_n 2, 1) := by decide +kernel
theorem dX8_text_47 : decode cX8_text 47 = .ok (.aload_n 0, 1) := by decide +kernel
theorem dX8_text_48 : decode cX8_text 48 = .ok (.getfield 12, 3) := by decide +kernel
theorem dX8_text_51 : decode cX8_text 51 = .ok (.iconst 0, 1) := by decide +kernel
theorem dX8_text_52 : decode cX8_text 52 = .ok (.putfield 143, 3) := by decide +kernel
theorem dX8_text_55 : decode cX8_text 55 = .ok (.iload_n 2, 1) := by decide +kernel
theorem dX8_text_56 : decode cX8_text 56 = .ok (.ifCond .ne 14, 3) := by decide +kernel
theorem dX8_text_59 : decode cX8_text 59 = .ok (.bipush (-10), 2) := by decide +kernel
theorem dX8_text_61 : decode cX8_text 61 = .ok (.aload_n 0, 1) := by decide +kernel
theorem dX8_text_62 : decode cX8_text 62 = .ok (.getfield 22, 3) := by decide +kernel
theorem dX8_text_65 : decode cX8_text 65 = .ok (.getfield 157, 3) := by decide +kernel
theorem dX8_text_68 : decode cX8_text 68 = .ok (.isub, 1) := by decide +kernel
theorem dX8_text_69 : decode cX8_text 69 = .ok (.ireturn, 1) := by decide +kernel
theorem dX8_text_70 : decode cX8_text 70 = .ok (.aload_n 0, 1) := by decide +kernel
theorem dX8_text_71 : decode cX8_text 71 = .ok (.getfield 12, 3) := by decide +kernel
theorem dX8_text_74 : decode cX8_text 74 = .ok (.iload_n 1, 1) := by decide +kernel
theorem dX8_text_75 : decode cX8_text 75 = .ok (.invokevirtual 160, 3) := by decide +kernel
theorem dX8_text_78 : decode cX8_text 78 = .ok (.aload_n 0, 1) := by decide +kernel
theorem dX8_text_79 : decode cX8_text 79 = .ok (.getfield 22, 3) := by decide +kernel
theorem dX8_text_82 : decode cX8_text 82 = .ok (.getfield 164, 3) := by decide +kernel
theorem dX8_text_85 : decode cX8_text 85 = .ok (.aload_n 0, 1) := by decide +kernel
theorem dX8_text_86 : decode cX8_text 86 = .ok (.getfield 22, 3) := by decide +kernel
theorem dX8_text_89 : decode cX8_text 89 = .ok (.getfield 167, 3) := by decide +kernel
theorem dX8_text_92 : decode cX8_text 92 = .ok (.invokevirtual 170, 3) := by decide +kernel
theorem dX8_text_95 : decode cX8_text 95 = .ok (.iconst 1, 1) := by decide +kernel
theorem dX8_text_96 : decode cX8_text 96 = .ok (.ireturn, 1) := by decide +kernel
theorem dX8_untell_0 : decode cX8_untell 0 = .ok (.iload_n 1, 1) := by decide +kernel
theorem dX8_untell_1 : decode cX8_untell 1 = .ok (.iconst 2, 1) := by decide +kernel
theorem dX8_untell_2 : decode cX8_untell 2 = .ok (.invokestatic 66, 3) := by decide +kernel
theorem dX8_untell_5 : decode cX8_untell 5 = .ok (.ifCond .ne 9, 3) := by decide +kernel
theorem dX8_untell_8 : decode cX8_untell 8 = .ok (.aload_n 0, 1) := by decide +kernel
theorem dX8_untell_9 : decode cX8_untell 9 = .ok (.iconst 1, 1) := by decide +kernel
theorem dX8_untell_10 : decode cX8_untell 10 = .ok (.invokevirtual 48, 3) := by decide +kernel
theorem dX8_untell_13 : decode cX8_untell 13 = .ok (.ireturn, 1) := by decide +kernel
theorem dX8_untell_14 : decode cX8_untell 14 = .ok (.aload_n 0, 1) := by decide +kernel
theorem dX8_untell_15 : decode cX8_untell 15 = .ok (.getfield 12, 3) := by decide +kernel
theorem dX8_untell_18 : decode cX8_untell 18 = .ok (.iload_n 1, 1) := by decide +kernel
theorem dX8_untell_19 : decode cX8_untell 19 = .ok (.invokevirtual 160, 3) := by decide +kernel
theorem dX8_untell_22 : decode cX8_untell 22 = .ok (.astore_n 2, 1) := by decide +kernel
theorem dX8_untell_23 : decode cX8_untell 23 = .ok (.aload_n 2, 1) := by decide +kernel
theorem dX8_untell_24 : decode cX8_untell 24 = .ok (.getfield 176, 3) := by decide +kernel
theorem dX8_untell_27 : decode cX8_untell 27 = .ok (.ifCond .eq 7, 3) := by decide +kernel
theorem dX8_untell_30 : decode cX8_untell 30 = .ok (.iconst 1, 1) := by decide +kernel
theorem dX8_untell_31 : decode cX8_untell 31 = .ok (.goto 4, 3) := by decide +kernel
theorem dX8_untell_34 : decode cX8_untell 34 = .ok (.iconst 0, 1) := by decide +kernel
theorem dX8_untell_35 : decode cX8_untell 35 = .ok (.istore_n 3, 1) := by decide +kernel
theorem dX8_untell_36 : decode cX8_untell 36 = .ok (.aload_n 2, 1) := by decide +kernel
theorem dX8_untell_37 : decode cX8_untell 37 = .ok (.iconst 0, 1) := by decide +kernel
theorem dX8_untell_38 : decode cX8_untell 38 = .ok (.putfield 176, 3) := by decide +kernel
theorem dX8_untell_41 : decode cX8_untell 41 = .ok (.iload_n 3, 1) := by decide +kernel
theorem dX8_untell_42 : decode cX8_untell 42 = .ok (.ireturn, 1) := by decide +kernel
theorem dX8_paper_0 : decode cX8_paper 0 = .ok (.aload_n 0, 1) := by decide +kernel
theorem dX8_paper_1 : decode cX8_paper 1 = .ok (.iload_n 1, 1) := by decide +kernel
theorem dX8_paper_2 : decode cX8_paper 2 = .ok (.iload_n 2, 1) := by decide +kernel
theorem dX8_paper_3 : decode cX8_paper 3 = .ok (.invokevirtual 180, 3) := by decide +kernel
theorem dX8_paper_6 : decode cX8_paper 6 = .ok (.istore_n 3, 1) := by decide +kernel
theorem dX8_paper_7 : decode cX8_paper 7 = .ok (.iload_n 3, 1) := by decide +kernel
theorem dX8_paper_8 : decode cX8_paper 8 = .ok (.ifCond .eq 9, 3) := by decide +kernel
theorem dX8_paper_11 : decode cX8_paper 11 = .ok (.aload_n 0, 1) := by decide +kernel
theorem dX8_paper_12 : decode cX8_paper 12 = .ok (.iload_n 3, 1) := by decide +kernel
theorem dX8_paper_13 : decode cX8_paper 13 = .ok (.invokevirtual 48, 3) := by decide +kernel
theorem dX8_paper_16 : decode cX8_paper 16 = .ok (.ireturn, 1) := by decide +kernel
theorem dX8_paper_17 : decode cX8_paper 17 = .ok (.aload_n 0, 1) := by decide +kernel
theorem dX8_paper_18 : decode cX8_paper 18 = .ok (.getfield 12, 3) := by decide +kernel
theorem dX8_paper_21 : decode cX8_paper 21 = .ok (.getfield 183, 3) := by decide +kernel
theorem dX8_paper_24 : decode cX8_paper 24 = .ok (.iload_n 1, 1) := by decide +kernel
theorem dX8_paper_25 : decode cX8_paper 25 = .ok (.iload_n 2, 1) := by decide +kernel
theorem dX8_paper_26 : decode cX8_paper 26 = .ok (.invokevirtual 187, 3) := by decide +kernel
theorem dX8_paper_29 : decode cX8_paper 29 = .ok (.aload_n 0, 1) := by decide +kernel
theorem dX8_paper_30 : decode cX8_paper 30 = .ok (.getfield 12, 3) := by decide +kernel
theorem dX8_paper_33 : decode cX8_paper 33 = .ok (.getfield 183, 3) := by decide +kernel
theorem dX8_paper_36 : decode cX8_paper 36 = .ok (.getfield 192, 3) := by decide +kernel
theorem dX8_paper_39 : decode cX8_paper 39 = .ok (.iconst 1, 1) := by decide +kernel
theorem dX8_paper_40 : decode cX8_paper 40 = .ok (.isub, 1) := by decide +kernel
theorem dX8_paper_41 : decode cX8_paper 41 = .ok (.ireturn, 1) := by decide +kernel
theorem dX8_paperIs_0 : decode cX8_paperIs 0 = .ok (.aload_n 0, 1) := by decide +kernel
theorem dX8_paperIs_1 : decode cX8_paperIs 1 = .ok (.iload_n 1, 1) := by decide +kernel
theorem dX8_paperIs_2 : decode cX8_paperIs 2 = .ok (.invokevirtual 193, 3) := by decide +kernel
theorem dX8_paperIs_5 : decode cX8_paperIs 5 = .ok (.ifCond .eq 11, 3) := by decide +kernel
theorem dX8_paperIs_8 : decode cX8_paperIs 8 = .ok (.iload_n 2, 1) := by decide +kernel
theorem dX8_paperIs_9 : decode cX8_paperIs 9 = .ok (.iconst 3, 1) := by decide +kernel
theorem dX8_paperIs_10 : decode cX8_paperIs 10 = .ok (.invokestatic 66, 3) := by decide +kernel
theorem dX8_paperIs_13 : decode cX8_paperIs 13 = .ok (.ifCond .ne 9, 3) := by decide +kernel
theorem dX8_paperIs_16 : decode cX8_paperIs 16 = .ok (.aload_n 0, 1) := by decide +kernel
theorem dX8_paperIs_17 : decode cX8_paperIs 17 = .ok (.iconst 1, 1) := by decide +kernel
theorem dX8_paperIs_18 : decode cX8_paperIs 18 = .ok (.invokevirtual 48, 3) := by decide +kernel
theorem dX8_paperIs_21 : decode cX8_paperIs 21 = .ok (.ireturn, 1) := by decide +kernel
theorem dX8_paperIs_22 : decode cX8_paperIs 22 = .ok (.iload_n 2, 1) := by decide +kernel
theorem dX8_paperIs_23 : decode cX8_paperIs 23 = .ok (.iconst 2, 1) := by decide +kernel
theorem dX8_paperIs_24 : decode cX8_paperIs 24 = .ok (.if_icmp .ne 22, 3) := by decide +kernel
theorem dX8_paperIs_27 : decode cX8_paperIs 27 = .ok (.aload_n 0, 1) := by decide +kernel
theorem dX8_paperIs_28 : decode cX8_paperIs 28 = .ok (.getfield 12, 3) := by decide +kernel
theorem dX8_paperIs_31 : decode cX8_paperIs 31 = .ok (.getfield 183, 3) := by decide +kernel
theorem dX8_paperIs_34 : decode cX8_paperIs 34 = .ok (.aload_n 0, 1) := by decide +kernel
theorem dX8_paperIs_35 : decode cX8_paperIs 35 = .ok (.getfield 12, 3) := by decide +kernel
theorem dX8_paperIs_38 : decode cX8_paperIs 38 = .ok (.getfield 52, 3) := by decide +kernel
theorem dX8_paperIs_41 : decode cX8_paperIs 41 = .ok (.iload_n 1, 1) := by decide +kernel
theorem dX8_paperIs_42 : decode cX8_paperIs 42 = .ok (.invokevirtual 196, 3) := by decide +kernel
theorem dX8_paperIs_45 : decode cX8_paperIs 45 = .ok (.ireturn, 1) := by decide +kernel
theorem dX8_paperIs_46 : decode cX8_paperIs 46 = .ok (.iload_n 2, 1) := by decide +kernel
theorem dX8_paperIs_47 : decode cX8_paperIs 47 = .ok (.ifCond .ne 18, 3) := by decide +kernel
theorem dX8_paperIs_50 : decode cX8_paperIs 50 = .ok (.aload_n 0, 1) := by decide +kernel
theorem dX8_paperIs_51 : decode cX8_paperIs 51 = .ok (.getfield 12, 3) := by decide +kernel
theorem dX8_paperIs_54 : decode cX8_paperIs 54 = .ok (.getfield 183, 3) := by decide +kernel
theorem dX8_paperIs_57 : decode cX8_paperIs 57 = .ok (.getfield 200, 3) := by decide +kernel
theorem dX8_paperIs_60 : decode cX8_paperIs 60 = .ok (.iload_n 1, 1) := by decide +kernel
theorem dX8_paperIs_61 : decode cX8_paperIs 61 = .ok (.iaload, 1) := by decide +kernel
theorem dX8_paperIs_62 : decode cX8_paperIs 62 = .ok (.goto 15, 3) := by decide +kernel
theorem dX8_paperIs_65 : decode cX8_paperIs 65 = .ok (.aload_n 0, 1) := by decide +kernel
theorem dX8_paperIs_66 : decode cX8_paperIs 66 = .ok (.getfield 12, 3) := by decide +kernel
theorem dX8_paperIs_69 : decode cX8_paperIs 69 = .ok (.getfield 183, 3) := by decide +kernel
theorem dX8_paperIs_72 : decode cX8_paperIs 72 = .ok (.getfield 201, 3) := by decide +kernel
theorem dX8_paperIs_75 : decode cX8_paperIs 75 = .ok (.iload_n 1, 1) := by decide +kernel
theorem dX8_paperIs_76 : decode cX8_paperIs 76 = .ok (.iaload, 1) := by decide +kernel
theorem dX8_paperIs_77 : decode cX8_paperIs 77 = .ok (.ireturn, 1) := by decide +kernel
theorem dX8_burn_0 : decode cX8_burn 0 = .ok (.aload_n 0, 1) := by decide +kernel
theorem dX8_burn_1 : decode cX8_burn 1 = .ok (.getfield 12, 3) := by decide +kernel
theorem dX8_burn_4 : decode cX8_burn 4 = .ok (.getfield 183, 3) := by decide +kernel
theorem dX8_burn_7 : decode cX8_burn 7 = .ok (.getfield 192, 3) := by decide +kernel
theorem dX8_burn_10 : decode cX8_burn 10 = .ok (.ifCond .ne 9, 3) := by decide +kernel
theorem dX8_burn_13 : decode cX8_burn 13 = .ok (.aload_n 0, 1) := by decide +kernel
theorem dX8_burn_14 : decode cX8_burn 14 = .ok (.iconst 3, 1) := by decide +kernel
theorem dX8_burn_15 : decode cX8_burn 15 = .ok (.invokevirtual 48, 3) := by decide +kernel
theorem dX8_burn_18 : decode cX8_burn 18 = .ok (.ireturn, 1) := by decide +kernel
theorem dX8_burn_19 : decode cX8_burn 19 = .ok (.aload_n 0, 1) := by decide +kernel
theorem dX8_burn_20 : decode cX8_burn 20 = .ok (.getfield 12, 3) := by decide +kernel
