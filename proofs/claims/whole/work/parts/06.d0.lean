theorem dX0_init_0 : decode cX0_init 0 = .ok (.aload_n 0, 1) := by decide +kernel
theorem dX0_init_1 : decode cX0_init 1 = .ok (.invokespecial 3, 3) := by decide +kernel
theorem dX0_init_4 : decode cX0_init 4 = .ok (.aload_n 0, 1) := by decide +kernel
theorem dX0_init_5 : decode cX0_init 5 = .ok (.bipush 30, 2) := by decide +kernel
theorem dX0_init_7 : decode cX0_init 7 = .ok (.newarray .int, 2) := by decide +kernel
theorem dX0_init_9 : decode cX0_init 9 = .ok (.putfield 9, 3) := by decide +kernel
theorem dX0_init_12 : decode cX0_init 12 = .ok (.aload_n 0, 1) := by decide +kernel
theorem dX0_init_13 : decode cX0_init 13 = .ok (.iconst 0, 1) := by decide +kernel
theorem dX0_init_14 : decode cX0_init 14 = .ok (.putfield 15, 3) := by decide +kernel
theorem dX0_init_17 : decode cX0_init 17 = .ok (.aload_n 0, 1) := by decide +kernel
theorem dX0_init_18 : decode cX0_init 18 = .ok (.iconst 0, 1) := by decide +kernel
theorem dX0_init_19 : decode cX0_init 19 = .ok (.putfield 19, 3) := by decide +kernel
theorem dX0_init_22 : decode cX0_init 22 = .ok (.aload_n 0, 1) := by decide +kernel
theorem dX0_init_23 : decode cX0_init 23 = .ok (.iconst 0, 1) := by decide +kernel
theorem dX0_init_24 : decode cX0_init 24 = .ok (.putfield 23, 3) := by decide +kernel
theorem dX0_init_27 : decode cX0_init 27 = .ok (.aload_n 0, 1) := by decide +kernel
theorem dX0_init_28 : decode cX0_init 28 = .ok (.iconst 0, 1) := by decide +kernel
theorem dX0_init_29 : decode cX0_init 29 = .ok (.putfield 26, 3) := by decide +kernel
theorem dX0_init_32 : decode cX0_init 32 = .ok (.aload_n 0, 1) := by decide +kernel
theorem dX0_init_33 : decode cX0_init 33 = .ok (.iconst 0, 1) := by decide +kernel
theorem dX0_init_34 : decode cX0_init 34 = .ok (.putfield 29, 3) := by decide +kernel
theorem dX0_init_37 : decode cX0_init 37 = .ok (.return_, 1) := by decide +kernel
theorem dX0_sing_0 : decode cX0_sing 0 = .ok (.aload_n 0, 1) := by decide +kernel
theorem dX0_sing_1 : decode cX0_sing 1 = .ok (.iconst 0, 1) := by decide +kernel
theorem dX0_sing_2 : decode cX0_sing 2 = .ok (.putfield 15, 3) := by decide +kernel
theorem dX0_sing_5 : decode cX0_sing 5 = .ok (.aload_n 0, 1) := by decide +kernel
theorem dX0_sing_6 : decode cX0_sing 6 = .ok (.iconst 0, 1) := by decide +kernel
theorem dX0_sing_7 : decode cX0_sing 7 = .ok (.putfield 19, 3) := by decide +kernel
theorem dX0_sing_10 : decode cX0_sing 10 = .ok (.aload_n 0, 1) := by decide +kernel
theorem dX0_sing_11 : decode cX0_sing 11 = .ok (.aload_n 1, 1) := by decide +kernel
theorem dX0_sing_12 : decode cX0_sing 12 = .ok (.getfield 32, 3) := by decide +kernel
theorem dX0_sing_15 : decode cX0_sing 15 = .ok (.putfield 23, 3) := by decide +kernel
theorem dX0_sing_18 : decode cX0_sing 18 = .ok (.aload_n 0, 1) := by decide +kernel
theorem dX0_sing_19 : decode cX0_sing 19 = .ok (.aload_n 1, 1) := by decide +kernel
theorem dX0_sing_20 : decode cX0_sing 20 = .ok (.getfield 35, 3) := by decide +kernel
theorem dX0_sing_23 : decode cX0_sing 23 = .ok (.putfield 26, 3) := by decide +kernel
theorem dX0_sing_26 : decode cX0_sing 26 = .ok (.aload_n 0, 1) := by decide +kernel
theorem dX0_sing_27 : decode cX0_sing 27 = .ok (.iload_n 2, 1) := by decide +kernel
theorem dX0_sing_28 : decode cX0_sing 28 = .ok (.putfield 29, 3) := by decide +kernel
theorem dX0_sing_31 : decode cX0_sing 31 = .ok (.aload_n 0, 1) := by decide +kernel
theorem dX0_sing_32 : decode cX0_sing 32 = .ok (.iload_n 3, 1) := by decide +kernel
theorem dX0_sing_33 : decode cX0_sing 33 = .ok (.iload 4, 2) := by decide +kernel
theorem dX0_sing_35 : decode cX0_sing 35 = .ok (.iconst 0, 1) := by decide +kernel
theorem dX0_sing_36 : decode cX0_sing 36 = .ok (.invokevirtual 36, 3) := by decide +kernel
theorem dX0_sing_39 : decode cX0_sing 39 = .ok (.ireturn, 1) := by decide +kernel
theorem dX0_own_0 : decode cX0_own 0 = .ok (.aload_n 0, 1) := by decide +kernel
theorem dX0_own_1 : decode cX0_own 1 = .ok (.aload_n 0, 1) := by decide +kernel
theorem dX0_own_2 : decode cX0_own 2 = .ok (.getfield 23, 3) := by decide +kernel
theorem dX0_own_5 : decode cX0_own 5 = .ok (.iload_n 1, 1) := by decide +kernel
theorem dX0_own_6 : decode cX0_own 6 = .ok (.iload_n 2, 1) := by decide +kernel
theorem dX0_own_7 : decode cX0_own 7 = .ok (.iload_n 3, 1) := by decide +kernel
theorem dX0_own_8 : decode cX0_own 8 = .ok (.invokevirtual 40, 3) := by decide +kernel
theorem dX0_own_11 : decode cX0_own 11 = .ok (.ireturn, 1) := by decide +kernel
theorem dX0_from_0 : decode cX0_from 0 = .ok (.iload_n 1, 1) := by decide +kernel
theorem dX0_from_1 : decode cX0_from 1 = .ok (.istore 5, 2) := by decide +kernel
theorem dX0_from_3 : decode cX0_from 3 = .ok (.iconst 0, 1) := by decide +kernel
theorem dX0_from_4 : decode cX0_from 4 = .ok (.istore 6, 2) := by decide +kernel
theorem dX0_from_6 : decode cX0_from 6 = .ok (.iload 6, 2) := by decide +kernel
theorem dX0_from_8 : decode cX0_from 8 = .ok (.bipush 6, 2) := by decide +kernel
theorem dX0_from_10 : decode cX0_from 10 = .ok (.if_icmp .gt 34, 3) := by decide +kernel
theorem dX0_from_13 : decode cX0_from 13 = .ok (.iload 5, 2) := by decide +kernel
theorem dX0_from_15 : decode cX0_from 15 = .ok (.ifCond .le 29, 3) := by decide +kernel
theorem dX0_from_18 : decode cX0_from 18 = .ok (.getstatic 44, 3) := by decide +kernel
theorem dX0_from_21 : decode cX0_from 21 = .ok (.iload 5, 2) := by decide +kernel
theorem dX0_from_23 : decode cX0_from 23 = .ok (.iconst 4, 1) := by decide +kernel
theorem dX0_from_24 : decode cX0_from 24 = .ok (.imul, 1) := by decide +kernel
theorem dX0_from_25 : decode cX0_from 25 = .ok (.iload_n 2, 1) := by decide +kernel
theorem dX0_from_26 : decode cX0_from 26 = .ok (.iadd, 1) := by decide +kernel
theorem dX0_from_27 : decode cX0_from 27 = .ok (.iaload, 1) := by decide +kernel
theorem dX0_from_28 : decode cX0_from 28 = .ok (.ifCond .ne 16, 3) := by decide +kernel
theorem dX0_from_31 : decode cX0_from 31 = .ok (.iload 5, 2) := by decide +kernel
theorem dX0_from_33 : decode cX0_from 33 = .ok (.invokestatic 47, 3) := by decide +kernel
theorem dX0_from_36 : decode cX0_from 36 = .ok (.istore 5, 2) := by decide +kernel
theorem dX0_from_38 : decode cX0_from 38 = .ok (.iinc 6 1, 3) := by decide +kernel
theorem dX0_from_41 : decode cX0_from 41 = .ok (.goto (-35), 3) := by decide +kernel
theorem dX0_from_44 : decode cX0_from 44 = .ok (.iload 5, 2) := by decide +kernel
theorem dX0_from_46 : decode cX0_from 46 = .ok (.ifCond .lt 10, 3) := by decide +kernel
theorem dX0_from_49 : decode cX0_from 49 = .ok (.iload 4, 2) := by decide +kernel
theorem dX0_from_51 : decode cX0_from 51 = .ok (.bipush 30, 2) := by decide +kernel
theorem dX0_from_53 : decode cX0_from 53 = .ok (.if_icmp .le 5, 3) := by decide +kernel
theorem dX0_from_56 : decode cX0_from 56 = .ok (.iconst 0, 1) := by decide +kernel
theorem dX0_from_57 : decode cX0_from 57 = .ok (.ireturn, 1) := by decide +kernel
theorem dX0_from_58 : decode cX0_from 58 = .ok (.aload_n 0, 1) := by decide +kernel
theorem dX0_from_59 : decode cX0_from 59 = .ok (.getstatic 44, 3) := by decide +kernel
theorem dX0_from_62 : decode cX0_from 62 = .ok (.iload 5, 2) := by decide +kernel
theorem dX0_from_64 : decode cX0_from 64 = .ok (.iconst 4, 1) := by decide +kernel
theorem dX0_from_65 : decode cX0_from 65 = .ok (.imul, 1) := by decide +kernel
theorem dX0_from_66 : decode cX0_from 66 = .ok (.iload_n 2, 1) := by decide +kernel
theorem dX0_from_67 : decode cX0_from 67 = .ok (.iadd, 1) := by decide +kernel
theorem dX0_from_68 : decode cX0_from 68 = .ok (.iaload, 1) := by decide +kernel
theorem dX0_from_69 : decode cX0_from 69 = .ok (.iload 5, 2) := by decide +kernel
theorem dX0_from_71 : decode cX0_from 71 = .ok (.invokestatic 47, 3) := by decide +kernel
theorem dX0_from_74 : decode cX0_from 74 = .ok (.iload_n 3, 1) := by decide +kernel
theorem dX0_from_75 : decode cX0_from 75 = .ok (.iload 4, 2) := by decide +kernel
theorem dX0_from_77 : decode cX0_from 77 = .ok (.iconst 1, 1) := by decide +kernel
theorem dX0_from_78 : decode cX0_from 78 = .ok (.iadd, 1) := by decide +kernel
theorem dX0_from_79 : decode cX0_from 79 = .ok (.invokevirtual 51, 3) := by decide +kernel
theorem dX0_from_82 : decode cX0_from 82 = .ok (.ireturn, 1) := by decide +kernel
theorem dX0_begin_0 : decode cX0_begin 0 = .ok (.aload_n 0, 1) := by decide +kernel
theorem dX0_begin_1 : decode cX0_begin 1 = .ok (.getfield 15, 3) := by decide +kernel
theorem dX0_begin_4 : decode cX0_begin 4 = .ok (.bipush 30, 2) := by decide +kernel
theorem dX0_begin_6 : decode cX0_begin 6 = .ok (.if_icmp .ge 23, 3) := by decide +kernel
theorem dX0_begin_9 : decode cX0_begin 9 = .ok (.aload_n 0, 1) := by decide +kernel
theorem dX0_begin_10 : decode cX0_begin 10 = .ok (.getfield 9, 3) := by decide +kernel
theorem dX0_begin_13 : decode cX0_begin 13 = .ok (.aload_n 0, 1) := by decide +kernel
theorem dX0_begin_14 : decode cX0_begin 14 = .ok (.getfield 15, 3) := by decide +kernel
theorem dX0_begin_17 : decode cX0_begin 17 = .ok (.iload_n 1, 1) := by decide +kernel
theorem dX0_begin_18 : decode cX0_begin 18 = .ok (.iastore, 1) := by decide +kernel
theorem dX0_begin_19 : decode cX0_begin 19 = .ok (.aload_n 0, 1) := by decide +kernel
theorem dX0_begin_20 : decode cX0_begin 20 = .ok (.dup, 1) := by decide +kernel
theorem dX0_begin_21 : decode cX0_begin 21 = .ok (.getfield 15, 3) := by decide +kernel
theorem dX0_begin_24 : decode cX0_begin 24 = .ok (.iconst 1, 1) := by decide +kernel
theorem dX0_begin_25 : decode cX0_begin 25 = .ok (.iadd, 1) := by decide +kernel
theorem dX0_begin_26 : decode cX0_begin 26 = .ok (.putfield 15, 3) := by decide +kernel
theorem dX0_begin_29 : decode cX0_begin 29 = .ok (.iload_n 1, 1) := by decide +kernel
theorem dX0_begin_30 : decode cX0_begin 30 = .ok (.lookupswitch 254 #[(10, 114), (11, 121), (12, 132), (13, 146), (20, 152), (21, 164), (30, 173), (40, 185), (50, 197), (51, 209), (60, 224), (70, 236), (71, 239)], 114) := by decide +kernel
theorem dX0_begin_144 : decode cX0_begin 144 = .ok (.iload_n 3, 1) := by decide +kernel
theorem dX0_begin_145 : decode cX0_begin 145 = .ok (.aload_n 0, 1) := by decide +kernel
theorem dX0_begin_146 : decode cX0_begin 146 = .ok (.getfield 29, 3) := by decide +kernel
theorem dX0_begin_149 : decode cX0_begin 149 = .ok (.iadd, 1) := by decide +kernel
theorem dX0_begin_150 : decode cX0_begin 150 = .ok (.ireturn, 1) := by decide +kernel
theorem dX0_begin_151 : decode cX0_begin 151 = .ok (.aload_n 0, 1) := by decide +kernel
theorem dX0_begin_152 : decode cX0_begin 152 = .ok (.iconst 0, 1) := by decide +kernel
theorem dX0_begin_153 : decode cX0_begin 153 = .ok (.iload_n 3, 1) := by decide +kernel
theorem dX0_begin_154 : decode cX0_begin 154 = .ok (.iload 4, 2) := by decide +kernel
theorem dX0_begin_156 : decode cX0_begin 156 = .ok (.invokevirtual 36, 3) := by decide +kernel
theorem dX0_begin_159 : decode cX0_begin 159 = .ok (.iconst 2, 1) := by decide +kernel
theorem dX0_begin_160 : decode cX0_begin 160 = .ok (.imul, 1) := by decide +kernel
theorem dX0_begin_161 : decode cX0_begin 161 = .ok (.ireturn, 1) := by decide +kernel
theorem dX0_begin_162 : decode cX0_begin 162 = .ok (.aload_n 0, 1) := by decide +kernel
theorem dX0_begin_163 : decode cX0_begin 163 = .ok (.iconst 1, 1) := by decide +kernel
theorem dX0_begin_164 : decode cX0_begin 164 = .ok (.iload_n 3, 1) := by decide +kernel
theorem dX0_begin_165 : decode cX0_begin 165 = .ok (.iload 4, 2) := by decide +kernel
theorem dX0_begin_167 : decode cX0_begin 167 = .ok (.invokevirtual 36, 3) := by decide +kernel
theorem dX0_begin_170 : decode cX0_begin 170 = .ok (.aload_n 0, 1) := by decide +kernel
theorem dX0_begin_171 : decode cX0_begin 171 = .ok (.getfield 26, 3) := by decide +kernel
theorem dX0_begin_174 : decode cX0_begin 174 = .ok (.isub, 1) := by decide +kernel
theorem dX0_begin_175 : decode cX0_begin 175 = .ok (.ireturn, 1) := by decide +kernel
theorem dX0_begin_176 : decode cX0_begin 176 = .ok (.aload_n 0, 1) := by decide +kernel
theorem dX0_begin_177 : decode cX0_begin 177 = .ok (.iload_n 3, 1) := by decide +kernel
theorem dX0_begin_178 : decode cX0_begin 178 = .ok (.invokevirtual 54, 3) := by decide +kernel
theorem dX0_begin_181 : decode cX0_begin 181 = .ok (.ireturn, 1) := by decide +kernel
theorem dX0_begin_182 : decode cX0_begin 182 = .ok (.aload_n 0, 1) := by decide +kernel
theorem dX0_begin_183 : decode cX0_begin 183 = .ok (.iload_n 2, 1) := by decide +kernel
theorem dX0_begin_184 : decode cX0_begin 184 = .ok (.iconst 0, 1) := by decide +kernel
theorem dX0_begin_185 : decode cX0_begin 185 = .ok (.iload_n 3, 1) := by decide +kernel
theorem dX0_begin_186 : decode cX0_begin 186 = .ok (.iload 4, 2) := by decide +kernel
theorem dX0_begin_188 : decode cX0_begin 188 = .ok (.invokevirtual 40, 3) := by decide +kernel
theorem dX0_begin_191 : decode cX0_begin 191 = .ok (.iconst 4, 1) := by decide +kernel
theorem dX0_begin_192 : decode cX0_begin 192 = .ok (.isub, 1) := by decide +kernel
theorem dX0_begin_193 : decode cX0_begin 193 = .ok (.ireturn, 1) := by decide +kernel
theorem dX0_begin_194 : decode cX0_begin 194 = .ok (.aload_n 0, 1) := by decide +kernel
theorem dX0_begin_195 : decode cX0_begin 195 = .ok (.iload_n 2, 1) := by decide +kernel
theorem dX0_begin_196 : decode cX0_begin 196 = .ok (.iload_n 3, 1) := by decide +kernel
theorem dX0_begin_197 : decode cX0_begin 197 = .ok (.iload 4, 2) := by decide +kernel
theorem dX0_begin_199 : decode cX0_begin 199 = .ok (.invokevirtual 57, 3) := by decide +kernel
theorem dX0_begin_202 : decode cX0_begin 202 = .ok (.ireturn, 1) := by decide +kernel
theorem dX0_begin_203 : decode cX0_begin 203 = .ok (.iconst 0, 1) := by decide +kernel
theorem dX0_begin_204 : decode cX0_begin 204 = .ok (.aload_n 0, 1) := by decide +kernel
theorem dX0_begin_205 : decode cX0_begin 205 = .ok (.iload_n 2, 1) := by decide +kernel
theorem dX0_begin_206 : decode cX0_begin 206 = .ok (.iconst 1, 1) := by decide +kernel
theorem dX0_begin_207 : decode cX0_begin 207 = .ok (.iload_n 3, 1) := by decide +kernel
theorem dX0_begin_208 : decode cX0_begin 208 = .ok (.iload 4, 2) := by decide +kernel
theorem dX0_begin_210 : decode cX0_begin 210 = .ok (.invokevirtual 40, 3) := by decide +kernel
theorem dX0_begin_213 : decode cX0_begin 213 = .ok (.isub, 1) := by decide +kernel
theorem dX0_begin_214 : decode cX0_begin 214 = .ok (.ireturn, 1) := by decide +kernel
theorem dX0_begin_215 : decode cX0_begin 215 = .ok (.aload_n 0, 1) := by decide +kernel
theorem dX0_begin_216 : decode cX0_begin 216 = .ok (.iload_n 2, 1) := by decide +kernel
theorem dX0_begin_217 : decode cX0_begin 217 = .ok (.iconst 2, 1) := by decide +kernel
theorem dX0_begin_218 : decode cX0_begin 218 = .ok (.iload_n 3, 1) := by decide +kernel
theorem dX0_begin_219 : decode cX0_begin 219 = .ok (.iconst 2, 1) := by decide +kernel
theorem dX0_begin_220 : decode cX0_begin 220 = .ok (.idiv, 1) := by decide +kernel
theorem dX0_begin_221 : decode cX0_begin 221 = .ok (.iload 4, 2) := by decide +kernel
theorem dX0_begin_223 : decode cX0_begin 223 = .ok (.invokevirtual 40, 3) := by decide +kernel
theorem dX0_begin_226 : decode cX0_begin 226 = .ok (.ireturn, 1) := by decide +kernel
theorem dX0_begin_227 : decode cX0_begin 227 = .ok (.aload_n 0, 1) := by decide +kernel
theorem dX0_begin_228 : decode cX0_begin 228 = .ok (.iload_n 2, 1) := by decide +kernel
theorem dX0_begin_229 : decode cX0_begin 229 = .ok (.iconst 0, 1) := by decide +kernel
theorem dX0_begin_230 : decode cX0_begin 230 = .ok (.iload_n 3, 1) := by decide +kernel
theorem dX0_begin_231 : decode cX0_begin 231 = .ok (.iload 4, 2) := by decide +kernel
theorem dX0_begin_233 : decode cX0_begin 233 = .ok (.invokevirtual 40, 3) := by decide +kernel
theorem dX0_begin_236 : decode cX0_begin 236 = .ok (.iconst 3, 1) := by decide +kernel
theorem dX0_begin_237 : decode cX0_begin 237 = .ok (.imul, 1) := by decide +kernel
theorem dX0_begin_238 : decode cX0_begin 238 = .ok (.ireturn, 1) := by decide +kernel
theorem dX0_begin_239 : decode cX0_begin 239 = .ok (.aload_n 0, 1) := by decide +kernel
theorem dX0_begin_240 : decode cX0_begin 240 = .ok (.iload_n 2, 1) := by decide +kernel
theorem dX0_begin_241 : decode cX0_begin 241 = .ok (.iconst 2, 1) := by decide +kernel
theorem dX0_begin_242 : decode cX0_begin 242 = .ok (.iload_n 3, 1) := by decide +kernel
theorem dX0_begin_243 : decode cX0_begin 243 = .ok (.iload 4, 2) := by decide +kernel
theorem dX0_begin_245 : decode cX0_begin 245 = .ok (.invokevirtual 40, 3) := by decide +kernel
theorem dX0_begin_248 : decode cX0_begin 248 = .ok (.aload_n 0, 1) := by decide +kernel
theorem dX0_begin_249 : decode cX0_begin 249 = .ok (.getfield 29, 3) := by decide +kernel
theorem dX0_begin_252 : decode cX0_begin 252 = .ok (.ixor, 1) := by decide +kernel
theorem dX0_begin_253 : decode cX0_begin 253 = .ok (.ireturn, 1) := by decide +kernel
theorem dX0_begin_254 : decode cX0_begin 254 = .ok (.aload_n 0, 1) := by decide +kernel
theorem dX0_begin_255 : decode cX0_begin 255 = .ok (.iload_n 2, 1) := by decide +kernel
theorem dX0_begin_256 : decode cX0_begin 256 = .ok (.iconst 1, 1) := by decide +kernel
theorem dX0_begin_257 : decode cX0_begin 257 = .ok (.iload_n 3, 1) := by decide +kernel
theorem dX0_begin_258 : decode cX0_begin 258 = .ok (.iconst 1, 1) := by decide +kernel
theorem dX0_begin_259 : decode cX0_begin 259 = .ok (.iadd, 1) := by decide +kernel
theorem dX0_begin_260 : decode cX0_begin 260 = .ok (.iload 4, 2) := by decide +kernel
theorem dX0_begin_262 : decode cX0_begin 262 = .ok (.invokevirtual 40, 3) := by decide +kernel
theorem dX0_begin_265 : decode cX0_begin 265 = .ok (.ireturn, 1) := by decide +kernel
theorem dX0_begin_266 : decode cX0_begin 266 = .ok (.bipush 9, 2) := by decide +kernel
theorem dX0_begin_268 : decode cX0_begin 268 = .ok (.ireturn, 1) := by decide +kernel
theorem dX0_begin_269 : decode cX0_begin 269 = .ok (.aload_n 0, 1) := by decide +kernel
theorem dX0_begin_270 : decode cX0_begin 270 = .ok (.iload_n 2, 1) := by decide +kernel
theorem dX0_begin_271 : decode cX0_begin 271 = .ok (.iconst 1, 1) := by decide +kernel
theorem dX0_begin_272 : decode cX0_begin 272 = .ok (.iload_n 3, 1) := by decide +kernel
theorem dX0_begin_273 : decode cX0_begin 273 = .ok (.iload 4, 2) := by decide +kernel
theorem dX0_begin_275 : decode cX0_begin 275 = .ok (.invokevirtual 40, 3) := by decide +kernel
theorem dX0_begin_278 : decode cX0_begin 278 = .ok (.aload_n 0, 1) := by decide +kernel
theorem dX0_begin_279 : decode cX0_begin 279 = .ok (.getfield 26, 3) := by decide +kernel
theorem dX0_begin_282 : decode cX0_begin 282 = .ok (.iadd, 1) := by decide +kernel
theorem dX0_begin_283 : decode cX0_begin 283 = .ok (.ireturn, 1) := by decide +kernel
theorem dX0_begin_284 : decode cX0_begin 284 = .ok (.iconst 0, 1) := by decide +kernel
theorem dX0_begin_285 : decode cX0_begin 285 = .ok (.ireturn, 1) := by decide +kernel
theorem dX0_shared_0 : decode cX0_shared 0 = .ok (.aload_n 0, 1) := by decide +kernel
theorem dX0_shared_1 : decode cX0_shared 1 = .ok (.getfield 26, 3) := by decide +kernel
theorem dX0_shared_4 : decode cX0_shared 4 = .ok (.aload_n 0, 1) := by decide +kernel
theorem dX0_shared_5 : decode cX0_shared 5 = .ok (.getfield 29, 3) := by decide +kernel
theorem dX0_shared_8 : decode cX0_shared 8 = .ok (.isub, 1) := by decide +kernel
theorem dX0_shared_9 : decode cX0_shared 9 = .ok (.istore_n 2, 1) := by decide +kernel
theorem dX0_shared_10 : decode cX0_shared 10 = .ok (.aload_n 0, 1) := by decide +kernel
theorem dX0_shared_11 : decode cX0_shared 11 = .ok (.iload_n 2, 1) := by decide +kernel
theorem dX0_shared_12 : decode cX0_shared 12 = .ok (.ifCond .ne 7, 3) := by decide +kernel
theorem dX0_shared_15 : decode cX0_shared 15 = .ok (.iconst 1, 1) := by decide +kernel
theorem dX0_shared_16 : decode cX0_shared 16 = .ok (.goto 4, 3) := by decide +kernel
theorem dX0_shared_19 : decode cX0_shared 19 = .ok (.iconst 0, 1) := by decide +kernel
theorem dX0_shared_20 : decode cX0_shared 20 = .ok (.putfield 19, 3) := by decide +kernel
theorem dX0_shared_23 : decode cX0_shared 23 = .ok (.iload_n 2, 1) := by decide +kernel
theorem dX0_shared_24 : decode cX0_shared 24 = .ok (.ifCond .ne 7, 3) := by decide +kernel
theorem dX0_shared_27 : decode cX0_shared 27 = .ok (.iconst 0, 1) := by decide +kernel
theorem dX0_shared_28 : decode cX0_shared 28 = .ok (.goto 6, 3) := by decide +kernel
theorem dX0_shared_31 : decode cX0_shared 31 = .ok (.iload_n 1, 1) := by decide +kernel
theorem dX0_shared_32 : decode cX0_shared 32 = .ok (.iload_n 2, 1) := by decide +kernel
theorem dX0_shared_33 : decode cX0_shared 33 = .ok (.idiv, 1) := by decide +kernel
theorem dX0_shared_34 : decode cX0_shared 34 = .ok (.ireturn, 1) := by decide +kernel
theorem dX0_partsAndRings_0 : decode cX0_partsAndRings 0 = .ok (.aload_n 0, 1) := by decide +kernel
theorem dX0_partsAndRings_1 : decode cX0_partsAndRings 1 = .ok (.iload_n 1, 1) := by decide +kernel
theorem dX0_partsAndRings_2 : decode cX0_partsAndRings 2 = .ok (.iconst 3, 1) := by decide +kernel
theorem dX0_partsAndRings_3 : decode cX0_partsAndRings 3 = .ok (.iload_n 2, 1) := by decide +kernel
theorem dX0_partsAndRings_4 : decode cX0_partsAndRings 4 = .ok (.iload_n 3, 1) := by decide +kernel
theorem dX0_partsAndRings_5 : decode cX0_partsAndRings 5 = .ok (.invokevirtual 40, 3) := by decide +kernel
theorem dX0_partsAndRings_8 : decode cX0_partsAndRings 8 = .ok (.istore 4, 2) := by decide +kernel
theorem dX0_partsAndRings_10 : decode cX0_partsAndRings 10 = .ok (.aload_n 0, 1) := by decide +kernel
theorem dX0_partsAndRings_11 : decode cX0_partsAndRings 11 = .ok (.getfield 19, 3) := by decide +kernel
theorem dX0_partsAndRings_14 : decode cX0_partsAndRings 14 = .ok (.ifCond .eq 7, 3) := by decide +kernel
theorem dX0_partsAndRings_17 : decode cX0_partsAndRings 17 = .ok (.iconst 0, 1) := by decide +kernel
theorem dX0_partsAndRings_18 : decode cX0_partsAndRings 18 = .ok (.goto 13, 3) := by decide +kernel
theorem dX0_partsAndRings_21 : decode cX0_partsAndRings 21 = .ok (.iload 4, 2) := by decide +kernel
theorem dX0_partsAndRings_23 : decode cX0_partsAndRings 23 = .ok (.aload_n 0, 1) := by decide +kernel
theorem dX0_partsAndRings_24 : decode cX0_partsAndRings 24 = .ok (.iconst 1, 1) := by decide +kernel
theorem dX0_partsAndRings_25 : decode cX0_partsAndRings 25 = .ok (.iconst 1, 1) := by decide +kernel
theorem dX0_partsAndRings_26 : decode cX0_partsAndRings 26 = .ok (.iload_n 3, 1) := by decide +kernel
theorem dX0_partsAndRings_27 : decode cX0_partsAndRings 27 = .ok (.invokevirtual 36, 3) := by decide +kernel
theorem dX0_partsAndRings_30 : decode cX0_partsAndRings 30 = .ok (.iadd, 1) := by decide +kernel
theorem dX0_partsAndRings_31 : decode cX0_partsAndRings 31 = .ok (.ireturn, 1) := by decide +kernel
theorem dX1_init_0 : decode cX1_init 0 = .ok (.aload_n 0, 1) := by decide +kernel
theorem dX1_init_1 : decode cX1_init 1 = .ok (.invokespecial 3, 3) := by decide +kernel
theorem dX1_init_4 : decode cX1_init 4 = .ok (.aload_n 0, 1) := by decide +kernel
theorem dX1_init_5 : decode cX1_init 5 = .ok (.iconst 0, 1) := by decide +kernel
theorem dX1_init_6 : decode cX1_init 6 = .ok (.putfield 9, 3) := by decide +kernel
theorem dX1_init_9 : decode cX1_init 9 = .ok (.aload_n 0, 1) := by decide +kernel
theorem dX1_init_10 : decode cX1_init 10 = .ok (.bipush 60, 2) := by decide +kernel
theorem dX1_init_12 : decode cX1_init 12 = .ok (.newarray .int, 2) := by decide +kernel
theorem dX1_init_14 : decode cX1_init 14 = .ok (.putfield 15, 3) := by decide +kernel
theorem dX1_init_17 : decode cX1_init 17 = .ok (.aload_n 0, 1) := by decide +kernel
theorem dX1_init_18 : decode cX1_init 18 = .ok (.iconst 0, 1) := by decide +kernel
theorem dX1_init_19 : decode cX1_init 19 = .ok (.putfield 19, 3) := by decide +kernel
theorem dX1_init_22 : decode cX1_init 22 = .ok (.aload_n 0, 1) := by decide +kernel
theorem dX1_init_23 : decode cX1_init 23 = .ok (.bipush 60, 2) := by decide +kernel
theorem dX1_init_25 : decode cX1_init 25 = .ok (.newarray .int, 2) := by decide +kernel
theorem dX1_init_27 : decode cX1_init 27 = .ok (.putfield 23, 3) := by decide +kernel
theorem dX1_init_30 : decode cX1_init 30 = .ok (.aload_n 0, 1) := by decide +kernel
theorem dX1_init_31 : decode cX1_init 31 = .ok (.iload_n 1, 1) := by decide +kernel
theorem dX1_init_32 : decode cX1_init 32 = .ok (.putfield 26, 3) := by decide +kernel
theorem dX1_init_35 : decode cX1_init 35 = .ok (.return_, 1) := by decide +kernel
theorem dX1_adopt_0 : decode cX1_adopt 0 = .ok (.aload_n 1, 1) := by decide +kernel
theorem dX1_adopt_1 : decode cX1_adopt 1 = .ok (.iconst 0, 1) := by decide +kernel
theorem dX1_adopt_2 : decode cX1_adopt 2 = .ok (.aload_n 0, 1) := by decide +kernel
theorem dX1_adopt_3 : decode cX1_adopt 3 = .ok (.getfield 15, 3) := by decide +kernel
theorem dX1_adopt_6 : decode cX1_adopt 6 = .ok (.iconst 0, 1) := by decide +kernel
theorem dX1_adopt_7 : decode cX1_adopt 7 = .ok (.bipush 60, 2) := by decide +kernel
theorem dX1_adopt_9 : decode cX1_adopt 9 = .ok (.invokestatic 29, 3) := by decide +kernel
theorem dX1_adopt_12 : decode cX1_adopt 12 = .ok (.aload_n 0, 1) := by decide +kernel
theorem dX1_adopt_13 : decode cX1_adopt 13 = .ok (.iload_n 2, 1) := by decide +kernel
theorem dX1_adopt_14 : decode cX1_adopt 14 = .ok (.putfield 19, 3) := by decide +kernel
theorem dX1_adopt_17 : decode cX1_adopt 17 = .ok (.aload_n 0, 1) := by decide +kernel
theorem dX1_adopt_18 : decode cX1_adopt 18 = .ok (.iconst 1, 1) := by decide +kernel
theorem dX1_adopt_19 : decode cX1_adopt 19 = .ok (.putfield 9, 3) := by decide +kernel
theorem dX1_adopt_22 : decode cX1_adopt 22 = .ok (.return_, 1) := by decide +kernel
theorem dX1_copy_0 : decode cX1_copy 0 = .ok (.aload_n 1, 1) := by decide +kernel
theorem dX1_copy_1 : decode cX1_copy 1 = .ok (.getfield 15, 3) := by decide +kernel
theorem dX1_copy_4 : decode cX1_copy 4 = .ok (.iconst 0, 1) := by decide +kernel
theorem dX1_copy_5 : decode cX1_copy 5 = .ok (.aload_n 0, 1) := by decide +kernel
theorem dX1_copy_6 : decode cX1_copy 6 = .ok (.getfield 15, 3) := by decide +kernel
theorem dX1_copy_9 : decode cX1_copy 9 = .ok (.iconst 0, 1) := by decide +kernel
theorem dX1_copy_10 : decode cX1_copy 10 = .ok (.bipush 60, 2) := by decide +kernel
theorem dX1_copy_12 : decode cX1_copy 12 = .ok (.invokestatic 29, 3) := by decide +kernel
theorem dX1_copy_15 : decode cX1_copy 15 = .ok (.aload_n 0, 1) := by decide +kernel
theorem dX1_copy_16 : decode cX1_copy 16 = .ok (.aload_n 1, 1) := by decide +kernel
theorem dX1_copy_17 : decode cX1_copy 17 = .ok (.getfield 19, 3) := by decide +kernel
theorem dX1_copy_20 : decode cX1_copy 20 = .ok (.putfield 19, 3) := by decide +kernel
theorem dX1_copy_23 : decode cX1_copy 23 = .ok (.aload_n 0, 1) := by decide +kernel
theorem dX1_copy_24 : decode cX1_copy 24 = .ok (.aload_n 1, 1) := by decide +kernel
theorem dX1_copy_25 : decode cX1_copy 25 = .ok (.getfield 9, 3) := by decide +kernel
theorem dX1_copy_28 : decode cX1_copy 28 = .ok (.putfield 9, 3) := by decide +kernel
theorem dX1_copy_31 : decode cX1_copy 31 = .ok (.return_, 1) := by decide +kernel
theorem dX1_give_0 : decode cX1_give 0 = .ok (.aload_n 0, 1) := by decide +kernel
theorem dX1_give_1 : decode cX1_give 1 = .ok (.getfield 26, 3) := by decide +kernel
theorem dX1_give_4 : decode cX1_give 4 = .ok (.ifCond .ne 7, 3) := by decide +kernel
theorem dX1_give_7 : decode cX1_give 7 = .ok (.iload_n 1, 1) := by decide +kernel
theorem dX1_give_8 : decode cX1_give 8 = .ok (.goto 4, 3) := by decide +kernel
theorem dX1_give_11 : decode cX1_give 11 = .ok (.iconst 1, 1) := by decide +kernel
theorem dX1_give_12 : decode cX1_give 12 = .ok (.istore 4, 2) := by decide +kernel
theorem dX1_give_14 : decode cX1_give 14 = .ok (.iconst 0, 1) := by decide +kernel
theorem dX1_give_15 : decode cX1_give 15 = .ok (.bipush 99, 2) := by decide +kernel
theorem dX1_give_17 : decode cX1_give 17 = .ok (.aload_n 0, 1) := by decide +kernel
theorem dX1_give_18 : decode cX1_give 18 = .ok (.getfield 9, 3) := by decide +kernel
theorem dX1_give_21 : decode cX1_give 21 = .ok (.ifCond .eq 13, 3) := by decide +kernel
theorem dX1_give_24 : decode cX1_give 24 = .ok (.aload_n 0, 1) := by decide +kernel
theorem dX1_give_25 : decode cX1_give 25 = .ok (.iload_n 1, 1) := by decide +kernel
theorem dX1_give_26 : decode cX1_give 26 = .ok (.iload_n 2, 1) := by decide +kernel
theorem dX1_give_27 : decode cX1_give 27 = .ok (.iload_n 3, 1) := by decide +kernel
theorem dX1_give_28 : decode cX1_give 28 = .ok (.invokevirtual 35, 3) := by decide +kernel
theorem dX1_give_31 : decode cX1_give 31 = .ok (.goto 5, 3) := by decide +kernel
theorem dX1_give_34 : decode cX1_give 34 = .ok (.iload 4, 2) := by decide +kernel
theorem dX1_give_36 : decode cX1_give 36 = .ok (.invokestatic 39, 3) := by decide +kernel
theorem dX1_give_39 : decode cX1_give 39 = .ok (.invokestatic 45, 3) := by decide +kernel
theorem dX1_give_42 : decode cX1_give 42 = .ok (.ireturn, 1) := by decide +kernel
theorem dX1_workOut_0 : decode cX1_workOut 0 = .ok (.iconst 0, 1) := by decide +kernel
theorem dX1_workOut_1 : decode cX1_workOut 1 = .ok (.istore 4, 2) := by decide +kernel
theorem dX1_workOut_3 : decode cX1_workOut 3 = .ok (.iconst 0, 1) := by decide +kernel
theorem dX1_workOut_4 : decode cX1_workOut 4 = .ok (.istore 5, 2) := by decide +kernel
theorem dX1_workOut_6 : decode cX1_workOut 6 = .ok (.iload 5, 2) := by decide +kernel
theorem dX1_workOut_8 : decode cX1_workOut 8 = .ok (.aload_n 0, 1) := by decide +kernel
theorem dX1_workOut_9 : decode cX1_workOut 9 = .ok (.getfield 19, 3) := by decide +kernel
theorem dX1_workOut_12 : decode cX1_workOut 12 = .ok (.if_icmp .ge 141, 3) := by decide +kernel
theorem dX1_workOut_15 : decode cX1_workOut 15 = .ok (.aload_n 0, 1) := by decide +kernel
theorem dX1_workOut_16 : decode cX1_workOut 16 = .ok (.getfield 15, 3) := by decide +kernel
theorem dX1_workOut_19 : decode cX1_workOut 19 = .ok (.iload 5, 2) := by decide +kernel
theorem dX1_workOut_21 : decode cX1_workOut 21 = .ok (.iaload, 1) := by decide +kernel
theorem dX1_workOut_22 : decode cX1_workOut 22 = .ok (.istore 6, 2) := by decide +kernel
theorem dX1_workOut_24 : decode cX1_workOut 24 = .ok (.iload 6, 2) := by decide +kernel
theorem dX1_workOut_26 : decode cX1_workOut 26 = .ok (.bipush (-4), 2) := by decide +kernel
theorem dX1_workOut_28 : decode cX1_workOut 28 = .ok (.if_icmp .ne 38, 3) := by decide +kernel
theorem dX1_workOut_31 : decode cX1_workOut 31 = .ok (.iload 4, 2) := by decide +kernel
theorem dX1_workOut_33 : decode cX1_workOut 33 = .ok (.iconst 1, 1) := by decide +kernel
theorem dX1_workOut_34 : decode cX1_workOut 34 = .ok (.if_icmp .lt 32, 3) := by decide +kernel
theorem dX1_workOut_37 : decode cX1_workOut 37 = .ok (.aload_n 0, 1) := by decide +kernel
theorem dX1_workOut_38 : decode cX1_workOut 38 = .ok (.getfield 23, 3) := by decide +kernel
theorem dX1_workOut_41 : decode cX1_workOut 41 = .ok (.iload 4, 2) := by decide +kernel
theorem dX1_workOut_43 : decode cX1_workOut 43 = .ok (.iconst 1, 1) := by decide +kernel
theorem dX1_workOut_44 : decode cX1_workOut 44 = .ok (.isub, 1) := by decide +kernel
theorem dX1_workOut_45 : decode cX1_workOut 45 = .ok (.aload_n 0, 1) := by decide +kernel
theorem dX1_workOut_46 : decode cX1_workOut 46 = .ok (.getfield 23, 3) := by decide +kernel
theorem dX1_workOut_49 : decode cX1_workOut 49 = .ok (.iload 4, 2) := by decide +kernel
theorem dX1_workOut_51 : decode cX1_workOut 51 = .ok (.iconst 1, 1) := by decide +kernel
theorem dX1_workOut_52 : decode cX1_workOut 52 = .ok (.isub, 1) := by decide +kernel
theorem dX1_workOut_53 : decode cX1_workOut 53 = .ok (.iaload, 1) := by decide +kernel
theorem dX1_workOut_54 : decode cX1_workOut 54 = .ok (.ifCond .ne 7, 3) := by decide +kernel
theorem dX1_workOut_57 : decode cX1_workOut 57 = .ok (.iconst 1, 1) := by decide +kernel
theorem dX1_workOut_58 : decode cX1_workOut 58 = .ok (.goto 4, 3) := by decide +kernel
theorem dX1_workOut_61 : decode cX1_workOut 61 = .ok (.iconst 0, 1) := by decide +kernel
theorem dX1_workOut_62 : decode cX1_workOut 62 = .ok (.iastore, 1) := by decide +kernel
theorem dX1_workOut_63 : decode cX1_workOut 63 = .ok (.goto 84, 3) := by decide +kernel
theorem dX1_workOut_66 : decode cX1_workOut 66 = .ok (.iload 6, 2) := by decide +kernel
theorem dX1_workOut_68 : decode cX1_workOut 68 = .ok (.bipush (-4), 2) := by decide +kernel
theorem dX1_workOut_70 : decode cX1_workOut 70 = .ok (.if_icmp .ge 45, 3) := by decide +kernel
theorem dX1_workOut_73 : decode cX1_workOut 73 = .ok (.iload 4, 2) := by decide +kernel
theorem dX1_workOut_75 : decode cX1_workOut 75 = .ok (.iconst 2, 1) := by decide +kernel
theorem dX1_workOut_76 : decode cX1_workOut 76 = .ok (.if_icmp .lt 39, 3) := by decide +kernel
theorem dX1_workOut_79 : decode cX1_workOut 79 = .ok (.iinc 4 (-1), 3) := by decide +kernel
theorem dX1_workOut_82 : decode cX1_workOut 82 = .ok (.aload_n 0, 1) := by decide +kernel
theorem dX1_workOut_83 : decode cX1_workOut 83 = .ok (.getfield 23, 3) := by decide +kernel
theorem dX1_workOut_86 : decode cX1_workOut 86 = .ok (.iload 4, 2) := by decide +kernel
theorem dX1_workOut_88 : decode cX1_workOut 88 = .ok (.iconst 1, 1) := by decide +kernel
theorem dX1_workOut_89 : decode cX1_workOut 89 = .ok (.isub, 1) := by decide +kernel
theorem dX1_workOut_90 : decode cX1_workOut 90 = .ok (.iload 6, 2) := by decide +kernel
theorem dX1_workOut_92 : decode cX1_workOut 92 = .ok (.aload_n 0, 1) := by decide +kernel
theorem dX1_workOut_93 : decode cX1_workOut 93 = .ok (.getfield 23, 3) := by decide +kernel
theorem dX1_workOut_96 : decode cX1_workOut 96 = .ok (.iload 4, 2) := by decide +kernel
theorem dX1_workOut_98 : decode cX1_workOut 98 = .ok (.iconst 1, 1) := by decide +kernel
theorem dX1_workOut_99 : decode cX1_workOut 99 = .ok (.isub, 1) := by decide +kernel
theorem dX1_workOut_100 : decode cX1_workOut 100 = .ok (.iaload, 1) := by decide +kernel
theorem dX1_workOut_101 : decode cX1_workOut 101 = .ok (.aload_n 0, 1) := by decide +kernel
theorem dX1_workOut_102 : decode cX1_workOut 102 = .ok (.getfield 23, 3) := by decide +kernel
theorem dX1_workOut_105 : decode cX1_workOut 105 = .ok (.iload 4, 2) := by decide +kernel
theorem dX1_workOut_107 : decode cX1_workOut 107 = .ok (.iaload, 1) := by decide +kernel
theorem dX1_workOut_108 : decode cX1_workOut 108 = .ok (.invokestatic 48, 3) := by decide +kernel
theorem dX1_workOut_111 : decode cX1_workOut 111 = .ok (.iastore, 1) := by decide +kernel
theorem dX1_workOut_112 : decode cX1_workOut 112 = .ok (.goto 35, 3) := by decide +kernel
theorem dX1_workOut_115 : decode cX1_workOut 115 = .ok (.iload 6, 2) := by decide +kernel
theorem dX1_workOut_117 : decode cX1_workOut 117 = .ok (.bipush (-4), 2) := by decide +kernel
theorem dX1_workOut_119 : decode cX1_workOut 119 = .ok (.if_icmp .le 28, 3) := by decide +kernel
theorem dX1_workOut_122 : decode cX1_workOut 122 = .ok (.iload 4, 2) := by decide +kernel
theorem dX1_workOut_124 : decode cX1_workOut 124 = .ok (.bipush 60, 2) := by decide +kernel
theorem dX1_workOut_126 : decode cX1_workOut 126 = .ok (.if_icmp .ge 21, 3) := by decide +kernel
theorem dX1_workOut_129 : decode cX1_workOut 129 = .ok (.aload_n 0, 1) := by decide +kernel
theorem dX1_workOut_130 : decode cX1_workOut 130 = .ok (.getfield 23, 3) := by decide +kernel
theorem dX1_workOut_133 : decode cX1_workOut 133 = .ok (.iload 4, 2) := by decide +kernel
theorem dX1_workOut_135 : decode cX1_workOut 135 = .ok (.iload 6, 2) := by decide +kernel
theorem dX1_workOut_137 : decode cX1_workOut 137 = .ok (.iload_n 1, 1) := by decide +kernel
theorem dX1_workOut_138 : decode cX1_workOut 138 = .ok (.iload_n 2, 1) := by decide +kernel
theorem dX1_workOut_139 : decode cX1_workOut 139 = .ok (.iload_n 3, 1) := by decide +kernel
theorem dX1_workOut_140 : decode cX1_workOut 140 = .ok (.invokestatic 51, 3) := by decide +kernel
theorem dX1_workOut_143 : decode cX1_workOut 143 = .ok (.iastore, 1) := by decide +kernel
theorem dX1_workOut_144 : decode cX1_workOut 144 = .ok (.iinc 4 1, 3) := by decide +kernel
theorem dX1_workOut_147 : decode cX1_workOut 147 = .ok (.iinc 5 1, 3) := by decide +kernel
theorem dX1_workOut_150 : decode cX1_workOut 150 = .ok (.goto (-144), 3) := by decide +kernel
theorem dX1_workOut_153 : decode cX1_workOut 153 = .ok (.aload_n 0, 1) := by decide +kernel
theorem dX1_workOut_154 : decode cX1_workOut 154 = .ok (.getfield 23, 3) := by decide +kernel
theorem dX1_workOut_157 : decode cX1_workOut 157 = .ok (.iconst 0, 1) := by decide +kernel
theorem dX1_workOut_158 : decode cX1_workOut 158 = .ok (.iaload, 1) := by decide +kernel
theorem dX1_workOut_159 : decode cX1_workOut 159 = .ok (.ireturn, 1) := by decide +kernel
theorem dX1_worth_0 : decode cX1_worth 0 = .ok (.iload_n 0, 1) := by decide +kernel
theorem dX1_worth_1 : decode cX1_worth 1 = .ok (.tableswitch 33 (-3) (-1) #[27, 29, 31], 27) := by decide +kernel
theorem dX1_worth_28 : decode cX1_worth 28 = .ok (.iload_n 1, 1) := by decide +kernel
theorem dX1_worth_29 : decode cX1_worth 29 = .ok (.ireturn, 1) := by decide +kernel
theorem dX1_worth_30 : decode cX1_worth 30 = .ok (.iload_n 2, 1) := by decide +kernel
theorem dX1_worth_31 : decode cX1_worth 31 = .ok (.ireturn, 1) := by decide +kernel
theorem dX1_worth_32 : decode cX1_worth 32 = .ok (.iload_n 3, 1) := by decide +kernel
theorem dX1_worth_33 : decode cX1_worth 33 = .ok (.ireturn, 1) := by decide +kernel
theorem dX1_worth_34 : decode cX1_worth 34 = .ok (.iload_n 0, 1) := by decide +kernel
theorem dX1_worth_35 : decode cX1_worth 35 = .ok (.ireturn, 1) := by decide +kernel
theorem dX1_join_0 : decode cX1_join 0 = .ok (.iload_n 0, 1) := by decide +kernel
theorem dX1_join_1 : decode cX1_join 1 = .ok (.tableswitch 152 (-14) (-5) #[140, 128, 124, 120, 116, 105, 94, 83, 69, 55], 55) := by decide +kernel
theorem dX1_join_56 : decode cX1_join 56 = .ok (.iload_n 1, 1) := by decide +kernel
theorem dX1_join_57 : decode cX1_join 57 = .ok (.ifCond .ne 7, 3) := by decide +kernel
theorem dX1_join_60 : decode cX1_join 60 = .ok (.iload_n 2, 1) := by decide +kernel
theorem dX1_join_61 : decode cX1_join 61 = .ok (.ifCond .eq 7, 3) := by decide +kernel
theorem dX1_join_64 : decode cX1_join 64 = .ok (.iconst 1, 1) := by decide +kernel
theorem dX1_join_65 : decode cX1_join 65 = .ok (.goto 4, 3) := by decide +kernel
theorem dX1_join_68 : decode cX1_join 68 = .ok (.iconst 0, 1) := by decide +kernel
theorem dX1_join_69 : decode cX1_join 69 = .ok (.ireturn, 1) := by decide +kernel
theorem dX1_join_70 : decode cX1_join 70 = .ok (.iload_n 1, 1) := by decide +kernel
theorem dX1_join_71 : decode cX1_join 71 = .ok (.ifCond .eq 11, 3) := by decide +kernel
theorem dX1_join_74 : decode cX1_join 74 = .ok (.iload_n 2, 1) := by decide +kernel
theorem dX1_join_75 : decode cX1_join 75 = .ok (.ifCond .eq 7, 3) := by decide +kernel
theorem dX1_join_78 : decode cX1_join 78 = .ok (.iconst 1, 1) := by decide +kernel
theorem dX1_join_79 : decode cX1_join 79 = .ok (.goto 4, 3) := by decide +kernel
theorem dX1_join_82 : decode cX1_join 82 = .ok (.iconst 0, 1) := by decide +kernel
theorem dX1_join_83 : decode cX1_join 83 = .ok (.ireturn, 1) := by decide +kernel
theorem dX1_join_84 : decode cX1_join 84 = .ok (.iload_n 1, 1) := by decide +kernel
theorem dX1_join_85 : decode cX1_join 85 = .ok (.iload_n 2, 1) := by decide +kernel
theorem dX1_join_86 : decode cX1_join 86 = .ok (.if_icmp .ge 7, 3) := by decide +kernel
theorem dX1_join_89 : decode cX1_join 89 = .ok (.iconst 1, 1) := by decide +kernel
theorem dX1_join_90 : decode cX1_join 90 = .ok (.goto 4, 3) := by decide +kernel
theorem dX1_join_93 : decode cX1_join 93 = .ok (.iconst 0, 1) := by decide +kernel
theorem dX1_join_94 : decode cX1_join 94 = .ok (.ireturn, 1) := by decide +kernel
theorem dX1_join_95 : decode cX1_join 95 = .ok (.iload_n 1, 1) := by decide +kernel
theorem dX1_join_96 : decode cX1_join 96 = .ok (.iload_n 2, 1) := by decide +kernel
theorem dX1_join_97 : decode cX1_join 97 = .ok (.if_icmp .ne 7, 3) := by decide +kernel
theorem dX1_join_100 : decode cX1_join 100 = .ok (.iconst 1, 1) := by decide +kernel
theorem dX1_join_101 : decode cX1_join 101 = .ok (.goto 4, 3) := by decide +kernel
theorem dX1_join_104 : decode cX1_join 104 = .ok (.iconst 0, 1) := by decide +kernel
theorem dX1_join_105 : decode cX1_join 105 = .ok (.ireturn, 1) := by decide +kernel
theorem dX1_join_106 : decode cX1_join 106 = .ok (.iload_n 1, 1) := by decide +kernel
theorem dX1_join_107 : decode cX1_join 107 = .ok (.iload_n 2, 1) := by decide +kernel
theorem dX1_join_108 : decode cX1_join 108 = .ok (.if_icmp .le 7, 3) := by decide +kernel
theorem dX1_join_111 : decode cX1_join 111 = .ok (.iconst 1, 1) := by decide +kernel
theorem dX1_join_112 : decode cX1_join 112 = .ok (.goto 4, 3) := by decide +kernel
theorem dX1_join_115 : decode cX1_join 115 = .ok (.iconst 0, 1) := by decide +kernel
theorem dX1_join_116 : decode cX1_join 116 = .ok (.ireturn, 1) := by decide +kernel
theorem dX1_join_117 : decode cX1_join 117 = .ok (.iload_n 1, 1) := by decide +kernel
theorem dX1_join_118 : decode cX1_join 118 = .ok (.iload_n 2, 1) := by decide +kernel
theorem dX1_join_119 : decode cX1_join 119 = .ok (.iadd, 1) := by decide +kernel
theorem dX1_join_120 : decode cX1_join 120 = .ok (.ireturn, 1) := by decide +kernel
theorem dX1_join_121 : decode cX1_join 121 = .ok (.iload_n 1, 1) := by decide +kernel
theorem dX1_join_122 : decode cX1_join 122 = .ok (.iload_n 2, 1) := by decide +kernel
theorem dX1_join_123 : decode cX1_join 123 = .ok (.isub, 1) := by decide +kernel
theorem dX1_join_124 : decode cX1_join 124 = .ok (.ireturn, 1) := by decide +kernel
theorem dX1_join_125 : decode cX1_join 125 = .ok (.iload_n 1, 1) := by decide +kernel
theorem dX1_join_126 : decode cX1_join 126 = .ok (.iload_n 2, 1) := by decide +kernel
theorem dX1_join_127 : decode cX1_join 127 = .ok (.imul, 1) := by decide +kernel
theorem dX1_join_128 : decode cX1_join 128 = .ok (.ireturn, 1) := by decide +kernel
theorem dX1_join_129 : decode cX1_join 129 = .ok (.iload_n 2, 1) := by decide +kernel
theorem dX1_join_130 : decode cX1_join 130 = .ok (.ifCond .ne 7, 3) := by decide +kernel
theorem dX1_join_133 : decode cX1_join 133 = .ok (.iconst 0, 1) := by decide +kernel
theorem dX1_join_134 : decode cX1_join 134 = .ok (.goto 6, 3) := by decide +kernel
theorem dX1_join_137 : decode cX1_join 137 = .ok (.iload_n 1, 1) := by decide +kernel
theorem dX1_join_138 : decode cX1_join 138 = .ok (.iload_n 2, 1) := by decide +kernel
theorem dX1_join_139 : decode cX1_join 139 = .ok (.idiv, 1) := by decide +kernel
theorem dX1_join_140 : decode cX1_join 140 = .ok (.ireturn, 1) := by decide +kernel
theorem dX1_join_141 : decode cX1_join 141 = .ok (.iload_n 2, 1) := by decide +kernel
theorem dX1_join_142 : decode cX1_join 142 = .ok (.ifCond .ne 7, 3) := by decide +kernel
theorem dX1_join_145 : decode cX1_join 145 = .ok (.iconst 0, 1) := by decide +kernel
theorem dX1_join_146 : decode cX1_join 146 = .ok (.goto 6, 3) := by decide +kernel
theorem dX1_join_149 : decode cX1_join 149 = .ok (.iload_n 1, 1) := by decide +kernel
theorem dX1_join_150 : decode cX1_join 150 = .ok (.iload_n 2, 1) := by decide +kernel
theorem dX1_join_151 : decode cX1_join 151 = .ok (.irem, 1) := by decide +kernel
theorem dX1_join_152 : decode cX1_join 152 = .ok (.ireturn, 1) := by decide +kernel
theorem dX1_join_153 : decode cX1_join 153 = .ok (.iconst 0, 1) := by decide +kernel
theorem dX1_join_154 : decode cX1_join 154 = .ok (.ireturn, 1) := by decide +kernel
theorem dX2_init_0 : decode cX2_init 0 = .ok (.aload_n 0, 1) := by decide +kernel
theorem dX2_init_1 : decode cX2_init 1 = .ok (.invokespecial 3, 3) := by decide +kernel
theorem dX2_init_4 : decode cX2_init 4 = .ok (.aload_n 0, 1) := by decide +kernel
theorem dX2_init_5 : decode cX2_init 5 = .ok (.bipush 60, 2) := by decide +kernel
theorem dX2_init_7 : decode cX2_init 7 = .ok (.newarray .byte, 2) := by decide +kernel
theorem dX2_init_9 : decode cX2_init 9 = .ok (.putfield 9, 3) := by decide +kernel
theorem dX2_init_12 : decode cX2_init 12 = .ok (.aload_n 0, 1) := by decide +kernel
theorem dX2_init_13 : decode cX2_init 13 = .ok (.iconst 0, 1) := by decide +kernel
theorem dX2_init_14 : decode cX2_init 14 = .ok (.putfield 15, 3) := by decide +kernel
theorem dX2_init_17 : decode cX2_init 17 = .ok (.aload_n 0, 1) := by decide +kernel
theorem dX2_init_18 : decode cX2_init 18 = .ok (.iconst 0, 1) := by decide +kernel
theorem dX2_init_19 : decode cX2_init 19 = .ok (.putfield 19, 3) := by decide +kernel
theorem dX2_init_22 : decode cX2_init 22 = .ok (.aload_n 0, 1) := by decide +kernel
theorem dX2_init_23 : decode cX2_init 23 = .ok (.iconst 0, 1) := by decide +kernel
theorem dX2_init_24 : decode cX2_init 24 = .ok (.putfield 22, 3) := by decide +kernel
theorem dX2_init_27 : decode cX2_init 27 = .ok (.aload_n 0, 1) := by decide +kernel
theorem dX2_init_28 : decode cX2_init 28 = .ok (.bipush 60, 2) := by decide +kernel
theorem dX2_init_30 : decode cX2_init 30 = .ok (.newarray .int, 2) := by decide +kernel
theorem dX2_init_32 : decode cX2_init 32 = .ok (.putfield 25, 3) := by decide +kernel
theorem dX2_init_35 : decode cX2_init 35 = .ok (.aload_n 0, 1) := by decide +kernel
theorem dX2_init_36 : decode cX2_init 36 = .ok (.iconst 0, 1) := by decide +kernel
theorem dX2_init_37 : decode cX2_init 37 = .ok (.putfield 29, 3) := by decide +kernel
theorem dX2_init_40 : decode cX2_init 40 = .ok (.return_, 1) := by decide +kernel
theorem dX2_read_0 : decode cX2_read 0 = .ok (.aload_n 1, 1) := by decide +kernel
theorem dX2_read_1 : decode cX2_read 1 = .ok (.iconst 0, 1) := by decide +kernel
theorem dX2_read_2 : decode cX2_read 2 = .ok (.aload_n 0, 1) := by decide +kernel
theorem dX2_read_3 : decode cX2_read 3 = .ok (.getfield 9, 3) := by decide +kernel
theorem dX2_read_6 : decode cX2_read 6 = .ok (.iconst 0, 1) := by decide +kernel
theorem dX2_read_7 : decode cX2_read 7 = .ok (.bipush 60, 2) := by decide +kernel
theorem dX2_read_9 : decode cX2_read 9 = .ok (.invokestatic 32, 3) := by decide +kernel
theorem dX2_read_12 : decode cX2_read 12 = .ok (.aload_n 0, 1) := by decide +kernel
theorem dX2_read_13 : decode cX2_read 13 = .ok (.iload_n 2, 1) := by decide +kernel
theorem dX2_read_14 : decode cX2_read 14 = .ok (.bipush 60, 2) := by decide +kernel
theorem dX2_read_16 : decode cX2_read 16 = .ok (.invokestatic 38, 3) := by decide +kernel
theorem dX2_read_19 : decode cX2_read 19 = .ok (.putfield 15, 3) := by decide +kernel
theorem dX2_read_22 : decode cX2_read 22 = .ok (.aload_n 0, 1) := by decide +kernel
theorem dX2_read_23 : decode cX2_read 23 = .ok (.iconst 0, 1) := by decide +kernel
theorem dX2_read_24 : decode cX2_read 24 = .ok (.putfield 19, 3) := by decide +kernel
theorem dX2_read_27 : decode cX2_read 27 = .ok (.aload_n 0, 1) := by decide +kernel
theorem dX2_read_28 : decode cX2_read 28 = .ok (.iload_n 3, 1) := by decide +kernel
theorem dX2_read_29 : decode cX2_read 29 = .ok (.putfield 22, 3) := by decide +kernel
theorem dX2_read_32 : decode cX2_read 32 = .ok (.aload_n 0, 1) := by decide +kernel
theorem dX2_read_33 : decode cX2_read 33 = .ok (.iconst 0, 1) := by decide +kernel
theorem dX2_read_34 : decode cX2_read 34 = .ok (.putfield 29, 3) := by decide +kernel
theorem dX2_read_37 : decode cX2_read 37 = .ok (.aload_n 0, 1) := by decide +kernel
theorem dX2_read_38 : decode cX2_read 38 = .ok (.iconst 0, 1) := by decide +kernel
theorem dX2_read_39 : decode cX2_read 39 = .ok (.invokevirtual 44, 3) := by decide +kernel
theorem dX2_read_42 : decode cX2_read 42 = .ok (.ifCond .eq 18, 3) := by decide +kernel
theorem dX2_read_45 : decode cX2_read 45 = .ok (.aload_n 0, 1) := by decide +kernel
theorem dX2_read_46 : decode cX2_read 46 = .ok (.getfield 19, 3) := by decide +kernel
theorem dX2_read_49 : decode cX2_read 49 = .ok (.aload_n 0, 1) := by decide +kernel
theorem dX2_read_50 : decode cX2_read 50 = .ok (.getfield 15, 3) := by decide +kernel
theorem dX2_read_53 : decode cX2_read 53 = .ok (.if_icmp .ne 7, 3) := by decide +kernel
theorem dX2_read_56 : decode cX2_read 56 = .ok (.iconst (-1), 1) := by decide +kernel
theorem dX2_read_57 : decode cX2_read 57 = .ok (.goto 7, 3) := by decide +kernel
theorem dX2_read_60 : decode cX2_read 60 = .ok (.aload_n 0, 1) := by decide +kernel
theorem dX2_read_61 : decode cX2_read 61 = .ok (.getfield 19, 3) := by decide +kernel
theorem dX2_read_64 : decode cX2_read 64 = .ok (.ireturn, 1) := by decide +kernel
theorem dX2_sign_0 : decode cX2_sign 0 = .ok (.aload_n 0, 1) := by decide +kernel
theorem dX2_sign_1 : decode cX2_sign 1 = .ok (.getfield 19, 3) := by decide +kernel
theorem dX2_sign_4 : decode cX2_sign 4 = .ok (.aload_n 0, 1) := by decide +kernel
theorem dX2_sign_5 : decode cX2_sign 5 = .ok (.getfield 15, 3) := by decide +kernel
theorem dX2_sign_8 : decode cX2_sign 8 = .ok (.if_icmp .ge 19, 3) := by decide +kernel
theorem dX2_sign_11 : decode cX2_sign 11 = .ok (.aload_n 0, 1) := by decide +kernel
theorem dX2_sign_12 : decode cX2_sign 12 = .ok (.getfield 9, 3) := by decide +kernel
theorem dX2_sign_15 : decode cX2_sign 15 = .ok (.aload_n 0, 1) := by decide +kernel
theorem dX2_sign_16 : decode cX2_sign 16 = .ok (.getfield 19, 3) := by decide +kernel
theorem dX2_sign_19 : decode cX2_sign 19 = .ok (.baload, 1) := by decide +kernel
theorem dX2_sign_20 : decode cX2_sign 20 = .ok (.sipush 255, 3) := by decide +kernel
theorem dX2_sign_23 : decode cX2_sign 23 = .ok (.iand, 1) := by decide +kernel
theorem dX2_sign_24 : decode cX2_sign 24 = .ok (.goto 4, 3) := by decide +kernel
theorem dX2_sign_27 : decode cX2_sign 27 = .ok (.iconst (-1), 1) := by decide +kernel
theorem dX2_sign_28 : decode cX2_sign 28 = .ok (.ireturn, 1) := by decide +kernel
theorem dX2_emit_0 : decode cX2_emit 0 = .ok (.aload_n 0, 1) := by decide +kernel
theorem dX2_emit_1 : decode cX2_emit 1 = .ok (.getfield 29, 3) := by decide +kernel
theorem dX2_emit_4 : decode cX2_emit 4 = .ok (.bipush 60, 2) := by decide +kernel
theorem dX2_emit_6 : decode cX2_emit 6 = .ok (.if_icmp .ge 23, 3) := by decide +kernel
theorem dX2_emit_9 : decode cX2_emit 9 = .ok (.aload_n 0, 1) := by decide +kernel
theorem dX2_emit_10 : decode cX2_emit 10 = .ok (.getfield 25, 3) := by decide +kernel
theorem dX2_emit_13 : decode cX2_emit 13 = .ok (.aload_n 0, 1) := by decide +kernel
theorem dX2_emit_14 : decode cX2_emit 14 = .ok (.getfield 29, 3) := by decide +kernel
theorem dX2_emit_17 : decode cX2_emit 17 = .ok (.iload_n 1, 1) := by decide +kernel
theorem dX2_emit_18 : decode cX2_emit 18 = .ok (.iastore, 1) := by decide +kernel
theorem dX2_emit_19 : decode cX2_emit 19 = .ok (.aload_n 0, 1) := by decide +kernel
theorem dX2_emit_20 : decode cX2_emit 20 = .ok (.dup, 1) := by decide +kernel
theorem dX2_emit_21 : decode cX2_emit 21 = .ok (.getfield 29, 3) := by decide +kernel
theorem dX2_emit_24 : decode cX2_emit 24 = .ok (.iconst 1, 1) := by decide +kernel
theorem dX2_emit_25 : decode cX2_emit 25 = .ok (.iadd, 1) := by decide +kernel
theorem dX2_emit_26 : decode cX2_emit 26 = .ok (.putfield 29, 3) := by decide +kernel
theorem dX2_emit_29 : decode cX2_emit 29 = .ok (.return_, 1) := by decide +kernel
theorem dX2_any_0 : decode cX2_any 0 = .ok (.aload_n 0, 1) := by decide +kernel
theorem dX2_any_1 : decode cX2_any 1 = .ok (.iload_n 1, 1) := by decide +kernel
theorem dX2_any_2 : decode cX2_any 2 = .ok (.invokevirtual 48, 3) := by decide +kernel
theorem dX2_any_5 : decode cX2_any 5 = .ok (.istore_n 2, 1) := by decide +kernel
theorem dX2_any_6 : decode cX2_any 6 = .ok (.iconst 0, 1) := by decide +kernel
theorem dX2_any_7 : decode cX2_any 7 = .ok (.istore_n 3, 1) := by decide +kernel
theorem dX2_any_8 : decode cX2_any 8 = .ok (.iload_n 3, 1) := by decide +kernel
theorem dX2_any_9 : decode cX2_any 9 = .ok (.bipush 60, 2) := by decide +kernel
theorem dX2_any_11 : decode cX2_any 11 = .ok (.if_icmp .ge 44, 3) := by decide +kernel
theorem dX2_any_14 : decode cX2_any 14 = .ok (.iload_n 2, 1) := by decide +kernel
theorem dX2_any_15 : decode cX2_any 15 = .ok (.ifCond .eq 40, 3) := by decide +kernel
theorem dX2_any_18 : decode cX2_any 18 = .ok (.aload_n 0, 1) := by decide +kernel
theorem dX2_any_19 : decode cX2_any 19 = .ok (.invokevirtual 51, 3) := by decide +kernel
theorem dX2_any_22 : decode cX2_any 22 = .ok (.bipush 124, 2) := by decide +kernel
theorem dX2_any_24 : decode cX2_any 24 = .ok (.if_icmp .ne 31, 3) := by decide +kernel
theorem dX2_any_27 : decode cX2_any 27 = .ok (.aload_n 0, 1) := by decide +kernel
theorem dX2_any_28 : decode cX2_any 28 = .ok (.dup, 1) := by decide +kernel
theorem dX2_any_29 : decode cX2_any 29 = .ok (.getfield 19, 3) := by decide +kernel
theorem dX2_any_32 : decode cX2_any 32 = .ok (.iconst 1, 1) := by decide +kernel
theorem dX2_any_33 : decode cX2_any 33 = .ok (.iadd, 1) := by decide +kernel
theorem dX2_any_34 : decode cX2_any 34 = .ok (.putfield 19, 3) := by decide +kernel
theorem dX2_any_37 : decode cX2_any 37 = .ok (.aload_n 0, 1) := by decide +kernel
theorem dX2_any_38 : decode cX2_any 38 = .ok (.iload_n 1, 1) := by decide +kernel
theorem dX2_any_39 : decode cX2_any 39 = .ok (.invokevirtual 48, 3) := by decide +kernel
theorem dX2_any_42 : decode cX2_any 42 = .ok (.istore_n 2, 1) := by decide +kernel
theorem dX2_any_43 : decode cX2_any 43 = .ok (.aload_n 0, 1) := by decide +kernel
theorem dX2_any_44 : decode cX2_any 44 = .ok (.bipush (-5), 2) := by decide +kernel
theorem dX2_any_46 : decode cX2_any 46 = .ok (.invokevirtual 57, 3) := by decide +kernel
theorem dX2_any_49 : decode cX2_any 49 = .ok (.iinc 3 1, 3) := by decide +kernel
theorem dX2_any_52 : decode cX2_any 52 = .ok (.goto (-44), 3) := by decide +kernel
theorem dX2_any_55 : decode cX2_any 55 = .ok (.iload_n 2, 1) := by decide +kernel
theorem dX2_any_56 : decode cX2_any 56 = .ok (.ireturn, 1) := by decide +kernel
theorem dX2_all_0 : decode cX2_all 0 = .ok (.aload_n 0, 1) := by decide +kernel
theorem dX2_all_1 : decode cX2_all 1 = .ok (.iload_n 1, 1) := by decide +kernel
theorem dX2_all_2 : decode cX2_all 2 = .ok (.invokevirtual 61, 3) := by decide +kernel
theorem dX2_all_5 : decode cX2_all 5 = .ok (.istore_n 2, 1) := by decide +kernel
theorem dX2_all_6 : decode cX2_all 6 = .ok (.iconst 0, 1) := by decide +kernel
theorem dX2_all_7 : decode cX2_all 7 = .ok (.istore_n 3, 1) := by decide +kernel
theorem dX2_all_8 : decode cX2_all 8 = .ok (.iload_n 3, 1) := by decide +kernel
theorem dX2_all_9 : decode cX2_all 9 = .ok (.bipush 60, 2) := by decide +kernel
theorem dX2_all_11 : decode cX2_all 11 = .ok (.if_icmp .ge 44, 3) := by decide +kernel
theorem dX2_all_14 : decode cX2_all 14 = .ok (.iload_n 2, 1) := by decide +kernel
theorem dX2_all_15 : decode cX2_all 15 = .ok (.ifCond .eq 40, 3) := by decide +kernel
theorem dX2_all_18 : decode cX2_all 18 = .ok (.aload_n 0, 1) := by decide +kernel
theorem dX2_all_19 : decode cX2_all 19 = .ok (.invokevirtual 51, 3) := by decide +kernel
theorem dX2_all_22 : decode cX2_all 22 = .ok (.bipush 38, 2) := by decide +kernel
theorem dX2_all_24 : decode cX2_all 24 = .ok (.if_icmp .ne 31, 3) := by decide +kernel
theorem dX2_all_27 : decode cX2_all 27 = .ok (.aload_n 0, 1) := by decide +kernel
theorem dX2_all_28 : decode cX2_all 28 = .ok (.dup, 1) := by decide +kernel
theorem dX2_all_29 : decode cX2_all 29 = .ok (.getfield 19, 3) := by decide +kernel
theorem dX2_all_32 : decode cX2_all 32 = .ok (.iconst 1, 1) := by decide +kernel
theorem dX2_all_33 : decode cX2_all 33 = .ok (.iadd, 1) := by decide +kernel
theorem dX2_all_34 : decode cX2_all 34 = .ok (.putfield 19, 3) := by decide +kernel
theorem dX2_all_37 : decode cX2_all 37 = .ok (.aload_n 0, 1) := by decide +kernel
theorem dX2_all_38 : decode cX2_all 38 = .ok (.iload_n 1, 1) := by decide +kernel
theorem dX2_all_39 : decode cX2_all 39 = .ok (.invokevirtual 61, 3) := by decide +kernel
theorem dX2_all_42 : decode cX2_all 42 = .ok (.istore_n 2, 1) := by decide +kernel
theorem dX2_all_43 : decode cX2_all 43 = .ok (.aload_n 0, 1) := by decide +kernel
theorem dX2_all_44 : decode cX2_all 44 = .ok (.bipush (-6), 2) := by decide +kernel
theorem dX2_all_46 : decode cX2_all 46 = .ok (.invokevirtual 57, 3) := by decide +kernel
theorem dX2_all_49 : decode cX2_all 49 = .ok (.iinc 3 1, 3) := by decide +kernel
theorem dX2_all_52 : decode cX2_all 52 = .ok (.goto (-44), 3) := by decide +kernel
theorem dX2_all_55 : decode cX2_all 55 = .ok (.iload_n 2, 1) := by decide +kernel
theorem dX2_all_56 : decode cX2_all 56 = .ok (.ireturn, 1) := by decide +kernel
theorem dX2_comparison_0 : decode cX2_comparison 0 = .ok (.aload_n 0, 1) := by decide +kernel
theorem dX2_comparison_1 : decode cX2_comparison 1 = .ok (.iload_n 1, 1) := by decide +kernel
theorem dX2_comparison_2 : decode cX2_comparison 2 = .ok (.invokevirtual 64, 3) := by decide +kernel
theorem dX2_comparison_5 : decode cX2_comparison 5 = .ok (.istore_n 2, 1) := by decide +kernel
theorem dX2_comparison_6 : decode cX2_comparison 6 = .ok (.aload_n 0, 1) := by decide +kernel
theorem dX2_comparison_7 : decode cX2_comparison 7 = .ok (.invokevirtual 51, 3) := by decide +kernel
theorem dX2_comparison_10 : decode cX2_comparison 10 = .ok (.bipush 60, 2) := by decide +kernel
theorem dX2_comparison_12 : decode cX2_comparison 12 = .ok (.if_icmp .ne 8, 3) := by decide +kernel
theorem dX2_comparison_15 : decode cX2_comparison 15 = .ok (.bipush (-7), 2) := by decide +kernel
theorem dX2_comparison_17 : decode cX2_comparison 17 = .ok (.goto 32, 3) := by decide +kernel
theorem dX2_comparison_20 : decode cX2_comparison 20 = .ok (.aload_n 0, 1) := by decide +kernel
theorem dX2_comparison_21 : decode cX2_comparison 21 = .ok (.invokevirtual 51, 3) := by decide +kernel
theorem dX2_comparison_24 : decode cX2_comparison 24 = .ok (.bipush 61, 2) := by decide +kernel
theorem dX2_comparison_26 : decode cX2_comparison 26 = .ok (.if_icmp .ne 8, 3) := by decide +kernel
theorem dX2_comparison_29 : decode cX2_comparison 29 = .ok (.bipush (-8), 2) := by decide +kernel
theorem dX2_comparison_31 : decode cX2_comparison 31 = .ok (.goto 18, 3) := by decide +kernel
theorem dX2_comparison_34 : decode cX2_comparison 34 = .ok (.aload_n 0, 1) := by decide +kernel
theorem dX2_comparison_35 : decode cX2_comparison 35 = .ok (.invokevirtual 51, 3) := by decide +kernel
theorem dX2_comparison_38 : decode cX2_comparison 38 = .ok (.bipush 62, 2) := by decide +kernel
theorem dX2_comparison_40 : decode cX2_comparison 40 = .ok (.if_icmp .ne 8, 3) := by decide +kernel
theorem dX2_comparison_43 : decode cX2_comparison 43 = .ok (.bipush (-9), 2) := by decide +kernel
theorem dX2_comparison_45 : decode cX2_comparison 45 = .ok (.goto 4, 3) := by decide +kernel
theorem dX2_comparison_48 : decode cX2_comparison 48 = .ok (.iconst 0, 1) := by decide +kernel
theorem dX2_comparison_49 : decode cX2_comparison 49 = .ok (.istore_n 3, 1) := by decide +kernel
theorem dX2_comparison_50 : decode cX2_comparison 50 = .ok (.iload_n 2, 1) := by decide +kernel
theorem dX2_comparison_51 : decode cX2_comparison 51 = .ok (.ifCond .eq 28, 3) := by decide +kernel
theorem dX2_comparison_54 : decode cX2_comparison 54 = .ok (.iload_n 3, 1) := by decide +kernel
theorem dX2_comparison_55 : decode cX2_comparison 55 = .ok (.ifCond .eq 24, 3) := by decide +kernel
theorem dX2_comparison_58 : decode cX2_comparison 58 = .ok (.aload_n 0, 1) := by decide +kernel
theorem dX2_comparison_59 : decode cX2_comparison 59 = .ok (.dup, 1) := by decide +kernel
theorem dX2_comparison_60 : decode cX2_comparison 60 = .ok (.getfield 19, 3) := by decide +kernel
theorem dX2_comparison_63 : decode cX2_comparison 63 = .ok (.iconst 1, 1) := by decide +kernel
theorem dX2_comparison_64 : decode cX2_comparison 64 = .ok (.iadd, 1) := by decide +kernel
theorem dX2_comparison_65 : decode cX2_comparison 65 = .ok (.putfield 19, 3) := by decide +kernel
theorem dX2_comparison_68 : decode cX2_comparison 68 = .ok (.aload_n 0, 1) := by decide +kernel
theorem dX2_comparison_69 : decode cX2_comparison 69 = .ok (.iload_n 1, 1) := by decide +kernel
theorem dX2_comparison_70 : decode cX2_comparison 70 = .ok (.invokevirtual 64, 3) := by decide +kernel
theorem dX2_comparison_73 : decode cX2_comparison 73 = .ok (.istore_n 2, 1) := by decide +kernel
theorem dX2_comparison_74 : decode cX2_comparison 74 = .ok (.aload_n 0, 1) := by decide +kernel
theorem dX2_comparison_75 : decode cX2_comparison 75 = .ok (.iload_n 3, 1) := by decide +kernel
theorem dX2_comparison_76 : decode cX2_comparison 76 = .ok (.invokevirtual 57, 3) := by decide +kernel
theorem dX2_comparison_79 : decode cX2_comparison 79 = .ok (.iload_n 2, 1) := by decide +kernel
theorem dX2_comparison_80 : decode cX2_comparison 80 = .ok (.ireturn, 1) := by decide +kernel
theorem dX2_sum_0 : decode cX2_sum 0 = .ok (.aload_n 0, 1) := by decide +kernel
theorem dX2_sum_1 : decode cX2_sum 1 = .ok (.iload_n 1, 1) := by decide +kernel
theorem dX2_sum_2 : decode cX2_sum 2 = .ok (.invokevirtual 67, 3) := by decide +kernel
theorem dX2_sum_5 : decode cX2_sum 5 = .ok (.istore_n 2, 1) := by decide +kernel
theorem dX2_sum_6 : decode cX2_sum 6 = .ok (.iconst 0, 1) := by decide +kernel
theorem dX2_sum_7 : decode cX2_sum 7 = .ok (.istore_n 3, 1) := by decide +kernel
theorem dX2_sum_8 : decode cX2_sum 8 = .ok (.iload_n 3, 1) := by decide +kernel
theorem dX2_sum_9 : decode cX2_sum 9 = .ok (.bipush 60, 2) := by decide +kernel
theorem dX2_sum_11 : decode cX2_sum 11 = .ok (.if_icmp .ge 71, 3) := by decide +kernel
theorem dX2_sum_14 : decode cX2_sum 14 = .ok (.iload_n 2, 1) := by decide +kernel
theorem dX2_sum_15 : decode cX2_sum 15 = .ok (.ifCond .eq 67, 3) := by decide +kernel
theorem dX2_sum_18 : decode cX2_sum 18 = .ok (.aload_n 0, 1) := by decide +kernel
theorem dX2_sum_19 : decode cX2_sum 19 = .ok (.invokevirtual 51, 3) := by decide +kernel
theorem dX2_sum_22 : decode cX2_sum 22 = .ok (.bipush 43, 2) := by decide +kernel
theorem dX2_sum_24 : decode cX2_sum 24 = .ok (.if_icmp .eq 12, 3) := by decide +kernel
theorem dX2_sum_27 : decode cX2_sum 27 = .ok (.aload_n 0, 1) := by decide +kernel
theorem dX2_sum_28 : decode cX2_sum 28 = .ok (.invokevirtual 51, 3) := by decide +kernel
theorem dX2_sum_31 : decode cX2_sum 31 = .ok (.bipush 45, 2) := by decide +kernel
theorem dX2_sum_33 : decode cX2_sum 33 = .ok (.if_icmp .ne 49, 3) := by decide +kernel
theorem dX2_sum_36 : decode cX2_sum 36 = .ok (.aload_n 0, 1) := by decide +kernel
theorem dX2_sum_37 : decode cX2_sum 37 = .ok (.invokevirtual 51, 3) := by decide +kernel
theorem dX2_sum_40 : decode cX2_sum 40 = .ok (.bipush 43, 2) := by decide +kernel
theorem dX2_sum_42 : decode cX2_sum 42 = .ok (.if_icmp .ne 8, 3) := by decide +kernel
theorem dX2_sum_45 : decode cX2_sum 45 = .ok (.bipush (-10), 2) := by decide +kernel
theorem dX2_sum_47 : decode cX2_sum 47 = .ok (.goto 5, 3) := by decide +kernel
theorem dX2_sum_50 : decode cX2_sum 50 = .ok (.bipush (-11), 2) := by decide +kernel
theorem dX2_sum_52 : decode cX2_sum 52 = .ok (.istore 4, 2) := by decide +kernel
theorem dX2_sum_54 : decode cX2_sum 54 = .ok (.aload_n 0, 1) := by decide +kernel
theorem dX2_sum_55 : decode cX2_sum 55 = .ok (.dup, 1) := by decide +kernel
theorem dX2_sum_56 : decode cX2_sum 56 = .ok (.getfield 19, 3) := by decide +kernel
theorem dX2_sum_59 : decode cX2_sum 59 = .ok (.iconst 1, 1) := by decide +kernel
theorem dX2_sum_60 : decode cX2_sum 60 = .ok (.iadd, 1) := by decide +kernel
theorem dX2_sum_61 : decode cX2_sum 61 = .ok (.putfield 19, 3) := by decide +kernel
theorem dX2_sum_64 : decode cX2_sum 64 = .ok (.aload_n 0, 1) := by decide +kernel
theorem dX2_sum_65 : decode cX2_sum 65 = .ok (.iload_n 1, 1) := by decide +kernel
theorem dX2_sum_66 : decode cX2_sum 66 = .ok (.invokevirtual 67, 3) := by decide +kernel
theorem dX2_sum_69 : decode cX2_sum 69 = .ok (.istore_n 2, 1) := by decide +kernel
theorem dX2_sum_70 : decode cX2_sum 70 = .ok (.aload_n 0, 1) := by decide +kernel
theorem dX2_sum_71 : decode cX2_sum 71 = .ok (.iload 4, 2) := by decide +kernel
theorem dX2_sum_73 : decode cX2_sum 73 = .ok (.invokevirtual 57, 3) := by decide +kernel
theorem dX2_sum_76 : decode cX2_sum 76 = .ok (.iinc 3 1, 3) := by decide +kernel
theorem dX2_sum_79 : decode cX2_sum 79 = .ok (.goto (-71), 3) := by decide +kernel
theorem dX2_sum_82 : decode cX2_sum 82 = .ok (.iload_n 2, 1) := by decide +kernel
theorem dX2_sum_83 : decode cX2_sum 83 = .ok (.ireturn, 1) := by decide +kernel
theorem dX2_product_0 : decode cX2_product 0 = .ok (.aload_n 0, 1) := by decide +kernel
theorem dX2_product_1 : decode cX2_product 1 = .ok (.iload_n 1, 1) := by decide +kernel
theorem dX2_product_2 : decode cX2_product 2 = .ok (.invokevirtual 70, 3) := by decide +kernel
theorem dX2_product_5 : decode cX2_product 5 = .ok (.istore_n 2, 1) := by decide +kernel
theorem dX2_product_6 : decode cX2_product 6 = .ok (.iconst 0, 1) := by decide +kernel
theorem dX2_product_7 : decode cX2_product 7 = .ok (.istore_n 3, 1) := by decide +kernel
theorem dX2_product_8 : decode cX2_product 8 = .ok (.iload_n 3, 1) := by decide +kernel
theorem dX2_product_9 : decode cX2_product 9 = .ok (.bipush 60, 2) := by decide +kernel
theorem dX2_product_11 : decode cX2_product 11 = .ok (.if_icmp .ge 94, 3) := by decide +kernel
theorem dX2_product_14 : decode cX2_product 14 = .ok (.iload_n 2, 1) := by decide +kernel
theorem dX2_product_15 : decode cX2_product 15 = .ok (.ifCond .eq 90, 3) := by decide +kernel
theorem dX2_product_18 : decode cX2_product 18 = .ok (.aload_n 0, 1) := by decide +kernel
theorem dX2_product_19 : decode cX2_product 19 = .ok (.invokevirtual 51, 3) := by decide +kernel
theorem dX2_product_22 : decode cX2_product 22 = .ok (.bipush 42, 2) := by decide +kernel
theorem dX2_product_24 : decode cX2_product 24 = .ok (.if_icmp .eq 21, 3) := by decide +kernel
theorem dX2_product_27 : decode cX2_product 27 = .ok (.aload_n 0, 1) := by decide +kernel
theorem dX2_product_28 : decode cX2_product 28 = .ok (.invokevirtual 51, 3) := by decide +kernel
theorem dX2_product_31 : decode cX2_product 31 = .ok (.bipush 47, 2) := by decide +kernel
theorem dX2_product_33 : decode cX2_product 33 = .ok (.if_icmp .eq 12, 3) := by decide +kernel
theorem dX2_product_36 : decode cX2_product 36 = .ok (.aload_n 0, 1) := by decide +kernel
theorem dX2_product_37 : decode cX2_product 37 = .ok (.invokevirtual 51, 3) := by decide +kernel
theorem dX2_product_40 : decode cX2_product 40 = .ok (.bipush 37, 2) := by decide +kernel
theorem dX2_product_42 : decode cX2_product 42 = .ok (.if_icmp .ne 63, 3) := by decide +kernel
theorem dX2_product_45 : decode cX2_product 45 = .ok (.aload_n 0, 1) := by decide +kernel
theorem dX2_product_46 : decode cX2_product 46 = .ok (.invokevirtual 51, 3) := by decide +kernel
theorem dX2_product_49 : decode cX2_product 49 = .ok (.bipush 42, 2) := by decide +kernel
theorem dX2_product_51 : decode cX2_product 51 = .ok (.if_icmp .ne 8, 3) := by decide +kernel
theorem dX2_product_54 : decode cX2_product 54 = .ok (.bipush (-12), 2) := by decide +kernel
theorem dX2_product_56 : decode cX2_product 56 = .ok (.goto 19, 3) := by decide +kernel
theorem dX2_product_59 : decode cX2_product 59 = .ok (.aload_n 0, 1) := by decide +kernel
theorem dX2_product_60 : decode cX2_product 60 = .ok (.invokevirtual 51, 3) := by decide +kernel
theorem dX2_product_63 : decode cX2_product 63 = .ok (.bipush 47, 2) := by decide +kernel
theorem dX2_product_65 : decode cX2_product 65 = .ok (.if_icmp .ne 8, 3) := by decide +kernel
theorem dX2_product_68 : decode cX2_product 68 = .ok (.bipush (-13), 2) := by decide +kernel
theorem dX2_product_70 : decode cX2_product 70 = .ok (.goto 5, 3) := by decide +kernel
theorem dX2_product_73 : decode cX2_product 73 = .ok (.bipush (-14), 2) := by decide +kernel
theorem dX2_product_75 : decode cX2_product 75 = .ok (.istore 4, 2) := by decide +kernel
theorem dX2_product_77 : decode cX2_product 77 = .ok (.aload_n 0, 1) := by decide +kernel
theorem dX2_product_78 : decode cX2_product 78 = .ok (.dup, 1) := by decide +kernel
theorem dX2_product_79 : decode cX2_product 79 = .ok (.getfield 19, 3) := by decide +kernel
theorem dX2_product_82 : decode cX2_product 82 = .ok (.iconst 1, 1) := by decide +kernel
theorem dX2_product_83 : decode cX2_product 83 = .ok (.iadd, 1) := by decide +kernel
theorem dX2_product_84 : decode cX2_product 84 = .ok (.putfield 19, 3) := by decide +kernel
theorem dX2_product_87 : decode cX2_product 87 = .ok (.aload_n 0, 1) := by decide +kernel
theorem dX2_product_88 : decode cX2_product 88 = .ok (.iload_n 1, 1) := by decide +kernel
theorem dX2_product_89 : decode cX2_product 89 = .ok (.invokevirtual 70, 3) := by decide +kernel
theorem dX2_product_92 : decode cX2_product 92 = .ok (.istore_n 2, 1) := by decide +kernel
theorem dX2_product_93 : decode cX2_product 93 = .ok (.aload_n 0, 1) := by decide +kernel
theorem dX2_product_94 : decode cX2_product 94 = .ok (.iload 4, 2) := by decide +kernel
theorem dX2_product_96 : decode cX2_product 96 = .ok (.invokevirtual 57, 3) := by decide +kernel
theorem dX2_product_99 : decode cX2_product 99 = .ok (.iinc 3 1, 3) := by decide +kernel
theorem dX2_product_102 : decode cX2_product 102 = .ok (.goto (-94), 3) := by decide +kernel
theorem dX2_product_105 : decode cX2_product 105 = .ok (.iload_n 2, 1) := by decide +kernel
theorem dX2_product_106 : decode cX2_product 106 = .ok (.ireturn, 1) := by decide +kernel
theorem dX2_single_0 : decode cX2_single 0 = .ok (.aload_n 0, 1) := by decide +kernel
theorem dX2_single_1 : decode cX2_single 1 = .ok (.invokevirtual 51, 3) := by decide +kernel
theorem dX2_single_4 : decode cX2_single 4 = .ok (.istore_n 2, 1) := by decide +kernel
theorem dX2_single_5 : decode cX2_single 5 = .ok (.iload_n 2, 1) := by decide +kernel
theorem dX2_single_6 : decode cX2_single 6 = .ok (.bipush 48, 2) := by decide +kernel
theorem dX2_single_8 : decode cX2_single 8 = .ok (.if_icmp .lt 15, 3) := by decide +kernel
theorem dX2_single_11 : decode cX2_single 11 = .ok (.iload_n 2, 1) := by decide +kernel
theorem dX2_single_12 : decode cX2_single 12 = .ok (.bipush 57, 2) := by decide +kernel
theorem dX2_single_14 : decode cX2_single 14 = .ok (.if_icmp .gt 9, 3) := by decide +kernel
theorem dX2_single_17 : decode cX2_single 17 = .ok (.aload_n 0, 1) := by decide +kernel
theorem dX2_single_18 : decode cX2_single 18 = .ok (.invokevirtual 73, 3) := by decide +kernel
theorem dX2_single_21 : decode cX2_single 21 = .ok (.iconst 1, 1) := by decide +kernel
theorem dX2_single_22 : decode cX2_single 22 = .ok (.ireturn, 1) := by decide +kernel
theorem dX2_single_23 : decode cX2_single 23 = .ok (.iload_n 2, 1) := by decide +kernel
theorem dX2_single_24 : decode cX2_single 24 = .ok (.bipush 33, 2) := by decide +kernel
theorem dX2_single_26 : decode cX2_single 26 = .ok (.if_icmp .eq 9, 3) := by decide +kernel
theorem dX2_single_29 : decode cX2_single 29 = .ok (.iload_n 2, 1) := by decide +kernel
theorem dX2_single_30 : decode cX2_single 30 = .ok (.bipush 40, 2) := by decide +kernel
theorem dX2_single_32 : decode cX2_single 32 = .ok (.if_icmp .ne 25, 3) := by decide +kernel
theorem dX2_single_35 : decode cX2_single 35 = .ok (.iload_n 1, 1) := by decide +kernel
theorem dX2_single_36 : decode cX2_single 36 = .ok (.iconst 5, 1) := by decide +kernel
theorem dX2_single_37 : decode cX2_single 37 = .ok (.if_icmp .ge 18, 3) := by decide +kernel
theorem dX2_single_40 : decode cX2_single 40 = .ok (.aload_n 0, 1) := by decide +kernel
theorem dX2_single_41 : decode cX2_single 41 = .ok (.iload_n 2, 1) := by decide +kernel
theorem dX2_single_42 : decode cX2_single 42 = .ok (.iload_n 1, 1) := by decide +kernel
theorem dX2_single_43 : decode cX2_single 43 = .ok (.iconst 1, 1) := by decide +kernel
theorem dX2_single_44 : decode cX2_single 44 = .ok (.iadd, 1) := by decide +kernel
theorem dX2_single_45 : decode cX2_single 45 = .ok (.invokevirtual 76, 3) := by decide +kernel
theorem dX2_single_48 : decode cX2_single 48 = .ok (.ifCond .eq 7, 3) := by decide +kernel
theorem dX2_single_51 : decode cX2_single 51 = .ok (.iconst 1, 1) := by decide +kernel
theorem dX2_single_52 : decode cX2_single 52 = .ok (.goto 4, 3) := by decide +kernel
theorem dX2_single_55 : decode cX2_single 55 = .ok (.iconst 0, 1) := by decide +kernel
theorem dX2_single_56 : decode cX2_single 56 = .ok (.ireturn, 1) := by decide +kernel
theorem dX2_single_57 : decode cX2_single 57 = .ok (.iconst 0, 1) := by decide +kernel
theorem dX2_single_58 : decode cX2_single 58 = .ok (.istore_n 3, 1) := by decide +kernel
theorem dX2_single_59 : decode cX2_single 59 = .ok (.iload_n 3, 1) := by decide +kernel
theorem dX2_single_60 : decode cX2_single 60 = .ok (.iconst 3, 1) := by decide +kernel
theorem dX2_single_61 : decode cX2_single 61 = .ok (.if_icmp .ge 45, 3) := by decide +kernel
theorem dX2_single_64 : decode cX2_single 64 = .ok (.iload_n 2, 1) := by decide +kernel
theorem dX2_single_65 : decode cX2_single 65 = .ok (.getstatic 80, 3) := by decide +kernel
theorem dX2_single_68 : decode cX2_single 68 = .ok (.aload_n 0, 1) := by decide +kernel
theorem dX2_single_69 : decode cX2_single 69 = .ok (.getfield 22, 3) := by decide +kernel
theorem dX2_single_72 : decode cX2_single 72 = .ok (.iconst 3, 1) := by decide +kernel
theorem dX2_single_73 : decode cX2_single 73 = .ok (.imul, 1) := by decide +kernel
theorem dX2_single_74 : decode cX2_single 74 = .ok (.iload_n 3, 1) := by decide +kernel
theorem dX2_single_75 : decode cX2_single 75 = .ok (.iadd, 1) := by decide +kernel
theorem dX2_single_76 : decode cX2_single 76 = .ok (.caload, 1) := by decide +kernel
theorem dX2_single_77 : decode cX2_single 77 = .ok (.if_icmp .ne 23, 3) := by decide +kernel
theorem dX2_single_80 : decode cX2_single 80 = .ok (.aload_n 0, 1) := by decide +kernel
theorem dX2_single_81 : decode cX2_single 81 = .ok (.dup, 1) := by decide +kernel
theorem dX2_single_82 : decode cX2_single 82 = .ok (.getfield 19, 3) := by decide +kernel
theorem dX2_single_85 : decode cX2_single 85 = .ok (.iconst 1, 1) := by decide +kernel
theorem dX2_single_86 : decode cX2_single 86 = .ok (.iadd, 1) := by decide +kernel
theorem dX2_single_87 : decode cX2_single 87 = .ok (.putfield 19, 3) := by decide +kernel
theorem dX2_single_90 : decode cX2_single 90 = .ok (.aload_n 0, 1) := by decide +kernel
theorem dX2_single_91 : decode cX2_single 91 = .ok (.bipush (-3), 2) := by decide +kernel
theorem dX2_single_93 : decode cX2_single 93 = .ok (.iload_n 3, 1) := by decide +kernel
theorem dX2_single_94 : decode cX2_single 94 = .ok (.iadd, 1) := by decide +kernel
theorem dX2_single_95 : decode cX2_single 95 = .ok (.invokevirtual 57, 3) := by decide +kernel
theorem dX2_single_98 : decode cX2_single 98 = .ok (.iconst 1, 1) := by decide +kernel
theorem dX2_single_99 : decode cX2_single 99 = .ok (.ireturn, 1) := by decide +kernel
theorem dX2_single_100 : decode cX2_single 100 = .ok (.iinc 3 1, 3) := by decide +kernel
theorem dX2_single_103 : decode cX2_single 103 = .ok (.goto (-44), 3) := by decide +kernel
theorem dX2_single_106 : decode cX2_single 106 = .ok (.iconst 0, 1) := by decide +kernel
theorem dX2_single_107 : decode cX2_single 107 = .ok (.ireturn, 1) := by decide +kernel
theorem dX2_opened_0 : decode cX2_opened 0 = .ok (.aload_n 0, 1) := by decide +kernel
theorem dX2_opened_1 : decode cX2_opened 1 = .ok (.dup, 1) := by decide +kernel
theorem dX2_opened_2 : decode cX2_opened 2 = .ok (.getfield 19, 3) := by decide +kernel
theorem dX2_opened_5 : decode cX2_opened 5 = .ok (.iconst 1, 1) := by decide +kernel
theorem dX2_opened_6 : decode cX2_opened 6 = .ok (.iadd, 1) := by decide +kernel
theorem dX2_opened_7 : decode cX2_opened 7 = .ok (.putfield 19, 3) := by decide +kernel
theorem dX2_opened_10 : decode cX2_opened 10 = .ok (.iload_n 1, 1) := by decide +kernel
theorem dX2_opened_11 : decode cX2_opened 11 = .ok (.bipush 33, 2) := by decide +kernel
theorem dX2_opened_13 : decode cX2_opened 13 = .ok (.if_icmp .ne 17, 3) := by decide +kernel
theorem dX2_opened_16 : decode cX2_opened 16 = .ok (.aload_n 0, 1) := by decide +kernel
theorem dX2_opened_17 : decode cX2_opened 17 = .ok (.iload_n 2, 1) := by decide +kernel
theorem dX2_opened_18 : decode cX2_opened 18 = .ok (.invokevirtual 70, 3) := by decide +kernel
theorem dX2_opened_21 : decode cX2_opened 21 = .ok (.istore_n 3, 1) := by decide +kernel
theorem dX2_opened_22 : decode cX2_opened 22 = .ok (.aload_n 0, 1) := by decide +kernel
theorem dX2_opened_23 : decode cX2_opened 23 = .ok (.bipush (-4), 2) := by decide +kernel
theorem dX2_opened_25 : decode cX2_opened 25 = .ok (.invokevirtual 57, 3) := by decide +kernel
theorem dX2_opened_28 : decode cX2_opened 28 = .ok (.iload_n 3, 1) := by decide +kernel
theorem dX2_opened_29 : decode cX2_opened 29 = .ok (.ireturn, 1) := by decide +kernel
theorem dX2_opened_30 : decode cX2_opened 30 = .ok (.aload_n 0, 1) := by decide +kernel
theorem dX2_opened_31 : decode cX2_opened 31 = .ok (.iload_n 2, 1) := by decide +kernel
theorem dX2_opened_32 : decode cX2_opened 32 = .ok (.invokevirtual 44, 3) := by decide +kernel
theorem dX2_opened_35 : decode cX2_opened 35 = .ok (.ifCond .eq 12, 3) := by decide +kernel
theorem dX2_opened_38 : decode cX2_opened 38 = .ok (.aload_n 0, 1) := by decide +kernel
theorem dX2_opened_39 : decode cX2_opened 39 = .ok (.invokevirtual 51, 3) := by decide +kernel
theorem dX2_opened_42 : decode cX2_opened 42 = .ok (.bipush 41, 2) := by decide +kernel
theorem dX2_opened_44 : decode cX2_opened 44 = .ok (.if_icmp .eq 5, 3) := by decide +kernel
theorem dX2_opened_47 : decode cX2_opened 47 = .ok (.iconst 0, 1) := by decide +kernel
theorem dX2_opened_48 : decode cX2_opened 48 = .ok (.ireturn, 1) := by decide +kernel
theorem dX2_opened_49 : decode cX2_opened 49 = .ok (.aload_n 0, 1) := by decide +kernel
theorem dX2_opened_50 : decode cX2_opened 50 = .ok (.dup, 1) := by decide +kernel
theorem dX2_opened_51 : decode cX2_opened 51 = .ok (.getfield 19, 3) := by decide +kernel
theorem dX2_opened_54 : decode cX2_opened 54 = .ok (.iconst 1, 1) := by decide +kernel
theorem dX2_opened_55 : decode cX2_opened 55 = .ok (.iadd, 1) := by decide +kernel
theorem dX2_opened_56 : decode cX2_opened 56 = .ok (.putfield 19, 3) := by decide +kernel
theorem dX2_opened_59 : decode cX2_opened 59 = .ok (.iconst 1, 1) := by decide +kernel
theorem dX2_opened_60 : decode cX2_opened 60 = .ok (.ireturn, 1) := by decide +kernel
theorem dX2_number_0 : decode cX2_number 0 = .ok (.iconst 0, 1) := by decide +kernel
theorem dX2_number_1 : decode cX2_number 1 = .ok (.istore_n 1, 1) := by decide +kernel
theorem dX2_number_2 : decode cX2_number 2 = .ok (.iconst 0, 1) := by decide +kernel
theorem dX2_number_3 : decode cX2_number 3 = .ok (.istore_n 2, 1) := by decide +kernel
theorem dX2_number_4 : decode cX2_number 4 = .ok (.iload_n 2, 1) := by decide +kernel
theorem dX2_number_5 : decode cX2_number 5 = .ok (.iconst 4, 1) := by decide +kernel
theorem dX2_number_6 : decode cX2_number 6 = .ok (.if_icmp .ge 50, 3) := by decide +kernel
theorem dX2_number_9 : decode cX2_number 9 = .ok (.aload_n 0, 1) := by decide +kernel
theorem dX2_number_10 : decode cX2_number 10 = .ok (.invokevirtual 51, 3) := by decide +kernel
theorem dX2_number_13 : decode cX2_number 13 = .ok (.bipush 48, 2) := by decide +kernel
theorem dX2_number_15 : decode cX2_number 15 = .ok (.if_icmp .lt 41, 3) := by decide +kernel
theorem dX2_number_18 : decode cX2_number 18 = .ok (.aload_n 0, 1) := by decide +kernel
theorem dX2_number_19 : decode cX2_number 19 = .ok (.invokevirtual 51, 3) := by decide +kernel
theorem dX2_number_22 : decode cX2_number 22 = .ok (.bipush 57, 2) := by decide +kernel
theorem dX2_number_24 : decode cX2_number 24 = .ok (.if_icmp .gt 32, 3) := by decide +kernel
theorem dX2_number_27 : decode cX2_number 27 = .ok (.iload_n 1, 1) := by decide +kernel
theorem dX2_number_28 : decode cX2_number 28 = .ok (.bipush 10, 2) := by decide +kernel
theorem dX2_number_30 : decode cX2_number 30 = .ok (.imul, 1) := by decide +kernel
theorem dX2_number_31 : decode cX2_number 31 = .ok (.aload_n 0, 1) := by decide +kernel
theorem dX2_number_32 : decode cX2_number 32 = .ok (.invokevirtual 51, 3) := by decide +kernel
theorem dX2_number_35 : decode cX2_number 35 = .ok (.iadd, 1) := by decide +kernel
theorem dX2_number_36 : decode cX2_number 36 = .ok (.bipush 48, 2) := by decide +kernel
theorem dX2_number_38 : decode cX2_number 38 = .ok (.isub, 1) := by decide +kernel
theorem dX2_number_39 : decode cX2_number 39 = .ok (.istore_n 1, 1) := by decide +kernel
theorem dX2_number_40 : decode cX2_number 40 = .ok (.aload_n 0, 1) := by decide +kernel
theorem dX2_number_41 : decode cX2_number 41 = .ok (.dup, 1) := by decide +kernel
theorem dX2_number_42 : decode cX2_number 42 = .ok (.getfield 19, 3) := by decide +kernel
theorem dX2_number_45 : decode cX2_number 45 = .ok (.iconst 1, 1) := by decide +kernel
theorem dX2_number_46 : decode cX2_number 46 = .ok (.iadd, 1) := by decide +kernel
theorem dX2_number_47 : decode cX2_number 47 = .ok (.putfield 19, 3) := by decide +kernel
theorem dX2_number_50 : decode cX2_number 50 = .ok (.iinc 2 1, 3) := by decide +kernel
theorem dX2_number_53 : decode cX2_number 53 = .ok (.goto (-49), 3) := by decide +kernel
theorem dX2_number_56 : decode cX2_number 56 = .ok (.aload_n 0, 1) := by decide +kernel
theorem dX2_number_57 : decode cX2_number 57 = .ok (.iload_n 1, 1) := by decide +kernel
theorem dX2_number_58 : decode cX2_number 58 = .ok (.invokevirtual 57, 3) := by decide +kernel
theorem dX2_number_61 : decode cX2_number 61 = .ok (.return_, 1) := by decide +kernel
theorem dX3_init_0 : decode cX3_init 0 = .ok (.aload_n 0, 1) := by decide +kernel
theorem dX3_init_1 : decode cX3_init 1 = .ok (.invokespecial 3, 3) := by decide +kernel
theorem dX3_init_4 : decode cX3_init 4 = .ok (.aload_n 0, 1) := by decide +kernel
theorem dX3_init_5 : decode cX3_init 5 = .ok (.bipush 10, 2) := by decide +kernel
theorem dX3_init_7 : decode cX3_init 7 = .ok (.anewarray 9, 3) := by decide +kernel
theorem dX3_init_10 : decode cX3_init 10 = .ok (.putfield 11, 3) := by decide +kernel
theorem dX3_init_13 : decode cX3_init 13 = .ok (.aload_n 0, 1) := by decide +kernel
theorem dX3_init_14 : decode cX3_init 14 = .ok (.iconst 0, 1) := by decide +kernel
theorem dX3_init_15 : decode cX3_init 15 = .ok (.putfield 17, 3) := by decide +kernel
theorem dX3_init_18 : decode cX3_init 18 = .ok (.aload_n 0, 1) := by decide +kernel
theorem dX3_init_19 : decode cX3_init 19 = .ok (.iconst 0, 1) := by decide +kernel
theorem dX3_init_20 : decode cX3_init 20 = .ok (.putfield 21, 3) := by decide +kernel
theorem dX3_init_23 : decode cX3_init 23 = .ok (.aload_n 0, 1) := by decide +kernel
theorem dX3_init_24 : decode cX3_init 24 = .ok (.iconst 0, 1) := by decide +kernel
theorem dX3_init_25 : decode cX3_init 25 = .ok (.putfield 24, 3) := by decide +kernel
theorem dX3_init_28 : decode cX3_init 28 = .ok (.aload_n 0, 1) := by decide +kernel
theorem dX3_init_29 : decode cX3_init 29 = .ok (.iconst 0, 1) := by decide +kernel
theorem dX3_init_30 : decode cX3_init 30 = .ok (.putfield 27, 3) := by decide +kernel
theorem dX3_init_33 : decode cX3_init 33 = .ok (.aload_n 0, 1) := by decide +kernel
theorem dX3_init_34 : decode cX3_init 34 = .ok (.iconst 1, 1) := by decide +kernel
theorem dX3_init_35 : decode cX3_init 35 = .ok (.putfield 30, 3) := by decide +kernel
theorem dX3_init_38 : decode cX3_init 38 = .ok (.aload_n 0, 1) := by decide +kernel
theorem dX3_init_39 : decode cX3_init 39 = .ok (.bipush 60, 2) := by decide +kernel
theorem dX3_init_41 : decode cX3_init 41 = .ok (.newarray .byte, 2) := by decide +kernel
theorem dX3_init_43 : decode cX3_init 43 = .ok (.putfield 33, 3) := by decide +kernel
theorem dX3_init_46 : decode cX3_init 46 = .ok (.aload_n 0, 1) := by decide +kernel
theorem dX3_init_47 : decode cX3_init 47 = .ok (.iconst 0, 1) := by decide +kernel
theorem dX3_init_48 : decode cX3_init 48 = .ok (.putfield 37, 3) := by decide +kernel
theorem dX3_init_51 : decode cX3_init 51 = .ok (.aload_n 0, 1) := by decide +kernel
theorem dX3_init_52 : decode cX3_init 52 = .ok (.iconst 2, 1) := by decide +kernel
theorem dX3_init_53 : decode cX3_init 53 = .ok (.anewarray 40, 3) := by decide +kernel
theorem dX3_init_56 : decode cX3_init 56 = .ok (.putfield 42, 3) := by decide +kernel
theorem dX3_init_59 : decode cX3_init 59 = .ok (.aload_n 0, 1) := by decide +kernel
theorem dX3_init_60 : decode cX3_init 60 = .ok (.bipush 24, 2) := by decide +kernel
theorem dX3_init_62 : decode cX3_init 62 = .ok (.newarray .int, 2) := by decide +kernel
theorem dX3_init_64 : decode cX3_init 64 = .ok (.putfield 46, 3) := by decide +kernel
theorem dX3_init_67 : decode cX3_init 67 = .ok (.aload_n 0, 1) := by decide +kernel
theorem dX3_init_68 : decode cX3_init 68 = .ok (.iconst 0, 1) := by decide +kernel
theorem dX3_init_69 : decode cX3_init 69 = .ok (.putfield 50, 3) := by decide +kernel
theorem dX3_init_72 : decode cX3_init 72 = .ok (.iconst 0, 1) := by decide +kernel
theorem dX3_init_73 : decode cX3_init 73 = .ok (.istore_n 1, 1) := by decide +kernel
theorem dX3_init_74 : decode cX3_init 74 = .ok (.iload_n 1, 1) := by decide +kernel
theorem dX3_init_75 : decode cX3_init 75 = .ok (.bipush 10, 2) := by decide +kernel
theorem dX3_init_77 : decode cX3_init 77 = .ok (.if_icmp .ge 22, 3) := by decide +kernel
theorem dX3_init_80 : decode cX3_init 80 = .ok (.aload_n 0, 1) := by decide +kernel
theorem dX3_init_81 : decode cX3_init 81 = .ok (.getfield 11, 3) := by decide +kernel
theorem dX3_init_84 : decode cX3_init 84 = .ok (.iload_n 1, 1) := by decide +kernel
theorem dX3_init_85 : decode cX3_init 85 = .ok (.new 9, 3) := by decide +kernel
theorem dX3_init_88 : decode cX3_init 88 = .ok (.dup, 1) := by decide +kernel
theorem dX3_init_89 : decode cX3_init 89 = .ok (.invokespecial 53, 3) := by decide +kernel
theorem dX3_init_92 : decode cX3_init 92 = .ok (.aastore, 1) := by decide +kernel
theorem dX3_init_93 : decode cX3_init 93 = .ok (.iinc 1 1, 3) := by decide +kernel
theorem dX3_init_96 : decode cX3_init 96 = .ok (.goto (-22), 3) := by decide +kernel
theorem dX3_init_99 : decode cX3_init 99 = .ok (.iconst 0, 1) := by decide +kernel
theorem dX3_init_100 : decode cX3_init 100 = .ok (.istore_n 1, 1) := by decide +kernel
theorem dX3_init_101 : decode cX3_init 101 = .ok (.iload_n 1, 1) := by decide +kernel
theorem dX3_init_102 : decode cX3_init 102 = .ok (.iconst 2, 1) := by decide +kernel
theorem dX3_init_103 : decode cX3_init 103 = .ok (.if_icmp .ge 23, 3) := by decide +kernel
theorem dX3_init_106 : decode cX3_init 106 = .ok (.aload_n 0, 1) := by decide +kernel
theorem dX3_init_107 : decode cX3_init 107 = .ok (.getfield 42, 3) := by decide +kernel
theorem dX3_init_110 : decode cX3_init 110 = .ok (.iload_n 1, 1) := by decide +kernel
theorem dX3_init_111 : decode cX3_init 111 = .ok (.new 40, 3) := by decide +kernel
theorem dX3_init_114 : decode cX3_init 114 = .ok (.dup, 1) := by decide +kernel
theorem dX3_init_115 : decode cX3_init 115 = .ok (.iload_n 1, 1) := by decide +kernel
theorem dX3_init_116 : decode cX3_init 116 = .ok (.invokespecial 54, 3) := by decide +kernel
theorem dX3_init_119 : decode cX3_init 119 = .ok (.aastore, 1) := by decide +kernel
theorem dX3_init_120 : decode cX3_init 120 = .ok (.iinc 1 1, 3) := by decide +kernel
theorem dX3_init_123 : decode cX3_init 123 = .ok (.goto (-22), 3) := by decide +kernel
theorem dX3_init_126 : decode cX3_init 126 = .ok (.return_, 1) := by decide +kernel
theorem dX3_copy_0 : decode cX3_copy 0 = .ok (.iconst 0, 1) := by decide +kernel
theorem dX3_copy_1 : decode cX3_copy 1 = .ok (.istore_n 2, 1) := by decide +kernel
theorem dX3_copy_2 : decode cX3_copy 2 = .ok (.iload_n 2, 1) := by decide +kernel
theorem dX3_copy_3 : decode cX3_copy 3 = .ok (.bipush 10, 2) := by decide +kernel
theorem dX3_copy_5 : decode cX3_copy 5 = .ok (.if_icmp .ge 24, 3) := by decide +kernel
theorem dX3_copy_8 : decode cX3_copy 8 = .ok (.aload_n 0, 1) := by decide +kernel
theorem dX3_copy_9 : decode cX3_copy 9 = .ok (.getfield 11, 3) := by decide +kernel
theorem dX3_copy_12 : decode cX3_copy 12 = .ok (.iload_n 2, 1) := by decide +kernel
theorem dX3_copy_13 : decode cX3_copy 13 = .ok (.aaload, 1) := by decide +kernel
theorem dX3_copy_14 : decode cX3_copy 14 = .ok (.aload_n 1, 1) := by decide +kernel
theorem dX3_copy_15 : decode cX3_copy 15 = .ok (.getfield 11, 3) := by decide +kernel
theorem dX3_copy_18 : decode cX3_copy 18 = .ok (.iload_n 2, 1) := by decide +kernel
theorem dX3_copy_19 : decode cX3_copy 19 = .ok (.aaload, 1) := by decide +kernel
theorem dX3_copy_20 : decode cX3_copy 20 = .ok (.invokevirtual 57, 3) := by decide +kernel
theorem dX3_copy_23 : decode cX3_copy 23 = .ok (.iinc 2 1, 3) := by decide +kernel
theorem dX3_copy_26 : decode cX3_copy 26 = .ok (.goto (-24), 3) := by decide +kernel
theorem dX3_copy_29 : decode cX3_copy 29 = .ok (.iconst 0, 1) := by decide +kernel
theorem dX3_copy_30 : decode cX3_copy 30 = .ok (.istore_n 2, 1) := by decide +kernel
theorem dX3_copy_31 : decode cX3_copy 31 = .ok (.iload_n 2, 1) := by decide +kernel
theorem dX3_copy_32 : decode cX3_copy 32 = .ok (.iconst 2, 1) := by decide +kernel
theorem dX3_copy_33 : decode cX3_copy 33 = .ok (.if_icmp .ge 24, 3) := by decide +kernel
theorem dX3_copy_36 : decode cX3_copy 36 = .ok (.aload_n 0, 1) := by decide +kernel
theorem dX3_copy_37 : decode cX3_copy 37 = .ok (.getfield 42, 3) := by decide +kernel
theorem dX3_copy_40 : decode cX3_copy 40 = .ok (.iload_n 2, 1) := by decide +kernel
theorem dX3_copy_41 : decode cX3_copy 41 = .ok (.aaload, 1) := by decide +kernel
theorem dX3_copy_42 : decode cX3_copy 42 = .ok (.aload_n 1, 1) := by decide +kernel
theorem dX3_copy_43 : decode cX3_copy 43 = .ok (.getfield 42, 3) := by decide +kernel
theorem dX3_copy_46 : decode cX3_copy 46 = .ok (.iload_n 2, 1) := by decide +kernel
theorem dX3_copy_47 : decode cX3_copy 47 = .ok (.aaload, 1) := by decide +kernel
theorem dX3_copy_48 : decode cX3_copy 48 = .ok (.invokevirtual 61, 3) := by decide +kernel
theorem dX3_copy_51 : decode cX3_copy 51 = .ok (.iinc 2 1, 3) := by decide +kernel
theorem dX3_copy_54 : decode cX3_copy 54 = .ok (.goto (-23), 3) := by decide +kernel
theorem dX3_copy_57 : decode cX3_copy 57 = .ok (.aload_n 1, 1) := by decide +kernel
theorem dX3_copy_58 : decode cX3_copy 58 = .ok (.getfield 33, 3) := by decide +kernel
theorem dX3_copy_61 : decode cX3_copy 61 = .ok (.iconst 0, 1) := by decide +kernel
theorem dX3_copy_62 : decode cX3_copy 62 = .ok (.aload_n 0, 1) := by decide +kernel
theorem dX3_copy_63 : decode cX3_copy 63 = .ok (.getfield 33, 3) := by decide +kernel
theorem dX3_copy_66 : decode cX3_copy 66 = .ok (.iconst 0, 1) := by decide +kernel
theorem dX3_copy_67 : decode cX3_copy 67 = .ok (.bipush 60, 2) := by decide +kernel
theorem dX3_copy_69 : decode cX3_copy 69 = .ok (.invokestatic 64, 3) := by decide +kernel
theorem dX3_copy_72 : decode cX3_copy 72 = .ok (.aload_n 1, 1) := by decide +kernel
theorem dX3_copy_73 : decode cX3_copy 73 = .ok (.getfield 46, 3) := by decide +kernel
theorem dX3_copy_76 : decode cX3_copy 76 = .ok (.iconst 0, 1) := by decide +kernel
theorem dX3_copy_77 : decode cX3_copy 77 = .ok (.aload_n 0, 1) := by decide +kernel
theorem dX3_copy_78 : decode cX3_copy 78 = .ok (.getfield 46, 3) := by decide +kernel
theorem dX3_copy_81 : decode cX3_copy 81 = .ok (.iconst 0, 1) := by decide +kernel
theorem dX3_copy_82 : decode cX3_copy 82 = .ok (.bipush 24, 2) := by decide +kernel
theorem dX3_copy_84 : decode cX3_copy 84 = .ok (.invokestatic 64, 3) := by decide +kernel
theorem dX3_copy_87 : decode cX3_copy 87 = .ok (.aload_n 0, 1) := by decide +kernel
theorem dX3_copy_88 : decode cX3_copy 88 = .ok (.aload_n 1, 1) := by decide +kernel
theorem dX3_copy_89 : decode cX3_copy 89 = .ok (.getfield 17, 3) := by decide +kernel
theorem dX3_copy_92 : decode cX3_copy 92 = .ok (.putfield 17, 3) := by decide +kernel
theorem dX3_copy_95 : decode cX3_copy 95 = .ok (.aload_n 0, 1) := by decide +kernel
theorem dX3_copy_96 : decode cX3_copy 96 = .ok (.aload_n 1, 1) := by decide +kernel
theorem dX3_copy_97 : decode cX3_copy 97 = .ok (.getfield 21, 3) := by decide +kernel
theorem dX3_copy_100 : decode cX3_copy 100 = .ok (.putfield 21, 3) := by decide +kernel
theorem dX3_copy_103 : decode cX3_copy 103 = .ok (.aload_n 0, 1) := by decide +kernel
theorem dX3_copy_104 : decode cX3_copy 104 = .ok (.aload_n 1, 1) := by decide +kernel
theorem dX3_copy_105 : decode cX3_copy 105 = .ok (.getfield 24, 3) := by decide +kernel
theorem dX3_copy_108 : decode cX3_copy 108 = .ok (.putfield 24, 3) := by decide +kernel
theorem dX3_copy_111 : decode cX3_copy 111 = .ok (.aload_n 0, 1) := by decide +kernel
theorem dX3_copy_112 : decode cX3_copy 112 = .ok (.aload_n 1, 1) := by decide +kernel
theorem dX3_copy_113 : decode cX3_copy 113 = .ok (.getfield 27, 3) := by decide +kernel
theorem dX3_copy_116 : decode cX3_copy 116 = .ok (.putfield 27, 3) := by decide +kernel
theorem dX3_copy_119 : decode cX3_copy 119 = .ok (.aload_n 0, 1) := by decide +kernel
theorem dX3_copy_120 : decode cX3_copy 120 = .ok (.aload_n 1, 1) := by decide +kernel
theorem dX3_copy_121 : decode cX3_copy 121 = .ok (.getfield 30, 3) := by decide +kernel
theorem dX3_copy_124 : decode cX3_copy 124 = .ok (.putfield 30, 3) := by decide +kernel
theorem dX3_copy_127 : decode cX3_copy 127 = .ok (.aload_n 0, 1) := by decide +kernel
theorem dX3_copy_128 : decode cX3_copy 128 = .ok (.aload_n 1, 1) := by decide +kernel
theorem dX3_copy_129 : decode cX3_copy 129 = .ok (.getfield 37, 3) := by decide +kernel
theorem dX3_copy_132 : decode cX3_copy 132 = .ok (.putfield 37, 3) := by decide +kernel
theorem dX3_copy_135 : decode cX3_copy 135 = .ok (.aload_n 0, 1) := by decide +kernel
theorem dX3_copy_136 : decode cX3_copy 136 = .ok (.aload_n 1, 1) := by decide +kernel
theorem dX3_copy_137 : decode cX3_copy 137 = .ok (.getfield 50, 3) := by decide +kernel
theorem dX3_copy_140 : decode cX3_copy 140 = .ok (.putfield 50, 3) := by decide +kernel
theorem dX3_copy_143 : decode cX3_copy 143 = .ok (.return_, 1) := by decide +kernel
theorem dX3_holdOf_0 : decode cX3_holdOf 0 = .ok (.aload_n 0, 1) := by decide +kernel
theorem dX3_holdOf_1 : decode cX3_holdOf 1 = .ok (.getfield 11, 3) := by decide +kernel
theorem dX3_holdOf_4 : decode cX3_holdOf 4 = .ok (.iload_n 1, 1) := by decide +kernel
theorem dX3_holdOf_5 : decode cX3_holdOf 5 = .ok (.aaload, 1) := by decide +kernel
theorem dX3_holdOf_6 : decode cX3_holdOf 6 = .ok (.astore_n 3, 1) := by decide +kernel
theorem dX3_holdOf_7 : decode cX3_holdOf 7 = .ok (.aload_n 0, 1) := by decide +kernel
theorem dX3_holdOf_8 : decode cX3_holdOf 8 = .ok (.getfield 42, 3) := by decide +kernel
theorem dX3_holdOf_11 : decode cX3_holdOf 11 = .ok (.iconst 0, 1) := by decide +kernel
theorem dX3_holdOf_12 : decode cX3_holdOf 12 = .ok (.aaload, 1) := by decide +kernel
theorem dX3_holdOf_13 : decode cX3_holdOf 13 = .ok (.aload_n 3, 1) := by decide +kernel
theorem dX3_holdOf_14 : decode cX3_holdOf 14 = .ok (.aload_n 0, 1) := by decide +kernel
theorem dX3_holdOf_15 : decode cX3_holdOf 15 = .ok (.getfield 21, 3) := by decide +kernel
theorem dX3_holdOf_18 : decode cX3_holdOf 18 = .ok (.aload_n 0, 1) := by decide +kernel
theorem dX3_holdOf_19 : decode cX3_holdOf 19 = .ok (.getfield 24, 3) := by decide +kernel
theorem dX3_holdOf_22 : decode cX3_holdOf 22 = .ok (.invokevirtual 70, 3) := by decide +kernel
theorem dX3_holdOf_25 : decode cX3_holdOf 25 = .ok (.aload_n 3, 1) := by decide +kernel
theorem dX3_holdOf_26 : decode cX3_holdOf 26 = .ok (.getfield 74, 3) := by decide +kernel
theorem dX3_holdOf_29 : decode cX3_holdOf 29 = .ok (.iload_n 2, 1) := by decide +kernel
theorem dX3_holdOf_30 : decode cX3_holdOf 30 = .ok (.invokevirtual 77, 3) := by decide +kernel
theorem dX3_holdOf_33 : decode cX3_holdOf 33 = .ok (.ireturn, 1) := by decide +kernel
theorem dX3_rightUnder_0 : decode cX3_rightUnder 0 = .ok (.lload_n 0, 1) := by decide +kernel
theorem dX3_rightUnder_1 : decode cX3_rightUnder 1 = .ok (.bipush 8, 2) := by decide +kernel
theorem dX3_rightUnder_3 : decode cX3_rightUnder 3 = .ok (.lshl, 1) := by decide +kernel
theorem dX3_rightUnder_4 : decode cX3_rightUnder 4 = .ok (.ldc2_w 81, 3) := by decide +kernel
theorem dX3_rightUnder_7 : decode cX3_rightUnder 7 = .ok (.land, 1) := by decide +kernel
theorem dX3_rightUnder_8 : decode cX3_rightUnder 8 = .ok (.lreturn, 1) := by decide +kernel
theorem dX3_rightAbove_0 : decode cX3_rightAbove 0 = .ok (.lload_n 0, 1) := by decide +kernel
theorem dX3_rightAbove_1 : decode cX3_rightAbove 1 = .ok (.bipush 8, 2) := by decide +kernel
theorem dX3_rightAbove_3 : decode cX3_rightAbove 3 = .ok (.lushr, 1) := by decide +kernel
theorem dX3_rightAbove_4 : decode cX3_rightAbove 4 = .ok (.lreturn, 1) := by decide +kernel
theorem dX3_covered_0 : decode cX3_covered 0 = .ok (.lload_n 0, 1) := by decide +kernel
theorem dX3_covered_1 : decode cX3_covered 1 = .ok (.lload_n 0, 1) := by decide +kernel
theorem dX3_covered_2 : decode cX3_covered 2 = .ok (.invokestatic 83, 3) := by decide +kernel
theorem dX3_covered_5 : decode cX3_covered 5 = .ok (.lor, 1) := by decide +kernel
theorem dX3_covered_6 : decode cX3_covered 6 = .ok (.lreturn, 1) := by decide +kernel
theorem dX3_mayLie_0 : decode cX3_mayLie 0 = .ok (.aload_n 0, 1) := by decide +kernel
theorem dX3_mayLie_1 : decode cX3_mayLie 1 = .ok (.getfield 11, 3) := by decide +kernel
theorem dX3_mayLie_4 : decode cX3_mayLie 4 = .ok (.iload_n 1, 1) := by decide +kernel
theorem dX3_mayLie_5 : decode cX3_mayLie 5 = .ok (.aaload, 1) := by decide +kernel
theorem dX3_mayLie_6 : decode cX3_mayLie 6 = .ok (.iload_n 2, 1) := by decide +kernel
theorem dX3_mayLie_7 : decode cX3_mayLie 7 = .ok (.invokevirtual 87, 3) := by decide +kernel
theorem dX3_mayLie_10 : decode cX3_mayLie 10 = .ok (.lstore_n 3, 1) := by decide +kernel
theorem dX3_mayLie_11 : decode cX3_mayLie 11 = .ok (.iconst 0, 1) := by decide +kernel
theorem dX3_mayLie_12 : decode cX3_mayLie 12 = .ok (.istore 5, 2) := by decide +kernel
theorem dX3_mayLie_14 : decode cX3_mayLie 14 = .ok (.iload 5, 2) := by decide +kernel
theorem dX3_mayLie_16 : decode cX3_mayLie 16 = .ok (.aload_n 0, 1) := by decide +kernel
theorem dX3_mayLie_17 : decode cX3_mayLie 17 = .ok (.getfield 17, 3) := by decide +kernel
theorem dX3_mayLie_20 : decode cX3_mayLie 20 = .ok (.if_icmp .ge 34, 3) := by decide +kernel
theorem dX3_mayLie_23 : decode cX3_mayLie 23 = .ok (.iload 5, 2) := by decide +kernel
theorem dX3_mayLie_25 : decode cX3_mayLie 25 = .ok (.iload_n 1, 1) := by decide +kernel
theorem dX3_mayLie_26 : decode cX3_mayLie 26 = .ok (.if_icmp .eq 22, 3) := by decide +kernel
theorem dX3_mayLie_29 : decode cX3_mayLie 29 = .ok (.lload_n 3, 1) := by decide +kernel
theorem dX3_mayLie_30 : decode cX3_mayLie 30 = .ok (.aload_n 0, 1) := by decide +kernel
theorem dX3_mayLie_31 : decode cX3_mayLie 31 = .ok (.getfield 11, 3) := by decide +kernel
theorem dX3_mayLie_34 : decode cX3_mayLie 34 = .ok (.iload 5, 2) := by decide +kernel
theorem dX3_mayLie_36 : decode cX3_mayLie 36 = .ok (.aaload, 1) := by decide +kernel
theorem dX3_mayLie_37 : decode cX3_mayLie 37 = .ok (.invokevirtual 91, 3) := by decide +kernel
theorem dX3_mayLie_40 : decode cX3_mayLie 40 = .ok (.land, 1) := by decide +kernel
theorem dX3_mayLie_41 : decode cX3_mayLie 41 = .ok (.lconst 0, 1) := by decide +kernel
theorem dX3_mayLie_42 : decode cX3_mayLie 42 = .ok (.lcmp, 1) := by decide +kernel
theorem dX3_mayLie_43 : decode cX3_mayLie 43 = .ok (.ifCond .eq 5, 3) := by decide +kernel
theorem dX3_mayLie_46 : decode cX3_mayLie 46 = .ok (.iconst 0, 1) := by decide +kernel
theorem dX3_mayLie_47 : decode cX3_mayLie 47 = .ok (.ireturn, 1) := by decide +kernel
theorem dX3_mayLie_48 : decode cX3_mayLie 48 = .ok (.iinc 5 1, 3) := by decide +kernel
theorem dX3_mayLie_51 : decode cX3_mayLie 51 = .ok (.goto (-37), 3) := by decide +kernel
theorem dX3_mayLie_54 : decode cX3_mayLie 54 = .ok (.aload_n 0, 1) := by decide +kernel
theorem dX3_mayLie_55 : decode cX3_mayLie 55 = .ok (.getfield 11, 3) := by decide +kernel
theorem dX3_mayLie_58 : decode cX3_mayLie 58 = .ok (.iload_n 1, 1) := by decide +kernel
theorem dX3_mayLie_59 : decode cX3_mayLie 59 = .ok (.aaload, 1) := by decide +kernel
theorem dX3_mayLie_60 : decode cX3_mayLie 60 = .ok (.getfield 95, 3) := by decide +kernel
theorem dX3_mayLie_63 : decode cX3_mayLie 63 = .ok (.istore 5, 2) := by decide +kernel
theorem dX3_mayLie_65 : decode cX3_mayLie 65 = .ok (.iload 5, 2) := by decide +kernel
theorem dX3_mayLie_67 : decode cX3_mayLie 67 = .ok (.ifCond .lt 25, 3) := by decide +kernel
theorem dX3_mayLie_70 : decode cX3_mayLie 70 = .ok (.iload 5, 2) := by decide +kernel
theorem dX3_mayLie_72 : decode cX3_mayLie 72 = .ok (.aload_n 0, 1) := by decide +kernel
theorem dX3_mayLie_73 : decode cX3_mayLie 73 = .ok (.getfield 17, 3) := by decide +kernel
theorem dX3_mayLie_76 : decode cX3_mayLie 76 = .ok (.if_icmp .ge 16, 3) := by decide +kernel
theorem dX3_mayLie_79 : decode cX3_mayLie 79 = .ok (.aload_n 0, 1) := by decide +kernel
theorem dX3_mayLie_80 : decode cX3_mayLie 80 = .ok (.getfield 11, 3) := by decide +kernel
theorem dX3_mayLie_83 : decode cX3_mayLie 83 = .ok (.iload 5, 2) := by decide +kernel
theorem dX3_mayLie_85 : decode cX3_mayLie 85 = .ok (.aaload, 1) := by decide +kernel
theorem dX3_mayLie_86 : decode cX3_mayLie 86 = .ok (.invokevirtual 98, 3) := by decide +kernel
theorem dX3_mayLie_89 : decode cX3_mayLie 89 = .ok (.ifCond .ne 5, 3) := by decide +kernel
theorem dX3_mayLie_92 : decode cX3_mayLie 92 = .ok (.iconst 1, 1) := by decide +kernel
theorem dX3_mayLie_93 : decode cX3_mayLie 93 = .ok (.ireturn, 1) := by decide +kernel
theorem dX3_mayLie_94 : decode cX3_mayLie 94 = .ok (.lload_n 3, 1) := by decide +kernel
theorem dX3_mayLie_95 : decode cX3_mayLie 95 = .ok (.invokestatic 102, 3) := by decide +kernel
theorem dX3_mayLie_98 : decode cX3_mayLie 98 = .ok (.lload_n 3, 1) := by decide +kernel
theorem dX3_mayLie_99 : decode cX3_mayLie 99 = .ok (.invokestatic 83, 3) := by decide +kernel
theorem dX3_mayLie_102 : decode cX3_mayLie 102 = .ok (.lor, 1) := by decide +kernel
theorem dX3_mayLie_103 : decode cX3_mayLie 103 = .ok (.aload_n 0, 1) := by decide +kernel
theorem dX3_mayLie_104 : decode cX3_mayLie 104 = .ok (.getfield 11, 3) := by decide +kernel
theorem dX3_mayLie_107 : decode cX3_mayLie 107 = .ok (.iload 5, 2) := by decide +kernel
theorem dX3_mayLie_109 : decode cX3_mayLie 109 = .ok (.aaload, 1) := by decide +kernel
theorem dX3_mayLie_110 : decode cX3_mayLie 110 = .ok (.invokevirtual 91, 3) := by decide +kernel
theorem dX3_mayLie_113 : decode cX3_mayLie 113 = .ok (.land, 1) := by decide +kernel
theorem dX3_mayLie_114 : decode cX3_mayLie 114 = .ok (.lconst 0, 1) := by decide +kernel
theorem dX3_mayLie_115 : decode cX3_mayLie 115 = .ok (.lcmp, 1) := by decide +kernel
theorem dX3_mayLie_116 : decode cX3_mayLie 116 = .ok (.ifCond .eq 7, 3) := by decide +kernel
theorem dX3_mayLie_119 : decode cX3_mayLie 119 = .ok (.iconst 1, 1) := by decide +kernel
theorem dX3_mayLie_120 : decode cX3_mayLie 120 = .ok (.goto 4, 3) := by decide +kernel
theorem dX3_mayLie_123 : decode cX3_mayLie 123 = .ok (.iconst 0, 1) := by decide +kernel
theorem dX3_mayLie_124 : decode cX3_mayLie 124 = .ok (.ireturn, 1) := by decide +kernel
theorem dX3_dryBut_0 : decode cX3_dryBut 0 = .ok (.lconst 0, 1) := by decide +kernel
theorem dX3_dryBut_1 : decode cX3_dryBut 1 = .ok (.lstore_n 2, 1) := by decide +kernel
theorem dX3_dryBut_2 : decode cX3_dryBut 2 = .ok (.iconst 0, 1) := by decide +kernel
theorem dX3_dryBut_3 : decode cX3_dryBut 3 = .ok (.istore 4, 2) := by decide +kernel
theorem dX3_dryBut_5 : decode cX3_dryBut 5 = .ok (.iload 4, 2) := by decide +kernel
theorem dX3_dryBut_7 : decode cX3_dryBut 7 = .ok (.aload_n 0, 1) := by decide +kernel
theorem dX3_dryBut_8 : decode cX3_dryBut 8 = .ok (.getfield 17, 3) := by decide +kernel
theorem dX3_dryBut_11 : decode cX3_dryBut 11 = .ok (.if_icmp .ge 34, 3) := by decide +kernel
theorem dX3_dryBut_14 : decode cX3_dryBut 14 = .ok (.iload_n 1, 1) := by decide +kernel
theorem dX3_dryBut_15 : decode cX3_dryBut 15 = .ok (.iload 4, 2) := by decide +kernel
theorem dX3_dryBut_17 : decode cX3_dryBut 17 = .ok (.ishr, 1) := by decide +kernel
theorem dX3_dryBut_18 : decode cX3_dryBut 18 = .ok (.iconst 1, 1) := by decide +kernel
theorem dX3_dryBut_19 : decode cX3_dryBut 19 = .ok (.iand, 1) := by decide +kernel
theorem dX3_dryBut_20 : decode cX3_dryBut 20 = .ok (.ifCond .ne 19, 3) := by decide +kernel
theorem dX3_dryBut_23 : decode cX3_dryBut 23 = .ok (.lload_n 2, 1) := by decide +kernel
theorem dX3_dryBut_24 : decode cX3_dryBut 24 = .ok (.aload_n 0, 1) := by decide +kernel
theorem dX3_dryBut_25 : decode cX3_dryBut 25 = .ok (.getfield 11, 3) := by decide +kernel
theorem dX3_dryBut_28 : decode cX3_dryBut 28 = .ok (.iload 4, 2) := by decide +kernel
theorem dX3_dryBut_30 : decode cX3_dryBut 30 = .ok (.aaload, 1) := by decide +kernel
theorem dX3_dryBut_31 : decode cX3_dryBut 31 = .ok (.invokevirtual 91, 3) := by decide +kernel
theorem dX3_dryBut_34 : decode cX3_dryBut 34 = .ok (.invokestatic 105, 3) := by decide +kernel
theorem dX3_dryBut_37 : decode cX3_dryBut 37 = .ok (.lor, 1) := by decide +kernel
theorem dX3_dryBut_38 : decode cX3_dryBut 38 = .ok (.lstore_n 2, 1) := by decide +kernel
theorem dX3_dryBut_39 : decode cX3_dryBut 39 = .ok (.iinc 4 1, 3) := by decide +kernel
