theorem dX0_init_0 : decode cX0_init 0 = .ok (.aload_n 0, 1) := by decide +kernel
theorem dX0_init_1 : decode cX0_init 1 = .ok (.invokespecial 3, 3) := by decide +kernel
theorem dX0_init_4 : decode cX0_init 4 = .ok (.aload_n 0, 1) := by decide +kernel
theorem dX0_init_5 : decode cX0_init 5 = .ok (.bipush 20, 2) := by decide +kernel
theorem dX0_init_7 : decode cX0_init 7 = .ok (.newarray .int, 2) := by decide +kernel
theorem dX0_init_9 : decode cX0_init 9 = .ok (.putfield 9, 3) := by decide +kernel
theorem dX0_init_12 : decode cX0_init 12 = .ok (.aload_n 0, 1) := by decide +kernel
theorem dX0_init_13 : decode cX0_init 13 = .ok (.iconst 0, 1) := by decide +kernel
theorem dX0_init_14 : decode cX0_init 14 = .ok (.putfield 15, 3) := by decide +kernel
theorem dX0_init_17 : decode cX0_init 17 = .ok (.aload_n 0, 1) := by decide +kernel
theorem dX0_init_18 : decode cX0_init 18 = .ok (.iconst 0, 1) := by decide +kernel
theorem dX0_init_19 : decode cX0_init 19 = .ok (.putfield 19, 3) := by decide +kernel
theorem dX0_init_22 : decode cX0_init 22 = .ok (.aload_n 0, 1) := by decide +kernel
theorem dX0_init_23 : decode cX0_init 23 = .ok (.iconst 0, 1) := by decide +kernel
theorem dX0_init_24 : decode cX0_init 24 = .ok (.putfield 22, 3) := by decide +kernel
theorem dX0_init_27 : decode cX0_init 27 = .ok (.aload_n 0, 1) := by decide +kernel
theorem dX0_init_28 : decode cX0_init 28 = .ok (.iconst 0, 1) := by decide +kernel
theorem dX0_init_29 : decode cX0_init 29 = .ok (.putfield 25, 3) := by decide +kernel
theorem dX0_init_32 : decode cX0_init 32 = .ok (.return_, 1) := by decide +kernel
theorem dX0_perform_0 : decode cX0_perform 0 = .ok (.aload_n 0, 1) := by decide +kernel
theorem dX0_perform_1 : decode cX0_perform 1 = .ok (.aload_n 1, 1) := by decide +kernel
theorem dX0_perform_2 : decode cX0_perform 2 = .ok (.iconst 0, 1) := by decide +kernel
theorem dX0_perform_3 : decode cX0_perform 3 = .ok (.iaload, 1) := by decide +kernel
theorem dX0_perform_4 : decode cX0_perform 4 = .ok (.putfield 19, 3) := by decide +kernel
theorem dX0_perform_7 : decode cX0_perform 7 = .ok (.aload_n 0, 1) := by decide +kernel
theorem dX0_perform_8 : decode cX0_perform 8 = .ok (.aload_n 1, 1) := by decide +kernel
theorem dX0_perform_9 : decode cX0_perform 9 = .ok (.iconst 1, 1) := by decide +kernel
theorem dX0_perform_10 : decode cX0_perform 10 = .ok (.iaload, 1) := by decide +kernel
theorem dX0_perform_11 : decode cX0_perform 11 = .ok (.putfield 22, 3) := by decide +kernel
theorem dX0_perform_14 : decode cX0_perform 14 = .ok (.aload_n 0, 1) := by decide +kernel
theorem dX0_perform_15 : decode cX0_perform 15 = .ok (.iload_n 2, 1) := by decide +kernel
theorem dX0_perform_16 : decode cX0_perform 16 = .ok (.putfield 25, 3) := by decide +kernel
theorem dX0_perform_19 : decode cX0_perform 19 = .ok (.aload_n 0, 1) := by decide +kernel
theorem dX0_perform_20 : decode cX0_perform 20 = .ok (.iload_n 3, 1) := by decide +kernel
theorem dX0_perform_21 : decode cX0_perform 21 = .ok (.iload 4, 2) := by decide +kernel
theorem dX0_perform_23 : decode cX0_perform 23 = .ok (.iconst 0, 1) := by decide +kernel
theorem dX0_perform_24 : decode cX0_perform 24 = .ok (.invokevirtual 28, 3) := by decide +kernel
theorem dX0_perform_27 : decode cX0_perform 27 = .ok (.ireturn, 1) := by decide +kernel
theorem dX0_own_0 : decode cX0_own 0 = .ok (.aload_n 0, 1) := by decide +kernel
theorem dX0_own_1 : decode cX0_own 1 = .ok (.aload_n 0, 1) := by decide +kernel
theorem dX0_own_2 : decode cX0_own 2 = .ok (.getfield 19, 3) := by decide +kernel
theorem dX0_own_5 : decode cX0_own 5 = .ok (.iload_n 1, 1) := by decide +kernel
theorem dX0_own_6 : decode cX0_own 6 = .ok (.iload_n 2, 1) := by decide +kernel
theorem dX0_own_7 : decode cX0_own 7 = .ok (.iload_n 3, 1) := by decide +kernel
theorem dX0_own_8 : decode cX0_own 8 = .ok (.invokevirtual 32, 3) := by decide +kernel
theorem dX0_own_11 : decode cX0_own 11 = .ok (.ireturn, 1) := by decide +kernel
theorem dX0_run_0 : decode cX0_run 0 = .ok (.iload_n 1, 1) := by decide +kernel
theorem dX0_run_1 : decode cX0_run 1 = .ok (.iload_n 2, 1) := by decide +kernel
theorem dX0_run_2 : decode cX0_run 2 = .ok (.invokestatic 36, 3) := by decide +kernel
theorem dX0_run_5 : decode cX0_run 5 = .ok (.istore 5, 2) := by decide +kernel
theorem dX0_run_7 : decode cX0_run 7 = .ok (.iload 5, 2) := by decide +kernel
theorem dX0_run_9 : decode cX0_run 9 = .ok (.ifCond .lt 10, 3) := by decide +kernel
theorem dX0_run_12 : decode cX0_run 12 = .ok (.iload 4, 2) := by decide +kernel
theorem dX0_run_14 : decode cX0_run 14 = .ok (.bipush 20, 2) := by decide +kernel
theorem dX0_run_16 : decode cX0_run 16 = .ok (.if_icmp .le 5, 3) := by decide +kernel
theorem dX0_run_19 : decode cX0_run 19 = .ok (.iconst 0, 1) := by decide +kernel
theorem dX0_run_20 : decode cX0_run 20 = .ok (.ireturn, 1) := by decide +kernel
theorem dX0_run_21 : decode cX0_run 21 = .ok (.getstatic 40, 3) := by decide +kernel
theorem dX0_run_24 : decode cX0_run 24 = .ok (.iload 5, 2) := by decide +kernel
theorem dX0_run_26 : decode cX0_run 26 = .ok (.iconst 3, 1) := by decide +kernel
theorem dX0_run_27 : decode cX0_run 27 = .ok (.imul, 1) := by decide +kernel
theorem dX0_run_28 : decode cX0_run 28 = .ok (.iload_n 2, 1) := by decide +kernel
theorem dX0_run_29 : decode cX0_run 29 = .ok (.iadd, 1) := by decide +kernel
theorem dX0_run_30 : decode cX0_run 30 = .ok (.iaload, 1) := by decide +kernel
theorem dX0_run_31 : decode cX0_run 31 = .ok (.istore 6, 2) := by decide +kernel
theorem dX0_run_33 : decode cX0_run 33 = .ok (.getstatic 43, 3) := by decide +kernel
theorem dX0_run_36 : decode cX0_run 36 = .ok (.iload 5, 2) := by decide +kernel
theorem dX0_run_38 : decode cX0_run 38 = .ok (.iaload, 1) := by decide +kernel
theorem dX0_run_39 : decode cX0_run 39 = .ok (.istore 7, 2) := by decide +kernel
theorem dX0_run_41 : decode cX0_run 41 = .ok (.iload 4, 2) := by decide +kernel
theorem dX0_run_43 : decode cX0_run 43 = .ok (.iconst 1, 1) := by decide +kernel
theorem dX0_run_44 : decode cX0_run 44 = .ok (.iadd, 1) := by decide +kernel
theorem dX0_run_45 : decode cX0_run 45 = .ok (.istore 8, 2) := by decide +kernel
theorem dX0_run_47 : decode cX0_run 47 = .ok (.aload_n 0, 1) := by decide +kernel
theorem dX0_run_48 : decode cX0_run 48 = .ok (.iload 6, 2) := by decide +kernel
theorem dX0_run_50 : decode cX0_run 50 = .ok (.invokevirtual 46, 3) := by decide +kernel
theorem dX0_run_53 : decode cX0_run 53 = .ok (.iload 6, 2) := by decide +kernel
theorem dX0_run_55 : decode cX0_run 55 = .ok (.lookupswitch 255 #[(10, 97), (11, 104), (12, 118), (20, 129), (30, 143), (40, 156), (50, 176), (51, 188), (60, 201), (70, 217), (71, 239)], 97) := by decide +kernel
theorem dX0_run_152 : decode cX0_run 152 = .ok (.iload_n 3, 1) := by decide +kernel
theorem dX0_run_153 : decode cX0_run 153 = .ok (.aload_n 0, 1) := by decide +kernel
theorem dX0_run_154 : decode cX0_run 154 = .ok (.getfield 25, 3) := by decide +kernel
theorem dX0_run_157 : decode cX0_run 157 = .ok (.iadd, 1) := by decide +kernel
theorem dX0_run_158 : decode cX0_run 158 = .ok (.ireturn, 1) := by decide +kernel
theorem dX0_run_159 : decode cX0_run 159 = .ok (.aload_n 0, 1) := by decide +kernel
theorem dX0_run_160 : decode cX0_run 160 = .ok (.iconst 0, 1) := by decide +kernel
theorem dX0_run_161 : decode cX0_run 161 = .ok (.iload_n 3, 1) := by decide +kernel
theorem dX0_run_162 : decode cX0_run 162 = .ok (.iload 8, 2) := by decide +kernel
theorem dX0_run_164 : decode cX0_run 164 = .ok (.invokevirtual 28, 3) := by decide +kernel
theorem dX0_run_167 : decode cX0_run 167 = .ok (.aload_n 0, 1) := by decide +kernel
theorem dX0_run_168 : decode cX0_run 168 = .ok (.getfield 22, 3) := by decide +kernel
theorem dX0_run_171 : decode cX0_run 171 = .ok (.isub, 1) := by decide +kernel
theorem dX0_run_172 : decode cX0_run 172 = .ok (.ireturn, 1) := by decide +kernel
theorem dX0_run_173 : decode cX0_run 173 = .ok (.aload_n 0, 1) := by decide +kernel
theorem dX0_run_174 : decode cX0_run 174 = .ok (.iconst 1, 1) := by decide +kernel
theorem dX0_run_175 : decode cX0_run 175 = .ok (.iload_n 3, 1) := by decide +kernel
theorem dX0_run_176 : decode cX0_run 176 = .ok (.iload 8, 2) := by decide +kernel
theorem dX0_run_178 : decode cX0_run 178 = .ok (.invokevirtual 28, 3) := by decide +kernel
theorem dX0_run_181 : decode cX0_run 181 = .ok (.iconst 2, 1) := by decide +kernel
theorem dX0_run_182 : decode cX0_run 182 = .ok (.imul, 1) := by decide +kernel
theorem dX0_run_183 : decode cX0_run 183 = .ok (.ireturn, 1) := by decide +kernel
theorem dX0_run_184 : decode cX0_run 184 = .ok (.aload_n 0, 1) := by decide +kernel
theorem dX0_run_185 : decode cX0_run 185 = .ok (.iload 7, 2) := by decide +kernel
theorem dX0_run_187 : decode cX0_run 187 = .ok (.iconst 1, 1) := by decide +kernel
theorem dX0_run_188 : decode cX0_run 188 = .ok (.iload_n 3, 1) := by decide +kernel
theorem dX0_run_189 : decode cX0_run 189 = .ok (.iload 8, 2) := by decide +kernel
theorem dX0_run_191 : decode cX0_run 191 = .ok (.invokevirtual 32, 3) := by decide +kernel
theorem dX0_run_194 : decode cX0_run 194 = .ok (.bipush 6, 2) := by decide +kernel
theorem dX0_run_196 : decode cX0_run 196 = .ok (.ixor, 1) := by decide +kernel
theorem dX0_run_197 : decode cX0_run 197 = .ok (.ireturn, 1) := by decide +kernel
theorem dX0_run_198 : decode cX0_run 198 = .ok (.aload_n 0, 1) := by decide +kernel
theorem dX0_run_199 : decode cX0_run 199 = .ok (.iload 7, 2) := by decide +kernel
theorem dX0_run_201 : decode cX0_run 201 = .ok (.iconst 0, 1) := by decide +kernel
theorem dX0_run_202 : decode cX0_run 202 = .ok (.iload_n 3, 1) := by decide +kernel
theorem dX0_run_203 : decode cX0_run 203 = .ok (.iconst 3, 1) := by decide +kernel
theorem dX0_run_204 : decode cX0_run 204 = .ok (.imul, 1) := by decide +kernel
theorem dX0_run_205 : decode cX0_run 205 = .ok (.iload 8, 2) := by decide +kernel
theorem dX0_run_207 : decode cX0_run 207 = .ok (.invokevirtual 32, 3) := by decide +kernel
theorem dX0_run_210 : decode cX0_run 210 = .ok (.ireturn, 1) := by decide +kernel
theorem dX0_run_211 : decode cX0_run 211 = .ok (.aload_n 0, 1) := by decide +kernel
theorem dX0_run_212 : decode cX0_run 212 = .ok (.iload 7, 2) := by decide +kernel
theorem dX0_run_214 : decode cX0_run 214 = .ok (.iconst 2, 1) := by decide +kernel
theorem dX0_run_215 : decode cX0_run 215 = .ok (.iload_n 3, 1) := by decide +kernel
theorem dX0_run_216 : decode cX0_run 216 = .ok (.iload 8, 2) := by decide +kernel
theorem dX0_run_218 : decode cX0_run 218 = .ok (.invokevirtual 32, 3) := by decide +kernel
theorem dX0_run_221 : decode cX0_run 221 = .ok (.aload_n 0, 1) := by decide +kernel
theorem dX0_run_222 : decode cX0_run 222 = .ok (.iconst 1, 1) := by decide +kernel
theorem dX0_run_223 : decode cX0_run 223 = .ok (.iconst 1, 1) := by decide +kernel
theorem dX0_run_224 : decode cX0_run 224 = .ok (.iload 8, 2) := by decide +kernel
theorem dX0_run_226 : decode cX0_run 226 = .ok (.invokevirtual 28, 3) := by decide +kernel
theorem dX0_run_229 : decode cX0_run 229 = .ok (.iadd, 1) := by decide +kernel
theorem dX0_run_230 : decode cX0_run 230 = .ok (.ireturn, 1) := by decide +kernel
theorem dX0_run_231 : decode cX0_run 231 = .ok (.aload_n 0, 1) := by decide +kernel
theorem dX0_run_232 : decode cX0_run 232 = .ok (.iload 7, 2) := by decide +kernel
theorem dX0_run_234 : decode cX0_run 234 = .ok (.iconst 0, 1) := by decide +kernel
theorem dX0_run_235 : decode cX0_run 235 = .ok (.iload_n 3, 1) := by decide +kernel
theorem dX0_run_236 : decode cX0_run 236 = .ok (.iload 8, 2) := by decide +kernel
theorem dX0_run_238 : decode cX0_run 238 = .ok (.invokevirtual 32, 3) := by decide +kernel
theorem dX0_run_241 : decode cX0_run 241 = .ok (.ineg, 1) := by decide +kernel
theorem dX0_run_242 : decode cX0_run 242 = .ok (.ireturn, 1) := by decide +kernel
theorem dX0_run_243 : decode cX0_run 243 = .ok (.aload_n 0, 1) := by decide +kernel
theorem dX0_run_244 : decode cX0_run 244 = .ok (.iload 7, 2) := by decide +kernel
theorem dX0_run_246 : decode cX0_run 246 = .ok (.iconst 1, 1) := by decide +kernel
theorem dX0_run_247 : decode cX0_run 247 = .ok (.iload_n 3, 1) := by decide +kernel
theorem dX0_run_248 : decode cX0_run 248 = .ok (.iconst 1, 1) := by decide +kernel
theorem dX0_run_249 : decode cX0_run 249 = .ok (.iadd, 1) := by decide +kernel
theorem dX0_run_250 : decode cX0_run 250 = .ok (.iload 8, 2) := by decide +kernel
theorem dX0_run_252 : decode cX0_run 252 = .ok (.invokevirtual 32, 3) := by decide +kernel
theorem dX0_run_255 : decode cX0_run 255 = .ok (.ireturn, 1) := by decide +kernel
theorem dX0_run_256 : decode cX0_run 256 = .ok (.aload_n 0, 1) := by decide +kernel
theorem dX0_run_257 : decode cX0_run 257 = .ok (.iload 7, 2) := by decide +kernel
theorem dX0_run_259 : decode cX0_run 259 = .ok (.iconst 2, 1) := by decide +kernel
theorem dX0_run_260 : decode cX0_run 260 = .ok (.iload_n 3, 1) := by decide +kernel
theorem dX0_run_261 : decode cX0_run 261 = .ok (.aload_n 0, 1) := by decide +kernel
theorem dX0_run_262 : decode cX0_run 262 = .ok (.getfield 25, 3) := by decide +kernel
theorem dX0_run_265 : decode cX0_run 265 = .ok (.isub, 1) := by decide +kernel
theorem dX0_run_266 : decode cX0_run 266 = .ok (.iload 8, 2) := by decide +kernel
theorem dX0_run_268 : decode cX0_run 268 = .ok (.invokevirtual 32, 3) := by decide +kernel
theorem dX0_run_271 : decode cX0_run 271 = .ok (.ireturn, 1) := by decide +kernel
theorem dX0_run_272 : decode cX0_run 272 = .ok (.aload_n 0, 1) := by decide +kernel
theorem dX0_run_273 : decode cX0_run 273 = .ok (.iload 7, 2) := by decide +kernel
theorem dX0_run_275 : decode cX0_run 275 = .ok (.iconst 1, 1) := by decide +kernel
theorem dX0_run_276 : decode cX0_run 276 = .ok (.iload_n 3, 1) := by decide +kernel
theorem dX0_run_277 : decode cX0_run 277 = .ok (.iload 8, 2) := by decide +kernel
theorem dX0_run_279 : decode cX0_run 279 = .ok (.invokevirtual 32, 3) := by decide +kernel
theorem dX0_run_282 : decode cX0_run 282 = .ok (.aload_n 0, 1) := by decide +kernel
theorem dX0_run_283 : decode cX0_run 283 = .ok (.iload 7, 2) := by decide +kernel
theorem dX0_run_285 : decode cX0_run 285 = .ok (.iconst 0, 1) := by decide +kernel
theorem dX0_run_286 : decode cX0_run 286 = .ok (.iconst 2, 1) := by decide +kernel
theorem dX0_run_287 : decode cX0_run 287 = .ok (.iload 8, 2) := by decide +kernel
theorem dX0_run_289 : decode cX0_run 289 = .ok (.invokevirtual 32, 3) := by decide +kernel
theorem dX0_run_292 : decode cX0_run 292 = .ok (.iadd, 1) := by decide +kernel
theorem dX0_run_293 : decode cX0_run 293 = .ok (.ireturn, 1) := by decide +kernel
theorem dX0_run_294 : decode cX0_run 294 = .ok (.aload_n 0, 1) := by decide +kernel
theorem dX0_run_295 : decode cX0_run 295 = .ok (.iload 7, 2) := by decide +kernel
theorem dX0_run_297 : decode cX0_run 297 = .ok (.iconst 0, 1) := by decide +kernel
theorem dX0_run_298 : decode cX0_run 298 = .ok (.iload_n 3, 1) := by decide +kernel
theorem dX0_run_299 : decode cX0_run 299 = .ok (.iload 8, 2) := by decide +kernel
theorem dX0_run_301 : decode cX0_run 301 = .ok (.invokevirtual 32, 3) := by decide +kernel
theorem dX0_run_304 : decode cX0_run 304 = .ok (.aload_n 0, 1) := by decide +kernel
theorem dX0_run_305 : decode cX0_run 305 = .ok (.getfield 22, 3) := by decide +kernel
theorem dX0_run_308 : decode cX0_run 308 = .ok (.ixor, 1) := by decide +kernel
theorem dX0_run_309 : decode cX0_run 309 = .ok (.ireturn, 1) := by decide +kernel
theorem dX0_run_310 : decode cX0_run 310 = .ok (.iconst 0, 1) := by decide +kernel
theorem dX0_run_311 : decode cX0_run 311 = .ok (.ireturn, 1) := by decide +kernel
theorem dX0_withBody_0 : decode cX0_withBody 0 = .ok (.iload_n 0, 1) := by decide +kernel
theorem dX0_withBody_1 : decode cX0_withBody 1 = .ok (.istore_n 2, 1) := by decide +kernel
theorem dX0_withBody_2 : decode cX0_withBody 2 = .ok (.iconst 0, 1) := by decide +kernel
theorem dX0_withBody_3 : decode cX0_withBody 3 = .ok (.istore_n 3, 1) := by decide +kernel
theorem dX0_withBody_4 : decode cX0_withBody 4 = .ok (.iload_n 3, 1) := by decide +kernel
theorem dX0_withBody_5 : decode cX0_withBody 5 = .ok (.getstatic 43, 3) := by decide +kernel
theorem dX0_withBody_8 : decode cX0_withBody 8 = .ok (.arraylength, 1) := by decide +kernel
theorem dX0_withBody_9 : decode cX0_withBody 9 = .ok (.if_icmp .ge 41, 3) := by decide +kernel
theorem dX0_withBody_12 : decode cX0_withBody 12 = .ok (.iload_n 2, 1) := by decide +kernel
theorem dX0_withBody_13 : decode cX0_withBody 13 = .ok (.i2l, 1) := by decide +kernel
theorem dX0_withBody_14 : decode cX0_withBody 14 = .ok (.lconst 0, 1) := by decide +kernel
theorem dX0_withBody_15 : decode cX0_withBody 15 = .ok (.ldc2_w 50, 3) := by decide +kernel
theorem dX0_withBody_18 : decode cX0_withBody 18 = .ok (.invokestatic 52, 3) := by decide +kernel
theorem dX0_withBody_21 : decode cX0_withBody 21 = .ok (.ifCond .eq 29, 3) := by decide +kernel
theorem dX0_withBody_24 : decode cX0_withBody 24 = .ok (.getstatic 40, 3) := by decide +kernel
theorem dX0_withBody_27 : decode cX0_withBody 27 = .ok (.iload_n 2, 1) := by decide +kernel
theorem dX0_withBody_28 : decode cX0_withBody 28 = .ok (.iconst 3, 1) := by decide +kernel
theorem dX0_withBody_29 : decode cX0_withBody 29 = .ok (.imul, 1) := by decide +kernel
theorem dX0_withBody_30 : decode cX0_withBody 30 = .ok (.iload_n 1, 1) := by decide +kernel
theorem dX0_withBody_31 : decode cX0_withBody 31 = .ok (.iadd, 1) := by decide +kernel
theorem dX0_withBody_32 : decode cX0_withBody 32 = .ok (.iaload, 1) := by decide +kernel
theorem dX0_withBody_33 : decode cX0_withBody 33 = .ok (.ifCond .eq 5, 3) := by decide +kernel
theorem dX0_withBody_36 : decode cX0_withBody 36 = .ok (.iload_n 2, 1) := by decide +kernel
theorem dX0_withBody_37 : decode cX0_withBody 37 = .ok (.ireturn, 1) := by decide +kernel
theorem dX0_withBody_38 : decode cX0_withBody 38 = .ok (.getstatic 43, 3) := by decide +kernel
theorem dX0_withBody_41 : decode cX0_withBody 41 = .ok (.iload_n 2, 1) := by decide +kernel
theorem dX0_withBody_42 : decode cX0_withBody 42 = .ok (.iaload, 1) := by decide +kernel
theorem dX0_withBody_43 : decode cX0_withBody 43 = .ok (.istore_n 2, 1) := by decide +kernel
theorem dX0_withBody_44 : decode cX0_withBody 44 = .ok (.iinc 3 1, 3) := by decide +kernel
theorem dX0_withBody_47 : decode cX0_withBody 47 = .ok (.goto (-43), 3) := by decide +kernel
theorem dX0_withBody_50 : decode cX0_withBody 50 = .ok (.iconst (-1), 1) := by decide +kernel
theorem dX0_withBody_51 : decode cX0_withBody 51 = .ok (.ireturn, 1) := by decide +kernel
theorem dX0_begin_0 : decode cX0_begin 0 = .ok (.aload_n 0, 1) := by decide +kernel
theorem dX0_begin_1 : decode cX0_begin 1 = .ok (.getfield 15, 3) := by decide +kernel
theorem dX0_begin_4 : decode cX0_begin 4 = .ok (.bipush 20, 2) := by decide +kernel
theorem dX0_begin_6 : decode cX0_begin 6 = .ok (.if_icmp .ge 13, 3) := by decide +kernel
theorem dX0_begin_9 : decode cX0_begin 9 = .ok (.aload_n 0, 1) := by decide +kernel
theorem dX0_begin_10 : decode cX0_begin 10 = .ok (.getfield 9, 3) := by decide +kernel
theorem dX0_begin_13 : decode cX0_begin 13 = .ok (.aload_n 0, 1) := by decide +kernel
theorem dX0_begin_14 : decode cX0_begin 14 = .ok (.getfield 15, 3) := by decide +kernel
theorem dX0_begin_17 : decode cX0_begin 17 = .ok (.iload_n 1, 1) := by decide +kernel
theorem dX0_begin_18 : decode cX0_begin 18 = .ok (.iastore, 1) := by decide +kernel
theorem dX0_begin_19 : decode cX0_begin 19 = .ok (.aload_n 0, 1) := by decide +kernel
theorem dX0_begin_20 : decode cX0_begin 20 = .ok (.dup, 1) := by decide +kernel
theorem dX0_begin_21 : decode cX0_begin 21 = .ok (.getfield 15, 3) := by decide +kernel
theorem dX0_begin_24 : decode cX0_begin 24 = .ok (.iconst 1, 1) := by decide +kernel
theorem dX0_begin_25 : decode cX0_begin 25 = .ok (.iadd, 1) := by decide +kernel
theorem dX0_begin_26 : decode cX0_begin 26 = .ok (.putfield 15, 3) := by decide +kernel
theorem dX0_begin_29 : decode cX0_begin 29 = .ok (.return_, 1) := by decide +kernel
theorem dX1_init_0 : decode cX1_init 0 = .ok (.aload_n 0, 1) := by decide +kernel
theorem dX1_init_1 : decode cX1_init 1 = .ok (.invokespecial 3, 3) := by decide +kernel
theorem dX1_init_4 : decode cX1_init 4 = .ok (.aload_n 0, 1) := by decide +kernel
theorem dX1_init_5 : decode cX1_init 5 = .ok (.iconst 0, 1) := by decide +kernel
theorem dX1_init_6 : decode cX1_init 6 = .ok (.putfield 9, 3) := by decide +kernel
theorem dX1_init_9 : decode cX1_init 9 = .ok (.aload_n 0, 1) := by decide +kernel
theorem dX1_init_10 : decode cX1_init 10 = .ok (.iload_n 1, 1) := by decide +kernel
theorem dX1_init_11 : decode cX1_init 11 = .ok (.iconst 0, 1) := by decide +kernel
theorem dX1_init_12 : decode cX1_init 12 = .ok (.invokestatic 15, 3) := by decide +kernel
theorem dX1_init_15 : decode cX1_init 15 = .ok (.iconst 3, 1) := by decide +kernel
theorem dX1_init_16 : decode cX1_init 16 = .ok (.multianewarray 21 2, 4) := by decide +kernel
theorem dX1_init_20 : decode cX1_init 20 = .ok (.putfield 23, 3) := by decide +kernel
theorem dX1_init_23 : decode cX1_init 23 = .ok (.return_, 1) := by decide +kernel
theorem dX1_empty_0 : decode cX1_empty 0 = .ok (.aload_n 0, 1) := by decide +kernel
theorem dX1_empty_1 : decode cX1_empty 1 = .ok (.iconst 0, 1) := by decide +kernel
theorem dX1_empty_2 : decode cX1_empty 2 = .ok (.putfield 9, 3) := by decide +kernel
theorem dX1_empty_5 : decode cX1_empty 5 = .ok (.iconst 0, 1) := by decide +kernel
theorem dX1_empty_6 : decode cX1_empty 6 = .ok (.ireturn, 1) := by decide +kernel
theorem dX1_add_0 : decode cX1_add 0 = .ok (.aload_n 0, 1) := by decide +kernel
theorem dX1_add_1 : decode cX1_add 1 = .ok (.getfield 9, 3) := by decide +kernel
theorem dX1_add_4 : decode cX1_add 4 = .ok (.aload_n 0, 1) := by decide +kernel
theorem dX1_add_5 : decode cX1_add 5 = .ok (.getfield 23, 3) := by decide +kernel
theorem dX1_add_8 : decode cX1_add 8 = .ok (.arraylength, 1) := by decide +kernel
theorem dX1_add_9 : decode cX1_add 9 = .ok (.if_icmp .lt 6, 3) := by decide +kernel
theorem dX1_add_12 : decode cX1_add 12 = .ok (.bipush (-4), 2) := by decide +kernel
theorem dX1_add_14 : decode cX1_add 14 = .ok (.ireturn, 1) := by decide +kernel
theorem dX1_add_15 : decode cX1_add 15 = .ok (.aload_n 0, 1) := by decide +kernel
theorem dX1_add_16 : decode cX1_add 16 = .ok (.getfield 23, 3) := by decide +kernel
theorem dX1_add_19 : decode cX1_add 19 = .ok (.aload_n 0, 1) := by decide +kernel
theorem dX1_add_20 : decode cX1_add 20 = .ok (.getfield 9, 3) := by decide +kernel
theorem dX1_add_23 : decode cX1_add 23 = .ok (.aaload, 1) := by decide +kernel
theorem dX1_add_24 : decode cX1_add 24 = .ok (.astore 4, 2) := by decide +kernel
theorem dX1_add_26 : decode cX1_add 26 = .ok (.aload 4, 2) := by decide +kernel
theorem dX1_add_28 : decode cX1_add 28 = .ok (.iconst 0, 1) := by decide +kernel
theorem dX1_add_29 : decode cX1_add 29 = .ok (.iload_n 1, 1) := by decide +kernel
theorem dX1_add_30 : decode cX1_add 30 = .ok (.iastore, 1) := by decide +kernel
theorem dX1_add_31 : decode cX1_add 31 = .ok (.aload 4, 2) := by decide +kernel
theorem dX1_add_33 : decode cX1_add 33 = .ok (.iconst 1, 1) := by decide +kernel
theorem dX1_add_34 : decode cX1_add 34 = .ok (.iload_n 2, 1) := by decide +kernel
theorem dX1_add_35 : decode cX1_add 35 = .ok (.iastore, 1) := by decide +kernel
theorem dX1_add_36 : decode cX1_add 36 = .ok (.aload 4, 2) := by decide +kernel
theorem dX1_add_38 : decode cX1_add 38 = .ok (.iconst 2, 1) := by decide +kernel
theorem dX1_add_39 : decode cX1_add 39 = .ok (.iload_n 3, 1) := by decide +kernel
theorem dX1_add_40 : decode cX1_add 40 = .ok (.iastore, 1) := by decide +kernel
theorem dX1_add_41 : decode cX1_add 41 = .ok (.aload_n 0, 1) := by decide +kernel
theorem dX1_add_42 : decode cX1_add 42 = .ok (.dup, 1) := by decide +kernel
theorem dX1_add_43 : decode cX1_add 43 = .ok (.getfield 9, 3) := by decide +kernel
theorem dX1_add_46 : decode cX1_add 46 = .ok (.iconst 1, 1) := by decide +kernel
theorem dX1_add_47 : decode cX1_add 47 = .ok (.iadd, 1) := by decide +kernel
theorem dX1_add_48 : decode cX1_add 48 = .ok (.putfield 9, 3) := by decide +kernel
theorem dX1_add_51 : decode cX1_add 51 = .ok (.aload_n 0, 1) := by decide +kernel
theorem dX1_add_52 : decode cX1_add 52 = .ok (.getfield 9, 3) := by decide +kernel
theorem dX1_add_55 : decode cX1_add 55 = .ok (.ireturn, 1) := by decide +kernel
theorem dX1_becomes_0 : decode cX1_becomes 0 = .ok (.aload_n 0, 1) := by decide +kernel
theorem dX1_becomes_1 : decode cX1_becomes 1 = .ok (.iconst 0, 1) := by decide +kernel
theorem dX1_becomes_2 : decode cX1_becomes 2 = .ok (.putfield 9, 3) := by decide +kernel
theorem dX1_becomes_5 : decode cX1_becomes 5 = .ok (.iconst 0, 1) := by decide +kernel
theorem dX1_becomes_6 : decode cX1_becomes 6 = .ok (.istore_n 2, 1) := by decide +kernel
theorem dX1_becomes_7 : decode cX1_becomes 7 = .ok (.iload_n 2, 1) := by decide +kernel
theorem dX1_becomes_8 : decode cX1_becomes 8 = .ok (.aload_n 1, 1) := by decide +kernel
theorem dX1_becomes_9 : decode cX1_becomes 9 = .ok (.getfield 9, 3) := by decide +kernel
theorem dX1_becomes_12 : decode cX1_becomes 12 = .ok (.if_icmp .ge 30, 3) := by decide +kernel
theorem dX1_becomes_15 : decode cX1_becomes 15 = .ok (.aload_n 1, 1) := by decide +kernel
theorem dX1_becomes_16 : decode cX1_becomes 16 = .ok (.getfield 23, 3) := by decide +kernel
theorem dX1_becomes_19 : decode cX1_becomes 19 = .ok (.iload_n 2, 1) := by decide +kernel
theorem dX1_becomes_20 : decode cX1_becomes 20 = .ok (.aaload, 1) := by decide +kernel
theorem dX1_becomes_21 : decode cX1_becomes 21 = .ok (.astore_n 3, 1) := by decide +kernel
theorem dX1_becomes_22 : decode cX1_becomes 22 = .ok (.aload_n 0, 1) := by decide +kernel
theorem dX1_becomes_23 : decode cX1_becomes 23 = .ok (.aload_n 3, 1) := by decide +kernel
theorem dX1_becomes_24 : decode cX1_becomes 24 = .ok (.iconst 0, 1) := by decide +kernel
theorem dX1_becomes_25 : decode cX1_becomes 25 = .ok (.iaload, 1) := by decide +kernel
theorem dX1_becomes_26 : decode cX1_becomes 26 = .ok (.aload_n 3, 1) := by decide +kernel
theorem dX1_becomes_27 : decode cX1_becomes 27 = .ok (.iconst 1, 1) := by decide +kernel
theorem dX1_becomes_28 : decode cX1_becomes 28 = .ok (.iaload, 1) := by decide +kernel
theorem dX1_becomes_29 : decode cX1_becomes 29 = .ok (.aload_n 3, 1) := by decide +kernel
theorem dX1_becomes_30 : decode cX1_becomes 30 = .ok (.iconst 2, 1) := by decide +kernel
theorem dX1_becomes_31 : decode cX1_becomes 31 = .ok (.iaload, 1) := by decide +kernel
theorem dX1_becomes_32 : decode cX1_becomes 32 = .ok (.invokevirtual 26, 3) := by decide +kernel
theorem dX1_becomes_35 : decode cX1_becomes 35 = .ok (.pop, 1) := by decide +kernel
theorem dX1_becomes_36 : decode cX1_becomes 36 = .ok (.iinc 2 1, 3) := by decide +kernel
theorem dX1_becomes_39 : decode cX1_becomes 39 = .ok (.goto (-32), 3) := by decide +kernel
theorem dX1_becomes_42 : decode cX1_becomes 42 = .ok (.return_, 1) := by decide +kernel
theorem dX2_init_0 : decode cX2_init 0 = .ok (.aload_n 0, 1) := by decide +kernel
theorem dX2_init_1 : decode cX2_init 1 = .ok (.invokespecial 3, 3) := by decide +kernel
theorem dX2_init_4 : decode cX2_init 4 = .ok (.aload_n 0, 1) := by decide +kernel
theorem dX2_init_5 : decode cX2_init 5 = .ok (.iconst 0, 1) := by decide +kernel
theorem dX2_init_6 : decode cX2_init 6 = .ok (.putfield 9, 3) := by decide +kernel
theorem dX2_init_9 : decode cX2_init 9 = .ok (.aload_n 0, 1) := by decide +kernel
theorem dX2_init_10 : decode cX2_init 10 = .ok (.bipush 6, 2) := by decide +kernel
theorem dX2_init_12 : decode cX2_init 12 = .ok (.bipush 14, 2) := by decide +kernel
theorem dX2_init_14 : decode cX2_init 14 = .ok (.multianewarray 15 2, 4) := by decide +kernel
theorem dX2_init_18 : decode cX2_init 18 = .ok (.putfield 17, 3) := by decide +kernel
theorem dX2_init_21 : decode cX2_init 21 = .ok (.aload_n 0, 1) := by decide +kernel
theorem dX2_init_22 : decode cX2_init 22 = .ok (.bipush 127, 2) := by decide +kernel
theorem dX2_init_24 : decode cX2_init 24 = .ok (.putfield 20, 3) := by decide +kernel
theorem dX2_init_27 : decode cX2_init 27 = .ok (.aload_n 0, 1) := by decide +kernel
theorem dX2_init_28 : decode cX2_init 28 = .ok (.iconst 0, 1) := by decide +kernel
theorem dX2_init_29 : decode cX2_init 29 = .ok (.putfield 23, 3) := by decide +kernel
theorem dX2_init_32 : decode cX2_init 32 = .ok (.aload_n 0, 1) := by decide +kernel
theorem dX2_init_33 : decode cX2_init 33 = .ok (.iconst (-1), 1) := by decide +kernel
theorem dX2_init_34 : decode cX2_init 34 = .ok (.putfield 26, 3) := by decide +kernel
theorem dX2_init_37 : decode cX2_init 37 = .ok (.aload_n 0, 1) := by decide +kernel
theorem dX2_init_38 : decode cX2_init 38 = .ok (.new 29, 3) := by decide +kernel
theorem dX2_init_41 : decode cX2_init 41 = .ok (.dup, 1) := by decide +kernel
theorem dX2_init_42 : decode cX2_init 42 = .ok (.bipush 6, 2) := by decide +kernel
theorem dX2_init_44 : decode cX2_init 44 = .ok (.invokespecial 31, 3) := by decide +kernel
theorem dX2_init_47 : decode cX2_init 47 = .ok (.putfield 34, 3) := by decide +kernel
theorem dX2_init_50 : decode cX2_init 50 = .ok (.aload_n 0, 1) := by decide +kernel
theorem dX2_init_51 : decode cX2_init 51 = .ok (.new 29, 3) := by decide +kernel
theorem dX2_init_54 : decode cX2_init 54 = .ok (.dup, 1) := by decide +kernel
theorem dX2_init_55 : decode cX2_init 55 = .ok (.bipush 10, 2) := by decide +kernel
theorem dX2_init_57 : decode cX2_init 57 = .ok (.invokespecial 31, 3) := by decide +kernel
theorem dX2_init_60 : decode cX2_init 60 = .ok (.putfield 38, 3) := by decide +kernel
theorem dX2_init_63 : decode cX2_init 63 = .ok (.aload_n 0, 1) := by decide +kernel
theorem dX2_init_64 : decode cX2_init 64 = .ok (.new 29, 3) := by decide +kernel
theorem dX2_init_67 : decode cX2_init 67 = .ok (.dup, 1) := by decide +kernel
theorem dX2_init_68 : decode cX2_init 68 = .ok (.bipush 8, 2) := by decide +kernel
theorem dX2_init_70 : decode cX2_init 70 = .ok (.invokespecial 31, 3) := by decide +kernel
theorem dX2_init_73 : decode cX2_init 73 = .ok (.putfield 41, 3) := by decide +kernel
theorem dX2_init_76 : decode cX2_init 76 = .ok (.return_, 1) := by decide +kernel
theorem dX2_has_0 : decode cX2_has 0 = .ok (.iload_n 1, 1) := by decide +kernel
theorem dX2_has_1 : decode cX2_has 1 = .ok (.ifCond .lt 15, 3) := by decide +kernel
theorem dX2_has_4 : decode cX2_has 4 = .ok (.iload_n 1, 1) := by decide +kernel
theorem dX2_has_5 : decode cX2_has 5 = .ok (.aload_n 0, 1) := by decide +kernel
theorem dX2_has_6 : decode cX2_has 6 = .ok (.getfield 9, 3) := by decide +kernel
theorem dX2_has_9 : decode cX2_has 9 = .ok (.if_icmp .ge 7, 3) := by decide +kernel
theorem dX2_has_12 : decode cX2_has 12 = .ok (.iconst 1, 1) := by decide +kernel
theorem dX2_has_13 : decode cX2_has 13 = .ok (.goto 4, 3) := by decide +kernel
theorem dX2_has_16 : decode cX2_has 16 = .ok (.iconst 0, 1) := by decide +kernel
theorem dX2_has_17 : decode cX2_has 17 = .ok (.ireturn, 1) := by decide +kernel
theorem dX2_becomes_0 : decode cX2_becomes 0 = .ok (.aload_n 0, 1) := by decide +kernel
theorem dX2_becomes_1 : decode cX2_becomes 1 = .ok (.aload_n 1, 1) := by decide +kernel
theorem dX2_becomes_2 : decode cX2_becomes 2 = .ok (.getfield 9, 3) := by decide +kernel
theorem dX2_becomes_5 : decode cX2_becomes 5 = .ok (.putfield 9, 3) := by decide +kernel
theorem dX2_becomes_8 : decode cX2_becomes 8 = .ok (.iconst 0, 1) := by decide +kernel
theorem dX2_becomes_9 : decode cX2_becomes 9 = .ok (.istore_n 2, 1) := by decide +kernel
theorem dX2_becomes_10 : decode cX2_becomes 10 = .ok (.iload_n 2, 1) := by decide +kernel
theorem dX2_becomes_11 : decode cX2_becomes 11 = .ok (.aload_n 0, 1) := by decide +kernel
theorem dX2_becomes_12 : decode cX2_becomes 12 = .ok (.getfield 9, 3) := by decide +kernel
theorem dX2_becomes_15 : decode cX2_becomes 15 = .ok (.if_icmp .ge 28, 3) := by decide +kernel
theorem dX2_becomes_18 : decode cX2_becomes 18 = .ok (.aload_n 1, 1) := by decide +kernel
theorem dX2_becomes_19 : decode cX2_becomes 19 = .ok (.getfield 17, 3) := by decide +kernel
theorem dX2_becomes_22 : decode cX2_becomes 22 = .ok (.iload_n 2, 1) := by decide +kernel
theorem dX2_becomes_23 : decode cX2_becomes 23 = .ok (.aaload, 1) := by decide +kernel
theorem dX2_becomes_24 : decode cX2_becomes 24 = .ok (.iconst 0, 1) := by decide +kernel
theorem dX2_becomes_25 : decode cX2_becomes 25 = .ok (.aload_n 0, 1) := by decide +kernel
theorem dX2_becomes_26 : decode cX2_becomes 26 = .ok (.getfield 17, 3) := by decide +kernel
theorem dX2_becomes_29 : decode cX2_becomes 29 = .ok (.iload_n 2, 1) := by decide +kernel
theorem dX2_becomes_30 : decode cX2_becomes 30 = .ok (.aaload, 1) := by decide +kernel
theorem dX2_becomes_31 : decode cX2_becomes 31 = .ok (.iconst 0, 1) := by decide +kernel
theorem dX2_becomes_32 : decode cX2_becomes 32 = .ok (.bipush 14, 2) := by decide +kernel
theorem dX2_becomes_34 : decode cX2_becomes 34 = .ok (.invokestatic 44, 3) := by decide +kernel
theorem dX2_becomes_37 : decode cX2_becomes 37 = .ok (.iinc 2 1, 3) := by decide +kernel
theorem dX2_becomes_40 : decode cX2_becomes 40 = .ok (.goto (-30), 3) := by decide +kernel
theorem dX2_becomes_43 : decode cX2_becomes 43 = .ok (.aload_n 0, 1) := by decide +kernel
theorem dX2_becomes_44 : decode cX2_becomes 44 = .ok (.aload_n 1, 1) := by decide +kernel
theorem dX2_becomes_45 : decode cX2_becomes 45 = .ok (.getfield 20, 3) := by decide +kernel
theorem dX2_becomes_48 : decode cX2_becomes 48 = .ok (.putfield 20, 3) := by decide +kernel
theorem dX2_becomes_51 : decode cX2_becomes 51 = .ok (.aload_n 0, 1) := by decide +kernel
theorem dX2_becomes_52 : decode cX2_becomes 52 = .ok (.aload_n 1, 1) := by decide +kernel
theorem dX2_becomes_53 : decode cX2_becomes 53 = .ok (.getfield 23, 3) := by decide +kernel
theorem dX2_becomes_56 : decode cX2_becomes 56 = .ok (.putfield 23, 3) := by decide +kernel
theorem dX2_becomes_59 : decode cX2_becomes 59 = .ok (.aload_n 0, 1) := by decide +kernel
theorem dX2_becomes_60 : decode cX2_becomes 60 = .ok (.aload_n 1, 1) := by decide +kernel
theorem dX2_becomes_61 : decode cX2_becomes 61 = .ok (.getfield 26, 3) := by decide +kernel
theorem dX2_becomes_64 : decode cX2_becomes 64 = .ok (.putfield 26, 3) := by decide +kernel
theorem dX2_becomes_67 : decode cX2_becomes 67 = .ok (.aload_n 0, 1) := by decide +kernel
theorem dX2_becomes_68 : decode cX2_becomes 68 = .ok (.getfield 34, 3) := by decide +kernel
theorem dX2_becomes_71 : decode cX2_becomes 71 = .ok (.aload_n 1, 1) := by decide +kernel
theorem dX2_becomes_72 : decode cX2_becomes 72 = .ok (.getfield 34, 3) := by decide +kernel
theorem dX2_becomes_75 : decode cX2_becomes 75 = .ok (.invokevirtual 50, 3) := by decide +kernel
theorem dX2_becomes_78 : decode cX2_becomes 78 = .ok (.aload_n 0, 1) := by decide +kernel
theorem dX2_becomes_79 : decode cX2_becomes 79 = .ok (.getfield 38, 3) := by decide +kernel
theorem dX2_becomes_82 : decode cX2_becomes 82 = .ok (.aload_n 1, 1) := by decide +kernel
theorem dX2_becomes_83 : decode cX2_becomes 83 = .ok (.getfield 38, 3) := by decide +kernel
theorem dX2_becomes_86 : decode cX2_becomes 86 = .ok (.invokevirtual 50, 3) := by decide +kernel
theorem dX2_becomes_89 : decode cX2_becomes 89 = .ok (.aload_n 0, 1) := by decide +kernel
theorem dX2_becomes_90 : decode cX2_becomes 90 = .ok (.getfield 41, 3) := by decide +kernel
theorem dX2_becomes_93 : decode cX2_becomes 93 = .ok (.aload_n 1, 1) := by decide +kernel
theorem dX2_becomes_94 : decode cX2_becomes 94 = .ok (.getfield 41, 3) := by decide +kernel
theorem dX2_becomes_97 : decode cX2_becomes 97 = .ok (.invokevirtual 50, 3) := by decide +kernel
theorem dX2_becomes_100 : decode cX2_becomes 100 = .ok (.return_, 1) := by decide +kernel
theorem dX2_reckonAll_0 : decode cX2_reckonAll 0 = .ok (.iconst 0, 1) := by decide +kernel
theorem dX2_reckonAll_1 : decode cX2_reckonAll 1 = .ok (.istore_n 2, 1) := by decide +kernel
theorem dX2_reckonAll_2 : decode cX2_reckonAll 2 = .ok (.iload_n 2, 1) := by decide +kernel
theorem dX2_reckonAll_3 : decode cX2_reckonAll 3 = .ok (.aload_n 0, 1) := by decide +kernel
theorem dX2_reckonAll_4 : decode cX2_reckonAll 4 = .ok (.getfield 9, 3) := by decide +kernel
theorem dX2_reckonAll_7 : decode cX2_reckonAll 7 = .ok (.if_icmp .ge 15, 3) := by decide +kernel
theorem dX2_reckonAll_10 : decode cX2_reckonAll 10 = .ok (.aload_n 0, 1) := by decide +kernel
theorem dX2_reckonAll_11 : decode cX2_reckonAll 11 = .ok (.iload_n 2, 1) := by decide +kernel
theorem dX2_reckonAll_12 : decode cX2_reckonAll 12 = .ok (.aload_n 1, 1) := by decide +kernel
theorem dX2_reckonAll_13 : decode cX2_reckonAll 13 = .ok (.invokevirtual 54, 3) := by decide +kernel
theorem dX2_reckonAll_16 : decode cX2_reckonAll 16 = .ok (.iinc 2 1, 3) := by decide +kernel
theorem dX2_reckonAll_19 : decode cX2_reckonAll 19 = .ok (.goto (-17), 3) := by decide +kernel
theorem dX2_reckonAll_22 : decode cX2_reckonAll 22 = .ok (.return_, 1) := by decide +kernel
theorem dX2_reckonOne_0 : decode cX2_reckonOne 0 = .ok (.aload_n 0, 1) := by decide +kernel
theorem dX2_reckonOne_1 : decode cX2_reckonOne 1 = .ok (.getfield 17, 3) := by decide +kernel
theorem dX2_reckonOne_4 : decode cX2_reckonOne 4 = .ok (.iload_n 1, 1) := by decide +kernel
theorem dX2_reckonOne_5 : decode cX2_reckonOne 5 = .ok (.aaload, 1) := by decide +kernel
theorem dX2_reckonOne_6 : decode cX2_reckonOne 6 = .ok (.astore_n 3, 1) := by decide +kernel
theorem dX2_reckonOne_7 : decode cX2_reckonOne 7 = .ok (.aload_n 3, 1) := by decide +kernel
theorem dX2_reckonOne_8 : decode cX2_reckonOne 8 = .ok (.iconst 3, 1) := by decide +kernel
theorem dX2_reckonOne_9 : decode cX2_reckonOne 9 = .ok (.iaload, 1) := by decide +kernel
theorem dX2_reckonOne_10 : decode cX2_reckonOne 10 = .ok (.istore 4, 2) := by decide +kernel
theorem dX2_reckonOne_12 : decode cX2_reckonOne 12 = .ok (.aload_n 2, 1) := by decide +kernel
theorem dX2_reckonOne_13 : decode cX2_reckonOne 13 = .ok (.ifnull 19, 3) := by decide +kernel
theorem dX2_reckonOne_16 : decode cX2_reckonOne 16 = .ok (.iload 4, 2) := by decide +kernel
theorem dX2_reckonOne_18 : decode cX2_reckonOne 18 = .ok (.aload_n 2, 1) := by decide +kernel
theorem dX2_reckonOne_19 : decode cX2_reckonOne 19 = .ok (.getfield 58, 3) := by decide +kernel
theorem dX2_reckonOne_22 : decode cX2_reckonOne 22 = .ok (.aload_n 2, 1) := by decide +kernel
theorem dX2_reckonOne_23 : decode cX2_reckonOne 23 = .ok (.aload_n 3, 1) := by decide +kernel
theorem dX2_reckonOne_24 : decode cX2_reckonOne 24 = .ok (.iload_n 1, 1) := by decide +kernel
theorem dX2_reckonOne_25 : decode cX2_reckonOne 25 = .ok (.invokevirtual 63, 3) := by decide +kernel
theorem dX2_reckonOne_28 : decode cX2_reckonOne 28 = .ok (.iadd, 1) := by decide +kernel
theorem dX2_reckonOne_29 : decode cX2_reckonOne 29 = .ok (.iadd, 1) := by decide +kernel
theorem dX2_reckonOne_30 : decode cX2_reckonOne 30 = .ok (.istore 4, 2) := by decide +kernel
theorem dX2_reckonOne_32 : decode cX2_reckonOne 32 = .ok (.aload_n 3, 1) := by decide +kernel
theorem dX2_reckonOne_33 : decode cX2_reckonOne 33 = .ok (.bipush 7, 2) := by decide +kernel
theorem dX2_reckonOne_35 : decode cX2_reckonOne 35 = .ok (.aload_n 3, 1) := by decide +kernel
theorem dX2_reckonOne_36 : decode cX2_reckonOne 36 = .ok (.invokestatic 67, 3) := by decide +kernel
theorem dX2_reckonOne_39 : decode cX2_reckonOne 39 = .ok (.iastore, 1) := by decide +kernel
theorem dX2_reckonOne_40 : decode cX2_reckonOne 40 = .ok (.aload_n 3, 1) := by decide +kernel
theorem dX2_reckonOne_41 : decode cX2_reckonOne 41 = .ok (.bipush 8, 2) := by decide +kernel
theorem dX2_reckonOne_43 : decode cX2_reckonOne 43 = .ok (.aload_n 3, 1) := by decide +kernel
theorem dX2_reckonOne_44 : decode cX2_reckonOne 44 = .ok (.iload 4, 2) := by decide +kernel
theorem dX2_reckonOne_46 : decode cX2_reckonOne 46 = .ok (.invokestatic 71, 3) := by decide +kernel
theorem dX2_reckonOne_49 : decode cX2_reckonOne 49 = .ok (.iastore, 1) := by decide +kernel
theorem dX2_reckonOne_50 : decode cX2_reckonOne 50 = .ok (.aload_n 3, 1) := by decide +kernel
theorem dX2_reckonOne_51 : decode cX2_reckonOne 51 = .ok (.bipush 9, 2) := by decide +kernel
theorem dX2_reckonOne_53 : decode cX2_reckonOne 53 = .ok (.aload_n 3, 1) := by decide +kernel
theorem dX2_reckonOne_54 : decode cX2_reckonOne 54 = .ok (.iconst 4, 1) := by decide +kernel
theorem dX2_reckonOne_55 : decode cX2_reckonOne 55 = .ok (.iaload, 1) := by decide +kernel
theorem dX2_reckonOne_56 : decode cX2_reckonOne 56 = .ok (.iconst 1, 1) := by decide +kernel
theorem dX2_reckonOne_57 : decode cX2_reckonOne 57 = .ok (.if_icmp .ne 8, 3) := by decide +kernel
theorem dX2_reckonOne_60 : decode cX2_reckonOne 60 = .ok (.bipush (-5), 2) := by decide +kernel
theorem dX2_reckonOne_62 : decode cX2_reckonOne 62 = .ok (.goto 22, 3) := by decide +kernel
theorem dX2_reckonOne_65 : decode cX2_reckonOne 65 = .ok (.aload_n 3, 1) := by decide +kernel
theorem dX2_reckonOne_66 : decode cX2_reckonOne 66 = .ok (.bipush 8, 2) := by decide +kernel
theorem dX2_reckonOne_68 : decode cX2_reckonOne 68 = .ok (.iaload, 1) := by decide +kernel
theorem dX2_reckonOne_69 : decode cX2_reckonOne 69 = .ok (.aload_n 0, 1) := by decide +kernel
theorem dX2_reckonOne_70 : decode cX2_reckonOne 70 = .ok (.getfield 23, 3) := by decide +kernel
theorem dX2_reckonOne_73 : decode cX2_reckonOne 73 = .ok (.isub, 1) := by decide +kernel
theorem dX2_reckonOne_74 : decode cX2_reckonOne 74 = .ok (.i2l, 1) := by decide +kernel
theorem dX2_reckonOne_75 : decode cX2_reckonOne 75 = .ok (.aload_n 3, 1) := by decide +kernel
theorem dX2_reckonOne_76 : decode cX2_reckonOne 76 = .ok (.bipush 7, 2) := by decide +kernel
theorem dX2_reckonOne_78 : decode cX2_reckonOne 78 = .ok (.iaload, 1) := by decide +kernel
theorem dX2_reckonOne_79 : decode cX2_reckonOne 79 = .ok (.i2l, 1) := by decide +kernel
theorem dX2_reckonOne_80 : decode cX2_reckonOne 80 = .ok (.invokestatic 74, 3) := by decide +kernel
theorem dX2_reckonOne_83 : decode cX2_reckonOne 83 = .ok (.l2i, 1) := by decide +kernel
theorem dX2_reckonOne_84 : decode cX2_reckonOne 84 = .ok (.iastore, 1) := by decide +kernel
theorem dX2_reckonOne_85 : decode cX2_reckonOne 85 = .ok (.return_, 1) := by decide +kernel
theorem dX2_turnOf_0 : decode cX2_turnOf 0 = .ok (.aload_n 0, 1) := by decide +kernel
theorem dX2_turnOf_1 : decode cX2_turnOf 1 = .ok (.iconst 0, 1) := by decide +kernel
theorem dX2_turnOf_2 : decode cX2_turnOf 2 = .ok (.iaload, 1) := by decide +kernel
theorem dX2_turnOf_3 : decode cX2_turnOf 3 = .ok (.tableswitch 55 2 6 #[33, 47, 55, 39, 47], 33) := by decide +kernel
theorem dX2_turnOf_36 : decode cX2_turnOf 36 = .ok (.iconst 2, 1) := by decide +kernel
theorem dX2_turnOf_37 : decode cX2_turnOf 37 = .ok (.aload_n 0, 1) := by decide +kernel
theorem dX2_turnOf_38 : decode cX2_turnOf 38 = .ok (.iconst 2, 1) := by decide +kernel
theorem dX2_turnOf_39 : decode cX2_turnOf 39 = .ok (.iaload, 1) := by decide +kernel
theorem dX2_turnOf_40 : decode cX2_turnOf 40 = .ok (.imul, 1) := by decide +kernel
theorem dX2_turnOf_41 : decode cX2_turnOf 41 = .ok (.ireturn, 1) := by decide +kernel
theorem dX2_turnOf_42 : decode cX2_turnOf 42 = .ok (.iconst 2, 1) := by decide +kernel
theorem dX2_turnOf_43 : decode cX2_turnOf 43 = .ok (.aload_n 0, 1) := by decide +kernel
theorem dX2_turnOf_44 : decode cX2_turnOf 44 = .ok (.iconst 2, 1) := by decide +kernel
theorem dX2_turnOf_45 : decode cX2_turnOf 45 = .ok (.iaload, 1) := by decide +kernel
theorem dX2_turnOf_46 : decode cX2_turnOf 46 = .ok (.imul, 1) := by decide +kernel
theorem dX2_turnOf_47 : decode cX2_turnOf 47 = .ok (.iconst 1, 1) := by decide +kernel
theorem dX2_turnOf_48 : decode cX2_turnOf 48 = .ok (.iadd, 1) := by decide +kernel
theorem dX2_turnOf_49 : decode cX2_turnOf 49 = .ok (.ireturn, 1) := by decide +kernel
theorem dX2_turnOf_50 : decode cX2_turnOf 50 = .ok (.aload_n 0, 1) := by decide +kernel
theorem dX2_turnOf_51 : decode cX2_turnOf 51 = .ok (.iconst 2, 1) := by decide +kernel
theorem dX2_turnOf_52 : decode cX2_turnOf 52 = .ok (.iaload, 1) := by decide +kernel
theorem dX2_turnOf_53 : decode cX2_turnOf 53 = .ok (.aload_n 0, 1) := by decide +kernel
theorem dX2_turnOf_54 : decode cX2_turnOf 54 = .ok (.iconst 1, 1) := by decide +kernel
theorem dX2_turnOf_55 : decode cX2_turnOf 55 = .ok (.iaload, 1) := by decide +kernel
theorem dX2_turnOf_56 : decode cX2_turnOf 56 = .ok (.iadd, 1) := by decide +kernel
theorem dX2_turnOf_57 : decode cX2_turnOf 57 = .ok (.ireturn, 1) := by decide +kernel
theorem dX2_turnOf_58 : decode cX2_turnOf 58 = .ok (.aload_n 0, 1) := by decide +kernel
theorem dX2_turnOf_59 : decode cX2_turnOf 59 = .ok (.iconst 2, 1) := by decide +kernel
theorem dX2_turnOf_60 : decode cX2_turnOf 60 = .ok (.iaload, 1) := by decide +kernel
theorem dX2_turnOf_61 : decode cX2_turnOf 61 = .ok (.ireturn, 1) := by decide +kernel
theorem dX2_restOf_0 : decode cX2_restOf 0 = .ok (.aload_n 0, 1) := by decide +kernel
theorem dX2_restOf_1 : decode cX2_restOf 1 = .ok (.bipush 7, 2) := by decide +kernel
theorem dX2_restOf_3 : decode cX2_restOf 3 = .ok (.iaload, 1) := by decide +kernel
theorem dX2_restOf_4 : decode cX2_restOf 4 = .ok (.istore_n 2, 1) := by decide +kernel
theorem dX2_restOf_5 : decode cX2_restOf 5 = .ok (.aload_n 0, 1) := by decide +kernel
theorem dX2_restOf_6 : decode cX2_restOf 6 = .ok (.iconst 0, 1) := by decide +kernel
theorem dX2_restOf_7 : decode cX2_restOf 7 = .ok (.iaload, 1) := by decide +kernel
theorem dX2_restOf_8 : decode cX2_restOf 8 = .ok (.lookupswitch 86 #[(1, 36), (4, 49), (6, 66)], 36) := by decide +kernel
theorem dX2_restOf_44 : decode cX2_restOf 44 = .ok (.iload_n 1, 1) := by decide +kernel
theorem dX2_restOf_45 : decode cX2_restOf 45 = .ok (.aload_n 0, 1) := by decide +kernel
theorem dX2_restOf_46 : decode cX2_restOf 46 = .ok (.iconst 1, 1) := by decide +kernel
theorem dX2_restOf_47 : decode cX2_restOf 47 = .ok (.iaload, 1) := by decide +kernel
theorem dX2_restOf_48 : decode cX2_restOf 48 = .ok (.iadd, 1) := by decide +kernel
theorem dX2_restOf_49 : decode cX2_restOf 49 = .ok (.i2l, 1) := by decide +kernel
theorem dX2_restOf_50 : decode cX2_restOf 50 = .ok (.iload_n 2, 1) := by decide +kernel
theorem dX2_restOf_51 : decode cX2_restOf 51 = .ok (.i2l, 1) := by decide +kernel
theorem dX2_restOf_52 : decode cX2_restOf 52 = .ok (.invokestatic 74, 3) := by decide +kernel
theorem dX2_restOf_55 : decode cX2_restOf 55 = .ok (.l2i, 1) := by decide +kernel
theorem dX2_restOf_56 : decode cX2_restOf 56 = .ok (.ireturn, 1) := by decide +kernel
theorem dX2_restOf_57 : decode cX2_restOf 57 = .ok (.iload_n 2, 1) := by decide +kernel
theorem dX2_restOf_58 : decode cX2_restOf 58 = .ok (.iconst 1, 1) := by decide +kernel
theorem dX2_restOf_59 : decode cX2_restOf 59 = .ok (.isub, 1) := by decide +kernel
theorem dX2_restOf_60 : decode cX2_restOf 60 = .ok (.iload_n 1, 1) := by decide +kernel
theorem dX2_restOf_61 : decode cX2_restOf 61 = .ok (.aload_n 0, 1) := by decide +kernel
theorem dX2_restOf_62 : decode cX2_restOf 62 = .ok (.iconst 1, 1) := by decide +kernel
theorem dX2_restOf_63 : decode cX2_restOf 63 = .ok (.iaload, 1) := by decide +kernel
theorem dX2_restOf_64 : decode cX2_restOf 64 = .ok (.iadd, 1) := by decide +kernel
theorem dX2_restOf_65 : decode cX2_restOf 65 = .ok (.i2l, 1) := by decide +kernel
theorem dX2_restOf_66 : decode cX2_restOf 66 = .ok (.iload_n 2, 1) := by decide +kernel
theorem dX2_restOf_67 : decode cX2_restOf 67 = .ok (.i2l, 1) := by decide +kernel
theorem dX2_restOf_68 : decode cX2_restOf 68 = .ok (.invokestatic 74, 3) := by decide +kernel
theorem dX2_restOf_71 : decode cX2_restOf 71 = .ok (.l2i, 1) := by decide +kernel
theorem dX2_restOf_72 : decode cX2_restOf 72 = .ok (.isub, 1) := by decide +kernel
theorem dX2_restOf_73 : decode cX2_restOf 73 = .ok (.ireturn, 1) := by decide +kernel
theorem dX2_restOf_74 : decode cX2_restOf 74 = .ok (.iload_n 1, 1) := by decide +kernel
theorem dX2_restOf_75 : decode cX2_restOf 75 = .ok (.aload_n 0, 1) := by decide +kernel
theorem dX2_restOf_76 : decode cX2_restOf 76 = .ok (.bipush 10, 2) := by decide +kernel
theorem dX2_restOf_78 : decode cX2_restOf 78 = .ok (.aload_n 0, 1) := by decide +kernel
theorem dX2_restOf_79 : decode cX2_restOf 79 = .ok (.iconst 2, 1) := by decide +kernel
theorem dX2_restOf_80 : decode cX2_restOf 80 = .ok (.iaload, 1) := by decide +kernel
theorem dX2_restOf_81 : decode cX2_restOf 81 = .ok (.iconst 3, 1) := by decide +kernel
theorem dX2_restOf_82 : decode cX2_restOf 82 = .ok (.iand, 1) := by decide +kernel
theorem dX2_restOf_83 : decode cX2_restOf 83 = .ok (.iadd, 1) := by decide +kernel
theorem dX2_restOf_84 : decode cX2_restOf 84 = .ok (.iaload, 1) := by decide +kernel
theorem dX2_restOf_85 : decode cX2_restOf 85 = .ok (.iadd, 1) := by decide +kernel
theorem dX2_restOf_86 : decode cX2_restOf 86 = .ok (.i2l, 1) := by decide +kernel
theorem dX2_restOf_87 : decode cX2_restOf 87 = .ok (.iload_n 2, 1) := by decide +kernel
theorem dX2_restOf_88 : decode cX2_restOf 88 = .ok (.i2l, 1) := by decide +kernel
theorem dX2_restOf_89 : decode cX2_restOf 89 = .ok (.invokestatic 74, 3) := by decide +kernel
theorem dX2_restOf_92 : decode cX2_restOf 92 = .ok (.l2i, 1) := by decide +kernel
theorem dX2_restOf_93 : decode cX2_restOf 93 = .ok (.ireturn, 1) := by decide +kernel
theorem dX2_restOf_94 : decode cX2_restOf 94 = .ok (.iload_n 1, 1) := by decide +kernel
theorem dX2_restOf_95 : decode cX2_restOf 95 = .ok (.i2l, 1) := by decide +kernel
theorem dX2_restOf_96 : decode cX2_restOf 96 = .ok (.iload_n 2, 1) := by decide +kernel
theorem dX2_restOf_97 : decode cX2_restOf 97 = .ok (.i2l, 1) := by decide +kernel
theorem dX2_restOf_98 : decode cX2_restOf 98 = .ok (.invokestatic 74, 3) := by decide +kernel
theorem dX2_restOf_101 : decode cX2_restOf 101 = .ok (.l2i, 1) := by decide +kernel
theorem dX2_restOf_102 : decode cX2_restOf 102 = .ok (.ireturn, 1) := by decide +kernel
theorem dX2_isDue_0 : decode cX2_isDue 0 = .ok (.aload_n 0, 1) := by decide +kernel
theorem dX2_isDue_1 : decode cX2_isDue 1 = .ok (.getfield 17, 3) := by decide +kernel
theorem dX2_isDue_4 : decode cX2_isDue 4 = .ok (.iload_n 1, 1) := by decide +kernel
theorem dX2_isDue_5 : decode cX2_isDue 5 = .ok (.aaload, 1) := by decide +kernel
theorem dX2_isDue_6 : decode cX2_isDue 6 = .ok (.bipush 7, 2) := by decide +kernel
theorem dX2_isDue_8 : decode cX2_isDue 8 = .ok (.iaload, 1) := by decide +kernel
theorem dX2_isDue_9 : decode cX2_isDue 9 = .ok (.istore_n 3, 1) := by decide +kernel
theorem dX2_isDue_10 : decode cX2_isDue 10 = .ok (.iload_n 3, 1) := by decide +kernel
theorem dX2_isDue_11 : decode cX2_isDue 11 = .ok (.ifCond .le 23, 3) := by decide +kernel
theorem dX2_isDue_14 : decode cX2_isDue 14 = .ok (.iload_n 2, 1) := by decide +kernel
theorem dX2_isDue_15 : decode cX2_isDue 15 = .ok (.aload_n 0, 1) := by decide +kernel
theorem dX2_isDue_16 : decode cX2_isDue 16 = .ok (.getfield 17, 3) := by decide +kernel
theorem dX2_isDue_19 : decode cX2_isDue 19 = .ok (.iload_n 1, 1) := by decide +kernel
theorem dX2_isDue_20 : decode cX2_isDue 20 = .ok (.aaload, 1) := by decide +kernel
theorem dX2_isDue_21 : decode cX2_isDue 21 = .ok (.bipush 8, 2) := by decide +kernel
theorem dX2_isDue_23 : decode cX2_isDue 23 = .ok (.iaload, 1) := by decide +kernel
theorem dX2_isDue_24 : decode cX2_isDue 24 = .ok (.isub, 1) := by decide +kernel
theorem dX2_isDue_25 : decode cX2_isDue 25 = .ok (.iload_n 3, 1) := by decide +kernel
theorem dX2_isDue_26 : decode cX2_isDue 26 = .ok (.irem, 1) := by decide +kernel
theorem dX2_isDue_27 : decode cX2_isDue 27 = .ok (.ifCond .ne 7, 3) := by decide +kernel
theorem dX2_isDue_30 : decode cX2_isDue 30 = .ok (.iconst 1, 1) := by decide +kernel
theorem dX2_isDue_31 : decode cX2_isDue 31 = .ok (.goto 4, 3) := by decide +kernel
theorem dX2_isDue_34 : decode cX2_isDue 34 = .ok (.iconst 0, 1) := by decide +kernel
theorem dX2_isDue_35 : decode cX2_isDue 35 = .ok (.ireturn, 1) := by decide +kernel
theorem dX2_goingOff_0 : decode cX2_goingOff 0 = .ok (.iconst 0, 1) := by decide +kernel
theorem dX2_goingOff_1 : decode cX2_goingOff 1 = .ok (.istore_n 2, 1) := by decide +kernel
theorem dX2_goingOff_2 : decode cX2_goingOff 2 = .ok (.iconst 0, 1) := by decide +kernel
theorem dX2_goingOff_3 : decode cX2_goingOff 3 = .ok (.istore_n 3, 1) := by decide +kernel
theorem dX2_goingOff_4 : decode cX2_goingOff 4 = .ok (.iload_n 3, 1) := by decide +kernel
theorem dX2_goingOff_5 : decode cX2_goingOff 5 = .ok (.aload_n 0, 1) := by decide +kernel
theorem dX2_goingOff_6 : decode cX2_goingOff 6 = .ok (.getfield 9, 3) := by decide +kernel
theorem dX2_goingOff_9 : decode cX2_goingOff 9 = .ok (.if_icmp .ge 35, 3) := by decide +kernel
theorem dX2_goingOff_12 : decode cX2_goingOff 12 = .ok (.aload_n 0, 1) := by decide +kernel
theorem dX2_goingOff_13 : decode cX2_goingOff 13 = .ok (.getfield 17, 3) := by decide +kernel
theorem dX2_goingOff_16 : decode cX2_goingOff 16 = .ok (.iload_n 3, 1) := by decide +kernel
theorem dX2_goingOff_17 : decode cX2_goingOff 17 = .ok (.aaload, 1) := by decide +kernel
theorem dX2_goingOff_18 : decode cX2_goingOff 18 = .ok (.iconst 4, 1) := by decide +kernel
theorem dX2_goingOff_19 : decode cX2_goingOff 19 = .ok (.iaload, 1) := by decide +kernel
theorem dX2_goingOff_20 : decode cX2_goingOff 20 = .ok (.ifCond .ne 18, 3) := by decide +kernel
theorem dX2_goingOff_23 : decode cX2_goingOff 23 = .ok (.aload_n 0, 1) := by decide +kernel
theorem dX2_goingOff_24 : decode cX2_goingOff 24 = .ok (.iload_n 3, 1) := by decide +kernel
theorem dX2_goingOff_25 : decode cX2_goingOff 25 = .ok (.iload_n 1, 1) := by decide +kernel
theorem dX2_goingOff_26 : decode cX2_goingOff 26 = .ok (.invokevirtual 78, 3) := by decide +kernel
theorem dX2_goingOff_29 : decode cX2_goingOff 29 = .ok (.ifCond .eq 9, 3) := by decide +kernel
theorem dX2_goingOff_32 : decode cX2_goingOff 32 = .ok (.iload_n 2, 1) := by decide +kernel
theorem dX2_goingOff_33 : decode cX2_goingOff 33 = .ok (.iconst 1, 1) := by decide +kernel
theorem dX2_goingOff_34 : decode cX2_goingOff 34 = .ok (.iload_n 3, 1) := by decide +kernel
theorem dX2_goingOff_35 : decode cX2_goingOff 35 = .ok (.ishl, 1) := by decide +kernel
theorem dX2_goingOff_36 : decode cX2_goingOff 36 = .ok (.ior, 1) := by decide +kernel
theorem dX2_goingOff_37 : decode cX2_goingOff 37 = .ok (.istore_n 2, 1) := by decide +kernel
theorem dX2_goingOff_38 : decode cX2_goingOff 38 = .ok (.iinc 3 1, 3) := by decide +kernel
theorem dX2_goingOff_41 : decode cX2_goingOff 41 = .ok (.goto (-37), 3) := by decide +kernel
theorem dX2_goingOff_44 : decode cX2_goingOff 44 = .ok (.iload_n 2, 1) := by decide +kernel
theorem dX2_goingOff_45 : decode cX2_goingOff 45 = .ok (.ireturn, 1) := by decide +kernel
theorem dX2_total_0 : decode cX2_total 0 = .ok (.iconst 0, 1) := by decide +kernel
theorem dX2_total_1 : decode cX2_total 1 = .ok (.istore_n 2, 1) := by decide +kernel
theorem dX2_total_2 : decode cX2_total 2 = .ok (.iconst 0, 1) := by decide +kernel
theorem dX2_total_3 : decode cX2_total 3 = .ok (.istore_n 3, 1) := by decide +kernel
theorem dX2_total_4 : decode cX2_total 4 = .ok (.iload_n 3, 1) := by decide +kernel
theorem dX2_total_5 : decode cX2_total 5 = .ok (.aload_n 0, 1) := by decide +kernel
theorem dX2_total_6 : decode cX2_total 6 = .ok (.getfield 9, 3) := by decide +kernel
theorem dX2_total_9 : decode cX2_total 9 = .ok (.if_icmp .ge 20, 3) := by decide +kernel
theorem dX2_total_12 : decode cX2_total 12 = .ok (.iload_n 2, 1) := by decide +kernel
theorem dX2_total_13 : decode cX2_total 13 = .ok (.aload_n 0, 1) := by decide +kernel
theorem dX2_total_14 : decode cX2_total 14 = .ok (.getfield 17, 3) := by decide +kernel
theorem dX2_total_17 : decode cX2_total 17 = .ok (.iload_n 3, 1) := by decide +kernel
theorem dX2_total_18 : decode cX2_total 18 = .ok (.aaload, 1) := by decide +kernel
theorem dX2_total_19 : decode cX2_total 19 = .ok (.iload_n 1, 1) := by decide +kernel
theorem dX2_total_20 : decode cX2_total 20 = .ok (.iaload, 1) := by decide +kernel
theorem dX2_total_21 : decode cX2_total 21 = .ok (.iadd, 1) := by decide +kernel
theorem dX2_total_22 : decode cX2_total 22 = .ok (.istore_n 2, 1) := by decide +kernel
theorem dX2_total_23 : decode cX2_total 23 = .ok (.iinc 3 1, 3) := by decide +kernel
theorem dX2_total_26 : decode cX2_total 26 = .ok (.goto (-22), 3) := by decide +kernel
theorem dX2_total_29 : decode cX2_total 29 = .ok (.iload_n 2, 1) := by decide +kernel
theorem dX2_total_30 : decode cX2_total 30 = .ok (.ireturn, 1) := by decide +kernel
theorem dX2_go_0 : decode cX2_go 0 = .ok (.iconst 0, 1) := by decide +kernel
theorem dX2_go_1 : decode cX2_go 1 = .ok (.istore_n 3, 1) := by decide +kernel
theorem dX2_go_2 : decode cX2_go 2 = .ok (.iload_n 3, 1) := by decide +kernel
theorem dX2_go_3 : decode cX2_go 3 = .ok (.iload_n 1, 1) := by decide +kernel
theorem dX2_go_4 : decode cX2_go 4 = .ok (.if_icmp .ge 141, 3) := by decide +kernel
theorem dX2_go_7 : decode cX2_go 7 = .ok (.aload_n 0, 1) := by decide +kernel
theorem dX2_go_8 : decode cX2_go 8 = .ok (.aload_n 0, 1) := by decide +kernel
theorem dX2_go_9 : decode cX2_go 9 = .ok (.getfield 23, 3) := by decide +kernel
theorem dX2_go_12 : decode cX2_go 12 = .ok (.invokevirtual 82, 3) := by decide +kernel
theorem dX2_go_15 : decode cX2_go 15 = .ok (.istore 4, 2) := by decide +kernel
theorem dX2_go_17 : decode cX2_go 17 = .ok (.aload_n 0, 1) := by decide +kernel
theorem dX2_go_18 : decode cX2_go 18 = .ok (.getfield 20, 3) := by decide +kernel
theorem dX2_go_21 : decode cX2_go 21 = .ok (.aload_n 0, 1) := by decide +kernel
theorem dX2_go_22 : decode cX2_go 22 = .ok (.getfield 23, 3) := by decide +kernel
theorem dX2_go_25 : decode cX2_go 25 = .ok (.bipush 7, 2) := by decide +kernel
theorem dX2_go_27 : decode cX2_go 27 = .ok (.irem, 1) := by decide +kernel
theorem dX2_go_28 : decode cX2_go 28 = .ok (.ishr, 1) := by decide +kernel
theorem dX2_go_29 : decode cX2_go 29 = .ok (.iconst 1, 1) := by decide +kernel
theorem dX2_go_30 : decode cX2_go 30 = .ok (.iand, 1) := by decide +kernel
theorem dX2_go_31 : decode cX2_go 31 = .ok (.ifCond .ne 7, 3) := by decide +kernel
theorem dX2_go_34 : decode cX2_go 34 = .ok (.iconst 1, 1) := by decide +kernel
theorem dX2_go_35 : decode cX2_go 35 = .ok (.goto 4, 3) := by decide +kernel
theorem dX2_go_38 : decode cX2_go 38 = .ok (.iconst 0, 1) := by decide +kernel
theorem dX2_go_39 : decode cX2_go 39 = .ok (.istore 5, 2) := by decide +kernel
theorem dX2_go_41 : decode cX2_go 41 = .ok (.iconst 0, 1) := by decide +kernel
theorem dX2_go_42 : decode cX2_go 42 = .ok (.istore 6, 2) := by decide +kernel
theorem dX2_go_44 : decode cX2_go 44 = .ok (.iload 6, 2) := by decide +kernel
theorem dX2_go_46 : decode cX2_go 46 = .ok (.aload_n 0, 1) := by decide +kernel
theorem dX2_go_47 : decode cX2_go 47 = .ok (.getfield 9, 3) := by decide +kernel
theorem dX2_go_50 : decode cX2_go 50 = .ok (.if_icmp .ge 79, 3) := by decide +kernel
theorem dX2_go_53 : decode cX2_go 53 = .ok (.iload 4, 2) := by decide +kernel
theorem dX2_go_55 : decode cX2_go 55 = .ok (.iload 6, 2) := by decide +kernel
theorem dX2_go_57 : decode cX2_go 57 = .ok (.ishr, 1) := by decide +kernel
theorem dX2_go_58 : decode cX2_go 58 = .ok (.iconst 1, 1) := by decide +kernel
theorem dX2_go_59 : decode cX2_go 59 = .ok (.iand, 1) := by decide +kernel
theorem dX2_go_60 : decode cX2_go 60 = .ok (.iconst 1, 1) := by decide +kernel
theorem dX2_go_61 : decode cX2_go 61 = .ok (.if_icmp .ne 62, 3) := by decide +kernel
theorem dX2_go_64 : decode cX2_go 64 = .ok (.aload_n 0, 1) := by decide +kernel
theorem dX2_go_65 : decode cX2_go 65 = .ok (.getfield 17, 3) := by decide +kernel
theorem dX2_go_68 : decode cX2_go 68 = .ok (.iload 6, 2) := by decide +kernel
theorem dX2_go_70 : decode cX2_go 70 = .ok (.aaload, 1) := by decide +kernel
theorem dX2_go_71 : decode cX2_go 71 = .ok (.iconst 5, 1) := by decide +kernel
theorem dX2_go_72 : decode cX2_go 72 = .ok (.aload_n 0, 1) := by decide +kernel
theorem dX2_go_73 : decode cX2_go 73 = .ok (.getfield 17, 3) := by decide +kernel
theorem dX2_go_76 : decode cX2_go 76 = .ok (.iload 6, 2) := by decide +kernel
theorem dX2_go_78 : decode cX2_go 78 = .ok (.aaload, 1) := by decide +kernel
theorem dX2_go_79 : decode cX2_go 79 = .ok (.iconst 5, 1) := by decide +kernel
theorem dX2_go_80 : decode cX2_go 80 = .ok (.iaload, 1) := by decide +kernel
theorem dX2_go_81 : decode cX2_go 81 = .ok (.iconst 1, 1) := by decide +kernel
theorem dX2_go_82 : decode cX2_go 82 = .ok (.iadd, 1) := by decide +kernel
theorem dX2_go_83 : decode cX2_go 83 = .ok (.iload_n 2, 1) := by decide +kernel
theorem dX2_go_84 : decode cX2_go 84 = .ok (.invokestatic 86, 3) := by decide +kernel
theorem dX2_go_87 : decode cX2_go 87 = .ok (.iastore, 1) := by decide +kernel
theorem dX2_go_88 : decode cX2_go 88 = .ok (.aload_n 0, 1) := by decide +kernel
theorem dX2_go_89 : decode cX2_go 89 = .ok (.getfield 17, 3) := by decide +kernel
theorem dX2_go_92 : decode cX2_go 92 = .ok (.iload 6, 2) := by decide +kernel
theorem dX2_go_94 : decode cX2_go 94 = .ok (.aaload, 1) := by decide +kernel
theorem dX2_go_95 : decode cX2_go 95 = .ok (.bipush 6, 2) := by decide +kernel
theorem dX2_go_97 : decode cX2_go 97 = .ok (.aload_n 0, 1) := by decide +kernel
theorem dX2_go_98 : decode cX2_go 98 = .ok (.getfield 17, 3) := by decide +kernel
theorem dX2_go_101 : decode cX2_go 101 = .ok (.iload 6, 2) := by decide +kernel
theorem dX2_go_103 : decode cX2_go 103 = .ok (.aaload, 1) := by decide +kernel
theorem dX2_go_104 : decode cX2_go 104 = .ok (.bipush 6, 2) := by decide +kernel
theorem dX2_go_106 : decode cX2_go 106 = .ok (.iaload, 1) := by decide +kernel
theorem dX2_go_107 : decode cX2_go 107 = .ok (.iload 5, 2) := by decide +kernel
theorem dX2_go_109 : decode cX2_go 109 = .ok (.ifCond .eq 7, 3) := by decide +kernel
theorem dX2_go_112 : decode cX2_go 112 = .ok (.iconst 1, 1) := by decide +kernel
theorem dX2_go_113 : decode cX2_go 113 = .ok (.goto 4, 3) := by decide +kernel
theorem dX2_go_116 : decode cX2_go 116 = .ok (.iconst 0, 1) := by decide +kernel
theorem dX2_go_117 : decode cX2_go 117 = .ok (.iadd, 1) := by decide +kernel
theorem dX2_go_118 : decode cX2_go 118 = .ok (.iload_n 2, 1) := by decide +kernel
theorem dX2_go_119 : decode cX2_go 119 = .ok (.invokestatic 86, 3) := by decide +kernel
theorem dX2_go_122 : decode cX2_go 122 = .ok (.iastore, 1) := by decide +kernel
theorem dX2_go_123 : decode cX2_go 123 = .ok (.iinc 6 1, 3) := by decide +kernel
theorem dX2_go_126 : decode cX2_go 126 = .ok (.goto (-82), 3) := by decide +kernel
theorem dX2_go_129 : decode cX2_go 129 = .ok (.aload_n 0, 1) := by decide +kernel
theorem dX2_go_130 : decode cX2_go 130 = .ok (.dup, 1) := by decide +kernel
theorem dX2_go_131 : decode cX2_go 131 = .ok (.getfield 23, 3) := by decide +kernel
theorem dX2_go_134 : decode cX2_go 134 = .ok (.iconst 1, 1) := by decide +kernel
theorem dX2_go_135 : decode cX2_go 135 = .ok (.iadd, 1) := by decide +kernel
theorem dX2_go_136 : decode cX2_go 136 = .ok (.putfield 23, 3) := by decide +kernel
theorem dX2_go_139 : decode cX2_go 139 = .ok (.iinc 3 1, 3) := by decide +kernel
theorem dX2_go_142 : decode cX2_go 142 = .ok (.goto (-140), 3) := by decide +kernel
theorem dX2_go_145 : decode cX2_go 145 = .ok (.return_, 1) := by decide +kernel
theorem dX2_firstQuiet_0 : decode cX2_firstQuiet 0 = .ok (.iconst 0, 1) := by decide +kernel
theorem dX2_firstQuiet_1 : decode cX2_firstQuiet 1 = .ok (.istore_n 1, 1) := by decide +kernel
theorem dX2_firstQuiet_2 : decode cX2_firstQuiet 2 = .ok (.iload_n 1, 1) := by decide +kernel
theorem dX2_firstQuiet_3 : decode cX2_firstQuiet 3 = .ok (.sipush 1000, 3) := by decide +kernel
theorem dX2_firstQuiet_6 : decode cX2_firstQuiet 6 = .ok (.if_icmp .gt 24, 3) := by decide +kernel
theorem dX2_firstQuiet_9 : decode cX2_firstQuiet 9 = .ok (.aload_n 0, 1) := by decide +kernel
theorem dX2_firstQuiet_10 : decode cX2_firstQuiet 10 = .ok (.aload_n 0, 1) := by decide +kernel
theorem dX2_firstQuiet_11 : decode cX2_firstQuiet 11 = .ok (.getfield 23, 3) := by decide +kernel
theorem dX2_firstQuiet_14 : decode cX2_firstQuiet 14 = .ok (.iload_n 1, 1) := by decide +kernel
theorem dX2_firstQuiet_15 : decode cX2_firstQuiet 15 = .ok (.iadd, 1) := by decide +kernel
theorem dX2_firstQuiet_16 : decode cX2_firstQuiet 16 = .ok (.invokevirtual 82, 3) := by decide +kernel
theorem dX2_firstQuiet_19 : decode cX2_firstQuiet 19 = .ok (.ifCond .ne 5, 3) := by decide +kernel
theorem dX2_firstQuiet_22 : decode cX2_firstQuiet 22 = .ok (.iload_n 1, 1) := by decide +kernel
theorem dX2_firstQuiet_23 : decode cX2_firstQuiet 23 = .ok (.ireturn, 1) := by decide +kernel
theorem dX2_firstQuiet_24 : decode cX2_firstQuiet 24 = .ok (.iinc 1 1, 3) := by decide +kernel
theorem dX2_firstQuiet_27 : decode cX2_firstQuiet 27 = .ok (.goto (-25), 3) := by decide +kernel
theorem dX2_firstQuiet_30 : decode cX2_firstQuiet 30 = .ok (.bipush (-5), 2) := by decide +kernel
theorem dX2_firstQuiet_32 : decode cX2_firstQuiet 32 = .ok (.ireturn, 1) := by decide +kernel
theorem dX2_busiest_0 : decode cX2_busiest 0 = .ok (.iconst 0, 1) := by decide +kernel
theorem dX2_busiest_1 : decode cX2_busiest 1 = .ok (.istore_n 3, 1) := by decide +kernel
theorem dX2_busiest_2 : decode cX2_busiest 2 = .ok (.iconst 0, 1) := by decide +kernel
theorem dX2_busiest_3 : decode cX2_busiest 3 = .ok (.istore 4, 2) := by decide +kernel
theorem dX2_busiest_5 : decode cX2_busiest 5 = .ok (.iconst 0, 1) := by decide +kernel
theorem dX2_busiest_6 : decode cX2_busiest 6 = .ok (.istore 5, 2) := by decide +kernel
theorem dX2_busiest_8 : decode cX2_busiest 8 = .ok (.iload 5, 2) := by decide +kernel
theorem dX2_busiest_10 : decode cX2_busiest 10 = .ok (.iload_n 1, 1) := by decide +kernel
theorem dX2_busiest_11 : decode cX2_busiest 11 = .ok (.if_icmp .ge 39, 3) := by decide +kernel
theorem dX2_busiest_14 : decode cX2_busiest 14 = .ok (.aload_n 0, 1) := by decide +kernel
theorem dX2_busiest_15 : decode cX2_busiest 15 = .ok (.aload_n 0, 1) := by decide +kernel
theorem dX2_busiest_16 : decode cX2_busiest 16 = .ok (.getfield 23, 3) := by decide +kernel
theorem dX2_busiest_19 : decode cX2_busiest 19 = .ok (.iload 5, 2) := by decide +kernel
theorem dX2_busiest_21 : decode cX2_busiest 21 = .ok (.iadd, 1) := by decide +kernel
theorem dX2_busiest_22 : decode cX2_busiest 22 = .ok (.invokevirtual 82, 3) := by decide +kernel
theorem dX2_busiest_25 : decode cX2_busiest 25 = .ok (.invokestatic 92, 3) := by decide +kernel
theorem dX2_busiest_28 : decode cX2_busiest 28 = .ok (.istore 6, 2) := by decide +kernel
theorem dX2_busiest_30 : decode cX2_busiest 30 = .ok (.iload 6, 2) := by decide +kernel
theorem dX2_busiest_32 : decode cX2_busiest 32 = .ok (.iload 4, 2) := by decide +kernel
theorem dX2_busiest_34 : decode cX2_busiest 34 = .ok (.if_icmp .le 10, 3) := by decide +kernel
theorem dX2_busiest_37 : decode cX2_busiest 37 = .ok (.iload 6, 2) := by decide +kernel
theorem dX2_busiest_39 : decode cX2_busiest 39 = .ok (.istore 4, 2) := by decide +kernel
theorem dX2_busiest_41 : decode cX2_busiest 41 = .ok (.iload 5, 2) := by decide +kernel
theorem dX2_busiest_43 : decode cX2_busiest 43 = .ok (.istore_n 3, 1) := by decide +kernel
theorem dX2_busiest_44 : decode cX2_busiest 44 = .ok (.iinc 5 1, 3) := by decide +kernel
theorem dX2_busiest_47 : decode cX2_busiest 47 = .ok (.goto (-39), 3) := by decide +kernel
theorem dX2_busiest_50 : decode cX2_busiest 50 = .ok (.iload_n 2, 1) := by decide +kernel
theorem dX2_busiest_51 : decode cX2_busiest 51 = .ok (.ifCond .eq 8, 3) := by decide +kernel
theorem dX2_busiest_54 : decode cX2_busiest 54 = .ok (.iload 4, 2) := by decide +kernel
theorem dX2_busiest_56 : decode cX2_busiest 56 = .ok (.goto 4, 3) := by decide +kernel
theorem dX2_busiest_59 : decode cX2_busiest 59 = .ok (.iload_n 3, 1) := by decide +kernel
theorem dX2_busiest_60 : decode cX2_busiest 60 = .ok (.ireturn, 1) := by decide +kernel
theorem dX2_weekdays_0 : decode cX2_weekdays 0 = .ok (.iconst 0, 1) := by decide +kernel
theorem dX2_weekdays_1 : decode cX2_weekdays 1 = .ok (.istore_n 2, 1) := by decide +kernel
theorem dX2_weekdays_2 : decode cX2_weekdays 2 = .ok (.iconst 0, 1) := by decide +kernel
theorem dX2_weekdays_3 : decode cX2_weekdays 3 = .ok (.istore_n 3, 1) := by decide +kernel
theorem dX2_weekdays_4 : decode cX2_weekdays 4 = .ok (.iload_n 3, 1) := by decide +kernel
theorem dX2_weekdays_5 : decode cX2_weekdays 5 = .ok (.iload_n 1, 1) := by decide +kernel
theorem dX2_weekdays_6 : decode cX2_weekdays 6 = .ok (.if_icmp .ge 36, 3) := by decide +kernel
theorem dX2_weekdays_9 : decode cX2_weekdays 9 = .ok (.aload_n 0, 1) := by decide +kernel
theorem dX2_weekdays_10 : decode cX2_weekdays 10 = .ok (.aload_n 0, 1) := by decide +kernel
theorem dX2_weekdays_11 : decode cX2_weekdays 11 = .ok (.getfield 23, 3) := by decide +kernel
theorem dX2_weekdays_14 : decode cX2_weekdays 14 = .ok (.iload_n 3, 1) := by decide +kernel
theorem dX2_weekdays_15 : decode cX2_weekdays 15 = .ok (.iadd, 1) := by decide +kernel
theorem dX2_weekdays_16 : decode cX2_weekdays 16 = .ok (.invokevirtual 82, 3) := by decide +kernel
theorem dX2_weekdays_19 : decode cX2_weekdays 19 = .ok (.ifCond .eq 17, 3) := by decide +kernel
theorem dX2_weekdays_22 : decode cX2_weekdays 22 = .ok (.iload_n 2, 1) := by decide +kernel
theorem dX2_weekdays_23 : decode cX2_weekdays 23 = .ok (.iconst 1, 1) := by decide +kernel
theorem dX2_weekdays_24 : decode cX2_weekdays 24 = .ok (.aload_n 0, 1) := by decide +kernel
theorem dX2_weekdays_25 : decode cX2_weekdays 25 = .ok (.getfield 23, 3) := by decide +kernel
theorem dX2_weekdays_28 : decode cX2_weekdays 28 = .ok (.iload_n 3, 1) := by decide +kernel
theorem dX2_weekdays_29 : decode cX2_weekdays 29 = .ok (.iadd, 1) := by decide +kernel
theorem dX2_weekdays_30 : decode cX2_weekdays 30 = .ok (.bipush 7, 2) := by decide +kernel
theorem dX2_weekdays_32 : decode cX2_weekdays 32 = .ok (.irem, 1) := by decide +kernel
theorem dX2_weekdays_33 : decode cX2_weekdays 33 = .ok (.ishl, 1) := by decide +kernel
theorem dX2_weekdays_34 : decode cX2_weekdays 34 = .ok (.ior, 1) := by decide +kernel
theorem dX2_weekdays_35 : decode cX2_weekdays 35 = .ok (.istore_n 2, 1) := by decide +kernel
theorem dX2_weekdays_36 : decode cX2_weekdays 36 = .ok (.iinc 3 1, 3) := by decide +kernel
theorem dX2_weekdays_39 : decode cX2_weekdays 39 = .ok (.goto (-35), 3) := by decide +kernel
theorem dX2_weekdays_42 : decode cX2_weekdays 42 = .ok (.iload_n 2, 1) := by decide +kernel
theorem dX2_weekdays_43 : decode cX2_weekdays 43 = .ok (.ireturn, 1) := by decide +kernel
theorem dX2_agrees_0 : decode cX2_agrees 0 = .ok (.iconst 0, 1) := by decide +kernel
theorem dX2_agrees_1 : decode cX2_agrees 1 = .ok (.istore_n 2, 1) := by decide +kernel
theorem dX2_agrees_2 : decode cX2_agrees 2 = .ok (.iload_n 2, 1) := by decide +kernel
theorem dX2_agrees_3 : decode cX2_agrees 3 = .ok (.aload_n 0, 1) := by decide +kernel
theorem dX2_agrees_4 : decode cX2_agrees 4 = .ok (.getfield 34, 3) := by decide +kernel
theorem dX2_agrees_7 : decode cX2_agrees 7 = .ok (.getfield 97, 3) := by decide +kernel
theorem dX2_agrees_10 : decode cX2_agrees 10 = .ok (.if_icmp .ge 56, 3) := by decide +kernel
theorem dX2_agrees_13 : decode cX2_agrees 13 = .ok (.aload_n 0, 1) := by decide +kernel
theorem dX2_agrees_14 : decode cX2_agrees 14 = .ok (.getfield 34, 3) := by decide +kernel
theorem dX2_agrees_17 : decode cX2_agrees 17 = .ok (.getfield 100, 3) := by decide +kernel
theorem dX2_agrees_20 : decode cX2_agrees 20 = .ok (.iload_n 2, 1) := by decide +kernel
theorem dX2_agrees_21 : decode cX2_agrees 21 = .ok (.aaload, 1) := by decide +kernel
theorem dX2_agrees_22 : decode cX2_agrees 22 = .ok (.astore_n 3, 1) := by decide +kernel
theorem dX2_agrees_23 : decode cX2_agrees 23 = .ok (.aload_n 3, 1) := by decide +kernel
theorem dX2_agrees_24 : decode cX2_agrees 24 = .ok (.iconst 0, 1) := by decide +kernel
theorem dX2_agrees_25 : decode cX2_agrees 25 = .ok (.iaload, 1) := by decide +kernel
theorem dX2_agrees_26 : decode cX2_agrees 26 = .ok (.iload_n 1, 1) := by decide +kernel
theorem dX2_agrees_27 : decode cX2_agrees 27 = .ok (.if_icmp .ne 33, 3) := by decide +kernel
theorem dX2_agrees_30 : decode cX2_agrees 30 = .ok (.aload_n 0, 1) := by decide +kernel
theorem dX2_agrees_31 : decode cX2_agrees 31 = .ok (.iload_n 1, 1) := by decide +kernel
theorem dX2_agrees_32 : decode cX2_agrees 32 = .ok (.aload_n 0, 1) := by decide +kernel
theorem dX2_agrees_33 : decode cX2_agrees 33 = .ok (.getfield 23, 3) := by decide +kernel
theorem dX2_agrees_36 : decode cX2_agrees 36 = .ok (.aload_n 3, 1) := by decide +kernel
theorem dX2_agrees_37 : decode cX2_agrees 37 = .ok (.iconst 1, 1) := by decide +kernel
theorem dX2_agrees_38 : decode cX2_agrees 38 = .ok (.iaload, 1) := by decide +kernel
theorem dX2_agrees_39 : decode cX2_agrees 39 = .ok (.iadd, 1) := by decide +kernel
theorem dX2_agrees_40 : decode cX2_agrees 40 = .ok (.invokevirtual 78, 3) := by decide +kernel
theorem dX2_agrees_43 : decode cX2_agrees 43 = .ok (.aload_n 3, 1) := by decide +kernel
theorem dX2_agrees_44 : decode cX2_agrees 44 = .ok (.iconst 2, 1) := by decide +kernel
theorem dX2_agrees_45 : decode cX2_agrees 45 = .ok (.iaload, 1) := by decide +kernel
theorem dX2_agrees_46 : decode cX2_agrees 46 = .ok (.iconst 1, 1) := by decide +kernel
theorem dX2_agrees_47 : decode cX2_agrees 47 = .ok (.if_icmp .ne 7, 3) := by decide +kernel
theorem dX2_agrees_50 : decode cX2_agrees 50 = .ok (.iconst 1, 1) := by decide +kernel
theorem dX2_agrees_51 : decode cX2_agrees 51 = .ok (.goto 4, 3) := by decide +kernel
theorem dX2_agrees_54 : decode cX2_agrees 54 = .ok (.iconst 0, 1) := by decide +kernel
theorem dX2_agrees_55 : decode cX2_agrees 55 = .ok (.if_icmp .eq 5, 3) := by decide +kernel
theorem dX2_agrees_58 : decode cX2_agrees 58 = .ok (.iconst 0, 1) := by decide +kernel
theorem dX2_agrees_59 : decode cX2_agrees 59 = .ok (.ireturn, 1) := by decide +kernel
theorem dX2_agrees_60 : decode cX2_agrees 60 = .ok (.iinc 2 1, 3) := by decide +kernel
theorem dX2_agrees_63 : decode cX2_agrees 63 = .ok (.goto (-61), 3) := by decide +kernel
theorem dX2_agrees_66 : decode cX2_agrees 66 = .ok (.iconst 1, 1) := by decide +kernel
theorem dX2_agrees_67 : decode cX2_agrees 67 = .ok (.ireturn, 1) := by decide +kernel
theorem dX2_meeting_0 : decode cX2_meeting 0 = .ok (.lconst 0, 1) := by decide +kernel
theorem dX2_meeting_1 : decode cX2_meeting 1 = .ok (.lstore_n 3, 1) := by decide +kernel
theorem dX2_meeting_2 : decode cX2_meeting 2 = .ok (.lconst 1, 1) := by decide +kernel
theorem dX2_meeting_3 : decode cX2_meeting 3 = .ok (.lstore 5, 2) := by decide +kernel
theorem dX2_meeting_5 : decode cX2_meeting 5 = .ok (.iconst 0, 1) := by decide +kernel
theorem dX2_meeting_6 : decode cX2_meeting 6 = .ok (.istore 7, 2) := by decide +kernel
theorem dX2_meeting_8 : decode cX2_meeting 8 = .ok (.iload 7, 2) := by decide +kernel
theorem dX2_meeting_10 : decode cX2_meeting 10 = .ok (.aload_n 0, 1) := by decide +kernel
theorem dX2_meeting_11 : decode cX2_meeting 11 = .ok (.getfield 9, 3) := by decide +kernel
theorem dX2_meeting_14 : decode cX2_meeting 14 = .ok (.if_icmp .ge 84, 3) := by decide +kernel
theorem dX2_meeting_17 : decode cX2_meeting 17 = .ok (.iload_n 1, 1) := by decide +kernel
theorem dX2_meeting_18 : decode cX2_meeting 18 = .ok (.iload 7, 2) := by decide +kernel
theorem dX2_meeting_20 : decode cX2_meeting 20 = .ok (.ishr, 1) := by decide +kernel
theorem dX2_meeting_21 : decode cX2_meeting 21 = .ok (.iconst 1, 1) := by decide +kernel
theorem dX2_meeting_22 : decode cX2_meeting 22 = .ok (.iand, 1) := by decide +kernel
theorem dX2_meeting_23 : decode cX2_meeting 23 = .ok (.iconst 1, 1) := by decide +kernel
theorem dX2_meeting_24 : decode cX2_meeting 24 = .ok (.if_icmp .ne 68, 3) := by decide +kernel
theorem dX2_meeting_27 : decode cX2_meeting 27 = .ok (.aload_n 0, 1) := by decide +kernel
theorem dX2_meeting_28 : decode cX2_meeting 28 = .ok (.getfield 17, 3) := by decide +kernel
theorem dX2_meeting_31 : decode cX2_meeting 31 = .ok (.iload 7, 2) := by decide +kernel
theorem dX2_meeting_33 : decode cX2_meeting 33 = .ok (.aaload, 1) := by decide +kernel
theorem dX2_meeting_34 : decode cX2_meeting 34 = .ok (.astore 8, 2) := by decide +kernel
theorem dX2_meeting_36 : decode cX2_meeting 36 = .ok (.aload 8, 2) := by decide +kernel
theorem dX2_meeting_38 : decode cX2_meeting 38 = .ok (.iconst 4, 1) := by decide +kernel
theorem dX2_meeting_39 : decode cX2_meeting 39 = .ok (.iaload, 1) := by decide +kernel
theorem dX2_meeting_40 : decode cX2_meeting 40 = .ok (.iconst 1, 1) := by decide +kernel
theorem dX2_meeting_41 : decode cX2_meeting 41 = .ok (.if_icmp .ne 9, 3) := by decide +kernel
theorem dX2_meeting_44 : decode cX2_meeting 44 = .ok (.ldc2_w 103, 3) := by decide +kernel
theorem dX2_meeting_47 : decode cX2_meeting 47 = .ok (.goto 21, 3) := by decide +kernel
theorem dX2_meeting_50 : decode cX2_meeting 50 = .ok (.lload_n 3, 1) := by decide +kernel
theorem dX2_meeting_51 : decode cX2_meeting 51 = .ok (.lload 5, 2) := by decide +kernel
theorem dX2_meeting_53 : decode cX2_meeting 53 = .ok (.aload 8, 2) := by decide +kernel
theorem dX2_meeting_55 : decode cX2_meeting 55 = .ok (.bipush 8, 2) := by decide +kernel
theorem dX2_meeting_57 : decode cX2_meeting 57 = .ok (.iaload, 1) := by decide +kernel
theorem dX2_meeting_58 : decode cX2_meeting 58 = .ok (.i2l, 1) := by decide +kernel
theorem dX2_meeting_59 : decode cX2_meeting 59 = .ok (.aload 8, 2) := by decide +kernel
theorem dX2_meeting_61 : decode cX2_meeting 61 = .ok (.bipush 7, 2) := by decide +kernel
theorem dX2_meeting_63 : decode cX2_meeting 63 = .ok (.iaload, 1) := by decide +kernel
theorem dX2_meeting_64 : decode cX2_meeting 64 = .ok (.i2l, 1) := by decide +kernel
theorem dX2_meeting_65 : decode cX2_meeting 65 = .ok (.invokestatic 105, 3) := by decide +kernel
theorem dX2_meeting_68 : decode cX2_meeting 68 = .ok (.lstore_n 3, 1) := by decide +kernel
theorem dX2_meeting_69 : decode cX2_meeting 69 = .ok (.lload_n 3, 1) := by decide +kernel
theorem dX2_meeting_70 : decode cX2_meeting 70 = .ok (.lconst 0, 1) := by decide +kernel
theorem dX2_meeting_71 : decode cX2_meeting 71 = .ok (.lcmp, 1) := by decide +kernel
theorem dX2_meeting_72 : decode cX2_meeting 72 = .ok (.ifCond .ge 7, 3) := by decide +kernel
theorem dX2_meeting_75 : decode cX2_meeting 75 = .ok (.ldc2_w 109, 3) := by decide +kernel
theorem dX2_meeting_78 : decode cX2_meeting 78 = .ok (.lreturn, 1) := by decide +kernel
theorem dX2_meeting_79 : decode cX2_meeting 79 = .ok (.lload 5, 2) := by decide +kernel
theorem dX2_meeting_81 : decode cX2_meeting 81 = .ok (.aload 8, 2) := by decide +kernel
theorem dX2_meeting_83 : decode cX2_meeting 83 = .ok (.bipush 7, 2) := by decide +kernel
theorem dX2_meeting_85 : decode cX2_meeting 85 = .ok (.iaload, 1) := by decide +kernel
theorem dX2_meeting_86 : decode cX2_meeting 86 = .ok (.i2l, 1) := by decide +kernel
theorem dX2_meeting_87 : decode cX2_meeting 87 = .ok (.invokestatic 111, 3) := by decide +kernel
theorem dX2_meeting_90 : decode cX2_meeting 90 = .ok (.lstore 5, 2) := by decide +kernel
theorem dX2_meeting_92 : decode cX2_meeting 92 = .ok (.iinc 7 1, 3) := by decide +kernel
theorem dX2_meeting_95 : decode cX2_meeting 95 = .ok (.goto (-87), 3) := by decide +kernel
theorem dX2_meeting_98 : decode cX2_meeting 98 = .ok (.iload_n 2, 1) := by decide +kernel
theorem dX2_meeting_99 : decode cX2_meeting 99 = .ok (.ifCond .eq 8, 3) := by decide +kernel
theorem dX2_meeting_102 : decode cX2_meeting 102 = .ok (.lload 5, 2) := by decide +kernel
theorem dX2_meeting_104 : decode cX2_meeting 104 = .ok (.goto 21, 3) := by decide +kernel
theorem dX2_meeting_107 : decode cX2_meeting 107 = .ok (.aload_n 0, 1) := by decide +kernel
theorem dX2_meeting_108 : decode cX2_meeting 108 = .ok (.getfield 23, 3) := by decide +kernel
theorem dX2_meeting_111 : decode cX2_meeting 111 = .ok (.i2l, 1) := by decide +kernel
theorem dX2_meeting_112 : decode cX2_meeting 112 = .ok (.lload_n 3, 1) := by decide +kernel
theorem dX2_meeting_113 : decode cX2_meeting 113 = .ok (.aload_n 0, 1) := by decide +kernel
theorem dX2_meeting_114 : decode cX2_meeting 114 = .ok (.getfield 23, 3) := by decide +kernel
theorem dX2_meeting_117 : decode cX2_meeting 117 = .ok (.i2l, 1) := by decide +kernel
theorem dX2_meeting_118 : decode cX2_meeting 118 = .ok (.lsub, 1) := by decide +kernel
theorem dX2_meeting_119 : decode cX2_meeting 119 = .ok (.lload 5, 2) := by decide +kernel
theorem dX2_meeting_121 : decode cX2_meeting 121 = .ok (.invokestatic 74, 3) := by decide +kernel
theorem dX2_meeting_124 : decode cX2_meeting 124 = .ok (.ladd, 1) := by decide +kernel
theorem dX2_meeting_125 : decode cX2_meeting 125 = .ok (.lreturn, 1) := by decide +kernel
theorem dX2_round_0 : decode cX2_round 0 = .ok (.lconst 1, 1) := by decide +kernel
theorem dX2_round_1 : decode cX2_round 1 = .ok (.lstore_n 1, 1) := by decide +kernel
theorem dX2_round_2 : decode cX2_round 2 = .ok (.iconst 0, 1) := by decide +kernel
theorem dX2_round_3 : decode cX2_round 3 = .ok (.istore_n 3, 1) := by decide +kernel
theorem dX2_round_4 : decode cX2_round 4 = .ok (.iload_n 3, 1) := by decide +kernel
theorem dX2_round_5 : decode cX2_round 5 = .ok (.aload_n 0, 1) := by decide +kernel
theorem dX2_round_6 : decode cX2_round 6 = .ok (.getfield 9, 3) := by decide +kernel
theorem dX2_round_9 : decode cX2_round 9 = .ok (.if_icmp .ge 35, 3) := by decide +kernel
theorem dX2_round_12 : decode cX2_round 12 = .ok (.aload_n 0, 1) := by decide +kernel
theorem dX2_round_13 : decode cX2_round 13 = .ok (.getfield 17, 3) := by decide +kernel
theorem dX2_round_16 : decode cX2_round 16 = .ok (.iload_n 3, 1) := by decide +kernel
theorem dX2_round_17 : decode cX2_round 17 = .ok (.aaload, 1) := by decide +kernel
theorem dX2_round_18 : decode cX2_round 18 = .ok (.iconst 4, 1) := by decide +kernel
theorem dX2_round_19 : decode cX2_round 19 = .ok (.iaload, 1) := by decide +kernel
theorem dX2_round_20 : decode cX2_round 20 = .ok (.ifCond .ne 18, 3) := by decide +kernel
theorem dX2_round_23 : decode cX2_round 23 = .ok (.lload_n 1, 1) := by decide +kernel
theorem dX2_round_24 : decode cX2_round 24 = .ok (.aload_n 0, 1) := by decide +kernel
theorem dX2_round_25 : decode cX2_round 25 = .ok (.getfield 17, 3) := by decide +kernel
theorem dX2_round_28 : decode cX2_round 28 = .ok (.iload_n 3, 1) := by decide +kernel
theorem dX2_round_29 : decode cX2_round 29 = .ok (.aaload, 1) := by decide +kernel
theorem dX2_round_30 : decode cX2_round 30 = .ok (.bipush 7, 2) := by decide +kernel
theorem dX2_round_32 : decode cX2_round 32 = .ok (.iaload, 1) := by decide +kernel
theorem dX2_round_33 : decode cX2_round 33 = .ok (.i2l, 1) := by decide +kernel
theorem dX2_round_34 : decode cX2_round 34 = .ok (.invokestatic 111, 3) := by decide +kernel
theorem dX2_round_37 : decode cX2_round 37 = .ok (.lstore_n 1, 1) := by decide +kernel
theorem dX2_round_38 : decode cX2_round 38 = .ok (.iinc 3 1, 3) := by decide +kernel
theorem dX2_round_41 : decode cX2_round 41 = .ok (.goto (-37), 3) := by decide +kernel
theorem dX2_round_44 : decode cX2_round 44 = .ok (.lload_n 1, 1) := by decide +kernel
theorem dX2_round_45 : decode cX2_round 45 = .ok (.lreturn, 1) := by decide +kernel
theorem dX2_quietDays_0 : decode cX2_quietDays 0 = .ok (.lload 6, 2) := by decide +kernel
theorem dX2_quietDays_2 : decode cX2_quietDays 2 = .ok (.lconst 1, 1) := by decide +kernel
theorem dX2_quietDays_3 : decode cX2_quietDays 3 = .ok (.lcmp, 1) := by decide +kernel
theorem dX2_quietDays_4 : decode cX2_quietDays 4 = .ok (.ifCond .ge 5, 3) := by decide +kernel
theorem dX2_quietDays_7 : decode cX2_quietDays 7 = .ok (.lconst 0, 1) := by decide +kernel
theorem dX2_quietDays_8 : decode cX2_quietDays 8 = .ok (.lreturn, 1) := by decide +kernel
theorem dX2_quietDays_9 : decode cX2_quietDays 9 = .ok (.aload_n 0, 1) := by decide +kernel
theorem dX2_quietDays_10 : decode cX2_quietDays 10 = .ok (.iload_n 3, 1) := by decide +kernel
theorem dX2_quietDays_11 : decode cX2_quietDays 11 = .ok (.invokevirtual 114, 3) := by decide +kernel
theorem dX2_quietDays_14 : decode cX2_quietDays 14 = .ok (.ifCond .ne 8, 3) := by decide +kernel
theorem dX2_quietDays_17 : decode cX2_quietDays 17 = .ok (.lload_n 1, 1) := by decide +kernel
theorem dX2_quietDays_18 : decode cX2_quietDays 18 = .ok (.lload 6, 2) := by decide +kernel
theorem dX2_quietDays_20 : decode cX2_quietDays 20 = .ok (.ldiv, 1) := by decide +kernel
theorem dX2_quietDays_21 : decode cX2_quietDays 21 = .ok (.lreturn, 1) := by decide +kernel
theorem dX2_quietDays_22 : decode cX2_quietDays 22 = .ok (.aload_n 0, 1) := by decide +kernel
theorem dX2_quietDays_23 : decode cX2_quietDays 23 = .ok (.lload_n 1, 1) := by decide +kernel
theorem dX2_quietDays_24 : decode cX2_quietDays 24 = .ok (.iload_n 3, 1) := by decide +kernel
theorem dX2_quietDays_25 : decode cX2_quietDays 25 = .ok (.iconst 1, 1) := by decide +kernel
theorem dX2_quietDays_26 : decode cX2_quietDays 26 = .ok (.iadd, 1) := by decide +kernel
theorem dX2_quietDays_27 : decode cX2_quietDays 27 = .ok (.lload 4, 2) := by decide +kernel
theorem dX2_quietDays_29 : decode cX2_quietDays 29 = .ok (.lload 6, 2) := by decide +kernel
theorem dX2_quietDays_31 : decode cX2_quietDays 31 = .ok (.invokevirtual 118, 3) := by decide +kernel
theorem dX2_quietDays_34 : decode cX2_quietDays 34 = .ok (.lstore 8, 2) := by decide +kernel
theorem dX2_quietDays_36 : decode cX2_quietDays 36 = .ok (.aload_n 0, 1) := by decide +kernel
theorem dX2_quietDays_37 : decode cX2_quietDays 37 = .ok (.getfield 17, 3) := by decide +kernel
theorem dX2_quietDays_40 : decode cX2_quietDays 40 = .ok (.iload_n 3, 1) := by decide +kernel
theorem dX2_quietDays_41 : decode cX2_quietDays 41 = .ok (.aaload, 1) := by decide +kernel
theorem dX2_quietDays_42 : decode cX2_quietDays 42 = .ok (.astore 10, 2) := by decide +kernel
theorem dX2_quietDays_44 : decode cX2_quietDays 44 = .ok (.aload 10, 2) := by decide +kernel
theorem dX2_quietDays_46 : decode cX2_quietDays 46 = .ok (.iconst 4, 1) := by decide +kernel
theorem dX2_quietDays_47 : decode cX2_quietDays 47 = .ok (.iaload, 1) := by decide +kernel
theorem dX2_quietDays_48 : decode cX2_quietDays 48 = .ok (.iconst 1, 1) := by decide +kernel
theorem dX2_quietDays_49 : decode cX2_quietDays 49 = .ok (.if_icmp .ne 6, 3) := by decide +kernel
theorem dX2_quietDays_52 : decode cX2_quietDays 52 = .ok (.lload 8, 2) := by decide +kernel
theorem dX2_quietDays_54 : decode cX2_quietDays 54 = .ok (.lreturn, 1) := by decide +kernel
theorem dX2_quietDays_55 : decode cX2_quietDays 55 = .ok (.lload 4, 2) := by decide +kernel
theorem dX2_quietDays_57 : decode cX2_quietDays 57 = .ok (.lload 6, 2) := by decide +kernel
theorem dX2_quietDays_59 : decode cX2_quietDays 59 = .ok (.aload 10, 2) := by decide +kernel
theorem dX2_quietDays_61 : decode cX2_quietDays 61 = .ok (.bipush 8, 2) := by decide +kernel
theorem dX2_quietDays_63 : decode cX2_quietDays 63 = .ok (.iaload, 1) := by decide +kernel
theorem dX2_quietDays_64 : decode cX2_quietDays 64 = .ok (.i2l, 1) := by decide +kernel
theorem dX2_quietDays_65 : decode cX2_quietDays 65 = .ok (.aload 10, 2) := by decide +kernel
theorem dX2_quietDays_67 : decode cX2_quietDays 67 = .ok (.bipush 7, 2) := by decide +kernel
theorem dX2_quietDays_69 : decode cX2_quietDays 69 = .ok (.iaload, 1) := by decide +kernel
theorem dX2_quietDays_70 : decode cX2_quietDays 70 = .ok (.i2l, 1) := by decide +kernel
theorem dX2_quietDays_71 : decode cX2_quietDays 71 = .ok (.invokestatic 105, 3) := by decide +kernel
theorem dX2_quietDays_74 : decode cX2_quietDays 74 = .ok (.lstore 11, 2) := by decide +kernel
theorem dX2_quietDays_76 : decode cX2_quietDays 76 = .ok (.lload 11, 2) := by decide +kernel
theorem dX2_quietDays_78 : decode cX2_quietDays 78 = .ok (.lconst 0, 1) := by decide +kernel
theorem dX2_quietDays_79 : decode cX2_quietDays 79 = .ok (.lcmp, 1) := by decide +kernel
theorem dX2_quietDays_80 : decode cX2_quietDays 80 = .ok (.ifCond .ge 6, 3) := by decide +kernel
theorem dX2_quietDays_83 : decode cX2_quietDays 83 = .ok (.lload 8, 2) := by decide +kernel
theorem dX2_quietDays_85 : decode cX2_quietDays 85 = .ok (.lreturn, 1) := by decide +kernel
theorem dX2_quietDays_86 : decode cX2_quietDays 86 = .ok (.lload 8, 2) := by decide +kernel
theorem dX2_quietDays_88 : decode cX2_quietDays 88 = .ok (.aload_n 0, 1) := by decide +kernel
theorem dX2_quietDays_89 : decode cX2_quietDays 89 = .ok (.lload_n 1, 1) := by decide +kernel
theorem dX2_quietDays_90 : decode cX2_quietDays 90 = .ok (.iload_n 3, 1) := by decide +kernel
theorem dX2_quietDays_91 : decode cX2_quietDays 91 = .ok (.iconst 1, 1) := by decide +kernel
theorem dX2_quietDays_92 : decode cX2_quietDays 92 = .ok (.iadd, 1) := by decide +kernel
theorem dX2_quietDays_93 : decode cX2_quietDays 93 = .ok (.lload 11, 2) := by decide +kernel
theorem dX2_quietDays_95 : decode cX2_quietDays 95 = .ok (.lload 6, 2) := by decide +kernel
theorem dX2_quietDays_97 : decode cX2_quietDays 97 = .ok (.aload 10, 2) := by decide +kernel
theorem dX2_quietDays_99 : decode cX2_quietDays 99 = .ok (.bipush 7, 2) := by decide +kernel
theorem dX2_quietDays_101 : decode cX2_quietDays 101 = .ok (.iaload, 1) := by decide +kernel
theorem dX2_quietDays_102 : decode cX2_quietDays 102 = .ok (.i2l, 1) := by decide +kernel
theorem dX2_quietDays_103 : decode cX2_quietDays 103 = .ok (.invokestatic 111, 3) := by decide +kernel
theorem dX2_quietDays_106 : decode cX2_quietDays 106 = .ok (.invokevirtual 118, 3) := by decide +kernel
theorem dX2_quietDays_109 : decode cX2_quietDays 109 = .ok (.lsub, 1) := by decide +kernel
theorem dX2_quietDays_110 : decode cX2_quietDays 110 = .ok (.lreturn, 1) := by decide +kernel
theorem dX3_init_0 : decode cX3_init 0 = .ok (.aload_n 0, 1) := by decide +kernel
theorem dX3_init_1 : decode cX3_init 1 = .ok (.invokespecial 3, 3) := by decide +kernel
theorem dX3_init_4 : decode cX3_init 4 = .ok (.aload_n 0, 1) := by decide +kernel
theorem dX3_init_5 : decode cX3_init 5 = .ok (.iconst 0, 1) := by decide +kernel
theorem dX3_init_6 : decode cX3_init 6 = .ok (.putfield 9, 3) := by decide +kernel
theorem dX3_init_9 : decode cX3_init 9 = .ok (.aload_n 0, 1) := by decide +kernel
theorem dX3_init_10 : decode cX3_init 10 = .ok (.iconst 0, 1) := by decide +kernel
theorem dX3_init_11 : decode cX3_init 11 = .ok (.putfield 15, 3) := by decide +kernel
theorem dX3_init_14 : decode cX3_init 14 = .ok (.aload_n 0, 1) := by decide +kernel
theorem dX3_init_15 : decode cX3_init 15 = .ok (.bipush 10, 2) := by decide +kernel
theorem dX3_init_17 : decode cX3_init 17 = .ok (.newarray .int, 2) := by decide +kernel
theorem dX3_init_19 : decode cX3_init 19 = .ok (.putfield 18, 3) := by decide +kernel
theorem dX3_init_22 : decode cX3_init 22 = .ok (.aload_n 0, 1) := by decide +kernel
theorem dX3_init_23 : decode cX3_init 23 = .ok (.bipush 10, 2) := by decide +kernel
theorem dX3_init_25 : decode cX3_init 25 = .ok (.newarray .int, 2) := by decide +kernel
theorem dX3_init_27 : decode cX3_init 27 = .ok (.putfield 22, 3) := by decide +kernel
theorem dX3_init_30 : decode cX3_init 30 = .ok (.aload_n 0, 1) := by decide +kernel
theorem dX3_init_31 : decode cX3_init 31 = .ok (.bipush 100, 2) := by decide +kernel
theorem dX3_init_33 : decode cX3_init 33 = .ok (.newarray .int, 2) := by decide +kernel
theorem dX3_init_35 : decode cX3_init 35 = .ok (.putfield 25, 3) := by decide +kernel
theorem dX3_init_38 : decode cX3_init 38 = .ok (.aload_n 0, 1) := by decide +kernel
theorem dX3_init_39 : decode cX3_init 39 = .ok (.iconst 0, 1) := by decide +kernel
theorem dX3_init_40 : decode cX3_init 40 = .ok (.putfield 28, 3) := by decide +kernel
theorem dX3_init_43 : decode cX3_init 43 = .ok (.return_, 1) := by decide +kernel
theorem dX3_understands_0 : decode cX3_understands 0 = .ok (.aload_n 1, 1) := by decide +kernel
theorem dX3_understands_1 : decode cX3_understands 1 = .ok (.iconst 0, 1) := by decide +kernel
theorem dX3_understands_2 : decode cX3_understands 2 = .ok (.putfield 31, 3) := by decide +kernel
theorem dX3_understands_5 : decode cX3_understands 5 = .ok (.aload_n 0, 1) := by decide +kernel
theorem dX3_understands_6 : decode cX3_understands 6 = .ok (.iconst 0, 1) := by decide +kernel
theorem dX3_understands_7 : decode cX3_understands 7 = .ok (.putfield 9, 3) := by decide +kernel
theorem dX3_understands_10 : decode cX3_understands 10 = .ok (.aload_n 0, 1) := by decide +kernel
theorem dX3_understands_11 : decode cX3_understands 11 = .ok (.iconst 0, 1) := by decide +kernel
theorem dX3_understands_12 : decode cX3_understands 12 = .ok (.putfield 15, 3) := by decide +kernel
theorem dX3_understands_15 : decode cX3_understands 15 = .ok (.aload_n 0, 1) := by decide +kernel
theorem dX3_understands_16 : decode cX3_understands 16 = .ok (.iconst 0, 1) := by decide +kernel
theorem dX3_understands_17 : decode cX3_understands 17 = .ok (.putfield 28, 3) := by decide +kernel
theorem dX3_understands_20 : decode cX3_understands 20 = .ok (.iconst 1, 1) := by decide +kernel
theorem dX3_understands_21 : decode cX3_understands 21 = .ok (.istore_n 2, 1) := by decide +kernel
theorem dX3_understands_22 : decode cX3_understands 22 = .ok (.iload_n 2, 1) := by decide +kernel
theorem dX3_understands_23 : decode cX3_understands 23 = .ok (.bipush 10, 2) := by decide +kernel
theorem dX3_understands_25 : decode cX3_understands 25 = .ok (.if_icmp .gt 45, 3) := by decide +kernel
theorem dX3_understands_28 : decode cX3_understands 28 = .ok (.aload_n 0, 1) := by decide +kernel
theorem dX3_understands_29 : decode cX3_understands 29 = .ok (.aload_n 1, 1) := by decide +kernel
theorem dX3_understands_30 : decode cX3_understands 30 = .ok (.invokevirtual 36, 3) := by decide +kernel
theorem dX3_understands_33 : decode cX3_understands 33 = .ok (.ifCond .ne 5, 3) := by decide +kernel
theorem dX3_understands_36 : decode cX3_understands 36 = .ok (.iconst 0, 1) := by decide +kernel
theorem dX3_understands_37 : decode cX3_understands 37 = .ok (.ireturn, 1) := by decide +kernel
theorem dX3_understands_38 : decode cX3_understands 38 = .ok (.aload_n 1, 1) := by decide +kernel
theorem dX3_understands_39 : decode cX3_understands 39 = .ok (.invokevirtual 40, 3) := by decide +kernel
theorem dX3_understands_42 : decode cX3_understands 42 = .ok (.ifCond .ge 5, 3) := by decide +kernel
theorem dX3_understands_45 : decode cX3_understands 45 = .ok (.iconst 1, 1) := by decide +kernel
theorem dX3_understands_46 : decode cX3_understands 46 = .ok (.ireturn, 1) := by decide +kernel
theorem dX3_understands_47 : decode cX3_understands 47 = .ok (.iload_n 2, 1) := by decide +kernel
theorem dX3_understands_48 : decode cX3_understands 48 = .ok (.bipush 10, 2) := by decide +kernel
theorem dX3_understands_50 : decode cX3_understands 50 = .ok (.if_icmp .eq 12, 3) := by decide +kernel
theorem dX3_understands_53 : decode cX3_understands 53 = .ok (.aload_n 1, 1) := by decide +kernel
theorem dX3_understands_54 : decode cX3_understands 54 = .ok (.bipush 59, 2) := by decide +kernel
theorem dX3_understands_56 : decode cX3_understands 56 = .ok (.invokevirtual 44, 3) := by decide +kernel
theorem dX3_understands_59 : decode cX3_understands 59 = .ok (.ifCond .ne 5, 3) := by decide +kernel
theorem dX3_understands_62 : decode cX3_understands 62 = .ok (.iconst 0, 1) := by decide +kernel
theorem dX3_understands_63 : decode cX3_understands 63 = .ok (.ireturn, 1) := by decide +kernel
theorem dX3_understands_64 : decode cX3_understands 64 = .ok (.iinc 2 1, 3) := by decide +kernel
theorem dX3_understands_67 : decode cX3_understands 67 = .ok (.goto (-45), 3) := by decide +kernel
theorem dX3_understands_70 : decode cX3_understands 70 = .ok (.iconst 0, 1) := by decide +kernel
theorem dX3_understands_71 : decode cX3_understands 71 = .ok (.ireturn, 1) := by decide +kernel
theorem dX3_readClause_0 : decode cX3_readClause 0 = .ok (.aload_n 1, 1) := by decide +kernel
theorem dX3_readClause_1 : decode cX3_readClause 1 = .ok (.invokevirtual 40, 3) := by decide +kernel
theorem dX3_readClause_4 : decode cX3_readClause 4 = .ok (.istore_n 2, 1) := by decide +kernel
theorem dX3_readClause_5 : decode cX3_readClause 5 = .ok (.iload_n 2, 1) := by decide +kernel
theorem dX3_readClause_6 : decode cX3_readClause 6 = .ok (.bipush 108, 2) := by decide +kernel
theorem dX3_readClause_8 : decode cX3_readClause 8 = .ok (.if_icmp .ne 8, 3) := by decide +kernel
theorem dX3_readClause_11 : decode cX3_readClause 11 = .ok (.ldc 48, 2) := by decide +kernel
theorem dX3_readClause_13 : decode cX3_readClause 13 = .ok (.goto 16, 3) := by decide +kernel
theorem dX3_readClause_16 : decode cX3_readClause 16 = .ok (.iload_n 2, 1) := by decide +kernel
theorem dX3_readClause_17 : decode cX3_readClause 17 = .ok (.bipush 101, 2) := by decide +kernel
theorem dX3_readClause_19 : decode cX3_readClause 19 = .ok (.if_icmp .ne 8, 3) := by decide +kernel
theorem dX3_readClause_22 : decode cX3_readClause 22 = .ok (.ldc 50, 2) := by decide +kernel
theorem dX3_readClause_24 : decode cX3_readClause 24 = .ok (.goto 5, 3) := by decide +kernel
theorem dX3_readClause_27 : decode cX3_readClause 27 = .ok (.ldc 52, 2) := by decide +kernel
theorem dX3_readClause_29 : decode cX3_readClause 29 = .ok (.astore_n 3, 1) := by decide +kernel
theorem dX3_readClause_30 : decode cX3_readClause 30 = .ok (.aload_n 1, 1) := by decide +kernel
theorem dX3_readClause_31 : decode cX3_readClause 31 = .ok (.aload_n 3, 1) := by decide +kernel
theorem dX3_readClause_32 : decode cX3_readClause 32 = .ok (.invokevirtual 53, 3) := by decide +kernel
theorem dX3_readClause_35 : decode cX3_readClause 35 = .ok (.ifCond .eq 12, 3) := by decide +kernel
theorem dX3_readClause_38 : decode cX3_readClause 38 = .ok (.aload_n 1, 1) := by decide +kernel
theorem dX3_readClause_39 : decode cX3_readClause 39 = .ok (.bipush 32, 2) := by decide +kernel
theorem dX3_readClause_41 : decode cX3_readClause 41 = .ok (.invokevirtual 44, 3) := by decide +kernel
theorem dX3_readClause_44 : decode cX3_readClause 44 = .ok (.ifCond .ne 5, 3) := by decide +kernel
theorem dX3_readClause_47 : decode cX3_readClause 47 = .ok (.iconst 0, 1) := by decide +kernel
theorem dX3_readClause_48 : decode cX3_readClause 48 = .ok (.ireturn, 1) := by decide +kernel
theorem dX3_readClause_49 : decode cX3_readClause 49 = .ok (.aload_n 1, 1) := by decide +kernel
theorem dX3_readClause_50 : decode cX3_readClause 50 = .ok (.invokevirtual 57, 3) := by decide +kernel
theorem dX3_readClause_53 : decode cX3_readClause 53 = .ok (.istore 4, 2) := by decide +kernel
theorem dX3_readClause_55 : decode cX3_readClause 55 = .ok (.iload 4, 2) := by decide +kernel
theorem dX3_readClause_57 : decode cX3_readClause 57 = .ok (.ifCond .ge 5, 3) := by decide +kernel
theorem dX3_readClause_60 : decode cX3_readClause 60 = .ok (.iconst 0, 1) := by decide +kernel
theorem dX3_readClause_61 : decode cX3_readClause 61 = .ok (.ireturn, 1) := by decide +kernel
theorem dX3_readClause_62 : decode cX3_readClause 62 = .ok (.iload_n 2, 1) := by decide +kernel
theorem dX3_readClause_63 : decode cX3_readClause 63 = .ok (.bipush 97, 2) := by decide +kernel
theorem dX3_readClause_65 : decode cX3_readClause 65 = .ok (.if_icmp .ne 11, 3) := by decide +kernel
theorem dX3_readClause_68 : decode cX3_readClause 68 = .ok (.aload_n 0, 1) := by decide +kernel
theorem dX3_readClause_69 : decode cX3_readClause 69 = .ok (.iload 4, 2) := by decide +kernel
theorem dX3_readClause_71 : decode cX3_readClause 71 = .ok (.putfield 9, 3) := by decide +kernel
theorem dX3_readClause_74 : decode cX3_readClause 74 = .ok (.iconst 1, 1) := by decide +kernel
theorem dX3_readClause_75 : decode cX3_readClause 75 = .ok (.ireturn, 1) := by decide +kernel
theorem dX3_readClause_76 : decode cX3_readClause 76 = .ok (.aload_n 1, 1) := by decide +kernel
theorem dX3_readClause_77 : decode cX3_readClause 77 = .ok (.bipush 32, 2) := by decide +kernel
theorem dX3_readClause_79 : decode cX3_readClause 79 = .ok (.invokevirtual 44, 3) := by decide +kernel
theorem dX3_readClause_82 : decode cX3_readClause 82 = .ok (.ifCond .eq 21, 3) := by decide +kernel
theorem dX3_readClause_85 : decode cX3_readClause 85 = .ok (.aload_n 0, 1) := by decide +kernel
theorem dX3_readClause_86 : decode cX3_readClause 86 = .ok (.aload_n 1, 1) := by decide +kernel
theorem dX3_readClause_87 : decode cX3_readClause 87 = .ok (.iconst 0, 1) := by decide +kernel
theorem dX3_readClause_88 : decode cX3_readClause 88 = .ok (.invokevirtual 60, 3) := by decide +kernel
theorem dX3_readClause_91 : decode cX3_readClause 91 = .ok (.ifCond .eq 12, 3) := by decide +kernel
theorem dX3_readClause_94 : decode cX3_readClause 94 = .ok (.aload_n 0, 1) := by decide +kernel
theorem dX3_readClause_95 : decode cX3_readClause 95 = .ok (.getfield 15, 3) := by decide +kernel
theorem dX3_readClause_98 : decode cX3_readClause 98 = .ok (.bipush 10, 2) := by decide +kernel
theorem dX3_readClause_100 : decode cX3_readClause 100 = .ok (.if_icmp .lt 5, 3) := by decide +kernel
theorem dX3_readClause_103 : decode cX3_readClause 103 = .ok (.iconst 0, 1) := by decide +kernel
theorem dX3_readClause_104 : decode cX3_readClause 104 = .ok (.ireturn, 1) := by decide +kernel
theorem dX3_readClause_105 : decode cX3_readClause 105 = .ok (.aload_n 0, 1) := by decide +kernel
theorem dX3_readClause_106 : decode cX3_readClause 106 = .ok (.getfield 18, 3) := by decide +kernel
theorem dX3_readClause_109 : decode cX3_readClause 109 = .ok (.aload_n 0, 1) := by decide +kernel
theorem dX3_readClause_110 : decode cX3_readClause 110 = .ok (.getfield 15, 3) := by decide +kernel
theorem dX3_readClause_113 : decode cX3_readClause 113 = .ok (.iload_n 2, 1) := by decide +kernel
theorem dX3_readClause_114 : decode cX3_readClause 114 = .ok (.bipush 108, 2) := by decide +kernel
theorem dX3_readClause_116 : decode cX3_readClause 116 = .ok (.if_icmp .ne 8, 3) := by decide +kernel
theorem dX3_readClause_119 : decode cX3_readClause 119 = .ok (.iload 4, 2) := by decide +kernel
theorem dX3_readClause_121 : decode cX3_readClause 121 = .ok (.goto 6, 3) := by decide +kernel
theorem dX3_readClause_124 : decode cX3_readClause 124 = .ok (.iload 4, 2) := by decide +kernel
theorem dX3_readClause_126 : decode cX3_readClause 126 = .ok (.ineg, 1) := by decide +kernel
theorem dX3_readClause_127 : decode cX3_readClause 127 = .ok (.iastore, 1) := by decide +kernel
theorem dX3_readClause_128 : decode cX3_readClause 128 = .ok (.aload_n 0, 1) := by decide +kernel
theorem dX3_readClause_129 : decode cX3_readClause 129 = .ok (.getfield 22, 3) := by decide +kernel
theorem dX3_readClause_132 : decode cX3_readClause 132 = .ok (.aload_n 0, 1) := by decide +kernel
theorem dX3_readClause_133 : decode cX3_readClause 133 = .ok (.getfield 15, 3) := by decide +kernel
theorem dX3_readClause_136 : decode cX3_readClause 136 = .ok (.aload_n 0, 1) := by decide +kernel
theorem dX3_readClause_137 : decode cX3_readClause 137 = .ok (.getfield 28, 3) := by decide +kernel
theorem dX3_readClause_140 : decode cX3_readClause 140 = .ok (.iastore, 1) := by decide +kernel
theorem dX3_readClause_141 : decode cX3_readClause 141 = .ok (.aload_n 0, 1) := by decide +kernel
theorem dX3_readClause_142 : decode cX3_readClause 142 = .ok (.dup, 1) := by decide +kernel
theorem dX3_readClause_143 : decode cX3_readClause 143 = .ok (.getfield 15, 3) := by decide +kernel
theorem dX3_readClause_146 : decode cX3_readClause 146 = .ok (.iconst 1, 1) := by decide +kernel
theorem dX3_readClause_147 : decode cX3_readClause 147 = .ok (.iadd, 1) := by decide +kernel
theorem dX3_readClause_148 : decode cX3_readClause 148 = .ok (.putfield 15, 3) := by decide +kernel
theorem dX3_readClause_151 : decode cX3_readClause 151 = .ok (.iconst 1, 1) := by decide +kernel
theorem dX3_readClause_152 : decode cX3_readClause 152 = .ok (.ireturn, 1) := by decide +kernel
theorem dX3_readAny_0 : decode cX3_readAny 0 = .ok (.iconst 0, 1) := by decide +kernel
theorem dX3_readAny_1 : decode cX3_readAny 1 = .ok (.istore_n 3, 1) := by decide +kernel
theorem dX3_readAny_2 : decode cX3_readAny 2 = .ok (.iload_n 3, 1) := by decide +kernel
theorem dX3_readAny_3 : decode cX3_readAny 3 = .ok (.bipush 100, 2) := by decide +kernel
theorem dX3_readAny_5 : decode cX3_readAny 5 = .ok (.if_icmp .ge 83, 3) := by decide +kernel
theorem dX3_readAny_8 : decode cX3_readAny 8 = .ok (.aload_n 0, 1) := by decide +kernel
theorem dX3_readAny_9 : decode cX3_readAny 9 = .ok (.aload_n 1, 1) := by decide +kernel
theorem dX3_readAny_10 : decode cX3_readAny 10 = .ok (.iload_n 2, 1) := by decide +kernel
theorem dX3_readAny_11 : decode cX3_readAny 11 = .ok (.invokevirtual 64, 3) := by decide +kernel
theorem dX3_readAny_14 : decode cX3_readAny 14 = .ok (.ifCond .ne 5, 3) := by decide +kernel
theorem dX3_readAny_17 : decode cX3_readAny 17 = .ok (.iconst 0, 1) := by decide +kernel
theorem dX3_readAny_18 : decode cX3_readAny 18 = .ok (.ireturn, 1) := by decide +kernel
theorem dX3_readAny_19 : decode cX3_readAny 19 = .ok (.iconst 0, 1) := by decide +kernel
theorem dX3_readAny_20 : decode cX3_readAny 20 = .ok (.istore 4, 2) := by decide +kernel
theorem dX3_readAny_22 : decode cX3_readAny 22 = .ok (.iload 4, 2) := by decide +kernel
theorem dX3_readAny_24 : decode cX3_readAny 24 = .ok (.bipush 100, 2) := by decide +kernel
theorem dX3_readAny_26 : decode cX3_readAny 26 = .ok (.if_icmp .ge 35, 3) := by decide +kernel
theorem dX3_readAny_29 : decode cX3_readAny 29 = .ok (.aload_n 1, 1) := by decide +kernel
theorem dX3_readAny_30 : decode cX3_readAny 30 = .ok (.bipush 38, 2) := by decide +kernel
theorem dX3_readAny_32 : decode cX3_readAny 32 = .ok (.invokevirtual 44, 3) := by decide +kernel
theorem dX3_readAny_35 : decode cX3_readAny 35 = .ok (.ifCond .eq 26, 3) := by decide +kernel
theorem dX3_readAny_38 : decode cX3_readAny 38 = .ok (.aload_n 0, 1) := by decide +kernel
theorem dX3_readAny_39 : decode cX3_readAny 39 = .ok (.aload_n 1, 1) := by decide +kernel
theorem dX3_readAny_40 : decode cX3_readAny 40 = .ok (.iload_n 2, 1) := by decide +kernel
theorem dX3_readAny_41 : decode cX3_readAny 41 = .ok (.invokevirtual 64, 3) := by decide +kernel
theorem dX3_readAny_44 : decode cX3_readAny 44 = .ok (.ifCond .ne 5, 3) := by decide +kernel
theorem dX3_readAny_47 : decode cX3_readAny 47 = .ok (.iconst 0, 1) := by decide +kernel
theorem dX3_readAny_48 : decode cX3_readAny 48 = .ok (.ireturn, 1) := by decide +kernel
theorem dX3_readAny_49 : decode cX3_readAny 49 = .ok (.aload_n 0, 1) := by decide +kernel
theorem dX3_readAny_50 : decode cX3_readAny 50 = .ok (.bipush (-2), 2) := by decide +kernel
theorem dX3_readAny_52 : decode cX3_readAny 52 = .ok (.invokevirtual 67, 3) := by decide +kernel
theorem dX3_readAny_55 : decode cX3_readAny 55 = .ok (.iinc 4 1, 3) := by decide +kernel
theorem dX3_readAny_58 : decode cX3_readAny 58 = .ok (.goto (-36), 3) := by decide +kernel
theorem dX3_readAny_61 : decode cX3_readAny 61 = .ok (.iload_n 3, 1) := by decide +kernel
theorem dX3_readAny_62 : decode cX3_readAny 62 = .ok (.ifCond .le 9, 3) := by decide +kernel
theorem dX3_readAny_65 : decode cX3_readAny 65 = .ok (.aload_n 0, 1) := by decide +kernel
theorem dX3_readAny_66 : decode cX3_readAny 66 = .ok (.bipush (-3), 2) := by decide +kernel
theorem dX3_readAny_68 : decode cX3_readAny 68 = .ok (.invokevirtual 67, 3) := by decide +kernel
theorem dX3_readAny_71 : decode cX3_readAny 71 = .ok (.aload_n 1, 1) := by decide +kernel
theorem dX3_readAny_72 : decode cX3_readAny 72 = .ok (.bipush 124, 2) := by decide +kernel
theorem dX3_readAny_74 : decode cX3_readAny 74 = .ok (.invokevirtual 44, 3) := by decide +kernel
theorem dX3_readAny_77 : decode cX3_readAny 77 = .ok (.ifCond .ne 5, 3) := by decide +kernel
theorem dX3_readAny_80 : decode cX3_readAny 80 = .ok (.iconst 1, 1) := by decide +kernel
theorem dX3_readAny_81 : decode cX3_readAny 81 = .ok (.ireturn, 1) := by decide +kernel
theorem dX3_readAny_82 : decode cX3_readAny 82 = .ok (.iinc 3 1, 3) := by decide +kernel
theorem dX3_readAny_85 : decode cX3_readAny 85 = .ok (.goto (-83), 3) := by decide +kernel
theorem dX3_readAny_88 : decode cX3_readAny 88 = .ok (.iconst 0, 1) := by decide +kernel
theorem dX3_readAny_89 : decode cX3_readAny 89 = .ok (.ireturn, 1) := by decide +kernel
theorem dX3_readOne_0 : decode cX3_readOne 0 = .ok (.aload_n 1, 1) := by decide +kernel
theorem dX3_readOne_1 : decode cX3_readOne 1 = .ok (.invokevirtual 40, 3) := by decide +kernel
theorem dX3_readOne_4 : decode cX3_readOne 4 = .ok (.istore_n 3, 1) := by decide +kernel
theorem dX3_readOne_5 : decode cX3_readOne 5 = .ok (.iload_n 3, 1) := by decide +kernel
theorem dX3_readOne_6 : decode cX3_readOne 6 = .ok (.bipush 33, 2) := by decide +kernel
theorem dX3_readOne_8 : decode cX3_readOne 8 = .ok (.if_icmp .eq 15, 3) := by decide +kernel
theorem dX3_readOne_11 : decode cX3_readOne 11 = .ok (.iload_n 3, 1) := by decide +kernel
theorem dX3_readOne_12 : decode cX3_readOne 12 = .ok (.bipush 40, 2) := by decide +kernel
theorem dX3_readOne_14 : decode cX3_readOne 14 = .ok (.if_icmp .eq 9, 3) := by decide +kernel
theorem dX3_readOne_17 : decode cX3_readOne 17 = .ok (.aload_n 0, 1) := by decide +kernel
theorem dX3_readOne_18 : decode cX3_readOne 18 = .ok (.aload_n 1, 1) := by decide +kernel
theorem dX3_readOne_19 : decode cX3_readOne 19 = .ok (.invokevirtual 71, 3) := by decide +kernel
theorem dX3_readOne_22 : decode cX3_readOne 22 = .ok (.ireturn, 1) := by decide +kernel
theorem dX3_readOne_23 : decode cX3_readOne 23 = .ok (.iload_n 2, 1) := by decide +kernel
theorem dX3_readOne_24 : decode cX3_readOne 24 = .ok (.iconst 4, 1) := by decide +kernel
theorem dX3_readOne_25 : decode cX3_readOne 25 = .ok (.if_icmp .ge 11, 3) := by decide +kernel
theorem dX3_readOne_28 : decode cX3_readOne 28 = .ok (.aload_n 1, 1) := by decide +kernel
theorem dX3_readOne_29 : decode cX3_readOne 29 = .ok (.iload_n 3, 1) := by decide +kernel
theorem dX3_readOne_30 : decode cX3_readOne 30 = .ok (.invokevirtual 44, 3) := by decide +kernel
theorem dX3_readOne_33 : decode cX3_readOne 33 = .ok (.ifCond .ne 5, 3) := by decide +kernel
theorem dX3_readOne_36 : decode cX3_readOne 36 = .ok (.iconst 0, 1) := by decide +kernel
theorem dX3_readOne_37 : decode cX3_readOne 37 = .ok (.ireturn, 1) := by decide +kernel
theorem dX3_readOne_38 : decode cX3_readOne 38 = .ok (.iload_n 3, 1) := by decide +kernel
theorem dX3_readOne_39 : decode cX3_readOne 39 = .ok (.bipush 40, 2) := by decide +kernel
theorem dX3_readOne_41 : decode cX3_readOne 41 = .ok (.if_icmp .ne 29, 3) := by decide +kernel
theorem dX3_readOne_44 : decode cX3_readOne 44 = .ok (.aload_n 0, 1) := by decide +kernel
theorem dX3_readOne_45 : decode cX3_readOne 45 = .ok (.aload_n 1, 1) := by decide +kernel
theorem dX3_readOne_46 : decode cX3_readOne 46 = .ok (.iload_n 2, 1) := by decide +kernel
theorem dX3_readOne_47 : decode cX3_readOne 47 = .ok (.iconst 1, 1) := by decide +kernel
theorem dX3_readOne_48 : decode cX3_readOne 48 = .ok (.iadd, 1) := by decide +kernel
theorem dX3_readOne_49 : decode cX3_readOne 49 = .ok (.invokevirtual 60, 3) := by decide +kernel
theorem dX3_readOne_52 : decode cX3_readOne 52 = .ok (.ifCond .eq 16, 3) := by decide +kernel
theorem dX3_readOne_55 : decode cX3_readOne 55 = .ok (.aload_n 1, 1) := by decide +kernel
theorem dX3_readOne_56 : decode cX3_readOne 56 = .ok (.bipush 41, 2) := by decide +kernel
theorem dX3_readOne_58 : decode cX3_readOne 58 = .ok (.invokevirtual 44, 3) := by decide +kernel
theorem dX3_readOne_61 : decode cX3_readOne 61 = .ok (.ifCond .eq 7, 3) := by decide +kernel
theorem dX3_readOne_64 : decode cX3_readOne 64 = .ok (.iconst 1, 1) := by decide +kernel
theorem dX3_readOne_65 : decode cX3_readOne 65 = .ok (.goto 4, 3) := by decide +kernel
theorem dX3_readOne_68 : decode cX3_readOne 68 = .ok (.iconst 0, 1) := by decide +kernel
theorem dX3_readOne_69 : decode cX3_readOne 69 = .ok (.ireturn, 1) := by decide +kernel
theorem dX3_readOne_70 : decode cX3_readOne 70 = .ok (.aload_n 0, 1) := by decide +kernel
theorem dX3_readOne_71 : decode cX3_readOne 71 = .ok (.aload_n 1, 1) := by decide +kernel
theorem dX3_readOne_72 : decode cX3_readOne 72 = .ok (.iload_n 2, 1) := by decide +kernel
theorem dX3_readOne_73 : decode cX3_readOne 73 = .ok (.iconst 1, 1) := by decide +kernel
theorem dX3_readOne_74 : decode cX3_readOne 74 = .ok (.iadd, 1) := by decide +kernel
theorem dX3_readOne_75 : decode cX3_readOne 75 = .ok (.invokevirtual 64, 3) := by decide +kernel
theorem dX3_readOne_78 : decode cX3_readOne 78 = .ok (.ifCond .ne 5, 3) := by decide +kernel
theorem dX3_readOne_81 : decode cX3_readOne 81 = .ok (.iconst 0, 1) := by decide +kernel
theorem dX3_readOne_82 : decode cX3_readOne 82 = .ok (.ireturn, 1) := by decide +kernel
theorem dX3_readOne_83 : decode cX3_readOne 83 = .ok (.aload_n 0, 1) := by decide +kernel
theorem dX3_readOne_84 : decode cX3_readOne 84 = .ok (.iconst (-1), 1) := by decide +kernel
theorem dX3_readOne_85 : decode cX3_readOne 85 = .ok (.invokevirtual 67, 3) := by decide +kernel
theorem dX3_readOne_88 : decode cX3_readOne 88 = .ok (.iconst 1, 1) := by decide +kernel
theorem dX3_readOne_89 : decode cX3_readOne 89 = .ok (.ireturn, 1) := by decide +kernel
theorem dX3_readTest_0 : decode cX3_readTest 0 = .ok (.aload_n 1, 1) := by decide +kernel
theorem dX3_readTest_1 : decode cX3_readTest 1 = .ok (.ldc 74, 2) := by decide +kernel
theorem dX3_readTest_3 : decode cX3_readTest 3 = .ok (.invokevirtual 76, 3) := by decide +kernel
theorem dX3_readTest_6 : decode cX3_readTest 6 = .ok (.istore_n 2, 1) := by decide +kernel
theorem dX3_readTest_7 : decode cX3_readTest 7 = .ok (.iload_n 2, 1) := by decide +kernel
theorem dX3_readTest_8 : decode cX3_readTest 8 = .ok (.ifCond .ge 5, 3) := by decide +kernel
theorem dX3_readTest_11 : decode cX3_readTest 11 = .ok (.iconst 0, 1) := by decide +kernel
theorem dX3_readTest_12 : decode cX3_readTest 12 = .ok (.ireturn, 1) := by decide +kernel
theorem dX3_readTest_13 : decode cX3_readTest 13 = .ok (.aload_n 1, 1) := by decide +kernel
theorem dX3_readTest_14 : decode cX3_readTest 14 = .ok (.ldc 80, 2) := by decide +kernel
theorem dX3_readTest_16 : decode cX3_readTest 16 = .ok (.invokevirtual 76, 3) := by decide +kernel
theorem dX3_readTest_19 : decode cX3_readTest 19 = .ok (.istore_n 3, 1) := by decide +kernel
theorem dX3_readTest_20 : decode cX3_readTest 20 = .ok (.iload_n 3, 1) := by decide +kernel
theorem dX3_readTest_21 : decode cX3_readTest 21 = .ok (.ifCond .ge 5, 3) := by decide +kernel
theorem dX3_readTest_24 : decode cX3_readTest 24 = .ok (.iconst 0, 1) := by decide +kernel
theorem dX3_readTest_25 : decode cX3_readTest 25 = .ok (.ireturn, 1) := by decide +kernel
theorem dX3_readTest_26 : decode cX3_readTest 26 = .ok (.aload_n 1, 1) := by decide +kernel
theorem dX3_readTest_27 : decode cX3_readTest 27 = .ok (.invokevirtual 57, 3) := by decide +kernel
theorem dX3_readTest_30 : decode cX3_readTest 30 = .ok (.istore 4, 2) := by decide +kernel
theorem dX3_readTest_32 : decode cX3_readTest 32 = .ok (.iload 4, 2) := by decide +kernel
theorem dX3_readTest_34 : decode cX3_readTest 34 = .ok (.ifCond .ge 5, 3) := by decide +kernel
theorem dX3_readTest_37 : decode cX3_readTest 37 = .ok (.iconst 0, 1) := by decide +kernel
theorem dX3_readTest_38 : decode cX3_readTest 38 = .ok (.ireturn, 1) := by decide +kernel
theorem dX3_readTest_39 : decode cX3_readTest 39 = .ok (.aload_n 0, 1) := by decide +kernel
theorem dX3_readTest_40 : decode cX3_readTest 40 = .ok (.iload_n 2, 1) := by decide +kernel
theorem dX3_readTest_41 : decode cX3_readTest 41 = .ok (.sipush 1000, 3) := by decide +kernel
theorem dX3_readTest_44 : decode cX3_readTest 44 = .ok (.imul, 1) := by decide +kernel
theorem dX3_readTest_45 : decode cX3_readTest 45 = .ok (.iload_n 3, 1) := by decide +kernel
theorem dX3_readTest_46 : decode cX3_readTest 46 = .ok (.bipush 100, 2) := by decide +kernel
theorem dX3_readTest_48 : decode cX3_readTest 48 = .ok (.imul, 1) := by decide +kernel
theorem dX3_readTest_49 : decode cX3_readTest 49 = .ok (.iadd, 1) := by decide +kernel
theorem dX3_readTest_50 : decode cX3_readTest 50 = .ok (.iload 4, 2) := by decide +kernel
theorem dX3_readTest_52 : decode cX3_readTest 52 = .ok (.iadd, 1) := by decide +kernel
theorem dX3_readTest_53 : decode cX3_readTest 53 = .ok (.invokevirtual 67, 3) := by decide +kernel
theorem dX3_readTest_56 : decode cX3_readTest 56 = .ok (.iconst 1, 1) := by decide +kernel
theorem dX3_readTest_57 : decode cX3_readTest 57 = .ok (.ireturn, 1) := by decide +kernel
theorem dX3_keep_0 : decode cX3_keep 0 = .ok (.aload_n 0, 1) := by decide +kernel
theorem dX3_keep_1 : decode cX3_keep 1 = .ok (.getfield 28, 3) := by decide +kernel
theorem dX3_keep_4 : decode cX3_keep 4 = .ok (.aload_n 0, 1) := by decide +kernel
theorem dX3_keep_5 : decode cX3_keep 5 = .ok (.getfield 25, 3) := by decide +kernel
theorem dX3_keep_8 : decode cX3_keep 8 = .ok (.arraylength, 1) := by decide +kernel
theorem dX3_keep_9 : decode cX3_keep 9 = .ok (.if_icmp .ge 23, 3) := by decide +kernel
theorem dX3_keep_12 : decode cX3_keep 12 = .ok (.aload_n 0, 1) := by decide +kernel
theorem dX3_keep_13 : decode cX3_keep 13 = .ok (.getfield 25, 3) := by decide +kernel
theorem dX3_keep_16 : decode cX3_keep 16 = .ok (.aload_n 0, 1) := by decide +kernel
theorem dX3_keep_17 : decode cX3_keep 17 = .ok (.getfield 28, 3) := by decide +kernel
theorem dX3_keep_20 : decode cX3_keep 20 = .ok (.iload_n 1, 1) := by decide +kernel
theorem dX3_keep_21 : decode cX3_keep 21 = .ok (.iastore, 1) := by decide +kernel
theorem dX3_keep_22 : decode cX3_keep 22 = .ok (.aload_n 0, 1) := by decide +kernel
theorem dX3_keep_23 : decode cX3_keep 23 = .ok (.dup, 1) := by decide +kernel
theorem dX3_keep_24 : decode cX3_keep 24 = .ok (.getfield 28, 3) := by decide +kernel
theorem dX3_keep_27 : decode cX3_keep 27 = .ok (.iconst 1, 1) := by decide +kernel
theorem dX3_keep_28 : decode cX3_keep 28 = .ok (.iadd, 1) := by decide +kernel
theorem dX3_keep_29 : decode cX3_keep 29 = .ok (.putfield 28, 3) := by decide +kernel
theorem dX3_keep_32 : decode cX3_keep 32 = .ok (.return_, 1) := by decide +kernel
theorem dX3_lateness_0 : decode cX3_lateness 0 = .ok (.iconst 0, 1) := by decide +kernel
theorem dX3_lateness_1 : decode cX3_lateness 1 = .ok (.istore_n 3, 1) := by decide +kernel
theorem dX3_lateness_2 : decode cX3_lateness 2 = .ok (.iconst 0, 1) := by decide +kernel
theorem dX3_lateness_3 : decode cX3_lateness 3 = .ok (.istore 4, 2) := by decide +kernel
theorem dX3_lateness_5 : decode cX3_lateness 5 = .ok (.iconst 0, 1) := by decide +kernel
theorem dX3_lateness_6 : decode cX3_lateness 6 = .ok (.istore 5, 2) := by decide +kernel
theorem dX3_lateness_8 : decode cX3_lateness 8 = .ok (.iload 5, 2) := by decide +kernel
theorem dX3_lateness_10 : decode cX3_lateness 10 = .ok (.aload_n 0, 1) := by decide +kernel
theorem dX3_lateness_11 : decode cX3_lateness 11 = .ok (.getfield 15, 3) := by decide +kernel
theorem dX3_lateness_14 : decode cX3_lateness 14 = .ok (.if_icmp .ge 46, 3) := by decide +kernel
theorem dX3_lateness_17 : decode cX3_lateness 17 = .ok (.aload_n 0, 1) := by decide +kernel
theorem dX3_lateness_18 : decode cX3_lateness 18 = .ok (.aload_n 1, 1) := by decide +kernel
theorem dX3_lateness_19 : decode cX3_lateness 19 = .ok (.iload_n 2, 1) := by decide +kernel
theorem dX3_lateness_20 : decode cX3_lateness 20 = .ok (.iload 4, 2) := by decide +kernel
theorem dX3_lateness_22 : decode cX3_lateness 22 = .ok (.aload_n 0, 1) := by decide +kernel
theorem dX3_lateness_23 : decode cX3_lateness 23 = .ok (.getfield 22, 3) := by decide +kernel
theorem dX3_lateness_26 : decode cX3_lateness 26 = .ok (.iload 5, 2) := by decide +kernel
theorem dX3_lateness_28 : decode cX3_lateness 28 = .ok (.iaload, 1) := by decide +kernel
theorem dX3_lateness_29 : decode cX3_lateness 29 = .ok (.invokevirtual 82, 3) := by decide +kernel
theorem dX3_lateness_32 : decode cX3_lateness 32 = .ok (.ifCond .eq 13, 3) := by decide +kernel
theorem dX3_lateness_35 : decode cX3_lateness 35 = .ok (.iload_n 3, 1) := by decide +kernel
theorem dX3_lateness_36 : decode cX3_lateness 36 = .ok (.aload_n 0, 1) := by decide +kernel
theorem dX3_lateness_37 : decode cX3_lateness 37 = .ok (.getfield 18, 3) := by decide +kernel
theorem dX3_lateness_40 : decode cX3_lateness 40 = .ok (.iload 5, 2) := by decide +kernel
theorem dX3_lateness_42 : decode cX3_lateness 42 = .ok (.iaload, 1) := by decide +kernel
theorem dX3_lateness_43 : decode cX3_lateness 43 = .ok (.iadd, 1) := by decide +kernel
theorem dX3_lateness_44 : decode cX3_lateness 44 = .ok (.istore_n 3, 1) := by decide +kernel
theorem dX3_lateness_45 : decode cX3_lateness 45 = .ok (.aload_n 0, 1) := by decide +kernel
theorem dX3_lateness_46 : decode cX3_lateness 46 = .ok (.getfield 22, 3) := by decide +kernel
theorem dX3_lateness_49 : decode cX3_lateness 49 = .ok (.iload 5, 2) := by decide +kernel
theorem dX3_lateness_51 : decode cX3_lateness 51 = .ok (.iaload, 1) := by decide +kernel
theorem dX3_lateness_52 : decode cX3_lateness 52 = .ok (.istore 4, 2) := by decide +kernel
theorem dX3_lateness_54 : decode cX3_lateness 54 = .ok (.iinc 5 1, 3) := by decide +kernel
theorem dX3_lateness_57 : decode cX3_lateness 57 = .ok (.goto (-49), 3) := by decide +kernel
theorem dX3_lateness_60 : decode cX3_lateness 60 = .ok (.iload_n 3, 1) := by decide +kernel
theorem dX3_lateness_61 : decode cX3_lateness 61 = .ok (.ireturn, 1) := by decide +kernel
theorem dX3_holdsFor_0 : decode cX3_holdsFor 0 = .ok (.iconst 0, 1) := by decide +kernel
theorem dX3_holdsFor_1 : decode cX3_holdsFor 1 = .ok (.istore 5, 2) := by decide +kernel
theorem dX3_holdsFor_3 : decode cX3_holdsFor 3 = .ok (.iload_n 3, 1) := by decide +kernel
theorem dX3_holdsFor_4 : decode cX3_holdsFor 4 = .ok (.istore 6, 2) := by decide +kernel
theorem dX3_holdsFor_6 : decode cX3_holdsFor 6 = .ok (.iload 6, 2) := by decide +kernel
theorem dX3_holdsFor_8 : decode cX3_holdsFor 8 = .ok (.iload 4, 2) := by decide +kernel
theorem dX3_holdsFor_10 : decode cX3_holdsFor 10 = .ok (.if_icmp .ge 98, 3) := by decide +kernel
theorem dX3_holdsFor_13 : decode cX3_holdsFor 13 = .ok (.aload_n 0, 1) := by decide +kernel
theorem dX3_holdsFor_14 : decode cX3_holdsFor 14 = .ok (.getfield 25, 3) := by decide +kernel
theorem dX3_holdsFor_17 : decode cX3_holdsFor 17 = .ok (.iload 6, 2) := by decide +kernel
theorem dX3_holdsFor_19 : decode cX3_holdsFor 19 = .ok (.iaload, 1) := by decide +kernel
theorem dX3_holdsFor_20 : decode cX3_holdsFor 20 = .ok (.istore 7, 2) := by decide +kernel
theorem dX3_holdsFor_22 : decode cX3_holdsFor 22 = .ok (.iload 7, 2) := by decide +kernel
theorem dX3_holdsFor_24 : decode cX3_holdsFor 24 = .ok (.iconst (-1), 1) := by decide +kernel
theorem dX3_holdsFor_25 : decode cX3_holdsFor 25 = .ok (.if_icmp .ne 12, 3) := by decide +kernel
theorem dX3_holdsFor_28 : decode cX3_holdsFor 28 = .ok (.iload 5, 2) := by decide +kernel
theorem dX3_holdsFor_30 : decode cX3_holdsFor 30 = .ok (.iconst 1, 1) := by decide +kernel
theorem dX3_holdsFor_31 : decode cX3_holdsFor 31 = .ok (.ixor, 1) := by decide +kernel
theorem dX3_holdsFor_32 : decode cX3_holdsFor 32 = .ok (.istore 5, 2) := by decide +kernel
theorem dX3_holdsFor_34 : decode cX3_holdsFor 34 = .ok (.goto 68, 3) := by decide +kernel
theorem dX3_holdsFor_37 : decode cX3_holdsFor 37 = .ok (.iload 7, 2) := by decide +kernel
theorem dX3_holdsFor_39 : decode cX3_holdsFor 39 = .ok (.bipush (-2), 2) := by decide +kernel
theorem dX3_holdsFor_41 : decode cX3_holdsFor 41 = .ok (.if_icmp .ne 18, 3) := by decide +kernel
theorem dX3_holdsFor_44 : decode cX3_holdsFor 44 = .ok (.iload 5, 2) := by decide +kernel
theorem dX3_holdsFor_46 : decode cX3_holdsFor 46 = .ok (.iconst 1, 1) := by decide +kernel
theorem dX3_holdsFor_47 : decode cX3_holdsFor 47 = .ok (.ishr, 1) := by decide +kernel
theorem dX3_holdsFor_48 : decode cX3_holdsFor 48 = .ok (.iload 5, 2) := by decide +kernel
theorem dX3_holdsFor_50 : decode cX3_holdsFor 50 = .ok (.bipush (-2), 2) := by decide +kernel
theorem dX3_holdsFor_52 : decode cX3_holdsFor 52 = .ok (.ior, 1) := by decide +kernel
theorem dX3_holdsFor_53 : decode cX3_holdsFor 53 = .ok (.iand, 1) := by decide +kernel
theorem dX3_holdsFor_54 : decode cX3_holdsFor 54 = .ok (.istore 5, 2) := by decide +kernel
theorem dX3_holdsFor_56 : decode cX3_holdsFor 56 = .ok (.goto 46, 3) := by decide +kernel
theorem dX3_holdsFor_59 : decode cX3_holdsFor 59 = .ok (.iload 7, 2) := by decide +kernel
theorem dX3_holdsFor_61 : decode cX3_holdsFor 61 = .ok (.bipush (-3), 2) := by decide +kernel
theorem dX3_holdsFor_63 : decode cX3_holdsFor 63 = .ok (.if_icmp .ne 17, 3) := by decide +kernel
theorem dX3_holdsFor_66 : decode cX3_holdsFor 66 = .ok (.iload 5, 2) := by decide +kernel
theorem dX3_holdsFor_68 : decode cX3_holdsFor 68 = .ok (.iconst 1, 1) := by decide +kernel
theorem dX3_holdsFor_69 : decode cX3_holdsFor 69 = .ok (.ishr, 1) := by decide +kernel
theorem dX3_holdsFor_70 : decode cX3_holdsFor 70 = .ok (.iload 5, 2) := by decide +kernel
theorem dX3_holdsFor_72 : decode cX3_holdsFor 72 = .ok (.iconst 1, 1) := by decide +kernel
theorem dX3_holdsFor_73 : decode cX3_holdsFor 73 = .ok (.iand, 1) := by decide +kernel
theorem dX3_holdsFor_74 : decode cX3_holdsFor 74 = .ok (.ior, 1) := by decide +kernel
theorem dX3_holdsFor_75 : decode cX3_holdsFor 75 = .ok (.istore 5, 2) := by decide +kernel
theorem dX3_holdsFor_77 : decode cX3_holdsFor 77 = .ok (.goto 25, 3) := by decide +kernel
theorem dX3_holdsFor_80 : decode cX3_holdsFor 80 = .ok (.iload 5, 2) := by decide +kernel
theorem dX3_holdsFor_82 : decode cX3_holdsFor 82 = .ok (.iconst 1, 1) := by decide +kernel
theorem dX3_holdsFor_83 : decode cX3_holdsFor 83 = .ok (.ishl, 1) := by decide +kernel
theorem dX3_holdsFor_84 : decode cX3_holdsFor 84 = .ok (.iload 7, 2) := by decide +kernel
theorem dX3_holdsFor_86 : decode cX3_holdsFor 86 = .ok (.aload_n 1, 1) := by decide +kernel
theorem dX3_holdsFor_87 : decode cX3_holdsFor 87 = .ok (.iload_n 2, 1) := by decide +kernel
theorem dX3_holdsFor_88 : decode cX3_holdsFor 88 = .ok (.invokestatic 86, 3) := by decide +kernel
theorem dX3_holdsFor_91 : decode cX3_holdsFor 91 = .ok (.ifCond .eq 7, 3) := by decide +kernel
theorem dX3_holdsFor_94 : decode cX3_holdsFor 94 = .ok (.iconst 1, 1) := by decide +kernel
theorem dX3_holdsFor_95 : decode cX3_holdsFor 95 = .ok (.goto 4, 3) := by decide +kernel
theorem dX3_holdsFor_98 : decode cX3_holdsFor 98 = .ok (.iconst 0, 1) := by decide +kernel
theorem dX3_holdsFor_99 : decode cX3_holdsFor 99 = .ok (.ior, 1) := by decide +kernel
theorem dX3_holdsFor_100 : decode cX3_holdsFor 100 = .ok (.istore 5, 2) := by decide +kernel
theorem dX3_holdsFor_102 : decode cX3_holdsFor 102 = .ok (.iinc 6 1, 3) := by decide +kernel
theorem dX3_holdsFor_105 : decode cX3_holdsFor 105 = .ok (.goto (-99), 3) := by decide +kernel
theorem dX3_holdsFor_108 : decode cX3_holdsFor 108 = .ok (.iload 5, 2) := by decide +kernel
theorem dX3_holdsFor_110 : decode cX3_holdsFor 110 = .ok (.iconst 1, 1) := by decide +kernel
theorem dX3_holdsFor_111 : decode cX3_holdsFor 111 = .ok (.iand, 1) := by decide +kernel
theorem dX3_holdsFor_112 : decode cX3_holdsFor 112 = .ok (.iconst 1, 1) := by decide +kernel
theorem dX3_holdsFor_113 : decode cX3_holdsFor 113 = .ok (.if_icmp .ne 7, 3) := by decide +kernel
theorem dX3_holdsFor_116 : decode cX3_holdsFor 116 = .ok (.iconst 1, 1) := by decide +kernel
theorem dX3_holdsFor_117 : decode cX3_holdsFor 117 = .ok (.goto 4, 3) := by decide +kernel
theorem dX3_holdsFor_120 : decode cX3_holdsFor 120 = .ok (.iconst 0, 1) := by decide +kernel
theorem dX3_holdsFor_121 : decode cX3_holdsFor 121 = .ok (.ireturn, 1) := by decide +kernel
theorem dX3_passes_0 : decode cX3_passes 0 = .ok (.iload_n 0, 1) := by decide +kernel
theorem dX3_passes_1 : decode cX3_passes 1 = .ok (.sipush 1000, 3) := by decide +kernel
theorem dX3_passes_4 : decode cX3_passes 4 = .ok (.idiv, 1) := by decide +kernel
theorem dX3_passes_5 : decode cX3_passes 5 = .ok (.istore_n 3, 1) := by decide +kernel
theorem dX3_passes_6 : decode cX3_passes 6 = .ok (.iload_n 0, 1) := by decide +kernel
theorem dX3_passes_7 : decode cX3_passes 7 = .ok (.bipush 100, 2) := by decide +kernel
theorem dX3_passes_9 : decode cX3_passes 9 = .ok (.idiv, 1) := by decide +kernel
theorem dX3_passes_10 : decode cX3_passes 10 = .ok (.bipush 10, 2) := by decide +kernel
theorem dX3_passes_12 : decode cX3_passes 12 = .ok (.irem, 1) := by decide +kernel
theorem dX3_passes_13 : decode cX3_passes 13 = .ok (.istore 4, 2) := by decide +kernel
theorem dX3_passes_15 : decode cX3_passes 15 = .ok (.iload_n 0, 1) := by decide +kernel
theorem dX3_passes_16 : decode cX3_passes 16 = .ok (.bipush 100, 2) := by decide +kernel
theorem dX3_passes_18 : decode cX3_passes 18 = .ok (.irem, 1) := by decide +kernel
theorem dX3_passes_19 : decode cX3_passes 19 = .ok (.istore 5, 2) := by decide +kernel
theorem dX3_passes_21 : decode cX3_passes 21 = .ok (.iload_n 3, 1) := by decide +kernel
theorem dX3_passes_22 : decode cX3_passes 22 = .ok (.ifCond .ne 7, 3) := by decide +kernel
theorem dX3_passes_25 : decode cX3_passes 25 = .ok (.iload_n 2, 1) := by decide +kernel
theorem dX3_passes_26 : decode cX3_passes 26 = .ok (.goto 10, 3) := by decide +kernel
theorem dX3_passes_29 : decode cX3_passes 29 = .ok (.aload_n 1, 1) := by decide +kernel
theorem dX3_passes_30 : decode cX3_passes 30 = .ok (.iconst 0, 1) := by decide +kernel
theorem dX3_passes_31 : decode cX3_passes 31 = .ok (.iload_n 3, 1) := by decide +kernel
theorem dX3_passes_32 : decode cX3_passes 32 = .ok (.iadd, 1) := by decide +kernel
theorem dX3_passes_33 : decode cX3_passes 33 = .ok (.iconst 1, 1) := by decide +kernel
theorem dX3_passes_34 : decode cX3_passes 34 = .ok (.isub, 1) := by decide +kernel
theorem dX3_passes_35 : decode cX3_passes 35 = .ok (.iaload, 1) := by decide +kernel
theorem dX3_passes_36 : decode cX3_passes 36 = .ok (.istore 6, 2) := by decide +kernel
theorem dX3_passes_38 : decode cX3_passes 38 = .ok (.iload 4, 2) := by decide +kernel
theorem dX3_passes_40 : decode cX3_passes 40 = .ok (.ifCond .ne 18, 3) := by decide +kernel
theorem dX3_passes_43 : decode cX3_passes 43 = .ok (.iload 6, 2) := by decide +kernel
theorem dX3_passes_45 : decode cX3_passes 45 = .ok (.iload 5, 2) := by decide +kernel
theorem dX3_passes_47 : decode cX3_passes 47 = .ok (.if_icmp .ge 7, 3) := by decide +kernel
theorem dX3_passes_50 : decode cX3_passes 50 = .ok (.iconst 1, 1) := by decide +kernel
theorem dX3_passes_51 : decode cX3_passes 51 = .ok (.goto 40, 3) := by decide +kernel
theorem dX3_passes_54 : decode cX3_passes 54 = .ok (.iconst 0, 1) := by decide +kernel
theorem dX3_passes_55 : decode cX3_passes 55 = .ok (.goto 36, 3) := by decide +kernel
theorem dX3_passes_58 : decode cX3_passes 58 = .ok (.iload 4, 2) := by decide +kernel
theorem dX3_passes_60 : decode cX3_passes 60 = .ok (.iconst 1, 1) := by decide +kernel
theorem dX3_passes_61 : decode cX3_passes 61 = .ok (.if_icmp .ne 18, 3) := by decide +kernel
theorem dX3_passes_64 : decode cX3_passes 64 = .ok (.iload 6, 2) := by decide +kernel
theorem dX3_passes_66 : decode cX3_passes 66 = .ok (.iload 5, 2) := by decide +kernel
theorem dX3_passes_68 : decode cX3_passes 68 = .ok (.if_icmp .ne 7, 3) := by decide +kernel
theorem dX3_passes_71 : decode cX3_passes 71 = .ok (.iconst 1, 1) := by decide +kernel
theorem dX3_passes_72 : decode cX3_passes 72 = .ok (.goto 19, 3) := by decide +kernel
theorem dX3_passes_75 : decode cX3_passes 75 = .ok (.iconst 0, 1) := by decide +kernel
theorem dX3_passes_76 : decode cX3_passes 76 = .ok (.goto 15, 3) := by decide +kernel
theorem dX3_passes_79 : decode cX3_passes 79 = .ok (.iload 6, 2) := by decide +kernel
theorem dX3_passes_81 : decode cX3_passes 81 = .ok (.iload 5, 2) := by decide +kernel
theorem dX3_passes_83 : decode cX3_passes 83 = .ok (.if_icmp .le 7, 3) := by decide +kernel
theorem dX3_passes_86 : decode cX3_passes 86 = .ok (.iconst 1, 1) := by decide +kernel
theorem dX3_passes_87 : decode cX3_passes 87 = .ok (.goto 4, 3) := by decide +kernel
theorem dX3_passes_90 : decode cX3_passes 90 = .ok (.iconst 0, 1) := by decide +kernel
theorem dX3_passes_91 : decode cX3_passes 91 = .ok (.ireturn, 1) := by decide +kernel
theorem dX4_init_0 : decode cX4_init 0 = .ok (.aload_n 0, 1) := by decide +kernel
theorem dX4_init_1 : decode cX4_init 1 = .ok (.invokespecial 3, 3) := by decide +kernel
theorem dX4_init_4 : decode cX4_init 4 = .ok (.aload_n 0, 1) := by decide +kernel
theorem dX4_init_5 : decode cX4_init 5 = .ok (.iconst (-1), 1) := by decide +kernel
theorem dX4_init_6 : decode cX4_init 6 = .ok (.putfield 9, 3) := by decide +kernel
theorem dX4_init_9 : decode cX4_init 9 = .ok (.aload_n 0, 1) := by decide +kernel
theorem dX4_init_10 : decode cX4_init 10 = .ok (.iconst 0, 1) := by decide +kernel
theorem dX4_init_11 : decode cX4_init 11 = .ok (.putfield 15, 3) := by decide +kernel
theorem dX4_init_14 : decode cX4_init 14 = .ok (.aload_n 0, 1) := by decide +kernel
theorem dX4_init_15 : decode cX4_init 15 = .ok (.bipush 60, 2) := by decide +kernel
theorem dX4_init_17 : decode cX4_init 17 = .ok (.newarray .long, 2) := by decide +kernel
theorem dX4_init_19 : decode cX4_init 19 = .ok (.putfield 18, 3) := by decide +kernel
theorem dX4_init_22 : decode cX4_init 22 = .ok (.return_, 1) := by decide +kernel
theorem dX4_becomes_0 : decode cX4_becomes 0 = .ok (.aload_n 0, 1) := by decide +kernel
theorem dX4_becomes_1 : decode cX4_becomes 1 = .ok (.iload_n 1, 1) := by decide +kernel
theorem dX4_becomes_2 : decode cX4_becomes 2 = .ok (.putfield 9, 3) := by decide +kernel
theorem dX4_becomes_5 : decode cX4_becomes 5 = .ok (.aload_n 0, 1) := by decide +kernel
theorem dX4_becomes_6 : decode cX4_becomes 6 = .ok (.iload_n 2, 1) := by decide +kernel
theorem dX4_becomes_7 : decode cX4_becomes 7 = .ok (.bipush 60, 2) := by decide +kernel
theorem dX4_becomes_9 : decode cX4_becomes 9 = .ok (.invokestatic 22, 3) := by decide +kernel
theorem dX4_becomes_12 : decode cX4_becomes 12 = .ok (.putfield 15, 3) := by decide +kernel
theorem dX4_becomes_15 : decode cX4_becomes 15 = .ok (.aload_n 0, 1) := by decide +kernel
theorem dX4_becomes_16 : decode cX4_becomes 16 = .ok (.getfield 18, 3) := by decide +kernel
theorem dX4_becomes_19 : decode cX4_becomes 19 = .ok (.lconst 0, 1) := by decide +kernel
theorem dX4_becomes_20 : decode cX4_becomes 20 = .ok (.invokestatic 28, 3) := by decide +kernel
theorem dX4_becomes_23 : decode cX4_becomes 23 = .ok (.return_, 1) := by decide +kernel
theorem dX4_asItem_0 : decode cX4_asItem 0 = .ok (.aload_n 0, 1) := by decide +kernel
theorem dX4_asItem_1 : decode cX4_asItem 1 = .ok (.getfield 9, 3) := by decide +kernel
theorem dX4_asItem_4 : decode cX4_asItem 4 = .ok (.tableswitch 62 0 4 #[36, 41, 46, 62, 50], 36) := by decide +kernel
theorem dX4_asItem_40 : decode cX4_asItem 40 = .ok (.lload_n 1, 1) := by decide +kernel
theorem dX4_asItem_41 : decode cX4_asItem 41 = .ok (.l2i, 1) := by decide +kernel
theorem dX4_asItem_42 : decode cX4_asItem 42 = .ok (.i2b, 1) := by decide +kernel
theorem dX4_asItem_43 : decode cX4_asItem 43 = .ok (.i2l, 1) := by decide +kernel
theorem dX4_asItem_44 : decode cX4_asItem 44 = .ok (.lreturn, 1) := by decide +kernel
theorem dX4_asItem_45 : decode cX4_asItem 45 = .ok (.lload_n 1, 1) := by decide +kernel
theorem dX4_asItem_46 : decode cX4_asItem 46 = .ok (.l2i, 1) := by decide +kernel
theorem dX4_asItem_47 : decode cX4_asItem 47 = .ok (.i2s, 1) := by decide +kernel
theorem dX4_asItem_48 : decode cX4_asItem 48 = .ok (.i2l, 1) := by decide +kernel
theorem dX4_asItem_49 : decode cX4_asItem 49 = .ok (.lreturn, 1) := by decide +kernel
theorem dX4_asItem_50 : decode cX4_asItem 50 = .ok (.lload_n 1, 1) := by decide +kernel
theorem dX4_asItem_51 : decode cX4_asItem 51 = .ok (.l2i, 1) := by decide +kernel
theorem dX4_asItem_52 : decode cX4_asItem 52 = .ok (.i2l, 1) := by decide +kernel
theorem dX4_asItem_53 : decode cX4_asItem 53 = .ok (.lreturn, 1) := by decide +kernel
theorem dX4_asItem_54 : decode cX4_asItem 54 = .ok (.lload_n 1, 1) := by decide +kernel
theorem dX4_asItem_55 : decode cX4_asItem 55 = .ok (.lconst 0, 1) := by decide +kernel
theorem dX4_asItem_56 : decode cX4_asItem 56 = .ok (.lcmp, 1) := by decide +kernel
theorem dX4_asItem_57 : decode cX4_asItem 57 = .ok (.ifCond .eq 7, 3) := by decide +kernel
theorem dX4_asItem_60 : decode cX4_asItem 60 = .ok (.lconst 1, 1) := by decide +kernel
theorem dX4_asItem_61 : decode cX4_asItem 61 = .ok (.goto 4, 3) := by decide +kernel
theorem dX4_asItem_64 : decode cX4_asItem 64 = .ok (.lconst 0, 1) := by decide +kernel
theorem dX4_asItem_65 : decode cX4_asItem 65 = .ok (.lreturn, 1) := by decide +kernel
theorem dX4_asItem_66 : decode cX4_asItem 66 = .ok (.lload_n 1, 1) := by decide +kernel
theorem dX4_asItem_67 : decode cX4_asItem 67 = .ok (.lreturn, 1) := by decide +kernel
theorem dX4_hasRoom_0 : decode cX4_hasRoom 0 = .ok (.iload_n 1, 1) := by decide +kernel
theorem dX4_hasRoom_1 : decode cX4_hasRoom 1 = .ok (.ifCond .lt 21, 3) := by decide +kernel
theorem dX4_hasRoom_4 : decode cX4_hasRoom 4 = .ok (.iload_n 2, 1) := by decide +kernel
theorem dX4_hasRoom_5 : decode cX4_hasRoom 5 = .ok (.ifCond .lt 17, 3) := by decide +kernel
theorem dX4_hasRoom_8 : decode cX4_hasRoom 8 = .ok (.iload_n 1, 1) := by decide +kernel
theorem dX4_hasRoom_9 : decode cX4_hasRoom 9 = .ok (.aload_n 0, 1) := by decide +kernel
theorem dX4_hasRoom_10 : decode cX4_hasRoom 10 = .ok (.getfield 15, 3) := by decide +kernel
theorem dX4_hasRoom_13 : decode cX4_hasRoom 13 = .ok (.iload_n 2, 1) := by decide +kernel
theorem dX4_hasRoom_14 : decode cX4_hasRoom 14 = .ok (.isub, 1) := by decide +kernel
theorem dX4_hasRoom_15 : decode cX4_hasRoom 15 = .ok (.if_icmp .gt 7, 3) := by decide +kernel
theorem dX4_hasRoom_18 : decode cX4_hasRoom 18 = .ok (.iconst 1, 1) := by decide +kernel
theorem dX4_hasRoom_19 : decode cX4_hasRoom 19 = .ok (.goto 4, 3) := by decide +kernel
theorem dX4_hasRoom_22 : decode cX4_hasRoom 22 = .ok (.iconst 0, 1) := by decide +kernel
theorem dX4_hasRoom_23 : decode cX4_hasRoom 23 = .ok (.ireturn, 1) := by decide +kernel
theorem dX5_init_0 : decode cX5_init 0 = .ok (.aload_n 0, 1) := by decide +kernel
theorem dX5_init_1 : decode cX5_init 1 = .ok (.invokespecial 3, 3) := by decide +kernel
theorem dX5_init_4 : decode cX5_init 4 = .ok (.aload_n 0, 1) := by decide +kernel
theorem dX5_init_5 : decode cX5_init 5 = .ok (.bipush 100, 2) := by decide +kernel
theorem dX5_init_7 : decode cX5_init 7 = .ok (.newarray .byte, 2) := by decide +kernel
theorem dX5_init_9 : decode cX5_init 9 = .ok (.putfield 9, 3) := by decide +kernel
theorem dX5_init_12 : decode cX5_init 12 = .ok (.aload_n 0, 1) := by decide +kernel
theorem dX5_init_13 : decode cX5_init 13 = .ok (.iconst 0, 1) := by decide +kernel
theorem dX5_init_14 : decode cX5_init 14 = .ok (.putfield 15, 3) := by decide +kernel
theorem dX5_init_17 : decode cX5_init 17 = .ok (.aload_n 0, 1) := by decide +kernel
theorem dX5_init_18 : decode cX5_init 18 = .ok (.iconst 0, 1) := by decide +kernel
theorem dX5_init_19 : decode cX5_init 19 = .ok (.putfield 19, 3) := by decide +kernel
theorem dX5_init_22 : decode cX5_init 22 = .ok (.return_, 1) := by decide +kernel
theorem dX5_add_0 : decode cX5_add 0 = .ok (.aload_n 0, 1) := by decide +kernel
theorem dX5_add_1 : decode cX5_add 1 = .ok (.getfield 15, 3) := by decide +kernel
theorem dX5_add_4 : decode cX5_add 4 = .ok (.aload_n 0, 1) := by decide +kernel
theorem dX5_add_5 : decode cX5_add 5 = .ok (.getfield 9, 3) := by decide +kernel
theorem dX5_add_8 : decode cX5_add 8 = .ok (.arraylength, 1) := by decide +kernel
theorem dX5_add_9 : decode cX5_add 9 = .ok (.if_icmp .lt 6, 3) := by decide +kernel
theorem dX5_add_12 : decode cX5_add 12 = .ok (.bipush (-4), 2) := by decide +kernel
theorem dX5_add_14 : decode cX5_add 14 = .ok (.ireturn, 1) := by decide +kernel
theorem dX5_add_15 : decode cX5_add 15 = .ok (.aload_n 0, 1) := by decide +kernel
theorem dX5_add_16 : decode cX5_add 16 = .ok (.getfield 9, 3) := by decide +kernel
theorem dX5_add_19 : decode cX5_add 19 = .ok (.aload_n 0, 1) := by decide +kernel
theorem dX5_add_20 : decode cX5_add 20 = .ok (.getfield 15, 3) := by decide +kernel
theorem dX5_add_23 : decode cX5_add 23 = .ok (.iload_n 1, 1) := by decide +kernel
theorem dX5_add_24 : decode cX5_add 24 = .ok (.i2b, 1) := by decide +kernel
theorem dX5_add_25 : decode cX5_add 25 = .ok (.bastore, 1) := by decide +kernel
theorem dX5_add_26 : decode cX5_add 26 = .ok (.aload_n 0, 1) := by decide +kernel
theorem dX5_add_27 : decode cX5_add 27 = .ok (.dup, 1) := by decide +kernel
theorem dX5_add_28 : decode cX5_add 28 = .ok (.getfield 15, 3) := by decide +kernel
theorem dX5_add_31 : decode cX5_add 31 = .ok (.iconst 1, 1) := by decide +kernel
theorem dX5_add_32 : decode cX5_add 32 = .ok (.iadd, 1) := by decide +kernel
theorem dX5_add_33 : decode cX5_add 33 = .ok (.putfield 15, 3) := by decide +kernel
theorem dX5_add_36 : decode cX5_add 36 = .ok (.aload_n 0, 1) := by decide +kernel
theorem dX5_add_37 : decode cX5_add 37 = .ok (.getfield 15, 3) := by decide +kernel
theorem dX5_add_40 : decode cX5_add 40 = .ok (.ireturn, 1) := by decide +kernel
theorem dX5_empty_0 : decode cX5_empty 0 = .ok (.aload_n 0, 1) := by decide +kernel
theorem dX5_empty_1 : decode cX5_empty 1 = .ok (.iconst 0, 1) := by decide +kernel
theorem dX5_empty_2 : decode cX5_empty 2 = .ok (.putfield 15, 3) := by decide +kernel
theorem dX5_empty_5 : decode cX5_empty 5 = .ok (.return_, 1) := by decide +kernel
theorem dX5_next_0 : decode cX5_next 0 = .ok (.aload_n 0, 1) := by decide +kernel
theorem dX5_next_1 : decode cX5_next 1 = .ok (.getfield 19, 3) := by decide +kernel
theorem dX5_next_4 : decode cX5_next 4 = .ok (.ifCond .lt 26, 3) := by decide +kernel
theorem dX5_next_7 : decode cX5_next 7 = .ok (.aload_n 0, 1) := by decide +kernel
theorem dX5_next_8 : decode cX5_next 8 = .ok (.getfield 19, 3) := by decide +kernel
theorem dX5_next_11 : decode cX5_next 11 = .ok (.aload_n 0, 1) := by decide +kernel
theorem dX5_next_12 : decode cX5_next 12 = .ok (.getfield 15, 3) := by decide +kernel
theorem dX5_next_15 : decode cX5_next 15 = .ok (.if_icmp .ge 15, 3) := by decide +kernel
theorem dX5_next_18 : decode cX5_next 18 = .ok (.aload_n 0, 1) := by decide +kernel
theorem dX5_next_19 : decode cX5_next 19 = .ok (.getfield 9, 3) := by decide +kernel
theorem dX5_next_22 : decode cX5_next 22 = .ok (.aload_n 0, 1) := by decide +kernel
theorem dX5_next_23 : decode cX5_next 23 = .ok (.getfield 19, 3) := by decide +kernel
theorem dX5_next_26 : decode cX5_next 26 = .ok (.baload, 1) := by decide +kernel
theorem dX5_next_27 : decode cX5_next 27 = .ok (.goto 4, 3) := by decide +kernel
theorem dX5_next_30 : decode cX5_next 30 = .ok (.iconst (-1), 1) := by decide +kernel
theorem dX5_next_31 : decode cX5_next 31 = .ok (.ireturn, 1) := by decide +kernel
theorem dX5_takeSign_0 : decode cX5_takeSign 0 = .ok (.aload_n 0, 1) := by decide +kernel
theorem dX5_takeSign_1 : decode cX5_takeSign 1 = .ok (.invokevirtual 22, 3) := by decide +kernel
theorem dX5_takeSign_4 : decode cX5_takeSign 4 = .ok (.iload_n 1, 1) := by decide +kernel
theorem dX5_takeSign_5 : decode cX5_takeSign 5 = .ok (.if_icmp .eq 5, 3) := by decide +kernel
theorem dX5_takeSign_8 : decode cX5_takeSign 8 = .ok (.iconst 0, 1) := by decide +kernel
theorem dX5_takeSign_9 : decode cX5_takeSign 9 = .ok (.ireturn, 1) := by decide +kernel
theorem dX5_takeSign_10 : decode cX5_takeSign 10 = .ok (.aload_n 0, 1) := by decide +kernel
theorem dX5_takeSign_11 : decode cX5_takeSign 11 = .ok (.dup, 1) := by decide +kernel
theorem dX5_takeSign_12 : decode cX5_takeSign 12 = .ok (.getfield 19, 3) := by decide +kernel
theorem dX5_takeSign_15 : decode cX5_takeSign 15 = .ok (.iconst 1, 1) := by decide +kernel
theorem dX5_takeSign_16 : decode cX5_takeSign 16 = .ok (.iadd, 1) := by decide +kernel
theorem dX5_takeSign_17 : decode cX5_takeSign 17 = .ok (.putfield 19, 3) := by decide +kernel
theorem dX5_takeSign_20 : decode cX5_takeSign 20 = .ok (.iconst 1, 1) := by decide +kernel
theorem dX5_takeSign_21 : decode cX5_takeSign 21 = .ok (.ireturn, 1) := by decide +kernel
theorem dX5_takeWord_0 : decode cX5_takeWord 0 = .ok (.iconst 0, 1) := by decide +kernel
theorem dX5_takeWord_1 : decode cX5_takeWord 1 = .ok (.istore_n 2, 1) := by decide +kernel
theorem dX5_takeWord_2 : decode cX5_takeWord 2 = .ok (.iload_n 2, 1) := by decide +kernel
theorem dX5_takeWord_3 : decode cX5_takeWord 3 = .ok (.aload_n 1, 1) := by decide +kernel
theorem dX5_takeWord_4 : decode cX5_takeWord 4 = .ok (.invokevirtual 26, 3) := by decide +kernel
theorem dX5_takeWord_7 : decode cX5_takeWord 7 = .ok (.if_icmp .ge 23, 3) := by decide +kernel
theorem dX5_takeWord_10 : decode cX5_takeWord 10 = .ok (.aload_n 0, 1) := by decide +kernel
theorem dX5_takeWord_11 : decode cX5_takeWord 11 = .ok (.aload_n 1, 1) := by decide +kernel
theorem dX5_takeWord_12 : decode cX5_takeWord 12 = .ok (.iload_n 2, 1) := by decide +kernel
theorem dX5_takeWord_13 : decode cX5_takeWord 13 = .ok (.invokevirtual 30, 3) := by decide +kernel
theorem dX5_takeWord_16 : decode cX5_takeWord 16 = .ok (.invokevirtual 34, 3) := by decide +kernel
theorem dX5_takeWord_19 : decode cX5_takeWord 19 = .ok (.ifCond .ne 5, 3) := by decide +kernel
theorem dX5_takeWord_22 : decode cX5_takeWord 22 = .ok (.iconst 0, 1) := by decide +kernel
theorem dX5_takeWord_23 : decode cX5_takeWord 23 = .ok (.ireturn, 1) := by decide +kernel
theorem dX5_takeWord_24 : decode cX5_takeWord 24 = .ok (.iinc 2 1, 3) := by decide +kernel
theorem dX5_takeWord_27 : decode cX5_takeWord 27 = .ok (.goto (-25), 3) := by decide +kernel
theorem dX5_takeWord_30 : decode cX5_takeWord 30 = .ok (.iconst 1, 1) := by decide +kernel
theorem dX5_takeWord_31 : decode cX5_takeWord 31 = .ok (.ireturn, 1) := by decide +kernel
theorem dX5_takeOneOf_0 : decode cX5_takeOneOf 0 = .ok (.aload_n 0, 1) := by decide +kernel
theorem dX5_takeOneOf_1 : decode cX5_takeOneOf 1 = .ok (.getfield 19, 3) := by decide +kernel
theorem dX5_takeOneOf_4 : decode cX5_takeOneOf 4 = .ok (.ifCond .lt 18, 3) := by decide +kernel
theorem dX5_takeOneOf_7 : decode cX5_takeOneOf 7 = .ok (.aload_n 0, 1) := by decide +kernel
theorem dX5_takeOneOf_8 : decode cX5_takeOneOf 8 = .ok (.getfield 19, 3) := by decide +kernel
theorem dX5_takeOneOf_11 : decode cX5_takeOneOf 11 = .ok (.aload_n 0, 1) := by decide +kernel
theorem dX5_takeOneOf_12 : decode cX5_takeOneOf 12 = .ok (.getfield 15, 3) := by decide +kernel
theorem dX5_takeOneOf_15 : decode cX5_takeOneOf 15 = .ok (.if_icmp .ge 7, 3) := by decide +kernel
theorem dX5_takeOneOf_18 : decode cX5_takeOneOf 18 = .ok (.iconst 1, 1) := by decide +kernel
theorem dX5_takeOneOf_19 : decode cX5_takeOneOf 19 = .ok (.goto 4, 3) := by decide +kernel
theorem dX5_takeOneOf_22 : decode cX5_takeOneOf 22 = .ok (.iconst 0, 1) := by decide +kernel
theorem dX5_takeOneOf_23 : decode cX5_takeOneOf 23 = .ok (.istore_n 2, 1) := by decide +kernel
theorem dX5_takeOneOf_24 : decode cX5_takeOneOf 24 = .ok (.iload_n 2, 1) := by decide +kernel
theorem dX5_takeOneOf_25 : decode cX5_takeOneOf 25 = .ok (.ifCond .eq 20, 3) := by decide +kernel
theorem dX5_takeOneOf_28 : decode cX5_takeOneOf 28 = .ok (.aload_n 1, 1) := by decide +kernel
theorem dX5_takeOneOf_29 : decode cX5_takeOneOf 29 = .ok (.aload_n 0, 1) := by decide +kernel
theorem dX5_takeOneOf_30 : decode cX5_takeOneOf 30 = .ok (.getfield 9, 3) := by decide +kernel
theorem dX5_takeOneOf_33 : decode cX5_takeOneOf 33 = .ok (.aload_n 0, 1) := by decide +kernel
theorem dX5_takeOneOf_34 : decode cX5_takeOneOf 34 = .ok (.getfield 19, 3) := by decide +kernel
theorem dX5_takeOneOf_37 : decode cX5_takeOneOf 37 = .ok (.baload, 1) := by decide +kernel
theorem dX5_takeOneOf_38 : decode cX5_takeOneOf 38 = .ok (.i2c, 1) := by decide +kernel
theorem dX5_takeOneOf_39 : decode cX5_takeOneOf 39 = .ok (.invokevirtual 38, 3) := by decide +kernel
theorem dX5_takeOneOf_42 : decode cX5_takeOneOf 42 = .ok (.goto 4, 3) := by decide +kernel
theorem dX5_takeOneOf_45 : decode cX5_takeOneOf 45 = .ok (.iconst (-1), 1) := by decide +kernel
theorem dX5_takeOneOf_46 : decode cX5_takeOneOf 46 = .ok (.istore_n 3, 1) := by decide +kernel
theorem dX5_takeOneOf_47 : decode cX5_takeOneOf 47 = .ok (.iload_n 3, 1) := by decide +kernel
theorem dX5_takeOneOf_48 : decode cX5_takeOneOf 48 = .ok (.ifCond .lt 13, 3) := by decide +kernel
theorem dX5_takeOneOf_51 : decode cX5_takeOneOf 51 = .ok (.aload_n 0, 1) := by decide +kernel
theorem dX5_takeOneOf_52 : decode cX5_takeOneOf 52 = .ok (.dup, 1) := by decide +kernel
theorem dX5_takeOneOf_53 : decode cX5_takeOneOf 53 = .ok (.getfield 19, 3) := by decide +kernel
theorem dX5_takeOneOf_56 : decode cX5_takeOneOf 56 = .ok (.iconst 1, 1) := by decide +kernel
theorem dX5_takeOneOf_57 : decode cX5_takeOneOf 57 = .ok (.iadd, 1) := by decide +kernel
theorem dX5_takeOneOf_58 : decode cX5_takeOneOf 58 = .ok (.putfield 19, 3) := by decide +kernel
theorem dX5_takeOneOf_61 : decode cX5_takeOneOf 61 = .ok (.iload_n 3, 1) := by decide +kernel
theorem dX5_takeOneOf_62 : decode cX5_takeOneOf 62 = .ok (.ireturn, 1) := by decide +kernel
theorem dX5_takeNumber_0 : decode cX5_takeNumber 0 = .ok (.aload_n 0, 1) := by decide +kernel
theorem dX5_takeNumber_1 : decode cX5_takeNumber 1 = .ok (.ldc 42, 2) := by decide +kernel
theorem dX5_takeNumber_3 : decode cX5_takeNumber 3 = .ok (.invokevirtual 44, 3) := by decide +kernel
theorem dX5_takeNumber_6 : decode cX5_takeNumber 6 = .ok (.istore_n 1, 1) := by decide +kernel
theorem dX5_takeNumber_7 : decode cX5_takeNumber 7 = .ok (.iload_n 1, 1) := by decide +kernel
theorem dX5_takeNumber_8 : decode cX5_takeNumber 8 = .ok (.ifCond .ge 5, 3) := by decide +kernel
theorem dX5_takeNumber_11 : decode cX5_takeNumber 11 = .ok (.iconst (-1), 1) := by decide +kernel
theorem dX5_takeNumber_12 : decode cX5_takeNumber 12 = .ok (.ireturn, 1) := by decide +kernel
theorem dX5_takeNumber_13 : decode cX5_takeNumber 13 = .ok (.aload_n 0, 1) := by decide +kernel
theorem dX5_takeNumber_14 : decode cX5_takeNumber 14 = .ok (.ldc 42, 2) := by decide +kernel
theorem dX5_takeNumber_16 : decode cX5_takeNumber 16 = .ok (.invokevirtual 44, 3) := by decide +kernel
theorem dX5_takeNumber_19 : decode cX5_takeNumber 19 = .ok (.istore_n 2, 1) := by decide +kernel
theorem dX5_takeNumber_20 : decode cX5_takeNumber 20 = .ok (.iload_n 2, 1) := by decide +kernel
theorem dX5_takeNumber_21 : decode cX5_takeNumber 21 = .ok (.ifCond .ge 7, 3) := by decide +kernel
theorem dX5_takeNumber_24 : decode cX5_takeNumber 24 = .ok (.iload_n 1, 1) := by decide +kernel
theorem dX5_takeNumber_25 : decode cX5_takeNumber 25 = .ok (.goto 9, 3) := by decide +kernel
theorem dX5_takeNumber_28 : decode cX5_takeNumber 28 = .ok (.iload_n 1, 1) := by decide +kernel
theorem dX5_takeNumber_29 : decode cX5_takeNumber 29 = .ok (.bipush 10, 2) := by decide +kernel
theorem dX5_takeNumber_31 : decode cX5_takeNumber 31 = .ok (.imul, 1) := by decide +kernel
theorem dX5_takeNumber_32 : decode cX5_takeNumber 32 = .ok (.iload_n 2, 1) := by decide +kernel
theorem dX5_takeNumber_33 : decode cX5_takeNumber 33 = .ok (.iadd, 1) := by decide +kernel
theorem dX5_takeNumber_34 : decode cX5_takeNumber 34 = .ok (.ireturn, 1) := by decide +kernel
theorem dX6_init_0 : decode cX6_init 0 = .ok (.aload_n 0, 1) := by decide +kernel
theorem dX6_init_1 : decode cX6_init 1 = .ok (.invokespecial 3, 3) := by decide +kernel
theorem dX6_init_4 : decode cX6_init 4 = .ok (.aload_n 0, 1) := by decide +kernel
theorem dX6_init_5 : decode cX6_init 5 = .ok (.new 9, 3) := by decide +kernel
theorem dX6_init_8 : decode cX6_init 8 = .ok (.dup, 1) := by decide +kernel
theorem dX6_init_9 : decode cX6_init 9 = .ok (.invokespecial 11, 3) := by decide +kernel
theorem dX6_init_12 : decode cX6_init 12 = .ok (.putfield 12, 3) := by decide +kernel
theorem dX6_init_15 : decode cX6_init 15 = .ok (.aload_n 0, 1) := by decide +kernel
theorem dX6_init_16 : decode cX6_init 16 = .ok (.new 9, 3) := by decide +kernel
theorem dX6_init_19 : decode cX6_init 19 = .ok (.dup, 1) := by decide +kernel
theorem dX6_init_20 : decode cX6_init 20 = .ok (.invokespecial 11, 3) := by decide +kernel
theorem dX6_init_23 : decode cX6_init 23 = .ok (.putfield 18, 3) := by decide +kernel
theorem dX6_init_26 : decode cX6_init 26 = .ok (.aload_n 0, 1) := by decide +kernel
theorem dX6_init_27 : decode cX6_init 27 = .ok (.new 9, 3) := by decide +kernel
theorem dX6_init_30 : decode cX6_init 30 = .ok (.dup, 1) := by decide +kernel
theorem dX6_init_31 : decode cX6_init 31 = .ok (.invokespecial 11, 3) := by decide +kernel
theorem dX6_init_34 : decode cX6_init 34 = .ok (.putfield 21, 3) := by decide +kernel
theorem dX6_init_37 : decode cX6_init 37 = .ok (.aload_n 0, 1) := by decide +kernel
theorem dX6_init_38 : decode cX6_init 38 = .ok (.iconst 0, 1) := by decide +kernel
theorem dX6_init_39 : decode cX6_init 39 = .ok (.putfield 24, 3) := by decide +kernel
theorem dX6_init_42 : decode cX6_init 42 = .ok (.aload_n 0, 1) := by decide +kernel
theorem dX6_init_43 : decode cX6_init 43 = .ok (.new 28, 3) := by decide +kernel
theorem dX6_init_46 : decode cX6_init 46 = .ok (.dup, 1) := by decide +kernel
theorem dX6_init_47 : decode cX6_init 47 = .ok (.invokespecial 30, 3) := by decide +kernel
theorem dX6_init_50 : decode cX6_init 50 = .ok (.putfield 31, 3) := by decide +kernel
theorem dX6_init_53 : decode cX6_init 53 = .ok (.aload_n 0, 1) := by decide +kernel
theorem dX6_init_54 : decode cX6_init 54 = .ok (.bipush 6, 2) := by decide +kernel
theorem dX6_init_56 : decode cX6_init 56 = .ok (.anewarray 35, 3) := by decide +kernel
theorem dX6_init_59 : decode cX6_init 59 = .ok (.putfield 37, 3) := by decide +kernel
theorem dX6_init_62 : decode cX6_init 62 = .ok (.aload_n 0, 1) := by decide +kernel
theorem dX6_init_63 : decode cX6_init 63 = .ok (.iconst 0, 1) := by decide +kernel
theorem dX6_init_64 : decode cX6_init 64 = .ok (.putfield 41, 3) := by decide +kernel
theorem dX6_init_67 : decode cX6_init 67 = .ok (.aload_n 0, 1) := by decide +kernel
theorem dX6_init_68 : decode cX6_init 68 = .ok (.new 45, 3) := by decide +kernel
theorem dX6_init_71 : decode cX6_init 71 = .ok (.dup, 1) := by decide +kernel
theorem dX6_init_72 : decode cX6_init 72 = .ok (.invokespecial 47, 3) := by decide +kernel
theorem dX6_init_75 : decode cX6_init 75 = .ok (.putfield 48, 3) := by decide +kernel
theorem dX6_init_78 : decode cX6_init 78 = .ok (.aload_n 0, 1) := by decide +kernel
theorem dX6_init_79 : decode cX6_init 79 = .ok (.bipush 6, 2) := by decide +kernel
theorem dX6_init_81 : decode cX6_init 81 = .ok (.anewarray 52, 3) := by decide +kernel
theorem dX6_init_84 : decode cX6_init 84 = .ok (.putfield 54, 3) := by decide +kernel
theorem dX6_init_87 : decode cX6_init 87 = .ok (.iconst 0, 1) := by decide +kernel
theorem dX6_init_88 : decode cX6_init 88 = .ok (.istore_n 1, 1) := by decide +kernel
theorem dX6_init_89 : decode cX6_init 89 = .ok (.iload_n 1, 1) := by decide +kernel
theorem dX6_init_90 : decode cX6_init 90 = .ok (.bipush 6, 2) := by decide +kernel
theorem dX6_init_92 : decode cX6_init 92 = .ok (.if_icmp .ge 22, 3) := by decide +kernel
theorem dX6_init_95 : decode cX6_init 95 = .ok (.aload_n 0, 1) := by decide +kernel
theorem dX6_init_96 : decode cX6_init 96 = .ok (.getfield 37, 3) := by decide +kernel
theorem dX6_init_99 : decode cX6_init 99 = .ok (.iload_n 1, 1) := by decide +kernel
theorem dX6_init_100 : decode cX6_init 100 = .ok (.new 35, 3) := by decide +kernel
theorem dX6_init_103 : decode cX6_init 103 = .ok (.dup, 1) := by decide +kernel
theorem dX6_init_104 : decode cX6_init 104 = .ok (.invokespecial 58, 3) := by decide +kernel
theorem dX6_init_107 : decode cX6_init 107 = .ok (.aastore, 1) := by decide +kernel
theorem dX6_init_108 : decode cX6_init 108 = .ok (.iinc 1 1, 3) := by decide +kernel
theorem dX6_init_111 : decode cX6_init 111 = .ok (.goto (-22), 3) := by decide +kernel
theorem dX6_init_114 : decode cX6_init 114 = .ok (.iconst 0, 1) := by decide +kernel
theorem dX6_init_115 : decode cX6_init 115 = .ok (.istore_n 1, 1) := by decide +kernel
theorem dX6_init_116 : decode cX6_init 116 = .ok (.iload_n 1, 1) := by decide +kernel
theorem dX6_init_117 : decode cX6_init 117 = .ok (.bipush 6, 2) := by decide +kernel
theorem dX6_init_119 : decode cX6_init 119 = .ok (.if_icmp .ge 22, 3) := by decide +kernel
theorem dX6_init_122 : decode cX6_init 122 = .ok (.aload_n 0, 1) := by decide +kernel
theorem dX6_init_123 : decode cX6_init 123 = .ok (.getfield 54, 3) := by decide +kernel
theorem dX6_init_126 : decode cX6_init 126 = .ok (.iload_n 1, 1) := by decide +kernel
theorem dX6_init_127 : decode cX6_init 127 = .ok (.new 52, 3) := by decide +kernel
theorem dX6_init_130 : decode cX6_init 130 = .ok (.dup, 1) := by decide +kernel
theorem dX6_init_131 : decode cX6_init 131 = .ok (.invokespecial 59, 3) := by decide +kernel
theorem dX6_init_134 : decode cX6_init 134 = .ok (.aastore, 1) := by decide +kernel
theorem dX6_init_135 : decode cX6_init 135 = .ok (.iinc 1 1, 3) := by decide +kernel
theorem dX6_init_138 : decode cX6_init 138 = .ok (.goto (-22), 3) := by decide +kernel
theorem dX6_init_141 : decode cX6_init 141 = .ok (.return_, 1) := by decide +kernel
theorem dX6_egg_0 : decode cX6_egg 0 = .ok (.iload_n 1, 1) := by decide +kernel
theorem dX6_egg_1 : decode cX6_egg 1 = .ok (.i2l, 1) := by decide +kernel
theorem dX6_egg_2 : decode cX6_egg 2 = .ok (.lconst 0, 1) := by decide +kernel
theorem dX6_egg_3 : decode cX6_egg 3 = .ok (.ldc2_w 60, 3) := by decide +kernel
theorem dX6_egg_6 : decode cX6_egg 6 = .ok (.invokestatic 62, 3) := by decide +kernel
theorem dX6_egg_9 : decode cX6_egg 9 = .ok (.ifCond .ne 5, 3) := by decide +kernel
theorem dX6_egg_12 : decode cX6_egg 12 = .ok (.iconst (-1), 1) := by decide +kernel
theorem dX6_egg_13 : decode cX6_egg 13 = .ok (.ireturn, 1) := by decide +kernel
theorem dX6_egg_14 : decode cX6_egg 14 = .ok (.iload_n 2, 1) := by decide +kernel
theorem dX6_egg_15 : decode cX6_egg 15 = .ok (.i2l, 1) := by decide +kernel
theorem dX6_egg_16 : decode cX6_egg 16 = .ok (.lconst 0, 1) := by decide +kernel
theorem dX6_egg_17 : decode cX6_egg 17 = .ok (.ldc2_w 66, 3) := by decide +kernel
theorem dX6_egg_20 : decode cX6_egg 20 = .ok (.invokestatic 62, 3) := by decide +kernel
theorem dX6_egg_23 : decode cX6_egg 23 = .ok (.ifCond .eq 28, 3) := by decide +kernel
theorem dX6_egg_26 : decode cX6_egg 26 = .ok (.iload_n 3, 1) := by decide +kernel
theorem dX6_egg_27 : decode cX6_egg 27 = .ok (.i2l, 1) := by decide +kernel
theorem dX6_egg_28 : decode cX6_egg 28 = .ok (.lconst 1, 1) := by decide +kernel
theorem dX6_egg_29 : decode cX6_egg 29 = .ok (.ldc2_w 68, 3) := by decide +kernel
theorem dX6_egg_32 : decode cX6_egg 32 = .ok (.invokestatic 62, 3) := by decide +kernel
theorem dX6_egg_35 : decode cX6_egg 35 = .ok (.ifCond .eq 16, 3) := by decide +kernel
theorem dX6_egg_38 : decode cX6_egg 38 = .ok (.iload 4, 2) := by decide +kernel
theorem dX6_egg_40 : decode cX6_egg 40 = .ok (.i2l, 1) := by decide +kernel
theorem dX6_egg_41 : decode cX6_egg 41 = .ok (.lconst 0, 1) := by decide +kernel
theorem dX6_egg_42 : decode cX6_egg 42 = .ok (.ldc2_w 70, 3) := by decide +kernel
theorem dX6_egg_45 : decode cX6_egg 45 = .ok (.invokestatic 62, 3) := by decide +kernel
theorem dX6_egg_48 : decode cX6_egg 48 = .ok (.ifCond .ne 6, 3) := by decide +kernel
theorem dX6_egg_51 : decode cX6_egg 51 = .ok (.bipush (-2), 2) := by decide +kernel
theorem dX6_egg_53 : decode cX6_egg 53 = .ok (.ireturn, 1) := by decide +kernel
theorem dX6_egg_54 : decode cX6_egg 54 = .ok (.aload_n 0, 1) := by decide +kernel
theorem dX6_egg_55 : decode cX6_egg 55 = .ok (.getfield 12, 3) := by decide +kernel
theorem dX6_egg_58 : decode cX6_egg 58 = .ok (.getfield 72, 3) := by decide +kernel
theorem dX6_egg_61 : decode cX6_egg 61 = .ok (.bipush 6, 2) := by decide +kernel
theorem dX6_egg_63 : decode cX6_egg 63 = .ok (.if_icmp .lt 6, 3) := by decide +kernel
theorem dX6_egg_66 : decode cX6_egg 66 = .ok (.bipush (-4), 2) := by decide +kernel
theorem dX6_egg_68 : decode cX6_egg 68 = .ok (.ireturn, 1) := by decide +kernel
theorem dX6_egg_69 : decode cX6_egg 69 = .ok (.aload_n 0, 1) := by decide +kernel
theorem dX6_egg_70 : decode cX6_egg 70 = .ok (.getfield 12, 3) := by decide +kernel
theorem dX6_egg_73 : decode cX6_egg 73 = .ok (.getfield 75, 3) := by decide +kernel
theorem dX6_egg_76 : decode cX6_egg 76 = .ok (.aload_n 0, 1) := by decide +kernel
theorem dX6_egg_77 : decode cX6_egg 77 = .ok (.getfield 12, 3) := by decide +kernel
theorem dX6_egg_80 : decode cX6_egg 80 = .ok (.getfield 72, 3) := by decide +kernel
theorem dX6_egg_83 : decode cX6_egg 83 = .ok (.aaload, 1) := by decide +kernel
theorem dX6_egg_84 : decode cX6_egg 84 = .ok (.astore 5, 2) := by decide +kernel
theorem dX6_egg_86 : decode cX6_egg 86 = .ok (.aload 5, 2) := by decide +kernel
theorem dX6_egg_88 : decode cX6_egg 88 = .ok (.iconst 0, 1) := by decide +kernel
theorem dX6_egg_89 : decode cX6_egg 89 = .ok (.invokestatic 79, 3) := by decide +kernel
theorem dX6_egg_92 : decode cX6_egg 92 = .ok (.aload 5, 2) := by decide +kernel
theorem dX6_egg_94 : decode cX6_egg 94 = .ok (.iconst 0, 1) := by decide +kernel
theorem dX6_egg_95 : decode cX6_egg 95 = .ok (.iload_n 1, 1) := by decide +kernel
theorem dX6_egg_96 : decode cX6_egg 96 = .ok (.iastore, 1) := by decide +kernel
theorem dX6_egg_97 : decode cX6_egg 97 = .ok (.aload 5, 2) := by decide +kernel
theorem dX6_egg_99 : decode cX6_egg 99 = .ok (.iconst 1, 1) := by decide +kernel
theorem dX6_egg_100 : decode cX6_egg 100 = .ok (.iload_n 2, 1) := by decide +kernel
theorem dX6_egg_101 : decode cX6_egg 101 = .ok (.iastore, 1) := by decide +kernel
theorem dX6_egg_102 : decode cX6_egg 102 = .ok (.aload 5, 2) := by decide +kernel
theorem dX6_egg_104 : decode cX6_egg 104 = .ok (.iconst 2, 1) := by decide +kernel
theorem dX6_egg_105 : decode cX6_egg 105 = .ok (.iload_n 3, 1) := by decide +kernel
theorem dX6_egg_106 : decode cX6_egg 106 = .ok (.iastore, 1) := by decide +kernel
theorem dX6_egg_107 : decode cX6_egg 107 = .ok (.aload 5, 2) := by decide +kernel
theorem dX6_egg_109 : decode cX6_egg 109 = .ok (.iconst 3, 1) := by decide +kernel
theorem dX6_egg_110 : decode cX6_egg 110 = .ok (.iload 4, 2) := by decide +kernel
theorem dX6_egg_112 : decode cX6_egg 112 = .ok (.iastore, 1) := by decide +kernel
theorem dX6_egg_113 : decode cX6_egg 113 = .ok (.aload_n 0, 1) := by decide +kernel
theorem dX6_egg_114 : decode cX6_egg 114 = .ok (.getfield 12, 3) := by decide +kernel
theorem dX6_egg_117 : decode cX6_egg 117 = .ok (.dup, 1) := by decide +kernel
theorem dX6_egg_118 : decode cX6_egg 118 = .ok (.getfield 72, 3) := by decide +kernel
theorem dX6_egg_121 : decode cX6_egg 121 = .ok (.dup_x1, 1) := by decide +kernel
theorem dX6_egg_122 : decode cX6_egg 122 = .ok (.iconst 1, 1) := by decide +kernel
theorem dX6_egg_123 : decode cX6_egg 123 = .ok (.iadd, 1) := by decide +kernel
theorem dX6_egg_124 : decode cX6_egg 124 = .ok (.putfield 72, 3) := by decide +kernel
theorem dX6_egg_127 : decode cX6_egg 127 = .ok (.ireturn, 1) := by decide +kernel
theorem dX6_of_0 : decode cX6_of 0 = .ok (.aload_n 0, 1) := by decide +kernel
theorem dX6_of_1 : decode cX6_of 1 = .ok (.getfield 12, 3) := by decide +kernel
theorem dX6_of_4 : decode cX6_of 4 = .ok (.iload_n 1, 1) := by decide +kernel
theorem dX6_of_5 : decode cX6_of 5 = .ok (.invokevirtual 85, 3) := by decide +kernel
theorem dX6_of_8 : decode cX6_of 8 = .ok (.ifCond .eq 15, 3) := by decide +kernel
theorem dX6_of_11 : decode cX6_of 11 = .ok (.iload_n 2, 1) := by decide +kernel
theorem dX6_of_12 : decode cX6_of 12 = .ok (.i2l, 1) := by decide +kernel
theorem dX6_of_13 : decode cX6_of 13 = .ok (.lconst 0, 1) := by decide +kernel
theorem dX6_of_14 : decode cX6_of 14 = .ok (.ldc2_w 66, 3) := by decide +kernel
theorem dX6_of_17 : decode cX6_of 17 = .ok (.invokestatic 62, 3) := by decide +kernel
theorem dX6_of_20 : decode cX6_of 20 = .ok (.ifCond .ne 5, 3) := by decide +kernel
theorem dX6_of_23 : decode cX6_of 23 = .ok (.iconst (-1), 1) := by decide +kernel
theorem dX6_of_24 : decode cX6_of 24 = .ok (.ireturn, 1) := by decide +kernel
theorem dX6_of_25 : decode cX6_of 25 = .ok (.aload_n 0, 1) := by decide +kernel
theorem dX6_of_26 : decode cX6_of 26 = .ok (.aload_n 0, 1) := by decide +kernel
theorem dX6_of_27 : decode cX6_of 27 = .ok (.getfield 12, 3) := by decide +kernel
theorem dX6_of_30 : decode cX6_of 30 = .ok (.invokevirtual 89, 3) := by decide +kernel
theorem dX6_of_33 : decode cX6_of 33 = .ok (.aload_n 0, 1) := by decide +kernel
theorem dX6_of_34 : decode cX6_of 34 = .ok (.getfield 12, 3) := by decide +kernel
theorem dX6_of_37 : decode cX6_of 37 = .ok (.getfield 75, 3) := by decide +kernel
theorem dX6_of_40 : decode cX6_of 40 = .ok (.iload_n 1, 1) := by decide +kernel
theorem dX6_of_41 : decode cX6_of 41 = .ok (.aaload, 1) := by decide +kernel
theorem dX6_of_42 : decode cX6_of 42 = .ok (.iload_n 2, 1) := by decide +kernel
theorem dX6_of_43 : decode cX6_of 43 = .ok (.iaload, 1) := by decide +kernel
theorem dX6_of_44 : decode cX6_of 44 = .ok (.ireturn, 1) := by decide +kernel
theorem dX6_set_0 : decode cX6_set 0 = .ok (.aload_n 0, 1) := by decide +kernel
theorem dX6_set_1 : decode cX6_set 1 = .ok (.getfield 12, 3) := by decide +kernel
theorem dX6_set_4 : decode cX6_set 4 = .ok (.iload_n 1, 1) := by decide +kernel
theorem dX6_set_5 : decode cX6_set 5 = .ok (.invokevirtual 85, 3) := by decide +kernel
theorem dX6_set_8 : decode cX6_set 8 = .ok (.ifCond .eq 13, 3) := by decide +kernel
theorem dX6_set_11 : decode cX6_set 11 = .ok (.iload_n 2, 1) := by decide +kernel
theorem dX6_set_12 : decode cX6_set 12 = .ok (.i2l, 1) := by decide +kernel
theorem dX6_set_13 : decode cX6_set 13 = .ok (.lconst 0, 1) := by decide +kernel
theorem dX6_set_14 : decode cX6_set 14 = .ok (.lconst 1, 1) := by decide +kernel
theorem dX6_set_15 : decode cX6_set 15 = .ok (.invokestatic 62, 3) := by decide +kernel
theorem dX6_set_18 : decode cX6_set 18 = .ok (.ifCond .ne 5, 3) := by decide +kernel
theorem dX6_set_21 : decode cX6_set 21 = .ok (.iconst (-1), 1) := by decide +kernel
theorem dX6_set_22 : decode cX6_set 22 = .ok (.ireturn, 1) := by decide +kernel
theorem dX6_set_23 : decode cX6_set 23 = .ok (.iload_n 2, 1) := by decide +kernel
theorem dX6_set_24 : decode cX6_set 24 = .ok (.ifCond .ne 15, 3) := by decide +kernel
theorem dX6_set_27 : decode cX6_set 27 = .ok (.iload_n 3, 1) := by decide +kernel
theorem dX6_set_28 : decode cX6_set 28 = .ok (.i2l, 1) := by decide +kernel
theorem dX6_set_29 : decode cX6_set 29 = .ok (.lconst 1, 1) := by decide +kernel
theorem dX6_set_30 : decode cX6_set 30 = .ok (.ldc2_w 68, 3) := by decide +kernel
theorem dX6_set_33 : decode cX6_set 33 = .ok (.invokestatic 62, 3) := by decide +kernel
theorem dX6_set_36 : decode cX6_set 36 = .ok (.goto 12, 3) := by decide +kernel
theorem dX6_set_39 : decode cX6_set 39 = .ok (.iload_n 3, 1) := by decide +kernel
theorem dX6_set_40 : decode cX6_set 40 = .ok (.i2l, 1) := by decide +kernel
theorem dX6_set_41 : decode cX6_set 41 = .ok (.lconst 0, 1) := by decide +kernel
theorem dX6_set_42 : decode cX6_set 42 = .ok (.ldc2_w 70, 3) := by decide +kernel
theorem dX6_set_45 : decode cX6_set 45 = .ok (.invokestatic 62, 3) := by decide +kernel
theorem dX6_set_48 : decode cX6_set 48 = .ok (.istore 4, 2) := by decide +kernel
theorem dX6_set_50 : decode cX6_set 50 = .ok (.iload 4, 2) := by decide +kernel
theorem dX6_set_52 : decode cX6_set 52 = .ok (.ifCond .ne 6, 3) := by decide +kernel
theorem dX6_set_55 : decode cX6_set 55 = .ok (.bipush (-2), 2) := by decide +kernel
theorem dX6_set_57 : decode cX6_set 57 = .ok (.ireturn, 1) := by decide +kernel
theorem dX6_set_58 : decode cX6_set 58 = .ok (.aload_n 0, 1) := by decide +kernel
theorem dX6_set_59 : decode cX6_set 59 = .ok (.getfield 12, 3) := by decide +kernel
theorem dX6_set_62 : decode cX6_set 62 = .ok (.getfield 75, 3) := by decide +kernel
theorem dX6_set_65 : decode cX6_set 65 = .ok (.iload_n 1, 1) := by decide +kernel
theorem dX6_set_66 : decode cX6_set 66 = .ok (.aaload, 1) := by decide +kernel
theorem dX6_set_67 : decode cX6_set 67 = .ok (.iload_n 2, 1) := by decide +kernel
theorem dX6_set_68 : decode cX6_set 68 = .ok (.ifCond .ne 7, 3) := by decide +kernel
theorem dX6_set_71 : decode cX6_set 71 = .ok (.iconst 2, 1) := by decide +kernel
theorem dX6_set_72 : decode cX6_set 72 = .ok (.goto 4, 3) := by decide +kernel
theorem dX6_set_75 : decode cX6_set 75 = .ok (.iconst 3, 1) := by decide +kernel
theorem dX6_set_76 : decode cX6_set 76 = .ok (.iload_n 3, 1) := by decide +kernel
theorem dX6_set_77 : decode cX6_set 77 = .ok (.invokestatic 93, 3) := by decide +kernel
theorem dX6_set_80 : decode cX6_set 80 = .ok (.ireturn, 1) := by decide +kernel
theorem dX6_smash_0 : decode cX6_smash 0 = .ok (.aload_n 0, 1) := by decide +kernel
theorem dX6_smash_1 : decode cX6_smash 1 = .ok (.getfield 12, 3) := by decide +kernel
theorem dX6_smash_4 : decode cX6_smash 4 = .ok (.iload_n 1, 1) := by decide +kernel
theorem dX6_smash_5 : decode cX6_smash 5 = .ok (.invokevirtual 85, 3) := by decide +kernel
theorem dX6_smash_8 : decode cX6_smash 8 = .ok (.ifCond .ne 5, 3) := by decide +kernel
theorem dX6_smash_11 : decode cX6_smash 11 = .ok (.iconst (-1), 1) := by decide +kernel
theorem dX6_smash_12 : decode cX6_smash 12 = .ok (.ireturn, 1) := by decide +kernel
theorem dX6_smash_13 : decode cX6_smash 13 = .ok (.aload_n 0, 1) := by decide +kernel
theorem dX6_smash_14 : decode cX6_smash 14 = .ok (.getfield 12, 3) := by decide +kernel
theorem dX6_smash_17 : decode cX6_smash 17 = .ok (.getfield 75, 3) := by decide +kernel
theorem dX6_smash_20 : decode cX6_smash 20 = .ok (.iload_n 1, 1) := by decide +kernel
theorem dX6_smash_21 : decode cX6_smash 21 = .ok (.aaload, 1) := by decide +kernel
theorem dX6_smash_22 : decode cX6_smash 22 = .ok (.iconst 4, 1) := by decide +kernel
theorem dX6_smash_23 : decode cX6_smash 23 = .ok (.iload_n 2, 1) := by decide +kernel
theorem dX6_smash_24 : decode cX6_smash 24 = .ok (.ifCond .eq 7, 3) := by decide +kernel
theorem dX6_smash_27 : decode cX6_smash 27 = .ok (.iconst 1, 1) := by decide +kernel
theorem dX6_smash_28 : decode cX6_smash 28 = .ok (.goto 4, 3) := by decide +kernel
theorem dX6_smash_31 : decode cX6_smash 31 = .ok (.iconst 0, 1) := by decide +kernel
theorem dX6_smash_32 : decode cX6_smash 32 = .ok (.invokestatic 93, 3) := by decide +kernel
theorem dX6_smash_35 : decode cX6_smash 35 = .ok (.ireturn, 1) := by decide +kernel
theorem dX6_listen_0 : decode cX6_listen 0 = .ok (.iload_n 1, 1) := by decide +kernel
theorem dX6_listen_1 : decode cX6_listen 1 = .ok (.i2l, 1) := by decide +kernel
theorem dX6_listen_2 : decode cX6_listen 2 = .ok (.lconst 0, 1) := by decide +kernel
theorem dX6_listen_3 : decode cX6_listen 3 = .ok (.ldc2_w 97, 3) := by decide +kernel
theorem dX6_listen_6 : decode cX6_listen 6 = .ok (.invokestatic 62, 3) := by decide +kernel
theorem dX6_listen_9 : decode cX6_listen 9 = .ok (.ifCond .ne 6, 3) := by decide +kernel
theorem dX6_listen_12 : decode cX6_listen 12 = .ok (.bipush (-2), 2) := by decide +kernel
theorem dX6_listen_14 : decode cX6_listen 14 = .ok (.ireturn, 1) := by decide +kernel
theorem dX6_listen_15 : decode cX6_listen 15 = .ok (.aload_n 0, 1) := by decide +kernel
theorem dX6_listen_16 : decode cX6_listen 16 = .ok (.getfield 12, 3) := by decide +kernel
theorem dX6_listen_19 : decode cX6_listen 19 = .ok (.getfield 99, 3) := by decide +kernel
theorem dX6_listen_22 : decode cX6_listen 22 = .ok (.istore_n 2, 1) := by decide +kernel
theorem dX6_listen_23 : decode cX6_listen 23 = .ok (.aload_n 0, 1) := by decide +kernel
theorem dX6_listen_24 : decode cX6_listen 24 = .ok (.getfield 12, 3) := by decide +kernel
theorem dX6_listen_27 : decode cX6_listen 27 = .ok (.iload_n 1, 1) := by decide +kernel
theorem dX6_listen_28 : decode cX6_listen 28 = .ok (.putfield 99, 3) := by decide +kernel
theorem dX6_listen_31 : decode cX6_listen 31 = .ok (.iload_n 2, 1) := by decide +kernel
theorem dX6_listen_32 : decode cX6_listen 32 = .ok (.ireturn, 1) := by decide +kernel
theorem dX6_row_0 : decode cX6_row 0 = .ok (.aload_n 0, 1) := by decide +kernel
theorem dX6_row_1 : decode cX6_row 1 = .ok (.getfield 12, 3) := by decide +kernel
theorem dX6_row_4 : decode cX6_row 4 = .ok (.iload_n 1, 1) := by decide +kernel
theorem dX6_row_5 : decode cX6_row 5 = .ok (.invokevirtual 85, 3) := by decide +kernel
theorem dX6_row_8 : decode cX6_row 8 = .ok (.ifCond .eq 15, 3) := by decide +kernel
theorem dX6_row_11 : decode cX6_row 11 = .ok (.iload_n 2, 1) := by decide +kernel
theorem dX6_row_12 : decode cX6_row 12 = .ok (.i2l, 1) := by decide +kernel
theorem dX6_row_13 : decode cX6_row 13 = .ok (.lconst 0, 1) := by decide +kernel
theorem dX6_row_14 : decode cX6_row 14 = .ok (.ldc2_w 102, 3) := by decide +kernel
theorem dX6_row_17 : decode cX6_row 17 = .ok (.invokestatic 62, 3) := by decide +kernel
theorem dX6_row_20 : decode cX6_row 20 = .ok (.ifCond .ne 5, 3) := by decide +kernel
theorem dX6_row_23 : decode cX6_row 23 = .ok (.iconst (-1), 1) := by decide +kernel
theorem dX6_row_24 : decode cX6_row 24 = .ok (.ireturn, 1) := by decide +kernel
theorem dX6_row_25 : decode cX6_row 25 = .ok (.iload_n 3, 1) := by decide +kernel
theorem dX6_row_26 : decode cX6_row 26 = .ok (.i2l, 1) := by decide +kernel
theorem dX6_row_27 : decode cX6_row 27 = .ok (.lconst 0, 1) := by decide +kernel
theorem dX6_row_28 : decode cX6_row 28 = .ok (.ldc2_w 66, 3) := by decide +kernel
theorem dX6_row_31 : decode cX6_row 31 = .ok (.invokestatic 62, 3) := by decide +kernel
theorem dX6_row_34 : decode cX6_row 34 = .ok (.ifCond .ne 6, 3) := by decide +kernel
theorem dX6_row_37 : decode cX6_row 37 = .ok (.bipush (-2), 2) := by decide +kernel
theorem dX6_row_39 : decode cX6_row 39 = .ok (.ireturn, 1) := by decide +kernel
theorem dX6_row_40 : decode cX6_row 40 = .ok (.aload_n 0, 1) := by decide +kernel
theorem dX6_row_41 : decode cX6_row 41 = .ok (.getfield 12, 3) := by decide +kernel
theorem dX6_row_44 : decode cX6_row 44 = .ok (.getfield 75, 3) := by decide +kernel
theorem dX6_row_47 : decode cX6_row 47 = .ok (.iload_n 1, 1) := by decide +kernel
theorem dX6_row_48 : decode cX6_row 48 = .ok (.aaload, 1) := by decide +kernel
theorem dX6_row_49 : decode cX6_row 49 = .ok (.iconst 0, 1) := by decide +kernel
theorem dX6_row_50 : decode cX6_row 50 = .ok (.iaload, 1) := by decide +kernel
theorem dX6_row_51 : decode cX6_row 51 = .ok (.bipush 6, 2) := by decide +kernel
theorem dX6_row_53 : decode cX6_row 53 = .ok (.if_icmp .eq 6, 3) := by decide +kernel
theorem dX6_row_56 : decode cX6_row 56 = .ok (.bipush (-3), 2) := by decide +kernel
theorem dX6_row_58 : decode cX6_row 58 = .ok (.ireturn, 1) := by decide +kernel
theorem dX6_row_59 : decode cX6_row 59 = .ok (.aload_n 0, 1) := by decide +kernel
theorem dX6_row_60 : decode cX6_row 60 = .ok (.getfield 12, 3) := by decide +kernel
theorem dX6_row_63 : decode cX6_row 63 = .ok (.getfield 75, 3) := by decide +kernel
theorem dX6_row_66 : decode cX6_row 66 = .ok (.iload_n 1, 1) := by decide +kernel
theorem dX6_row_67 : decode cX6_row 67 = .ok (.aaload, 1) := by decide +kernel
theorem dX6_row_68 : decode cX6_row 68 = .ok (.bipush 10, 2) := by decide +kernel
theorem dX6_row_70 : decode cX6_row 70 = .ok (.iload_n 2, 1) := by decide +kernel
theorem dX6_row_71 : decode cX6_row 71 = .ok (.iadd, 1) := by decide +kernel
theorem dX6_row_72 : decode cX6_row 72 = .ok (.iload_n 3, 1) := by decide +kernel
theorem dX6_row_73 : decode cX6_row 73 = .ok (.invokestatic 93, 3) := by decide +kernel
theorem dX6_row_76 : decode cX6_row 76 = .ok (.ireturn, 1) := by decide +kernel
theorem dX6_feed_0 : decode cX6_feed 0 = .ok (.iload_n 1, 1) := by decide +kernel
theorem dX6_feed_1 : decode cX6_feed 1 = .ok (.i2l, 1) := by decide +kernel
theorem dX6_feed_2 : decode cX6_feed 2 = .ok (.lconst 0, 1) := by decide +kernel
theorem dX6_feed_3 : decode cX6_feed 3 = .ok (.ldc2_w 97, 3) := by decide +kernel
theorem dX6_feed_6 : decode cX6_feed 6 = .ok (.invokestatic 62, 3) := by decide +kernel
theorem dX6_feed_9 : decode cX6_feed 9 = .ok (.ifCond .ne 6, 3) := by decide +kernel
theorem dX6_feed_12 : decode cX6_feed 12 = .ok (.bipush (-2), 2) := by decide +kernel
theorem dX6_feed_14 : decode cX6_feed 14 = .ok (.ireturn, 1) := by decide +kernel
theorem dX6_feed_15 : decode cX6_feed 15 = .ok (.aload_n 0, 1) := by decide +kernel
theorem dX6_feed_16 : decode cX6_feed 16 = .ok (.getfield 31, 3) := by decide +kernel
theorem dX6_feed_19 : decode cX6_feed 19 = .ok (.iload_n 1, 1) := by decide +kernel
theorem dX6_feed_20 : decode cX6_feed 20 = .ok (.invokevirtual 104, 3) := by decide +kernel
theorem dX6_feed_23 : decode cX6_feed 23 = .ok (.ireturn, 1) := by decide +kernel
theorem dX6_store_0 : decode cX6_store 0 = .ok (.aload_n 0, 1) := by decide +kernel
theorem dX6_store_1 : decode cX6_store 1 = .ok (.getfield 41, 3) := by decide +kernel
theorem dX6_store_4 : decode cX6_store 4 = .ok (.bipush 6, 2) := by decide +kernel
theorem dX6_store_6 : decode cX6_store 6 = .ok (.if_icmp .lt 6, 3) := by decide +kernel
theorem dX6_store_9 : decode cX6_store 9 = .ok (.bipush (-4), 2) := by decide +kernel
theorem dX6_store_11 : decode cX6_store 11 = .ok (.ireturn, 1) := by decide +kernel
theorem dX6_store_12 : decode cX6_store 12 = .ok (.aload_n 0, 1) := by decide +kernel
theorem dX6_store_13 : decode cX6_store 13 = .ok (.getfield 37, 3) := by decide +kernel
theorem dX6_store_16 : decode cX6_store 16 = .ok (.aload_n 0, 1) := by decide +kernel
theorem dX6_store_17 : decode cX6_store 17 = .ok (.getfield 41, 3) := by decide +kernel
theorem dX6_store_20 : decode cX6_store 20 = .ok (.aaload, 1) := by decide +kernel
theorem dX6_store_21 : decode cX6_store 21 = .ok (.aload_n 0, 1) := by decide +kernel
theorem dX6_store_22 : decode cX6_store 22 = .ok (.getfield 31, 3) := by decide +kernel
theorem dX6_store_25 : decode cX6_store 25 = .ok (.invokevirtual 108, 3) := by decide +kernel
theorem dX6_store_28 : decode cX6_store 28 = .ok (.istore_n 1, 1) := by decide +kernel
theorem dX6_store_29 : decode cX6_store 29 = .ok (.aload_n 0, 1) := by decide +kernel
theorem dX6_store_30 : decode cX6_store 30 = .ok (.getfield 31, 3) := by decide +kernel
theorem dX6_store_33 : decode cX6_store 33 = .ok (.getfield 112, 3) := by decide +kernel
theorem dX6_store_36 : decode cX6_store 36 = .ok (.istore_n 2, 1) := by decide +kernel
theorem dX6_store_37 : decode cX6_store 37 = .ok (.aload_n 0, 1) := by decide +kernel
theorem dX6_store_38 : decode cX6_store 38 = .ok (.getfield 31, 3) := by decide +kernel
theorem dX6_store_41 : decode cX6_store 41 = .ok (.invokevirtual 115, 3) := by decide +kernel
theorem dX6_store_44 : decode cX6_store 44 = .ok (.iload_n 1, 1) := by decide +kernel
theorem dX6_store_45 : decode cX6_store 45 = .ok (.ifCond .ne 8, 3) := by decide +kernel
theorem dX6_store_48 : decode cX6_store 48 = .ok (.bipush (-10), 2) := by decide +kernel
theorem dX6_store_50 : decode cX6_store 50 = .ok (.iload_n 2, 1) := by decide +kernel
theorem dX6_store_51 : decode cX6_store 51 = .ok (.isub, 1) := by decide +kernel
theorem dX6_store_52 : decode cX6_store 52 = .ok (.ireturn, 1) := by decide +kernel
theorem dX6_store_53 : decode cX6_store 53 = .ok (.aload_n 0, 1) := by decide +kernel
theorem dX6_store_54 : decode cX6_store 54 = .ok (.getfield 12, 3) := by decide +kernel
theorem dX6_store_57 : decode cX6_store 57 = .ok (.aload_n 0, 1) := by decide +kernel
theorem dX6_store_58 : decode cX6_store 58 = .ok (.getfield 41, 3) := by decide +kernel
theorem dX6_store_61 : decode cX6_store 61 = .ok (.putfield 118, 3) := by decide +kernel
theorem dX6_store_64 : decode cX6_store 64 = .ok (.aload_n 0, 1) := by decide +kernel
theorem dX6_store_65 : decode cX6_store 65 = .ok (.dup, 1) := by decide +kernel
theorem dX6_store_66 : decode cX6_store 66 = .ok (.getfield 41, 3) := by decide +kernel
theorem dX6_store_69 : decode cX6_store 69 = .ok (.dup_x1, 1) := by decide +kernel
theorem dX6_store_70 : decode cX6_store 70 = .ok (.iconst 1, 1) := by decide +kernel
theorem dX6_store_71 : decode cX6_store 71 = .ok (.iadd, 1) := by decide +kernel
theorem dX6_store_72 : decode cX6_store 72 = .ok (.putfield 41, 3) := by decide +kernel
theorem dX6_store_75 : decode cX6_store 75 = .ok (.ireturn, 1) := by decide +kernel
theorem dX6_told_0 : decode cX6_told 0 = .ok (.aload_n 0, 1) := by decide +kernel
theorem dX6_told_1 : decode cX6_told 1 = .ok (.aload_n 0, 1) := by decide +kernel
theorem dX6_told_2 : decode cX6_told 2 = .ok (.getfield 12, 3) := by decide +kernel
theorem dX6_told_5 : decode cX6_told 5 = .ok (.invokevirtual 89, 3) := by decide +kernel
theorem dX6_told_8 : decode cX6_told 8 = .ok (.iload_n 1, 1) := by decide +kernel
theorem dX6_told_9 : decode cX6_told 9 = .ok (.tableswitch 123 0 6 #[43, 51, 73, 81, 96, 104, 113], 43) := by decide +kernel
theorem dX6_told_52 : decode cX6_told 52 = .ok (.aload_n 0, 1) := by decide +kernel
theorem dX6_told_53 : decode cX6_told 53 = .ok (.getfield 12, 3) := by decide +kernel
theorem dX6_told_56 : decode cX6_told 56 = .ok (.getfield 121, 3) := by decide +kernel
theorem dX6_told_59 : decode cX6_told 59 = .ok (.ireturn, 1) := by decide +kernel
theorem dX6_told_60 : decode cX6_told 60 = .ok (.aload_n 0, 1) := by decide +kernel
theorem dX6_told_61 : decode cX6_told 61 = .ok (.aload_n 0, 1) := by decide +kernel
theorem dX6_told_62 : decode cX6_told 62 = .ok (.getfield 12, 3) := by decide +kernel
theorem dX6_told_65 : decode cX6_told 65 = .ok (.invokevirtual 124, 3) := by decide +kernel
theorem dX6_told_68 : decode cX6_told 68 = .ok (.astore_n 2, 1) := by decide +kernel
theorem dX6_told_69 : decode cX6_told 69 = .ok (.aload_n 2, 1) := by decide +kernel
theorem dX6_told_70 : decode cX6_told 70 = .ok (.ifnonnull 7, 3) := by decide +kernel
theorem dX6_told_73 : decode cX6_told 73 = .ok (.iconst 0, 1) := by decide +kernel
theorem dX6_told_74 : decode cX6_told 74 = .ok (.goto 7, 3) := by decide +kernel
theorem dX6_told_77 : decode cX6_told 77 = .ok (.aload_n 2, 1) := by decide +kernel
theorem dX6_told_78 : decode cX6_told 78 = .ok (.getfield 128, 3) := by decide +kernel
theorem dX6_told_81 : decode cX6_told 81 = .ok (.ireturn, 1) := by decide +kernel
theorem dX6_told_82 : decode cX6_told 82 = .ok (.aload_n 0, 1) := by decide +kernel
theorem dX6_told_83 : decode cX6_told 83 = .ok (.getfield 12, 3) := by decide +kernel
theorem dX6_told_86 : decode cX6_told 86 = .ok (.getfield 99, 3) := by decide +kernel
theorem dX6_told_89 : decode cX6_told 89 = .ok (.ireturn, 1) := by decide +kernel
theorem dX6_told_90 : decode cX6_told 90 = .ok (.aload_n 0, 1) := by decide +kernel
theorem dX6_told_91 : decode cX6_told 91 = .ok (.getfield 12, 3) := by decide +kernel
theorem dX6_told_94 : decode cX6_told 94 = .ok (.aload_n 0, 1) := by decide +kernel
theorem dX6_told_95 : decode cX6_told 95 = .ok (.getfield 12, 3) := by decide +kernel
theorem dX6_told_98 : decode cX6_told 98 = .ok (.getfield 121, 3) := by decide +kernel
theorem dX6_told_101 : decode cX6_told 101 = .ok (.invokevirtual 131, 3) := by decide +kernel
theorem dX6_told_104 : decode cX6_told 104 = .ok (.ireturn, 1) := by decide +kernel
theorem dX6_told_105 : decode cX6_told 105 = .ok (.aload_n 0, 1) := by decide +kernel
theorem dX6_told_106 : decode cX6_told 106 = .ok (.getfield 12, 3) := by decide +kernel
theorem dX6_told_109 : decode cX6_told 109 = .ok (.invokevirtual 134, 3) := by decide +kernel
theorem dX6_told_112 : decode cX6_told 112 = .ok (.ireturn, 1) := by decide +kernel
theorem dX6_told_113 : decode cX6_told 113 = .ok (.aload_n 0, 1) := by decide +kernel
theorem dX6_told_114 : decode cX6_told 114 = .ok (.getfield 12, 3) := by decide +kernel
theorem dX6_told_117 : decode cX6_told 117 = .ok (.iconst 5, 1) := by decide +kernel
theorem dX6_told_118 : decode cX6_told 118 = .ok (.invokevirtual 138, 3) := by decide +kernel
theorem dX6_told_121 : decode cX6_told 121 = .ok (.ireturn, 1) := by decide +kernel
theorem dX6_told_122 : decode cX6_told 122 = .ok (.aload_n 0, 1) := by decide +kernel
theorem dX6_told_123 : decode cX6_told 123 = .ok (.getfield 12, 3) := by decide +kernel
theorem dX6_told_126 : decode cX6_told 126 = .ok (.bipush 6, 2) := by decide +kernel
theorem dX6_told_128 : decode cX6_told 128 = .ok (.invokevirtual 138, 3) := by decide +kernel
theorem dX6_told_131 : decode cX6_told 131 = .ok (.ireturn, 1) := by decide +kernel
theorem dX6_told_132 : decode cX6_told 132 = .ok (.iconst (-1), 1) := by decide +kernel
theorem dX6_told_133 : decode cX6_told 133 = .ok (.ireturn, 1) := by decide +kernel
theorem dX6_pass_0 : decode cX6_pass 0 = .ok (.iload_n 1, 1) := by decide +kernel
theorem dX6_pass_1 : decode cX6_pass 1 = .ok (.i2l, 1) := by decide +kernel
theorem dX6_pass_2 : decode cX6_pass 2 = .ok (.lconst 0, 1) := by decide +kernel
theorem dX6_pass_3 : decode cX6_pass 3 = .ok (.ldc2_w 141, 3) := by decide +kernel
theorem dX6_pass_6 : decode cX6_pass 6 = .ok (.invokestatic 62, 3) := by decide +kernel
theorem dX6_pass_9 : decode cX6_pass 9 = .ok (.ifCond .ne 6, 3) := by decide +kernel
theorem dX6_pass_12 : decode cX6_pass 12 = .ok (.bipush (-2), 2) := by decide +kernel
theorem dX6_pass_14 : decode cX6_pass 14 = .ok (.ireturn, 1) := by decide +kernel
theorem dX6_pass_15 : decode cX6_pass 15 = .ok (.aload_n 0, 1) := by decide +kernel
theorem dX6_pass_16 : decode cX6_pass 16 = .ok (.getfield 12, 3) := by decide +kernel
theorem dX6_pass_19 : decode cX6_pass 19 = .ok (.getfield 121, 3) := by decide +kernel
theorem dX6_pass_22 : decode cX6_pass 22 = .ok (.iload_n 1, 1) := by decide +kernel
theorem dX6_pass_23 : decode cX6_pass 23 = .ok (.iadd, 1) := by decide +kernel
theorem dX6_pass_24 : decode cX6_pass 24 = .ok (.ldc 143, 2) := by decide +kernel
theorem dX6_pass_26 : decode cX6_pass 26 = .ok (.if_icmp .le 6, 3) := by decide +kernel
theorem dX6_pass_29 : decode cX6_pass 29 = .ok (.bipush (-3), 2) := by decide +kernel
theorem dX6_pass_31 : decode cX6_pass 31 = .ok (.ireturn, 1) := by decide +kernel
theorem dX6_pass_32 : decode cX6_pass 32 = .ok (.aload_n 0, 1) := by decide +kernel
theorem dX6_pass_33 : decode cX6_pass 33 = .ok (.aload_n 0, 1) := by decide +kernel
theorem dX6_pass_34 : decode cX6_pass 34 = .ok (.getfield 12, 3) := by decide +kernel
theorem dX6_pass_37 : decode cX6_pass 37 = .ok (.invokevirtual 89, 3) := by decide +kernel
theorem dX6_pass_40 : decode cX6_pass 40 = .ok (.aload_n 0, 1) := by decide +kernel
theorem dX6_pass_41 : decode cX6_pass 41 = .ok (.getfield 12, 3) := by decide +kernel
theorem dX6_pass_44 : decode cX6_pass 44 = .ok (.iload_n 1, 1) := by decide +kernel
theorem dX6_pass_45 : decode cX6_pass 45 = .ok (.sipush 9999, 3) := by decide +kernel
theorem dX6_pass_48 : decode cX6_pass 48 = .ok (.invokevirtual 144, 3) := by decide +kernel
theorem dX6_pass_51 : decode cX6_pass 51 = .ok (.aload_n 0, 1) := by decide +kernel
theorem dX6_pass_52 : decode cX6_pass 52 = .ok (.getfield 12, 3) := by decide +kernel
theorem dX6_pass_55 : decode cX6_pass 55 = .ok (.getfield 121, 3) := by decide +kernel
theorem dX6_pass_58 : decode cX6_pass 58 = .ok (.ireturn, 1) := by decide +kernel
theorem dX6_on_0 : decode cX6_on 0 = .ok (.iload_n 2, 1) := by decide +kernel
theorem dX6_on_1 : decode cX6_on 1 = .ok (.i2l, 1) := by decide +kernel
theorem dX6_on_2 : decode cX6_on 2 = .ok (.lconst 0, 1) := by decide +kernel
theorem dX6_on_3 : decode cX6_on 3 = .ok (.ldc2_w 148, 3) := by decide +kernel
theorem dX6_on_6 : decode cX6_on 6 = .ok (.invokestatic 62, 3) := by decide +kernel
theorem dX6_on_9 : decode cX6_on 9 = .ok (.ifCond .ne 25, 3) := by decide +kernel
theorem dX6_on_12 : decode cX6_on 12 = .ok (.iload_n 2, 1) := by decide +kernel
theorem dX6_on_13 : decode cX6_on 13 = .ok (.bipush 10, 2) := by decide +kernel
theorem dX6_on_15 : decode cX6_on 15 = .ok (.if_icmp .lt 17, 3) := by decide +kernel
theorem dX6_on_18 : decode cX6_on 18 = .ok (.aload_n 0, 1) := by decide +kernel
theorem dX6_on_19 : decode cX6_on 19 = .ok (.getfield 12, 3) := by decide +kernel
theorem dX6_on_22 : decode cX6_on 22 = .ok (.iload_n 2, 1) := by decide +kernel
theorem dX6_on_23 : decode cX6_on 23 = .ok (.bipush 10, 2) := by decide +kernel
theorem dX6_on_25 : decode cX6_on 25 = .ok (.isub, 1) := by decide +kernel
theorem dX6_on_26 : decode cX6_on 26 = .ok (.invokevirtual 85, 3) := by decide +kernel
theorem dX6_on_29 : decode cX6_on 29 = .ok (.ifCond .ne 5, 3) := by decide +kernel
theorem dX6_on_32 : decode cX6_on 32 = .ok (.iconst (-1), 1) := by decide +kernel
theorem dX6_on_33 : decode cX6_on 33 = .ok (.ireturn, 1) := by decide +kernel
theorem dX6_on_34 : decode cX6_on 34 = .ok (.iload_n 1, 1) := by decide +kernel
theorem dX6_on_35 : decode cX6_on 35 = .ok (.i2l, 1) := by decide +kernel
theorem dX6_on_36 : decode cX6_on 36 = .ok (.lconst 0, 1) := by decide +kernel
theorem dX6_on_37 : decode cX6_on 37 = .ok (.ldc2_w 141, 3) := by decide +kernel
theorem dX6_on_40 : decode cX6_on 40 = .ok (.invokestatic 62, 3) := by decide +kernel
theorem dX6_on_43 : decode cX6_on 43 = .ok (.ifCond .ne 6, 3) := by decide +kernel
theorem dX6_on_46 : decode cX6_on 46 = .ok (.bipush (-2), 2) := by decide +kernel
theorem dX6_on_48 : decode cX6_on 48 = .ok (.ireturn, 1) := by decide +kernel
theorem dX6_on_49 : decode cX6_on 49 = .ok (.aload_n 0, 1) := by decide +kernel
theorem dX6_on_50 : decode cX6_on 50 = .ok (.iload_n 1, 1) := by decide +kernel
theorem dX6_on_51 : decode cX6_on 51 = .ok (.invokevirtual 150, 3) := by decide +kernel
theorem dX6_on_54 : decode cX6_on 54 = .ok (.iload_n 2, 1) := by decide +kernel
theorem dX6_on_55 : decode cX6_on 55 = .ok (.tableswitch 59 0 2 #[25, 40, 49], 25) := by decide +kernel
theorem dX6_on_80 : decode cX6_on 80 = .ok (.aload_n 0, 1) := by decide +kernel
theorem dX6_on_81 : decode cX6_on 81 = .ok (.getfield 21, 3) := by decide +kernel
theorem dX6_on_84 : decode cX6_on 84 = .ok (.aload_n 0, 1) := by decide +kernel
theorem dX6_on_85 : decode cX6_on 85 = .ok (.getfield 21, 3) := by decide +kernel
theorem dX6_on_88 : decode cX6_on 88 = .ok (.getfield 121, 3) := by decide +kernel
theorem dX6_on_91 : decode cX6_on 91 = .ok (.invokevirtual 131, 3) := by decide +kernel
theorem dX6_on_94 : decode cX6_on 94 = .ok (.ireturn, 1) := by decide +kernel
theorem dX6_on_95 : decode cX6_on 95 = .ok (.aload_n 0, 1) := by decide +kernel
theorem dX6_on_96 : decode cX6_on 96 = .ok (.getfield 21, 3) := by decide +kernel
theorem dX6_on_99 : decode cX6_on 99 = .ok (.iconst 5, 1) := by decide +kernel
theorem dX6_on_100 : decode cX6_on 100 = .ok (.invokevirtual 138, 3) := by decide +kernel
theorem dX6_on_103 : decode cX6_on 103 = .ok (.ireturn, 1) := by decide +kernel
theorem dX6_on_104 : decode cX6_on 104 = .ok (.aload_n 0, 1) := by decide +kernel
theorem dX6_on_105 : decode cX6_on 105 = .ok (.getfield 21, 3) := by decide +kernel
theorem dX6_on_108 : decode cX6_on 108 = .ok (.bipush 6, 2) := by decide +kernel
theorem dX6_on_110 : decode cX6_on 110 = .ok (.invokevirtual 138, 3) := by decide +kernel
theorem dX6_on_113 : decode cX6_on 113 = .ok (.ireturn, 1) := by decide +kernel
theorem dX6_on_114 : decode cX6_on 114 = .ok (.aload_n 0, 1) := by decide +kernel
theorem dX6_on_115 : decode cX6_on 115 = .ok (.getfield 21, 3) := by decide +kernel
theorem dX6_on_118 : decode cX6_on 118 = .ok (.getfield 75, 3) := by decide +kernel
theorem dX6_on_121 : decode cX6_on 121 = .ok (.iload_n 2, 1) := by decide +kernel
theorem dX6_on_122 : decode cX6_on 122 = .ok (.bipush 10, 2) := by decide +kernel
theorem dX6_on_124 : decode cX6_on 124 = .ok (.isub, 1) := by decide +kernel
theorem dX6_on_125 : decode cX6_on 125 = .ok (.aaload, 1) := by decide +kernel
theorem dX6_on_126 : decode cX6_on 126 = .ok (.iconst 5, 1) := by decide +kernel
theorem dX6_on_127 : decode cX6_on 127 = .ok (.iaload, 1) := by decide +kernel
theorem dX6_on_128 : decode cX6_on 128 = .ok (.ireturn, 1) := by decide +kernel
theorem dX6_often_0 : decode cX6_often 0 = .ok (.aload_n 0, 1) := by decide +kernel
theorem dX6_often_1 : decode cX6_often 1 = .ok (.getfield 12, 3) := by decide +kernel
theorem dX6_often_4 : decode cX6_often 4 = .ok (.iload_n 1, 1) := by decide +kernel
theorem dX6_often_5 : decode cX6_often 5 = .ok (.invokevirtual 85, 3) := by decide +kernel
theorem dX6_often_8 : decode cX6_often 8 = .ok (.ifCond .eq 14, 3) := by decide +kernel
theorem dX6_often_11 : decode cX6_often 11 = .ok (.lload_n 2, 1) := by decide +kernel
theorem dX6_often_12 : decode cX6_often 12 = .ok (.lconst 0, 1) := by decide +kernel
theorem dX6_often_13 : decode cX6_often 13 = .ok (.ldc2_w 154, 3) := by decide +kernel
theorem dX6_often_16 : decode cX6_often 16 = .ok (.invokestatic 62, 3) := by decide +kernel
theorem dX6_often_19 : decode cX6_often 19 = .ok (.ifCond .ne 7, 3) := by decide +kernel
theorem dX6_often_22 : decode cX6_often 22 = .ok (.ldc2_w 156, 3) := by decide +kernel
theorem dX6_often_25 : decode cX6_often 25 = .ok (.lreturn, 1) := by decide +kernel
theorem dX6_often_26 : decode cX6_often 26 = .ok (.aload_n 0, 1) := by decide +kernel
theorem dX6_often_27 : decode cX6_often 27 = .ok (.aload_n 0, 1) := by decide +kernel
theorem dX6_often_28 : decode cX6_often 28 = .ok (.getfield 12, 3) := by decide +kernel
theorem dX6_often_31 : decode cX6_often 31 = .ok (.invokevirtual 89, 3) := by decide +kernel
theorem dX6_often_34 : decode cX6_often 34 = .ok (.aload_n 0, 1) := by decide +kernel
theorem dX6_often_35 : decode cX6_often 35 = .ok (.getfield 12, 3) := by decide +kernel
theorem dX6_often_38 : decode cX6_often 38 = .ok (.getfield 75, 3) := by decide +kernel
theorem dX6_often_41 : decode cX6_often 41 = .ok (.iload_n 1, 1) := by decide +kernel
theorem dX6_often_42 : decode cX6_often 42 = .ok (.aaload, 1) := by decide +kernel
theorem dX6_often_43 : decode cX6_often 43 = .ok (.bipush 9, 2) := by decide +kernel
theorem dX6_often_45 : decode cX6_often 45 = .ok (.iaload, 1) := by decide +kernel
