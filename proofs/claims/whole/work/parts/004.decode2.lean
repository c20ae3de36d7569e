theorem d_Ref_stands_135 : decode b_Ref_stands 135 = .ok (.iload_n 3, 1) := by decide +kernel
theorem d_Ref_stands_136 : decode b_Ref_stands 136 = .ok (.invokevirtual 310, 3) := by decide +kernel
theorem d_Ref_stands_139 : decode b_Ref_stands 139 = .ok (.istore 4, 2) := by decide +kernel
theorem d_Ref_stands_141 : decode b_Ref_stands 141 = .ok (.aload_n 0, 1) := by decide +kernel
theorem d_Ref_stands_142 : decode b_Ref_stands 142 = .ok (.getfield 111, 3) := by decide +kernel
theorem d_Ref_stands_145 : decode b_Ref_stands 145 = .ok (.iload_n 1, 1) := by decide +kernel
theorem d_Ref_stands_146 : decode b_Ref_stands 146 = .ok (.iaload, 1) := by decide +kernel
theorem d_Ref_stands_147 : decode b_Ref_stands 147 = .ok (.iload_n 3, 1) := by decide +kernel
theorem d_Ref_stands_148 : decode b_Ref_stands 148 = .ok (.ishr, 1) := by decide +kernel
theorem d_Ref_stands_149 : decode b_Ref_stands 149 = .ok (.iconst 1, 1) := by decide +kernel
theorem d_Ref_stands_150 : decode b_Ref_stands 150 = .ok (.iand, 1) := by decide +kernel
theorem d_Ref_stands_151 : decode b_Ref_stands 151 = .ok (.iconst 1, 1) := by decide +kernel
theorem d_Ref_stands_152 : decode b_Ref_stands 152 = .ok (.if_icmp .ne 52, 3) := by decide +kernel
theorem d_Ref_stands_155 : decode b_Ref_stands 155 = .ok (.aload_n 0, 1) := by decide +kernel
theorem d_Ref_stands_156 : decode b_Ref_stands 156 = .ok (.getfield 13, 3) := by decide +kernel
theorem d_Ref_stands_159 : decode b_Ref_stands 159 = .ok (.iload_n 2, 1) := by decide +kernel
theorem d_Ref_stands_160 : decode b_Ref_stands 160 = .ok (.iaload, 1) := by decide +kernel
theorem d_Ref_stands_161 : decode b_Ref_stands 161 = .ok (.iconst 4, 1) := by decide +kernel
theorem d_Ref_stands_162 : decode b_Ref_stands 162 = .ok (.if_icmp .eq 42, 3) := by decide +kernel
theorem d_Ref_stands_165 : decode b_Ref_stands 165 = .ok (.aload_n 0, 1) := by decide +kernel
theorem d_Ref_stands_166 : decode b_Ref_stands 166 = .ok (.getfield 13, 3) := by decide +kernel
theorem d_Ref_stands_169 : decode b_Ref_stands 169 = .ok (.iload 4, 2) := by decide +kernel
theorem d_Ref_stands_171 : decode b_Ref_stands 171 = .ok (.iaload, 1) := by decide +kernel
theorem d_Ref_stands_172 : decode b_Ref_stands 172 = .ok (.iconst 4, 1) := by decide +kernel
theorem d_Ref_stands_173 : decode b_Ref_stands 173 = .ok (.if_icmp .eq 31, 3) := by decide +kernel
theorem d_Ref_stands_176 : decode b_Ref_stands 176 = .ok (.aload_n 0, 1) := by decide +kernel
theorem d_Ref_stands_177 : decode b_Ref_stands 177 = .ok (.getfield 16, 3) := by decide +kernel
theorem d_Ref_stands_180 : decode b_Ref_stands 180 = .ok (.iload_n 2, 1) := by decide +kernel
theorem d_Ref_stands_181 : decode b_Ref_stands 181 = .ok (.iaload, 1) := by decide +kernel
theorem d_Ref_stands_182 : decode b_Ref_stands 182 = .ok (.aload_n 0, 1) := by decide +kernel
theorem d_Ref_stands_183 : decode b_Ref_stands 183 = .ok (.getfield 16, 3) := by decide +kernel
theorem d_Ref_stands_186 : decode b_Ref_stands 186 = .ok (.iload 4, 2) := by decide +kernel
theorem d_Ref_stands_188 : decode b_Ref_stands 188 = .ok (.iaload, 1) := by decide +kernel
theorem d_Ref_stands_189 : decode b_Ref_stands 189 = .ok (.if_icmp .ne 15, 3) := by decide +kernel
theorem d_Ref_stands_192 : decode b_Ref_stands 192 = .ok (.aload_n 0, 1) := by decide +kernel
theorem d_Ref_stands_193 : decode b_Ref_stands 193 = .ok (.getfield 123, 3) := by decide +kernel
theorem d_Ref_stands_196 : decode b_Ref_stands 196 = .ok (.iload_n 1, 1) := by decide +kernel
theorem d_Ref_stands_197 : decode b_Ref_stands 197 = .ok (.dup2, 1) := by decide +kernel
theorem d_Ref_stands_198 : decode b_Ref_stands 198 = .ok (.iaload, 1) := by decide +kernel
theorem d_Ref_stands_199 : decode b_Ref_stands 199 = .ok (.iconst 1, 1) := by decide +kernel
theorem d_Ref_stands_200 : decode b_Ref_stands 200 = .ok (.iload_n 3, 1) := by decide +kernel
theorem d_Ref_stands_201 : decode b_Ref_stands 201 = .ok (.ishl, 1) := by decide +kernel
theorem d_Ref_stands_202 : decode b_Ref_stands 202 = .ok (.ior, 1) := by decide +kernel
theorem d_Ref_stands_203 : decode b_Ref_stands 203 = .ok (.iastore, 1) := by decide +kernel
theorem d_Ref_stands_204 : decode b_Ref_stands 204 = .ok (.iinc 3 1, 3) := by decide +kernel
theorem d_Ref_stands_207 : decode b_Ref_stands 207 = .ok (.goto (-81), 3) := by decide +kernel
theorem d_Ref_stands_210 : decode b_Ref_stands 210 = .ok (.iinc 1 1, 3) := by decide +kernel
theorem d_Ref_stands_213 : decode b_Ref_stands 213 = .ok (.goto (-129), 3) := by decide +kernel
theorem d_Ref_stands_216 : decode b_Ref_stands 216 = .ok (.aload_n 0, 1) := by decide +kernel
theorem d_Ref_stands_217 : decode b_Ref_stands 217 = .ok (.invokevirtual 304, 3) := by decide +kernel
theorem d_Ref_stands_220 : decode b_Ref_stands 220 = .ok (.ifCond .eq 5, 3) := by decide +kernel
theorem d_Ref_stands_223 : decode b_Ref_stands 223 = .ok (.iconst 0, 1) := by decide +kernel
theorem d_Ref_stands_224 : decode b_Ref_stands 224 = .ok (.ireturn, 1) := by decide +kernel
theorem d_Ref_stands_225 : decode b_Ref_stands 225 = .ok (.iconst 0, 1) := by decide +kernel
theorem d_Ref_stands_226 : decode b_Ref_stands 226 = .ok (.istore_n 1, 1) := by decide +kernel
theorem d_Ref_stands_227 : decode b_Ref_stands 227 = .ok (.iload_n 1, 1) := by decide +kernel
theorem d_Ref_stands_228 : decode b_Ref_stands 228 = .ok (.aload_n 0, 1) := by decide +kernel
theorem d_Ref_stands_229 : decode b_Ref_stands 229 = .ok (.getfield 284, 3) := by decide +kernel
theorem d_Ref_stands_232 : decode b_Ref_stands 232 = .ok (.if_icmp .ge 119, 3) := by decide +kernel
theorem d_Ref_stands_235 : decode b_Ref_stands 235 = .ok (.aload_n 0, 1) := by decide +kernel
theorem d_Ref_stands_236 : decode b_Ref_stands 236 = .ok (.iload_n 1, 1) := by decide +kernel
theorem d_Ref_stands_237 : decode b_Ref_stands 237 = .ok (.invokevirtual 310, 3) := by decide +kernel
theorem d_Ref_stands_240 : decode b_Ref_stands 240 = .ok (.istore_n 2, 1) := by decide +kernel
theorem d_Ref_stands_241 : decode b_Ref_stands 241 = .ok (.aload_n 0, 1) := by decide +kernel
theorem d_Ref_stands_242 : decode b_Ref_stands 242 = .ok (.getfield 123, 3) := by decide +kernel
theorem d_Ref_stands_245 : decode b_Ref_stands 245 = .ok (.iload_n 1, 1) := by decide +kernel
theorem d_Ref_stands_246 : decode b_Ref_stands 246 = .ok (.aload_n 0, 1) := by decide +kernel
theorem d_Ref_stands_247 : decode b_Ref_stands 247 = .ok (.getfield 117, 3) := by decide +kernel
theorem d_Ref_stands_250 : decode b_Ref_stands 250 = .ok (.iload_n 1, 1) := by decide +kernel
theorem d_Ref_stands_251 : decode b_Ref_stands 251 = .ok (.iaload, 1) := by decide +kernel
theorem d_Ref_stands_252 : decode b_Ref_stands 252 = .ok (.aload_n 0, 1) := by decide +kernel
theorem d_Ref_stands_253 : decode b_Ref_stands 253 = .ok (.getfield 120, 3) := by decide +kernel
theorem d_Ref_stands_256 : decode b_Ref_stands 256 = .ok (.iload_n 1, 1) := by decide +kernel
theorem d_Ref_stands_257 : decode b_Ref_stands 257 = .ok (.iaload, 1) := by decide +kernel
theorem d_Ref_stands_258 : decode b_Ref_stands 258 = .ok (.ior, 1) := by decide +kernel
theorem d_Ref_stands_259 : decode b_Ref_stands 259 = .ok (.iastore, 1) := by decide +kernel
theorem d_Ref_stands_260 : decode b_Ref_stands 260 = .ok (.iconst 0, 1) := by decide +kernel
theorem d_Ref_stands_261 : decode b_Ref_stands 261 = .ok (.istore_n 3, 1) := by decide +kernel
theorem d_Ref_stands_262 : decode b_Ref_stands 262 = .ok (.iload_n 3, 1) := by decide +kernel
theorem d_Ref_stands_263 : decode b_Ref_stands 263 = .ok (.aload_n 0, 1) := by decide +kernel
theorem d_Ref_stands_264 : decode b_Ref_stands 264 = .ok (.getfield 284, 3) := by decide +kernel
theorem d_Ref_stands_267 : decode b_Ref_stands 267 = .ok (.if_icmp .ge 78, 3) := by decide +kernel
theorem d_Ref_stands_270 : decode b_Ref_stands 270 = .ok (.aload_n 0, 1) := by decide +kernel
theorem d_Ref_stands_271 : decode b_Ref_stands 271 = .ok (.iload_n 3, 1) := by decide +kernel
theorem d_Ref_stands_272 : decode b_Ref_stands 272 = .ok (.invokevirtual 310, 3) := by decide +kernel
theorem d_Ref_stands_275 : decode b_Ref_stands 275 = .ok (.istore 4, 2) := by decide +kernel
theorem d_Ref_stands_277 : decode b_Ref_stands 277 = .ok (.aload_n 0, 1) := by decide +kernel
theorem d_Ref_stands_278 : decode b_Ref_stands 278 = .ok (.getfield 111, 3) := by decide +kernel
theorem d_Ref_stands_281 : decode b_Ref_stands 281 = .ok (.iload_n 1, 1) := by decide +kernel
theorem d_Ref_stands_282 : decode b_Ref_stands 282 = .ok (.iaload, 1) := by decide +kernel
theorem d_Ref_stands_283 : decode b_Ref_stands 283 = .ok (.iload_n 3, 1) := by decide +kernel
theorem d_Ref_stands_284 : decode b_Ref_stands 284 = .ok (.ishr, 1) := by decide +kernel
theorem d_Ref_stands_285 : decode b_Ref_stands 285 = .ok (.iconst 1, 1) := by decide +kernel
theorem d_Ref_stands_286 : decode b_Ref_stands 286 = .ok (.iand, 1) := by decide +kernel
theorem d_Ref_stands_287 : decode b_Ref_stands 287 = .ok (.iconst 1, 1) := by decide +kernel
theorem d_Ref_stands_288 : decode b_Ref_stands 288 = .ok (.if_icmp .ne 13, 3) := by decide +kernel
theorem d_Ref_stands_291 : decode b_Ref_stands 291 = .ok (.aload_n 0, 1) := by decide +kernel
theorem d_Ref_stands_292 : decode b_Ref_stands 292 = .ok (.iload_n 2, 1) := by decide +kernel
theorem d_Ref_stands_293 : decode b_Ref_stands 293 = .ok (.iload 4, 2) := by decide +kernel
theorem d_Ref_stands_295 : decode b_Ref_stands 295 = .ok (.invokevirtual 313, 3) := by decide +kernel
theorem d_Ref_stands_298 : decode b_Ref_stands 298 = .ok (.ifCond .ne 29, 3) := by decide +kernel
theorem d_Ref_stands_301 : decode b_Ref_stands 301 = .ok (.aload_n 0, 1) := by decide +kernel
theorem d_Ref_stands_302 : decode b_Ref_stands 302 = .ok (.getfield 114, 3) := by decide +kernel
theorem d_Ref_stands_305 : decode b_Ref_stands 305 = .ok (.iload_n 1, 1) := by decide +kernel
theorem d_Ref_stands_306 : decode b_Ref_stands 306 = .ok (.iaload, 1) := by decide +kernel
theorem d_Ref_stands_307 : decode b_Ref_stands 307 = .ok (.iload_n 3, 1) := by decide +kernel
theorem d_Ref_stands_308 : decode b_Ref_stands 308 = .ok (.ishr, 1) := by decide +kernel
theorem d_Ref_stands_309 : decode b_Ref_stands 309 = .ok (.iconst 1, 1) := by decide +kernel
theorem d_Ref_stands_310 : decode b_Ref_stands 310 = .ok (.iand, 1) := by decide +kernel
theorem d_Ref_stands_311 : decode b_Ref_stands 311 = .ok (.iconst 1, 1) := by decide +kernel
theorem d_Ref_stands_312 : decode b_Ref_stands 312 = .ok (.if_icmp .ne 27, 3) := by decide +kernel
theorem d_Ref_stands_315 : decode b_Ref_stands 315 = .ok (.iload_n 2, 1) := by decide +kernel
theorem d_Ref_stands_316 : decode b_Ref_stands 316 = .ok (.bipush 7, 2) := by decide +kernel
theorem d_Ref_stands_318 : decode b_Ref_stands 318 = .ok (.idiv, 1) := by decide +kernel
theorem d_Ref_stands_319 : decode b_Ref_stands 319 = .ok (.iload 4, 2) := by decide +kernel
theorem d_Ref_stands_321 : decode b_Ref_stands 321 = .ok (.bipush 7, 2) := by decide +kernel
theorem d_Ref_stands_323 : decode b_Ref_stands 323 = .ok (.idiv, 1) := by decide +kernel
theorem d_Ref_stands_324 : decode b_Ref_stands 324 = .ok (.if_icmp .eq 15, 3) := by decide +kernel
theorem d_Ref_stands_327 : decode b_Ref_stands 327 = .ok (.aload_n 0, 1) := by decide +kernel
theorem d_Ref_stands_328 : decode b_Ref_stands 328 = .ok (.getfield 123, 3) := by decide +kernel
theorem d_Ref_stands_331 : decode b_Ref_stands 331 = .ok (.iload_n 1, 1) := by decide +kernel
theorem d_Ref_stands_332 : decode b_Ref_stands 332 = .ok (.dup2, 1) := by decide +kernel
theorem d_Ref_stands_333 : decode b_Ref_stands 333 = .ok (.iaload, 1) := by decide +kernel
theorem d_Ref_stands_334 : decode b_Ref_stands 334 = .ok (.iconst 1, 1) := by decide +kernel
theorem d_Ref_stands_335 : decode b_Ref_stands 335 = .ok (.iload_n 3, 1) := by decide +kernel
theorem d_Ref_stands_336 : decode b_Ref_stands 336 = .ok (.ishl, 1) := by decide +kernel
theorem d_Ref_stands_337 : decode b_Ref_stands 337 = .ok (.ior, 1) := by decide +kernel
theorem d_Ref_stands_338 : decode b_Ref_stands 338 = .ok (.iastore, 1) := by decide +kernel
theorem d_Ref_stands_339 : decode b_Ref_stands 339 = .ok (.iinc 3 1, 3) := by decide +kernel
theorem d_Ref_stands_342 : decode b_Ref_stands 342 = .ok (.goto (-80), 3) := by decide +kernel
theorem d_Ref_stands_345 : decode b_Ref_stands 345 = .ok (.iinc 1 1, 3) := by decide +kernel
theorem d_Ref_stands_348 : decode b_Ref_stands 348 = .ok (.goto (-121), 3) := by decide +kernel
theorem d_Ref_stands_351 : decode b_Ref_stands 351 = .ok (.aload_n 0, 1) := by decide +kernel
theorem d_Ref_stands_352 : decode b_Ref_stands 352 = .ok (.invokevirtual 304, 3) := by decide +kernel
theorem d_Ref_stands_355 : decode b_Ref_stands 355 = .ok (.ifCond .ne 7, 3) := by decide +kernel
theorem d_Ref_stands_358 : decode b_Ref_stands 358 = .ok (.iconst 1, 1) := by decide +kernel
theorem d_Ref_stands_359 : decode b_Ref_stands 359 = .ok (.goto 4, 3) := by decide +kernel
theorem d_Ref_stands_362 : decode b_Ref_stands 362 = .ok (.iconst 0, 1) := by decide +kernel
theorem d_Ref_stands_363 : decode b_Ref_stands 363 = .ok (.ireturn, 1) := by decide +kernel
theorem d_Ref_standsKnown_0 : decode b_Ref_standsKnown 0 = .ok (.iconst 0, 1) := by decide +kernel
theorem d_Ref_standsKnown_1 : decode b_Ref_standsKnown 1 = .ok (.istore_n 1, 1) := by decide +kernel
theorem d_Ref_standsKnown_2 : decode b_Ref_standsKnown 2 = .ok (.iload_n 1, 1) := by decide +kernel
theorem d_Ref_standsKnown_3 : decode b_Ref_standsKnown 3 = .ok (.aload_n 0, 1) := by decide +kernel
theorem d_Ref_standsKnown_4 : decode b_Ref_standsKnown 4 = .ok (.getfield 284, 3) := by decide +kernel
theorem d_Ref_standsKnown_7 : decode b_Ref_standsKnown 7 = .ok (.if_icmp .ge 28, 3) := by decide +kernel
theorem d_Ref_standsKnown_10 : decode b_Ref_standsKnown 10 = .ok (.aload_n 0, 1) := by decide +kernel
theorem d_Ref_standsKnown_11 : decode b_Ref_standsKnown 11 = .ok (.getfield 123, 3) := by decide +kernel
theorem d_Ref_standsKnown_14 : decode b_Ref_standsKnown 14 = .ok (.iload_n 1, 1) := by decide +kernel
theorem d_Ref_standsKnown_15 : decode b_Ref_standsKnown 15 = .ok (.aload_n 0, 1) := by decide +kernel
theorem d_Ref_standsKnown_16 : decode b_Ref_standsKnown 16 = .ok (.getfield 111, 3) := by decide +kernel
theorem d_Ref_standsKnown_19 : decode b_Ref_standsKnown 19 = .ok (.iload_n 1, 1) := by decide +kernel
theorem d_Ref_standsKnown_20 : decode b_Ref_standsKnown 20 = .ok (.iaload, 1) := by decide +kernel
theorem d_Ref_standsKnown_21 : decode b_Ref_standsKnown 21 = .ok (.aload_n 0, 1) := by decide +kernel
theorem d_Ref_standsKnown_22 : decode b_Ref_standsKnown 22 = .ok (.getfield 114, 3) := by decide +kernel
theorem d_Ref_standsKnown_25 : decode b_Ref_standsKnown 25 = .ok (.iload_n 1, 1) := by decide +kernel
theorem d_Ref_standsKnown_26 : decode b_Ref_standsKnown 26 = .ok (.iaload, 1) := by decide +kernel
theorem d_Ref_standsKnown_27 : decode b_Ref_standsKnown 27 = .ok (.ior, 1) := by decide +kernel
theorem d_Ref_standsKnown_28 : decode b_Ref_standsKnown 28 = .ok (.iastore, 1) := by decide +kernel
theorem d_Ref_standsKnown_29 : decode b_Ref_standsKnown 29 = .ok (.iinc 1 1, 3) := by decide +kernel
theorem d_Ref_standsKnown_32 : decode b_Ref_standsKnown 32 = .ok (.goto (-30), 3) := by decide +kernel
theorem d_Ref_standsKnown_35 : decode b_Ref_standsKnown 35 = .ok (.aload_n 0, 1) := by decide +kernel
theorem d_Ref_standsKnown_36 : decode b_Ref_standsKnown 36 = .ok (.invokevirtual 304, 3) := by decide +kernel
theorem d_Ref_standsKnown_39 : decode b_Ref_standsKnown 39 = .ok (.ifCond .eq 5, 3) := by decide +kernel
theorem d_Ref_standsKnown_42 : decode b_Ref_standsKnown 42 = .ok (.iconst 0, 1) := by decide +kernel
theorem d_Ref_standsKnown_43 : decode b_Ref_standsKnown 43 = .ok (.ireturn, 1) := by decide +kernel
theorem d_Ref_standsKnown_44 : decode b_Ref_standsKnown 44 = .ok (.iconst 0, 1) := by decide +kernel
theorem d_Ref_standsKnown_45 : decode b_Ref_standsKnown 45 = .ok (.istore_n 1, 1) := by decide +kernel
theorem d_Ref_standsKnown_46 : decode b_Ref_standsKnown 46 = .ok (.iload_n 1, 1) := by decide +kernel
theorem d_Ref_standsKnown_47 : decode b_Ref_standsKnown 47 = .ok (.aload_n 0, 1) := by decide +kernel
theorem d_Ref_standsKnown_48 : decode b_Ref_standsKnown 48 = .ok (.getfield 284, 3) := by decide +kernel
theorem d_Ref_standsKnown_51 : decode b_Ref_standsKnown 51 = .ok (.if_icmp .ge 47, 3) := by decide +kernel
theorem d_Ref_standsKnown_54 : decode b_Ref_standsKnown 54 = .ok (.aload_n 0, 1) := by decide +kernel
theorem d_Ref_standsKnown_55 : decode b_Ref_standsKnown 55 = .ok (.getfield 126, 3) := by decide +kernel
theorem d_Ref_standsKnown_58 : decode b_Ref_standsKnown 58 = .ok (.iload_n 1, 1) := by decide +kernel
theorem d_Ref_standsKnown_59 : decode b_Ref_standsKnown 59 = .ok (.aload_n 0, 1) := by decide +kernel
theorem d_Ref_standsKnown_60 : decode b_Ref_standsKnown 60 = .ok (.getfield 123, 3) := by decide +kernel
theorem d_Ref_standsKnown_63 : decode b_Ref_standsKnown 63 = .ok (.iload_n 1, 1) := by decide +kernel
theorem d_Ref_standsKnown_64 : decode b_Ref_standsKnown 64 = .ok (.iaload, 1) := by decide +kernel
theorem d_Ref_standsKnown_65 : decode b_Ref_standsKnown 65 = .ok (.iastore, 1) := by decide +kernel
theorem d_Ref_standsKnown_66 : decode b_Ref_standsKnown 66 = .ok (.aload_n 0, 1) := by decide +kernel
theorem d_Ref_standsKnown_67 : decode b_Ref_standsKnown 67 = .ok (.getfield 123, 3) := by decide +kernel
theorem d_Ref_standsKnown_70 : decode b_Ref_standsKnown 70 = .ok (.iload_n 1, 1) := by decide +kernel
theorem d_Ref_standsKnown_71 : decode b_Ref_standsKnown 71 = .ok (.aload_n 0, 1) := by decide +kernel
theorem d_Ref_standsKnown_72 : decode b_Ref_standsKnown 72 = .ok (.getfield 114, 3) := by decide +kernel
theorem d_Ref_standsKnown_75 : decode b_Ref_standsKnown 75 = .ok (.iload_n 1, 1) := by decide +kernel
theorem d_Ref_standsKnown_76 : decode b_Ref_standsKnown 76 = .ok (.iaload, 1) := by decide +kernel
theorem d_Ref_standsKnown_77 : decode b_Ref_standsKnown 77 = .ok (.aload_n 0, 1) := by decide +kernel
theorem d_Ref_standsKnown_78 : decode b_Ref_standsKnown 78 = .ok (.getfield 117, 3) := by decide +kernel
theorem d_Ref_standsKnown_81 : decode b_Ref_standsKnown 81 = .ok (.iload_n 1, 1) := by decide +kernel
theorem d_Ref_standsKnown_82 : decode b_Ref_standsKnown 82 = .ok (.iaload, 1) := by decide +kernel
theorem d_Ref_standsKnown_83 : decode b_Ref_standsKnown 83 = .ok (.ior, 1) := by decide +kernel
theorem d_Ref_standsKnown_84 : decode b_Ref_standsKnown 84 = .ok (.aload_n 0, 1) := by decide +kernel
theorem d_Ref_standsKnown_85 : decode b_Ref_standsKnown 85 = .ok (.getfield 120, 3) := by decide +kernel
theorem d_Ref_standsKnown_88 : decode b_Ref_standsKnown 88 = .ok (.iload_n 1, 1) := by decide +kernel
theorem d_Ref_standsKnown_89 : decode b_Ref_standsKnown 89 = .ok (.iaload, 1) := by decide +kernel
theorem d_Ref_standsKnown_90 : decode b_Ref_standsKnown 90 = .ok (.ior, 1) := by decide +kernel
theorem d_Ref_standsKnown_91 : decode b_Ref_standsKnown 91 = .ok (.iastore, 1) := by decide +kernel
theorem d_Ref_standsKnown_92 : decode b_Ref_standsKnown 92 = .ok (.iinc 1 1, 3) := by decide +kernel
theorem d_Ref_standsKnown_95 : decode b_Ref_standsKnown 95 = .ok (.goto (-49), 3) := by decide +kernel
theorem d_Ref_standsKnown_98 : decode b_Ref_standsKnown 98 = .ok (.aload_n 0, 1) := by decide +kernel
theorem d_Ref_standsKnown_99 : decode b_Ref_standsKnown 99 = .ok (.invokevirtual 304, 3) := by decide +kernel
theorem d_Ref_standsKnown_102 : decode b_Ref_standsKnown 102 = .ok (.pop, 1) := by decide +kernel
theorem d_Ref_standsKnown_103 : decode b_Ref_standsKnown 103 = .ok (.iconst 0, 1) := by decide +kernel
theorem d_Ref_standsKnown_104 : decode b_Ref_standsKnown 104 = .ok (.istore_n 1, 1) := by decide +kernel
theorem d_Ref_standsKnown_105 : decode b_Ref_standsKnown 105 = .ok (.iload_n 1, 1) := by decide +kernel
theorem d_Ref_standsKnown_106 : decode b_Ref_standsKnown 106 = .ok (.aload_n 0, 1) := by decide +kernel
theorem d_Ref_standsKnown_107 : decode b_Ref_standsKnown 107 = .ok (.getfield 284, 3) := by decide +kernel
theorem d_Ref_standsKnown_110 : decode b_Ref_standsKnown 110 = .ok (.if_icmp .ge 55, 3) := by decide +kernel
theorem d_Ref_standsKnown_113 : decode b_Ref_standsKnown 113 = .ok (.iconst 0, 1) := by decide +kernel
theorem d_Ref_standsKnown_114 : decode b_Ref_standsKnown 114 = .ok (.istore_n 2, 1) := by decide +kernel
theorem d_Ref_standsKnown_115 : decode b_Ref_standsKnown 115 = .ok (.iload_n 2, 1) := by decide +kernel
theorem d_Ref_standsKnown_116 : decode b_Ref_standsKnown 116 = .ok (.aload_n 0, 1) := by decide +kernel
theorem d_Ref_standsKnown_117 : decode b_Ref_standsKnown 117 = .ok (.getfield 284, 3) := by decide +kernel
theorem d_Ref_standsKnown_120 : decode b_Ref_standsKnown 120 = .ok (.if_icmp .ge 39, 3) := by decide +kernel
theorem d_Ref_standsKnown_123 : decode b_Ref_standsKnown 123 = .ok (.aload_n 0, 1) := by decide +kernel
theorem d_Ref_standsKnown_124 : decode b_Ref_standsKnown 124 = .ok (.getfield 126, 3) := by decide +kernel
theorem d_Ref_standsKnown_127 : decode b_Ref_standsKnown 127 = .ok (.iload_n 1, 1) := by decide +kernel
theorem d_Ref_standsKnown_128 : decode b_Ref_standsKnown 128 = .ok (.iaload, 1) := by decide +kernel
theorem d_Ref_standsKnown_129 : decode b_Ref_standsKnown 129 = .ok (.iload_n 2, 1) := by decide +kernel
theorem d_Ref_standsKnown_130 : decode b_Ref_standsKnown 130 = .ok (.ishr, 1) := by decide +kernel
theorem d_Ref_standsKnown_131 : decode b_Ref_standsKnown 131 = .ok (.iconst 1, 1) := by decide +kernel
theorem d_Ref_standsKnown_132 : decode b_Ref_standsKnown 132 = .ok (.iand, 1) := by decide +kernel
theorem d_Ref_standsKnown_133 : decode b_Ref_standsKnown 133 = .ok (.iconst 1, 1) := by decide +kernel
theorem d_Ref_standsKnown_134 : decode b_Ref_standsKnown 134 = .ok (.if_icmp .ne 19, 3) := by decide +kernel
theorem d_Ref_standsKnown_137 : decode b_Ref_standsKnown 137 = .ok (.aload_n 0, 1) := by decide +kernel
theorem d_Ref_standsKnown_138 : decode b_Ref_standsKnown 138 = .ok (.getfield 123, 3) := by decide +kernel
theorem d_Ref_standsKnown_141 : decode b_Ref_standsKnown 141 = .ok (.iload_n 2, 1) := by decide +kernel
theorem d_Ref_standsKnown_142 : decode b_Ref_standsKnown 142 = .ok (.iaload, 1) := by decide +kernel
theorem d_Ref_standsKnown_143 : decode b_Ref_standsKnown 143 = .ok (.iload_n 1, 1) := by decide +kernel
theorem d_Ref_standsKnown_144 : decode b_Ref_standsKnown 144 = .ok (.ishr, 1) := by decide +kernel
theorem d_Ref_standsKnown_145 : decode b_Ref_standsKnown 145 = .ok (.iconst 1, 1) := by decide +kernel
theorem d_Ref_standsKnown_146 : decode b_Ref_standsKnown 146 = .ok (.iand, 1) := by decide +kernel
theorem d_Ref_standsKnown_147 : decode b_Ref_standsKnown 147 = .ok (.iconst 1, 1) := by decide +kernel
theorem d_Ref_standsKnown_148 : decode b_Ref_standsKnown 148 = .ok (.if_icmp .ne 5, 3) := by decide +kernel
theorem d_Ref_standsKnown_151 : decode b_Ref_standsKnown 151 = .ok (.iconst 0, 1) := by decide +kernel
theorem d_Ref_standsKnown_152 : decode b_Ref_standsKnown 152 = .ok (.ireturn, 1) := by decide +kernel
theorem d_Ref_standsKnown_153 : decode b_Ref_standsKnown 153 = .ok (.iinc 2 1, 3) := by decide +kernel
theorem d_Ref_standsKnown_156 : decode b_Ref_standsKnown 156 = .ok (.goto (-41), 3) := by decide +kernel
theorem d_Ref_standsKnown_159 : decode b_Ref_standsKnown 159 = .ok (.iinc 1 1, 3) := by decide +kernel
theorem d_Ref_standsKnown_162 : decode b_Ref_standsKnown 162 = .ok (.goto (-57), 3) := by decide +kernel
theorem d_Ref_standsKnown_165 : decode b_Ref_standsKnown 165 = .ok (.iconst 1, 1) := by decide +kernel
theorem d_Ref_standsKnown_166 : decode b_Ref_standsKnown 166 = .ok (.ireturn, 1) := by decide +kernel
theorem d_Ref_isModel_0 : decode b_Ref_isModel 0 = .ok (.iload_n 0, 1) := by decide +kernel
theorem d_Ref_isModel_1 : decode b_Ref_isModel 1 = .ok (.ifCond .lt 12, 3) := by decide +kernel
theorem d_Ref_isModel_4 : decode b_Ref_isModel 4 = .ok (.iload_n 0, 1) := by decide +kernel
theorem d_Ref_isModel_5 : decode b_Ref_isModel 5 = .ok (.iconst 3, 1) := by decide +kernel
theorem d_Ref_isModel_6 : decode b_Ref_isModel 6 = .ok (.if_icmp .gt 7, 3) := by decide +kernel
theorem d_Ref_isModel_9 : decode b_Ref_isModel 9 = .ok (.iconst 1, 1) := by decide +kernel
theorem d_Ref_isModel_10 : decode b_Ref_isModel 10 = .ok (.goto 4, 3) := by decide +kernel
theorem d_Ref_isModel_13 : decode b_Ref_isModel 13 = .ok (.iconst 0, 1) := by decide +kernel
theorem d_Ref_isModel_14 : decode b_Ref_isModel 14 = .ok (.ireturn, 1) := by decide +kernel
theorem d_Ref_runs_0 : decode b_Ref_runs 0 = .ok (.iload_n 1, 1) := by decide +kernel
theorem d_Ref_runs_1 : decode b_Ref_runs 1 = .ok (.invokestatic 316, 3) := by decide +kernel
theorem d_Ref_runs_4 : decode b_Ref_runs 4 = .ok (.ifCond .ne 5, 3) := by decide +kernel
theorem d_Ref_runs_7 : decode b_Ref_runs 7 = .ok (.iconst (-1), 1) := by decide +kernel
theorem d_Ref_runs_8 : decode b_Ref_runs 8 = .ok (.ireturn, 1) := by decide +kernel
theorem d_Ref_runs_9 : decode b_Ref_runs 9 = .ok (.aload_n 0, 1) := by decide +kernel
theorem d_Ref_runs_10 : decode b_Ref_runs 10 = .ok (.iload_n 1, 1) := by decide +kernel
theorem d_Ref_runs_11 : decode b_Ref_runs 11 = .ok (.invokevirtual 319, 3) := by decide +kernel
theorem d_Ref_runs_14 : decode b_Ref_runs 14 = .ok (.aload_n 0, 1) := by decide +kernel
theorem d_Ref_runs_15 : decode b_Ref_runs 15 = .ok (.getfield 29, 3) := by decide +kernel
theorem d_Ref_runs_18 : decode b_Ref_runs 18 = .ok (.iload_n 1, 1) := by decide +kernel
theorem d_Ref_runs_19 : decode b_Ref_runs 19 = .ok (.iaload, 1) := by decide +kernel
theorem d_Ref_runs_20 : decode b_Ref_runs 20 = .ok (.ireturn, 1) := by decide +kernel
theorem d_Ref_told_0 : decode b_Ref_told 0 = .ok (.iload_n 2, 1) := by decide +kernel
theorem d_Ref_told_1 : decode b_Ref_told 1 = .ok (.ifCond .lt 27, 3) := by decide +kernel
theorem d_Ref_told_4 : decode b_Ref_told 4 = .ok (.iload_n 2, 1) := by decide +kernel
theorem d_Ref_told_5 : decode b_Ref_told 5 = .ok (.aload_n 0, 1) := by decide +kernel
theorem d_Ref_told_6 : decode b_Ref_told 6 = .ok (.getfield 29, 3) := by decide +kernel
theorem d_Ref_told_9 : decode b_Ref_told 9 = .ok (.iload_n 1, 1) := by decide +kernel
theorem d_Ref_told_10 : decode b_Ref_told 10 = .ok (.iaload, 1) := by decide +kernel
theorem d_Ref_told_11 : decode b_Ref_told 11 = .ok (.if_icmp .ge 17, 3) := by decide +kernel
theorem d_Ref_told_14 : decode b_Ref_told 14 = .ok (.iload_n 3, 1) := by decide +kernel
theorem d_Ref_told_15 : decode b_Ref_told 15 = .ok (.ifCond .lt 13, 3) := by decide +kernel
theorem d_Ref_told_18 : decode b_Ref_told 18 = .ok (.iload_n 3, 1) := by decide +kernel
theorem d_Ref_told_19 : decode b_Ref_told 19 = .ok (.bipush 10, 2) := by decide +kernel
theorem d_Ref_told_21 : decode b_Ref_told 21 = .ok (.if_icmp .gt 7, 3) := by decide +kernel
theorem d_Ref_told_24 : decode b_Ref_told 24 = .ok (.iconst 1, 1) := by decide +kernel
theorem d_Ref_told_25 : decode b_Ref_told 25 = .ok (.goto 4, 3) := by decide +kernel
theorem d_Ref_told_28 : decode b_Ref_told 28 = .ok (.iconst 0, 1) := by decide +kernel
theorem d_Ref_told_29 : decode b_Ref_told 29 = .ok (.istore 4, 2) := by decide +kernel
theorem d_Ref_told_31 : decode b_Ref_told 31 = .ok (.iload 4, 2) := by decide +kernel
theorem d_Ref_told_33 : decode b_Ref_told 33 = .ok (.ifCond .eq 34, 3) := by decide +kernel
theorem d_Ref_told_36 : decode b_Ref_told 36 = .ok (.aload_n 0, 1) := by decide +kernel
theorem d_Ref_told_37 : decode b_Ref_told 37 = .ok (.getfield 33, 3) := by decide +kernel
theorem d_Ref_told_40 : decode b_Ref_told 40 = .ok (.bipush 11, 2) := by decide +kernel
theorem d_Ref_told_42 : decode b_Ref_told 42 = .ok (.sipush 4000, 3) := by decide +kernel
theorem d_Ref_told_45 : decode b_Ref_told 45 = .ok (.iload_n 1, 1) := by decide +kernel
theorem d_Ref_told_46 : decode b_Ref_told 46 = .ok (.imul, 1) := by decide +kernel
theorem d_Ref_told_47 : decode b_Ref_told 47 = .ok (.aload_n 0, 1) := by decide +kernel
theorem d_Ref_told_48 : decode b_Ref_told 48 = .ok (.getfield 44, 3) := by decide +kernel
theorem d_Ref_told_51 : decode b_Ref_told 51 = .ok (.sipush 4000, 3) := by decide +kernel
theorem d_Ref_told_54 : decode b_Ref_told 54 = .ok (.iload_n 1, 1) := by decide +kernel
theorem d_Ref_told_55 : decode b_Ref_told 55 = .ok (.imul, 1) := by decide +kernel
theorem d_Ref_told_56 : decode b_Ref_told 56 = .ok (.iload_n 2, 1) := by decide +kernel
theorem d_Ref_told_57 : decode b_Ref_told 57 = .ok (.iadd, 1) := by decide +kernel
theorem d_Ref_told_58 : decode b_Ref_told 58 = .ok (.iaload, 1) := by decide +kernel
theorem d_Ref_told_59 : decode b_Ref_told 59 = .ok (.iadd, 1) := by decide +kernel
theorem d_Ref_told_60 : decode b_Ref_told 60 = .ok (.imul, 1) := by decide +kernel
theorem d_Ref_told_61 : decode b_Ref_told 61 = .ok (.iload_n 3, 1) := by decide +kernel
theorem d_Ref_told_62 : decode b_Ref_told 62 = .ok (.iadd, 1) := by decide +kernel
theorem d_Ref_told_63 : decode b_Ref_told 63 = .ok (.saload, 1) := by decide +kernel
theorem d_Ref_told_64 : decode b_Ref_told 64 = .ok (.goto 6, 3) := by decide +kernel
theorem d_Ref_told_67 : decode b_Ref_told 67 = .ok (.sipush (-1000), 3) := by decide +kernel
theorem d_Ref_told_70 : decode b_Ref_told 70 = .ok (.ireturn, 1) := by decide +kernel
theorem d_Ref_outcome_0 : decode b_Ref_outcome 0 = .ok (.iload_n 1, 1) := by decide +kernel
theorem d_Ref_outcome_1 : decode b_Ref_outcome 1 = .ok (.invokestatic 316, 3) := by decide +kernel
theorem d_Ref_outcome_4 : decode b_Ref_outcome 4 = .ok (.ifCond .ne 7, 3) := by decide +kernel
theorem d_Ref_outcome_7 : decode b_Ref_outcome 7 = .ok (.sipush (-1000), 3) := by decide +kernel
theorem d_Ref_outcome_10 : decode b_Ref_outcome 10 = .ok (.ireturn, 1) := by decide +kernel
theorem d_Ref_outcome_11 : decode b_Ref_outcome 11 = .ok (.aload_n 0, 1) := by decide +kernel
theorem d_Ref_outcome_12 : decode b_Ref_outcome 12 = .ok (.iload_n 1, 1) := by decide +kernel
theorem d_Ref_outcome_13 : decode b_Ref_outcome 13 = .ok (.invokevirtual 319, 3) := by decide +kernel
theorem d_Ref_outcome_16 : decode b_Ref_outcome 16 = .ok (.aload_n 0, 1) := by decide +kernel
theorem d_Ref_outcome_17 : decode b_Ref_outcome 17 = .ok (.iload_n 1, 1) := by decide +kernel
theorem d_Ref_outcome_18 : decode b_Ref_outcome 18 = .ok (.iload_n 2, 1) := by decide +kernel
theorem d_Ref_outcome_19 : decode b_Ref_outcome 19 = .ok (.iload_n 3, 1) := by decide +kernel
theorem d_Ref_outcome_20 : decode b_Ref_outcome 20 = .ok (.invokevirtual 322, 3) := by decide +kernel
theorem d_Ref_outcome_23 : decode b_Ref_outcome 23 = .ok (.ireturn, 1) := by decide +kernel
theorem d_Ref_witness_0 : decode b_Ref_witness 0 = .ok (.iload_n 1, 1) := by decide +kernel
theorem d_Ref_witness_1 : decode b_Ref_witness 1 = .ok (.invokestatic 316, 3) := by decide +kernel
theorem d_Ref_witness_4 : decode b_Ref_witness 4 = .ok (.ifCond .ne 5, 3) := by decide +kernel
theorem d_Ref_witness_7 : decode b_Ref_witness 7 = .ok (.iconst (-1), 1) := by decide +kernel
theorem d_Ref_witness_8 : decode b_Ref_witness 8 = .ok (.ireturn, 1) := by decide +kernel
theorem d_Ref_witness_9 : decode b_Ref_witness 9 = .ok (.aload_n 0, 1) := by decide +kernel
theorem d_Ref_witness_10 : decode b_Ref_witness 10 = .ok (.iload_n 1, 1) := by decide +kernel
theorem d_Ref_witness_11 : decode b_Ref_witness 11 = .ok (.invokevirtual 319, 3) := by decide +kernel
theorem d_Ref_witness_14 : decode b_Ref_witness 14 = .ok (.iload_n 2, 1) := by decide +kernel
theorem d_Ref_witness_15 : decode b_Ref_witness 15 = .ok (.ifCond .lt 13, 3) := by decide +kernel
theorem d_Ref_witness_18 : decode b_Ref_witness 18 = .ok (.iload_n 2, 1) := by decide +kernel
theorem d_Ref_witness_19 : decode b_Ref_witness 19 = .ok (.aload_n 0, 1) := by decide +kernel
theorem d_Ref_witness_20 : decode b_Ref_witness 20 = .ok (.getfield 29, 3) := by decide +kernel
theorem d_Ref_witness_23 : decode b_Ref_witness 23 = .ok (.iload_n 1, 1) := by decide +kernel
theorem d_Ref_witness_24 : decode b_Ref_witness 24 = .ok (.iaload, 1) := by decide +kernel
theorem d_Ref_witness_25 : decode b_Ref_witness 25 = .ok (.if_icmp .lt 5, 3) := by decide +kernel
theorem d_Ref_witness_28 : decode b_Ref_witness 28 = .ok (.iconst (-1), 1) := by decide +kernel
theorem d_Ref_witness_29 : decode b_Ref_witness 29 = .ok (.ireturn, 1) := by decide +kernel
theorem d_Ref_witness_30 : decode b_Ref_witness 30 = .ok (.sipush 4000, 3) := by decide +kernel
theorem d_Ref_witness_33 : decode b_Ref_witness 33 = .ok (.iload_n 1, 1) := by decide +kernel
theorem d_Ref_witness_34 : decode b_Ref_witness 34 = .ok (.imul, 1) := by decide +kernel
theorem d_Ref_witness_35 : decode b_Ref_witness 35 = .ok (.aload_n 0, 1) := by decide +kernel
theorem d_Ref_witness_36 : decode b_Ref_witness 36 = .ok (.getfield 44, 3) := by decide +kernel
theorem d_Ref_witness_39 : decode b_Ref_witness 39 = .ok (.sipush 4000, 3) := by decide +kernel
theorem d_Ref_witness_42 : decode b_Ref_witness 42 = .ok (.iload_n 1, 1) := by decide +kernel
theorem d_Ref_witness_43 : decode b_Ref_witness 43 = .ok (.imul, 1) := by decide +kernel
theorem d_Ref_witness_44 : decode b_Ref_witness 44 = .ok (.iload_n 2, 1) := by decide +kernel
theorem d_Ref_witness_45 : decode b_Ref_witness 45 = .ok (.iadd, 1) := by decide +kernel
theorem d_Ref_witness_46 : decode b_Ref_witness 46 = .ok (.iaload, 1) := by decide +kernel
theorem d_Ref_witness_47 : decode b_Ref_witness 47 = .ok (.iadd, 1) := by decide +kernel
theorem d_Ref_witness_48 : decode b_Ref_witness 48 = .ok (.istore 4, 2) := by decide +kernel
theorem d_Ref_witness_50 : decode b_Ref_witness 50 = .ok (.iload_n 3, 1) := by decide +kernel
theorem d_Ref_witness_51 : decode b_Ref_witness 51 = .ok (.ifCond .lt 29, 3) := by decide +kernel
theorem d_Ref_witness_54 : decode b_Ref_witness 54 = .ok (.iload_n 3, 1) := by decide +kernel
theorem d_Ref_witness_55 : decode b_Ref_witness 55 = .ok (.aload_n 0, 1) := by decide +kernel
theorem d_Ref_witness_56 : decode b_Ref_witness 56 = .ok (.getfield 41, 3) := by decide +kernel
theorem d_Ref_witness_59 : decode b_Ref_witness 59 = .ok (.iload 4, 2) := by decide +kernel
theorem d_Ref_witness_61 : decode b_Ref_witness 61 = .ok (.iaload, 1) := by decide +kernel
theorem d_Ref_witness_62 : decode b_Ref_witness 62 = .ok (.if_icmp .ge 18, 3) := by decide +kernel
theorem d_Ref_witness_65 : decode b_Ref_witness 65 = .ok (.aload_n 0, 1) := by decide +kernel
theorem d_Ref_witness_66 : decode b_Ref_witness 66 = .ok (.getfield 38, 3) := by decide +kernel
theorem d_Ref_witness_69 : decode b_Ref_witness 69 = .ok (.bipush 16, 2) := by decide +kernel
theorem d_Ref_witness_71 : decode b_Ref_witness 71 = .ok (.iload 4, 2) := by decide +kernel
theorem d_Ref_witness_73 : decode b_Ref_witness 73 = .ok (.imul, 1) := by decide +kernel
theorem d_Ref_witness_74 : decode b_Ref_witness 74 = .ok (.iload_n 3, 1) := by decide +kernel
theorem d_Ref_witness_75 : decode b_Ref_witness 75 = .ok (.iadd, 1) := by decide +kernel
theorem d_Ref_witness_76 : decode b_Ref_witness 76 = .ok (.saload, 1) := by decide +kernel
theorem d_Ref_witness_77 : decode b_Ref_witness 77 = .ok (.goto 4, 3) := by decide +kernel
theorem d_Ref_witness_80 : decode b_Ref_witness 80 = .ok (.iconst (-1), 1) := by decide +kernel
theorem d_Ref_witness_81 : decode b_Ref_witness 81 = .ok (.ireturn, 1) := by decide +kernel
theorem d_Ref_orders_0 : decode b_Ref_orders 0 = .ok (.iload_n 1, 1) := by decide +kernel
theorem d_Ref_orders_1 : decode b_Ref_orders 1 = .ok (.invokestatic 316, 3) := by decide +kernel
theorem d_Ref_orders_4 : decode b_Ref_orders 4 = .ok (.ifCond .ne 5, 3) := by decide +kernel
theorem d_Ref_orders_7 : decode b_Ref_orders 7 = .ok (.iconst (-1), 1) := by decide +kernel
theorem d_Ref_orders_8 : decode b_Ref_orders 8 = .ok (.ireturn, 1) := by decide +kernel
theorem d_Ref_orders_9 : decode b_Ref_orders 9 = .ok (.aload_n 0, 1) := by decide +kernel
theorem d_Ref_orders_10 : decode b_Ref_orders 10 = .ok (.iload_n 1, 1) := by decide +kernel
theorem d_Ref_orders_11 : decode b_Ref_orders 11 = .ok (.invokevirtual 326, 3) := by decide +kernel
theorem d_Ref_orders_14 : decode b_Ref_orders 14 = .ok (.aload_n 0, 1) := by decide +kernel
theorem d_Ref_orders_15 : decode b_Ref_orders 15 = .ok (.getfield 29, 3) := by decide +kernel
theorem d_Ref_orders_18 : decode b_Ref_orders 18 = .ok (.iconst 4, 1) := by decide +kernel
theorem d_Ref_orders_19 : decode b_Ref_orders 19 = .ok (.iload_n 1, 1) := by decide +kernel
theorem d_Ref_orders_20 : decode b_Ref_orders 20 = .ok (.iadd, 1) := by decide +kernel
theorem d_Ref_orders_21 : decode b_Ref_orders 21 = .ok (.iaload, 1) := by decide +kernel
theorem d_Ref_orders_22 : decode b_Ref_orders 22 = .ok (.ireturn, 1) := by decide +kernel
theorem d_Ref_ordered_0 : decode b_Ref_ordered 0 = .ok (.iload_n 1, 1) := by decide +kernel
theorem d_Ref_ordered_1 : decode b_Ref_ordered 1 = .ok (.invokestatic 316, 3) := by decide +kernel
theorem d_Ref_ordered_4 : decode b_Ref_ordered 4 = .ok (.ifCond .ne 7, 3) := by decide +kernel
theorem d_Ref_ordered_7 : decode b_Ref_ordered 7 = .ok (.sipush (-1000), 3) := by decide +kernel
theorem d_Ref_ordered_10 : decode b_Ref_ordered 10 = .ok (.ireturn, 1) := by decide +kernel
theorem d_Ref_ordered_11 : decode b_Ref_ordered 11 = .ok (.aload_n 0, 1) := by decide +kernel
theorem d_Ref_ordered_12 : decode b_Ref_ordered 12 = .ok (.iload_n 1, 1) := by decide +kernel
theorem d_Ref_ordered_13 : decode b_Ref_ordered 13 = .ok (.invokevirtual 326, 3) := by decide +kernel
theorem d_Ref_ordered_16 : decode b_Ref_ordered 16 = .ok (.aload_n 0, 1) := by decide +kernel
theorem d_Ref_ordered_17 : decode b_Ref_ordered 17 = .ok (.iconst 4, 1) := by decide +kernel
theorem d_Ref_ordered_18 : decode b_Ref_ordered 18 = .ok (.iload_n 1, 1) := by decide +kernel
theorem d_Ref_ordered_19 : decode b_Ref_ordered 19 = .ok (.iadd, 1) := by decide +kernel
theorem d_Ref_ordered_20 : decode b_Ref_ordered 20 = .ok (.iload_n 2, 1) := by decide +kernel
theorem d_Ref_ordered_21 : decode b_Ref_ordered 21 = .ok (.iload_n 3, 1) := by decide +kernel
theorem d_Ref_ordered_22 : decode b_Ref_ordered 22 = .ok (.invokevirtual 322, 3) := by decide +kernel
theorem d_Ref_ordered_25 : decode b_Ref_ordered 25 = .ok (.ireturn, 1) := by decide +kernel
theorem d_Ref_graphs_0 : decode b_Ref_graphs 0 = .ok (.iload_n 1, 1) := by decide +kernel
theorem d_Ref_graphs_1 : decode b_Ref_graphs 1 = .ok (.invokestatic 316, 3) := by decide +kernel
theorem d_Ref_graphs_4 : decode b_Ref_graphs 4 = .ok (.ifCond .ne 5, 3) := by decide +kernel
theorem d_Ref_graphs_7 : decode b_Ref_graphs 7 = .ok (.iconst (-1), 1) := by decide +kernel
theorem d_Ref_graphs_8 : decode b_Ref_graphs 8 = .ok (.ireturn, 1) := by decide +kernel
theorem d_Ref_graphs_9 : decode b_Ref_graphs 9 = .ok (.aload_n 0, 1) := by decide +kernel
theorem d_Ref_graphs_10 : decode b_Ref_graphs 10 = .ok (.iload_n 1, 1) := by decide +kernel
theorem d_Ref_graphs_11 : decode b_Ref_graphs 11 = .ok (.invokevirtual 326, 3) := by decide +kernel
theorem d_Ref_graphs_14 : decode b_Ref_graphs 14 = .ok (.aload_n 0, 1) := by decide +kernel
theorem d_Ref_graphs_15 : decode b_Ref_graphs 15 = .ok (.getfield 47, 3) := by decide +kernel
theorem d_Ref_graphs_18 : decode b_Ref_graphs 18 = .ok (.iload_n 1, 1) := by decide +kernel
theorem d_Ref_graphs_19 : decode b_Ref_graphs 19 = .ok (.iaload, 1) := by decide +kernel
theorem d_Ref_graphs_20 : decode b_Ref_graphs 20 = .ok (.ireturn, 1) := by decide +kernel
theorem d_Ref_beyond_0 : decode b_Ref_beyond 0 = .ok (.iload_n 1, 1) := by decide +kernel
theorem d_Ref_beyond_1 : decode b_Ref_beyond 1 = .ok (.invokestatic 316, 3) := by decide +kernel
theorem d_Ref_beyond_4 : decode b_Ref_beyond 4 = .ok (.ifCond .eq 10, 3) := by decide +kernel
theorem d_Ref_beyond_7 : decode b_Ref_beyond 7 = .ok (.iload_n 2, 1) := by decide +kernel
theorem d_Ref_beyond_8 : decode b_Ref_beyond 8 = .ok (.invokestatic 316, 3) := by decide +kernel
theorem d_Ref_beyond_11 : decode b_Ref_beyond 11 = .ok (.ifCond .ne 5, 3) := by decide +kernel
theorem d_Ref_beyond_14 : decode b_Ref_beyond 14 = .ok (.iconst (-1), 1) := by decide +kernel
theorem d_Ref_beyond_15 : decode b_Ref_beyond 15 = .ok (.ireturn, 1) := by decide +kernel
theorem d_Ref_beyond_16 : decode b_Ref_beyond 16 = .ok (.aload_n 0, 1) := by decide +kernel
theorem d_Ref_beyond_17 : decode b_Ref_beyond 17 = .ok (.iload_n 1, 1) := by decide +kernel
theorem d_Ref_beyond_18 : decode b_Ref_beyond 18 = .ok (.invokevirtual 319, 3) := by decide +kernel
theorem d_Ref_beyond_21 : decode b_Ref_beyond 21 = .ok (.aload_n 0, 1) := by decide +kernel
theorem d_Ref_beyond_22 : decode b_Ref_beyond 22 = .ok (.iload_n 2, 1) := by decide +kernel
theorem d_Ref_beyond_23 : decode b_Ref_beyond 23 = .ok (.invokevirtual 319, 3) := by decide +kernel
theorem d_Ref_beyond_26 : decode b_Ref_beyond 26 = .ok (.iconst 0, 1) := by decide +kernel
theorem d_Ref_beyond_27 : decode b_Ref_beyond 27 = .ok (.istore_n 3, 1) := by decide +kernel
theorem d_Ref_beyond_28 : decode b_Ref_beyond 28 = .ok (.iconst 0, 1) := by decide +kernel
theorem d_Ref_beyond_29 : decode b_Ref_beyond 29 = .ok (.istore 4, 2) := by decide +kernel
theorem d_Ref_beyond_31 : decode b_Ref_beyond 31 = .ok (.iload 4, 2) := by decide +kernel
theorem d_Ref_beyond_33 : decode b_Ref_beyond 33 = .ok (.aload_n 0, 1) := by decide +kernel
theorem d_Ref_beyond_34 : decode b_Ref_beyond 34 = .ok (.getfield 29, 3) := by decide +kernel
theorem d_Ref_beyond_37 : decode b_Ref_beyond 37 = .ok (.iload_n 1, 1) := by decide +kernel
theorem d_Ref_beyond_38 : decode b_Ref_beyond 38 = .ok (.iaload, 1) := by decide +kernel
theorem d_Ref_beyond_39 : decode b_Ref_beyond 39 = .ok (.if_icmp .ge 156, 3) := by decide +kernel
theorem d_Ref_beyond_42 : decode b_Ref_beyond 42 = .ok (.iconst 0, 1) := by decide +kernel
theorem d_Ref_beyond_43 : decode b_Ref_beyond 43 = .ok (.istore 5, 2) := by decide +kernel
theorem d_Ref_beyond_45 : decode b_Ref_beyond 45 = .ok (.iload 5, 2) := by decide +kernel
theorem d_Ref_beyond_47 : decode b_Ref_beyond 47 = .ok (.bipush 11, 2) := by decide +kernel
theorem d_Ref_beyond_49 : decode b_Ref_beyond 49 = .ok (.if_icmp .ge 35, 3) := by decide +kernel
theorem d_Ref_beyond_52 : decode b_Ref_beyond 52 = .ok (.aload_n 0, 1) := by decide +kernel
theorem d_Ref_beyond_53 : decode b_Ref_beyond 53 = .ok (.getfield 78, 3) := by decide +kernel
theorem d_Ref_beyond_56 : decode b_Ref_beyond 56 = .ok (.iload 5, 2) := by decide +kernel
theorem d_Ref_beyond_58 : decode b_Ref_beyond 58 = .ok (.aload_n 0, 1) := by decide +kernel
theorem d_Ref_beyond_59 : decode b_Ref_beyond 59 = .ok (.getfield 33, 3) := by decide +kernel
theorem d_Ref_beyond_62 : decode b_Ref_beyond 62 = .ok (.bipush 11, 2) := by decide +kernel
theorem d_Ref_beyond_64 : decode b_Ref_beyond 64 = .ok (.sipush 4000, 3) := by decide +kernel
theorem d_Ref_beyond_67 : decode b_Ref_beyond 67 = .ok (.iload_n 1, 1) := by decide +kernel
theorem d_Ref_beyond_68 : decode b_Ref_beyond 68 = .ok (.imul, 1) := by decide +kernel
theorem d_Ref_beyond_69 : decode b_Ref_beyond 69 = .ok (.iload 4, 2) := by decide +kernel
theorem d_Ref_beyond_71 : decode b_Ref_beyond 71 = .ok (.iadd, 1) := by decide +kernel
theorem d_Ref_beyond_72 : decode b_Ref_beyond 72 = .ok (.imul, 1) := by decide +kernel
theorem d_Ref_beyond_73 : decode b_Ref_beyond 73 = .ok (.iload 5, 2) := by decide +kernel
theorem d_Ref_beyond_75 : decode b_Ref_beyond 75 = .ok (.iadd, 1) := by decide +kernel
theorem d_Ref_beyond_76 : decode b_Ref_beyond 76 = .ok (.saload, 1) := by decide +kernel
theorem d_Ref_beyond_77 : decode b_Ref_beyond 77 = .ok (.iastore, 1) := by decide +kernel
theorem d_Ref_beyond_78 : decode b_Ref_beyond 78 = .ok (.iinc 5 1, 3) := by decide +kernel
theorem d_Ref_beyond_81 : decode b_Ref_beyond 81 = .ok (.goto (-36), 3) := by decide +kernel
theorem d_Ref_beyond_84 : decode b_Ref_beyond 84 = .ok (.sipush 4000, 3) := by decide +kernel
theorem d_Ref_beyond_87 : decode b_Ref_beyond 87 = .ok (.iload_n 2, 1) := by decide +kernel
theorem d_Ref_beyond_88 : decode b_Ref_beyond 88 = .ok (.imul, 1) := by decide +kernel
theorem d_Ref_beyond_89 : decode b_Ref_beyond 89 = .ok (.istore 5, 2) := by decide +kernel
theorem d_Ref_beyond_91 : decode b_Ref_beyond 91 = .ok (.iconst 0, 1) := by decide +kernel
theorem d_Ref_beyond_92 : decode b_Ref_beyond 92 = .ok (.istore 6, 2) := by decide +kernel
theorem d_Ref_beyond_94 : decode b_Ref_beyond 94 = .ok (.aload_n 0, 1) := by decide +kernel
theorem d_Ref_beyond_95 : decode b_Ref_beyond 95 = .ok (.getfield 29, 3) := by decide +kernel
theorem d_Ref_beyond_98 : decode b_Ref_beyond 98 = .ok (.iload_n 2, 1) := by decide +kernel
theorem d_Ref_beyond_99 : decode b_Ref_beyond 99 = .ok (.iaload, 1) := by decide +kernel
theorem d_Ref_beyond_100 : decode b_Ref_beyond 100 = .ok (.istore 7, 2) := by decide +kernel
theorem d_Ref_beyond_102 : decode b_Ref_beyond 102 = .ok (.iload 6, 2) := by decide +kernel
theorem d_Ref_beyond_104 : decode b_Ref_beyond 104 = .ok (.iload 7, 2) := by decide +kernel
theorem d_Ref_beyond_106 : decode b_Ref_beyond 106 = .ok (.if_icmp .ge 46, 3) := by decide +kernel
theorem d_Ref_beyond_109 : decode b_Ref_beyond 109 = .ok (.iload 6, 2) := by decide +kernel
theorem d_Ref_beyond_111 : decode b_Ref_beyond 111 = .ok (.iload 7, 2) := by decide +kernel
theorem d_Ref_beyond_113 : decode b_Ref_beyond 113 = .ok (.iadd, 1) := by decide +kernel
theorem d_Ref_beyond_114 : decode b_Ref_beyond 114 = .ok (.iconst 2, 1) := by decide +kernel
theorem d_Ref_beyond_115 : decode b_Ref_beyond 115 = .ok (.idiv, 1) := by decide +kernel
theorem d_Ref_beyond_116 : decode b_Ref_beyond 116 = .ok (.istore 8, 2) := by decide +kernel
theorem d_Ref_beyond_118 : decode b_Ref_beyond 118 = .ok (.aload_n 0, 1) := by decide +kernel
theorem d_Ref_beyond_119 : decode b_Ref_beyond 119 = .ok (.iload_n 2, 1) := by decide +kernel
theorem d_Ref_beyond_120 : decode b_Ref_beyond 120 = .ok (.aload_n 0, 1) := by decide +kernel
theorem d_Ref_beyond_121 : decode b_Ref_beyond 121 = .ok (.getfield 44, 3) := by decide +kernel
theorem d_Ref_beyond_124 : decode b_Ref_beyond 124 = .ok (.iload 5, 2) := by decide +kernel
theorem d_Ref_beyond_126 : decode b_Ref_beyond 126 = .ok (.iload 8, 2) := by decide +kernel
theorem d_Ref_beyond_128 : decode b_Ref_beyond 128 = .ok (.iadd, 1) := by decide +kernel
theorem d_Ref_beyond_129 : decode b_Ref_beyond 129 = .ok (.iaload, 1) := by decide +kernel
theorem d_Ref_beyond_130 : decode b_Ref_beyond 130 = .ok (.invokevirtual 235, 3) := by decide +kernel
theorem d_Ref_beyond_133 : decode b_Ref_beyond 133 = .ok (.ifCond .le 12, 3) := by decide +kernel
theorem d_Ref_beyond_136 : decode b_Ref_beyond 136 = .ok (.iload 8, 2) := by decide +kernel
theorem d_Ref_beyond_138 : decode b_Ref_beyond 138 = .ok (.iconst 1, 1) := by decide +kernel
theorem d_Ref_beyond_139 : decode b_Ref_beyond 139 = .ok (.iadd, 1) := by decide +kernel
theorem d_Ref_beyond_140 : decode b_Ref_beyond 140 = .ok (.istore 6, 2) := by decide +kernel
theorem d_Ref_beyond_142 : decode b_Ref_beyond 142 = .ok (.goto 7, 3) := by decide +kernel
theorem d_Ref_beyond_145 : decode b_Ref_beyond 145 = .ok (.iload 8, 2) := by decide +kernel
theorem d_Ref_beyond_147 : decode b_Ref_beyond 147 = .ok (.istore 7, 2) := by decide +kernel
theorem d_Ref_beyond_149 : decode b_Ref_beyond 149 = .ok (.goto (-47), 3) := by decide +kernel
theorem d_Ref_beyond_152 : decode b_Ref_beyond 152 = .ok (.iload_n 3, 1) := by decide +kernel
theorem d_Ref_beyond_153 : decode b_Ref_beyond 153 = .ok (.iload 6, 2) := by decide +kernel
theorem d_Ref_beyond_155 : decode b_Ref_beyond 155 = .ok (.aload_n 0, 1) := by decide +kernel
theorem d_Ref_beyond_156 : decode b_Ref_beyond 156 = .ok (.getfield 29, 3) := by decide +kernel
theorem d_Ref_beyond_159 : decode b_Ref_beyond 159 = .ok (.iload_n 2, 1) := by decide +kernel
theorem d_Ref_beyond_160 : decode b_Ref_beyond 160 = .ok (.iaload, 1) := by decide +kernel
theorem d_Ref_beyond_161 : decode b_Ref_beyond 161 = .ok (.if_icmp .ge 25, 3) := by decide +kernel
theorem d_Ref_beyond_164 : decode b_Ref_beyond 164 = .ok (.aload_n 0, 1) := by decide +kernel
theorem d_Ref_beyond_165 : decode b_Ref_beyond 165 = .ok (.iload_n 2, 1) := by decide +kernel
theorem d_Ref_beyond_166 : decode b_Ref_beyond 166 = .ok (.aload_n 0, 1) := by decide +kernel
theorem d_Ref_beyond_167 : decode b_Ref_beyond 167 = .ok (.getfield 44, 3) := by decide +kernel
theorem d_Ref_beyond_170 : decode b_Ref_beyond 170 = .ok (.iload 5, 2) := by decide +kernel
theorem d_Ref_beyond_172 : decode b_Ref_beyond 172 = .ok (.iload 6, 2) := by decide +kernel
theorem d_Ref_beyond_174 : decode b_Ref_beyond 174 = .ok (.iadd, 1) := by decide +kernel
theorem d_Ref_beyond_175 : decode b_Ref_beyond 175 = .ok (.iaload, 1) := by decide +kernel
theorem d_Ref_beyond_176 : decode b_Ref_beyond 176 = .ok (.invokevirtual 235, 3) := by decide +kernel
theorem d_Ref_beyond_179 : decode b_Ref_beyond 179 = .ok (.ifCond .ne 7, 3) := by decide +kernel
theorem d_Ref_beyond_182 : decode b_Ref_beyond 182 = .ok (.iconst 0, 1) := by decide +kernel
theorem d_Ref_beyond_183 : decode b_Ref_beyond 183 = .ok (.goto 4, 3) := by decide +kernel
theorem d_Ref_beyond_186 : decode b_Ref_beyond 186 = .ok (.iconst 1, 1) := by decide +kernel
theorem d_Ref_beyond_187 : decode b_Ref_beyond 187 = .ok (.iadd, 1) := by decide +kernel
theorem d_Ref_beyond_188 : decode b_Ref_beyond 188 = .ok (.istore_n 3, 1) := by decide +kernel
theorem d_Ref_beyond_189 : decode b_Ref_beyond 189 = .ok (.iinc 4 1, 3) := by decide +kernel
theorem d_Ref_beyond_192 : decode b_Ref_beyond 192 = .ok (.goto (-161), 3) := by decide +kernel
theorem d_Ref_beyond_195 : decode b_Ref_beyond 195 = .ok (.iload_n 3, 1) := by decide +kernel
theorem d_Ref_beyond_196 : decode b_Ref_beyond 196 = .ok (.ireturn, 1) := by decide +kernel
theorem d_Ref_races_0 : decode b_Ref_races 0 = .ok (.aload_n 0, 1) := by decide +kernel
theorem d_Ref_races_1 : decode b_Ref_races 1 = .ok (.invokevirtual 329, 3) := by decide +kernel
theorem d_Ref_races_4 : decode b_Ref_races 4 = .ok (.iconst 0, 1) := by decide +kernel
theorem d_Ref_races_5 : decode b_Ref_races 5 = .ok (.istore_n 1, 1) := by decide +kernel
theorem d_Ref_races_6 : decode b_Ref_races 6 = .ok (.iconst 0, 1) := by decide +kernel
theorem d_Ref_races_7 : decode b_Ref_races 7 = .ok (.istore_n 2, 1) := by decide +kernel
theorem d_Ref_races_8 : decode b_Ref_races 8 = .ok (.iload_n 2, 1) := by decide +kernel
theorem d_Ref_races_9 : decode b_Ref_races 9 = .ok (.bipush 28, 2) := by decide +kernel
theorem d_Ref_races_11 : decode b_Ref_races 11 = .ok (.if_icmp .ge 47, 3) := by decide +kernel
theorem d_Ref_races_14 : decode b_Ref_races 14 = .ok (.iload_n 2, 1) := by decide +kernel
theorem d_Ref_races_15 : decode b_Ref_races 15 = .ok (.iconst 1, 1) := by decide +kernel
theorem d_Ref_races_16 : decode b_Ref_races 16 = .ok (.iadd, 1) := by decide +kernel
theorem d_Ref_races_17 : decode b_Ref_races 17 = .ok (.istore_n 3, 1) := by decide +kernel
theorem d_Ref_races_18 : decode b_Ref_races 18 = .ok (.iload_n 3, 1) := by decide +kernel
theorem d_Ref_races_19 : decode b_Ref_races 19 = .ok (.bipush 28, 2) := by decide +kernel
theorem d_Ref_races_21 : decode b_Ref_races 21 = .ok (.if_icmp .ge 31, 3) := by decide +kernel
theorem d_Ref_races_24 : decode b_Ref_races 24 = .ok (.iload_n 1, 1) := by decide +kernel
theorem d_Ref_races_25 : decode b_Ref_races 25 = .ok (.aload_n 0, 1) := by decide +kernel
theorem d_Ref_races_26 : decode b_Ref_races 26 = .ok (.getfield 50, 3) := by decide +kernel
theorem d_Ref_races_29 : decode b_Ref_races 29 = .ok (.bipush 28, 2) := by decide +kernel
theorem d_Ref_races_31 : decode b_Ref_races 31 = .ok (.iload_n 2, 1) := by decide +kernel
theorem d_Ref_races_32 : decode b_Ref_races 32 = .ok (.imul, 1) := by decide +kernel
theorem d_Ref_races_33 : decode b_Ref_races 33 = .ok (.iload_n 3, 1) := by decide +kernel
theorem d_Ref_races_34 : decode b_Ref_races 34 = .ok (.iadd, 1) := by decide +kernel
theorem d_Ref_races_35 : decode b_Ref_races 35 = .ok (.baload, 1) := by decide +kernel
theorem d_Ref_races_36 : decode b_Ref_races 36 = .ok (.ifCond .eq 7, 3) := by decide +kernel
theorem d_Ref_races_39 : decode b_Ref_races 39 = .ok (.iconst 1, 1) := by decide +kernel
theorem d_Ref_races_40 : decode b_Ref_races 40 = .ok (.goto 4, 3) := by decide +kernel
theorem d_Ref_races_43 : decode b_Ref_races 43 = .ok (.iconst 0, 1) := by decide +kernel
theorem d_Ref_races_44 : decode b_Ref_races 44 = .ok (.iadd, 1) := by decide +kernel
theorem d_Ref_races_45 : decode b_Ref_races 45 = .ok (.istore_n 1, 1) := by decide +kernel
theorem d_Ref_races_46 : decode b_Ref_races 46 = .ok (.iinc 3 1, 3) := by decide +kernel
theorem d_Ref_races_49 : decode b_Ref_races 49 = .ok (.goto (-31), 3) := by decide +kernel
theorem d_Ref_races_52 : decode b_Ref_races 52 = .ok (.iinc 2 1, 3) := by decide +kernel
theorem d_Ref_races_55 : decode b_Ref_races 55 = .ok (.goto (-47), 3) := by decide +kernel
theorem d_Ref_races_58 : decode b_Ref_races 58 = .ok (.iload_n 1, 1) := by decide +kernel
theorem d_Ref_races_59 : decode b_Ref_races 59 = .ok (.ireturn, 1) := by decide +kernel
theorem d_Ref_isAction_0 : decode b_Ref_isAction 0 = .ok (.iload_n 1, 1) := by decide +kernel
theorem d_Ref_isAction_1 : decode b_Ref_isAction 1 = .ok (.ifCond .lt 29, 3) := by decide +kernel
theorem d_Ref_isAction_4 : decode b_Ref_isAction 4 = .ok (.iload_n 1, 1) := by decide +kernel
theorem d_Ref_isAction_5 : decode b_Ref_isAction 5 = .ok (.aload_n 0, 1) := by decide +kernel
theorem d_Ref_isAction_6 : decode b_Ref_isAction 6 = .ok (.getfield 133, 3) := by decide +kernel
theorem d_Ref_isAction_9 : decode b_Ref_isAction 9 = .ok (.if_icmp .ge 21, 3) := by decide +kernel
theorem d_Ref_isAction_12 : decode b_Ref_isAction 12 = .ok (.iload_n 2, 1) := by decide +kernel
theorem d_Ref_isAction_13 : decode b_Ref_isAction 13 = .ok (.ifCond .lt 17, 3) := by decide +kernel
theorem d_Ref_isAction_16 : decode b_Ref_isAction 16 = .ok (.iload_n 2, 1) := by decide +kernel
theorem d_Ref_isAction_17 : decode b_Ref_isAction 17 = .ok (.aload_n 0, 1) := by decide +kernel
theorem d_Ref_isAction_18 : decode b_Ref_isAction 18 = .ok (.getfield 7, 3) := by decide +kernel
theorem d_Ref_isAction_21 : decode b_Ref_isAction 21 = .ok (.iload_n 1, 1) := by decide +kernel
theorem d_Ref_isAction_22 : decode b_Ref_isAction 22 = .ok (.iaload, 1) := by decide +kernel
theorem d_Ref_isAction_23 : decode b_Ref_isAction 23 = .ok (.if_icmp .ge 7, 3) := by decide +kernel
theorem d_Ref_isAction_26 : decode b_Ref_isAction 26 = .ok (.iconst 1, 1) := by decide +kernel
theorem d_Ref_isAction_27 : decode b_Ref_isAction 27 = .ok (.goto 4, 3) := by decide +kernel
theorem d_Ref_isAction_30 : decode b_Ref_isAction 30 = .ok (.iconst 0, 1) := by decide +kernel
theorem d_Ref_isAction_31 : decode b_Ref_isAction 31 = .ok (.ireturn, 1) := by decide +kernel
theorem d_Ref_race_0 : decode b_Ref_race 0 = .ok (.aload_n 0, 1) := by decide +kernel
theorem d_Ref_race_1 : decode b_Ref_race 1 = .ok (.iload_n 1, 1) := by decide +kernel
theorem d_Ref_race_2 : decode b_Ref_race 2 = .ok (.iload_n 2, 1) := by decide +kernel
theorem d_Ref_race_3 : decode b_Ref_race 3 = .ok (.invokevirtual 332, 3) := by decide +kernel
theorem d_Ref_race_6 : decode b_Ref_race 6 = .ok (.ifCond .eq 18, 3) := by decide +kernel
theorem d_Ref_race_9 : decode b_Ref_race 9 = .ok (.aload_n 0, 1) := by decide +kernel
theorem d_Ref_race_10 : decode b_Ref_race 10 = .ok (.iload_n 3, 1) := by decide +kernel
theorem d_Ref_race_11 : decode b_Ref_race 11 = .ok (.iload 4, 2) := by decide +kernel
theorem d_Ref_race_13 : decode b_Ref_race 13 = .ok (.invokevirtual 332, 3) := by decide +kernel
theorem d_Ref_race_16 : decode b_Ref_race 16 = .ok (.ifCond .eq 8, 3) := by decide +kernel
theorem d_Ref_race_19 : decode b_Ref_race 19 = .ok (.iload_n 1, 1) := by decide +kernel
theorem d_Ref_race_20 : decode b_Ref_race 20 = .ok (.iload_n 3, 1) := by decide +kernel
theorem d_Ref_race_21 : decode b_Ref_race 21 = .ok (.if_icmp .ne 5, 3) := by decide +kernel
theorem d_Ref_race_24 : decode b_Ref_race 24 = .ok (.iconst (-1), 1) := by decide +kernel
theorem d_Ref_race_25 : decode b_Ref_race 25 = .ok (.ireturn, 1) := by decide +kernel
theorem d_Ref_race_26 : decode b_Ref_race 26 = .ok (.aload_n 0, 1) := by decide +kernel
theorem d_Ref_race_27 : decode b_Ref_race 27 = .ok (.invokevirtual 329, 3) := by decide +kernel
theorem d_Ref_race_30 : decode b_Ref_race 30 = .ok (.aload_n 0, 1) := by decide +kernel
theorem d_Ref_race_31 : decode b_Ref_race 31 = .ok (.getfield 50, 3) := by decide +kernel
theorem d_Ref_race_34 : decode b_Ref_race 34 = .ok (.bipush 28, 2) := by decide +kernel
theorem d_Ref_race_36 : decode b_Ref_race 36 = .ok (.bipush 7, 2) := by decide +kernel
theorem d_Ref_race_38 : decode b_Ref_race 38 = .ok (.iload_n 1, 1) := by decide +kernel
theorem d_Ref_race_39 : decode b_Ref_race 39 = .ok (.imul, 1) := by decide +kernel
theorem d_Ref_race_40 : decode b_Ref_race 40 = .ok (.iload_n 2, 1) := by decide +kernel
theorem d_Ref_race_41 : decode b_Ref_race 41 = .ok (.iadd, 1) := by decide +kernel
theorem d_Ref_race_42 : decode b_Ref_race 42 = .ok (.imul, 1) := by decide +kernel
theorem d_Ref_race_43 : decode b_Ref_race 43 = .ok (.bipush 7, 2) := by decide +kernel
theorem d_Ref_race_45 : decode b_Ref_race 45 = .ok (.iload_n 3, 1) := by decide +kernel
theorem d_Ref_race_46 : decode b_Ref_race 46 = .ok (.imul, 1) := by decide +kernel
theorem d_Ref_race_47 : decode b_Ref_race 47 = .ok (.iadd, 1) := by decide +kernel
theorem d_Ref_race_48 : decode b_Ref_race 48 = .ok (.iload 4, 2) := by decide +kernel
theorem d_Ref_race_50 : decode b_Ref_race 50 = .ok (.iadd, 1) := by decide +kernel
theorem d_Ref_race_51 : decode b_Ref_race 51 = .ok (.baload, 1) := by decide +kernel
theorem d_Ref_race_52 : decode b_Ref_race 52 = .ok (.ifCond .eq 7, 3) := by decide +kernel
theorem d_Ref_race_55 : decode b_Ref_race 55 = .ok (.iconst 1, 1) := by decide +kernel
theorem d_Ref_race_56 : decode b_Ref_race 56 = .ok (.goto 4, 3) := by decide +kernel
theorem d_Ref_race_59 : decode b_Ref_race 59 = .ok (.iconst 0, 1) := by decide +kernel
theorem d_Ref_race_60 : decode b_Ref_race 60 = .ok (.ireturn, 1) := by decide +kernel
theorem d_BufferWalk_init_0 : decode b_BufferWalk_init 0 = .ok (.aload_n 0, 1) := by decide +kernel
theorem d_BufferWalk_init_1 : decode b_BufferWalk_init 1 = .ok (.invokespecial 3, 3) := by decide +kernel
theorem d_BufferWalk_init_4 : decode b_BufferWalk_init 4 = .ok (.aload_n 0, 1) := by decide +kernel
theorem d_BufferWalk_init_5 : decode b_BufferWalk_init 5 = .ok (.bipush 14, 2) := by decide +kernel
theorem d_BufferWalk_init_7 : decode b_BufferWalk_init 7 = .ok (.newarray .int, 2) := by decide +kernel
theorem d_BufferWalk_init_9 : decode b_BufferWalk_init 9 = .ok (.putfield 9, 3) := by decide +kernel
theorem d_BufferWalk_init_12 : decode b_BufferWalk_init 12 = .ok (.aload_n 0, 1) := by decide +kernel
theorem d_BufferWalk_init_13 : decode b_BufferWalk_init 13 = .ok (.bipush 7, 2) := by decide +kernel
theorem d_BufferWalk_init_15 : decode b_BufferWalk_init 15 = .ok (.newarray .int, 2) := by decide +kernel
theorem d_BufferWalk_init_17 : decode b_BufferWalk_init 17 = .ok (.putfield 15, 3) := by decide +kernel
theorem d_BufferWalk_init_20 : decode b_BufferWalk_init 20 = .ok (.aload_n 0, 1) := by decide +kernel
theorem d_BufferWalk_init_21 : decode b_BufferWalk_init 21 = .ok (.aload_n 1, 1) := by decide +kernel
theorem d_BufferWalk_init_22 : decode b_BufferWalk_init 22 = .ok (.putfield 18, 3) := by decide +kernel
theorem d_BufferWalk_init_25 : decode b_BufferWalk_init 25 = .ok (.aload_n 0, 1) := by decide +kernel
theorem d_BufferWalk_init_26 : decode b_BufferWalk_init 26 = .ok (.aload_n 2, 1) := by decide +kernel
theorem d_BufferWalk_init_27 : decode b_BufferWalk_init 27 = .ok (.putfield 22, 3) := by decide +kernel
theorem d_BufferWalk_init_30 : decode b_BufferWalk_init 30 = .ok (.aload_n 0, 1) := by decide +kernel
theorem d_BufferWalk_init_31 : decode b_BufferWalk_init 31 = .ok (.aload_n 3, 1) := by decide +kernel
theorem d_BufferWalk_init_32 : decode b_BufferWalk_init 32 = .ok (.putfield 26, 3) := by decide +kernel
theorem d_BufferWalk_init_35 : decode b_BufferWalk_init 35 = .ok (.return_, 1) := by decide +kernel
theorem d_BufferWalk_walk_0 : decode b_BufferWalk_walk 0 = .ok (.aload_n 0, 1) := by decide +kernel
theorem d_BufferWalk_walk_1 : decode b_BufferWalk_walk 1 = .ok (.iload_n 1, 1) := by decide +kernel
theorem d_BufferWalk_walk_2 : decode b_BufferWalk_walk 2 = .ok (.putfield 30, 3) := by decide +kernel
theorem d_BufferWalk_walk_5 : decode b_BufferWalk_walk 5 = .ok (.aload_n 0, 1) := by decide +kernel
theorem d_BufferWalk_walk_6 : decode b_BufferWalk_walk 6 = .ok (.aload_n 2, 1) := by decide +kernel
theorem d_BufferWalk_walk_7 : decode b_BufferWalk_walk 7 = .ok (.putfield 34, 3) := by decide +kernel
theorem d_BufferWalk_walk_10 : decode b_BufferWalk_walk 10 = .ok (.aload_n 0, 1) := by decide +kernel
theorem d_BufferWalk_walk_11 : decode b_BufferWalk_walk 11 = .ok (.getfield 34, 3) := by decide +kernel
theorem d_BufferWalk_walk_14 : decode b_BufferWalk_walk 14 = .ok (.invokevirtual 38, 3) := by decide +kernel
theorem d_BufferWalk_walk_17 : decode b_BufferWalk_walk 17 = .ok (.aload_n 0, 1) := by decide +kernel
theorem d_BufferWalk_walk_18 : decode b_BufferWalk_walk 18 = .ok (.getfield 26, 3) := by decide +kernel
theorem d_BufferWalk_walk_21 : decode b_BufferWalk_walk 21 = .ok (.invokevirtual 43, 3) := by decide +kernel
theorem d_BufferWalk_walk_24 : decode b_BufferWalk_walk 24 = .ok (.aload_n 0, 1) := by decide +kernel
theorem d_BufferWalk_walk_25 : decode b_BufferWalk_walk 25 = .ok (.getfield 22, 3) := by decide +kernel
theorem d_BufferWalk_walk_28 : decode b_BufferWalk_walk 28 = .ok (.invokevirtual 48, 3) := by decide +kernel
theorem d_BufferWalk_walk_31 : decode b_BufferWalk_walk 31 = .ok (.aload_n 0, 1) := by decide +kernel
theorem d_BufferWalk_walk_32 : decode b_BufferWalk_walk 32 = .ok (.iconst 0, 1) := by decide +kernel
theorem d_BufferWalk_walk_33 : decode b_BufferWalk_walk 33 = .ok (.putfield 51, 3) := by decide +kernel
theorem d_BufferWalk_walk_36 : decode b_BufferWalk_walk 36 = .ok (.aload_n 0, 1) := by decide +kernel
theorem d_BufferWalk_walk_37 : decode b_BufferWalk_walk 37 = .ok (.iconst 0, 1) := by decide +kernel
theorem d_BufferWalk_walk_38 : decode b_BufferWalk_walk 38 = .ok (.putfield 54, 3) := by decide +kernel
theorem d_BufferWalk_walk_41 : decode b_BufferWalk_walk 41 = .ok (.aload_n 0, 1) := by decide +kernel
theorem d_BufferWalk_walk_42 : decode b_BufferWalk_walk 42 = .ok (.getfield 30, 3) := by decide +kernel
theorem d_BufferWalk_walk_45 : decode b_BufferWalk_walk 45 = .ok (.ifCond .ne 11, 3) := by decide +kernel
theorem d_BufferWalk_walk_48 : decode b_BufferWalk_walk 48 = .ok (.aload_n 0, 1) := by decide +kernel
theorem d_BufferWalk_walk_49 : decode b_BufferWalk_walk 49 = .ok (.getfield 15, 3) := by decide +kernel
theorem d_BufferWalk_walk_52 : decode b_BufferWalk_walk 52 = .ok (.iconst 0, 1) := by decide +kernel
theorem d_BufferWalk_walk_53 : decode b_BufferWalk_walk 53 = .ok (.invokestatic 57, 3) := by decide +kernel
theorem d_BufferWalk_walk_56 : decode b_BufferWalk_walk 56 = .ok (.aload_n 0, 1) := by decide +kernel
theorem d_BufferWalk_walk_57 : decode b_BufferWalk_walk 57 = .ok (.iconst 0, 1) := by decide +kernel
theorem d_BufferWalk_walk_58 : decode b_BufferWalk_walk 58 = .ok (.invokevirtual 63, 3) := by decide +kernel
theorem d_BufferWalk_walk_61 : decode b_BufferWalk_walk 61 = .ok (.return_, 1) := by decide +kernel
theorem d_BufferWalk_spread_0 : decode b_BufferWalk_spread 0 = .ok (.aload_n 0, 1) := by decide +kernel
theorem d_BufferWalk_spread_1 : decode b_BufferWalk_spread 1 = .ok (.getfield 22, 3) := by decide +kernel
theorem d_BufferWalk_spread_4 : decode b_BufferWalk_spread 4 = .ok (.invokevirtual 67, 3) := by decide +kernel
theorem d_BufferWalk_spread_7 : decode b_BufferWalk_spread 7 = .ok (.bipush 9, 2) := by decide +kernel
theorem d_BufferWalk_spread_9 : decode b_BufferWalk_spread 9 = .ok (.lshl, 1) := by decide +kernel
theorem d_BufferWalk_spread_10 : decode b_BufferWalk_spread 10 = .ok (.aload_n 0, 1) := by decide +kernel
theorem d_BufferWalk_spread_11 : decode b_BufferWalk_spread 11 = .ok (.getfield 51, 3) := by decide +kernel
theorem d_BufferWalk_spread_14 : decode b_BufferWalk_spread 14 = .ok (.i2l, 1) := by decide +kernel
theorem d_BufferWalk_spread_15 : decode b_BufferWalk_spread 15 = .ok (.lor, 1) := by decide +kernel
theorem d_BufferWalk_spread_16 : decode b_BufferWalk_spread 16 = .ok (.lstore_n 2, 1) := by decide +kernel
theorem d_BufferWalk_spread_17 : decode b_BufferWalk_spread 17 = .ok (.aload_n 0, 1) := by decide +kernel
theorem d_BufferWalk_spread_18 : decode b_BufferWalk_spread 18 = .ok (.getfield 26, 3) := by decide +kernel
theorem d_BufferWalk_spread_21 : decode b_BufferWalk_spread 21 = .ok (.lload_n 2, 1) := by decide +kernel
theorem d_BufferWalk_spread_22 : decode b_BufferWalk_spread 22 = .ok (.bipush 7, 2) := by decide +kernel
theorem d_BufferWalk_spread_24 : decode b_BufferWalk_spread 24 = .ok (.lshl, 1) := by decide +kernel
theorem d_BufferWalk_spread_25 : decode b_BufferWalk_spread 25 = .ok (.aload_n 0, 1) := by decide +kernel
theorem d_BufferWalk_spread_26 : decode b_BufferWalk_spread 26 = .ok (.getfield 54, 3) := by decide +kernel
theorem d_BufferWalk_spread_29 : decode b_BufferWalk_spread 29 = .ok (.i2l, 1) := by decide +kernel
theorem d_BufferWalk_spread_30 : decode b_BufferWalk_spread 30 = .ok (.lor, 1) := by decide +kernel
theorem d_BufferWalk_spread_31 : decode b_BufferWalk_spread 31 = .ok (.invokevirtual 71, 3) := by decide +kernel
theorem d_BufferWalk_spread_34 : decode b_BufferWalk_spread 34 = .ok (.ifCond .ne 4, 3) := by decide +kernel
theorem d_BufferWalk_spread_37 : decode b_BufferWalk_spread 37 = .ok (.return_, 1) := by decide +kernel
theorem d_BufferWalk_spread_38 : decode b_BufferWalk_spread 38 = .ok (.aload_n 0, 1) := by decide +kernel
theorem d_BufferWalk_spread_39 : decode b_BufferWalk_spread 39 = .ok (.getfield 30, 3) := by decide +kernel
theorem d_BufferWalk_spread_42 : decode b_BufferWalk_spread 42 = .ok (.ifCond .ne 7, 3) := by decide +kernel
theorem d_BufferWalk_spread_45 : decode b_BufferWalk_spread 45 = .ok (.aload_n 0, 1) := by decide +kernel
theorem d_BufferWalk_spread_46 : decode b_BufferWalk_spread 46 = .ok (.invokevirtual 75, 3) := by decide +kernel
theorem d_BufferWalk_spread_49 : decode b_BufferWalk_spread 49 = .ok (.iconst 1, 1) := by decide +kernel
theorem d_BufferWalk_spread_50 : decode b_BufferWalk_spread 50 = .ok (.istore 4, 2) := by decide +kernel
theorem d_BufferWalk_spread_52 : decode b_BufferWalk_spread 52 = .ok (.iconst 0, 1) := by decide +kernel
theorem d_BufferWalk_spread_53 : decode b_BufferWalk_spread 53 = .ok (.istore 5, 2) := by decide +kernel
theorem d_BufferWalk_spread_55 : decode b_BufferWalk_spread 55 = .ok (.iload 5, 2) := by decide +kernel
theorem d_BufferWalk_spread_57 : decode b_BufferWalk_spread 57 = .ok (.aload_n 0, 1) := by decide +kernel
theorem d_BufferWalk_spread_58 : decode b_BufferWalk_spread 58 = .ok (.getfield 18, 3) := by decide +kernel
theorem d_BufferWalk_spread_61 : decode b_BufferWalk_spread 61 = .ok (.getfield 78, 3) := by decide +kernel
theorem d_BufferWalk_spread_64 : decode b_BufferWalk_spread 64 = .ok (.if_icmp .ge 35, 3) := by decide +kernel
theorem d_BufferWalk_spread_67 : decode b_BufferWalk_spread 67 = .ok (.aload_n 0, 1) := by decide +kernel
theorem d_BufferWalk_spread_68 : decode b_BufferWalk_spread 68 = .ok (.iload 5, 2) := by decide +kernel
theorem d_BufferWalk_spread_70 : decode b_BufferWalk_spread 70 = .ok (.iload_n 1, 1) := by decide +kernel
theorem d_BufferWalk_spread_71 : decode b_BufferWalk_spread 71 = .ok (.invokevirtual 83, 3) := by decide +kernel
theorem d_BufferWalk_spread_74 : decode b_BufferWalk_spread 74 = .ok (.ifCond .eq 6, 3) := by decide +kernel
theorem d_BufferWalk_spread_77 : decode b_BufferWalk_spread 77 = .ok (.iconst 0, 1) := by decide +kernel
theorem d_BufferWalk_spread_78 : decode b_BufferWalk_spread 78 = .ok (.istore 4, 2) := by decide +kernel
theorem d_BufferWalk_spread_80 : decode b_BufferWalk_spread 80 = .ok (.aload_n 0, 1) := by decide +kernel
theorem d_BufferWalk_spread_81 : decode b_BufferWalk_spread 81 = .ok (.iload 5, 2) := by decide +kernel
theorem d_BufferWalk_spread_83 : decode b_BufferWalk_spread 83 = .ok (.iload_n 1, 1) := by decide +kernel
theorem d_BufferWalk_spread_84 : decode b_BufferWalk_spread 84 = .ok (.invokevirtual 87, 3) := by decide +kernel
theorem d_BufferWalk_spread_87 : decode b_BufferWalk_spread 87 = .ok (.ifCond .eq 6, 3) := by decide +kernel
theorem d_BufferWalk_spread_90 : decode b_BufferWalk_spread 90 = .ok (.iconst 0, 1) := by decide +kernel
theorem d_BufferWalk_spread_91 : decode b_BufferWalk_spread 91 = .ok (.istore 4, 2) := by decide +kernel
theorem d_BufferWalk_spread_93 : decode b_BufferWalk_spread 93 = .ok (.iinc 5 1, 3) := by decide +kernel
theorem d_BufferWalk_spread_96 : decode b_BufferWalk_spread 96 = .ok (.goto (-41), 3) := by decide +kernel
theorem d_BufferWalk_spread_99 : decode b_BufferWalk_spread 99 = .ok (.iload 4, 2) := by decide +kernel
theorem d_BufferWalk_spread_101 : decode b_BufferWalk_spread 101 = .ok (.ifCond .eq 48, 3) := by decide +kernel
theorem d_BufferWalk_spread_104 : decode b_BufferWalk_spread 104 = .ok (.aload_n 0, 1) := by decide +kernel
theorem d_BufferWalk_spread_105 : decode b_BufferWalk_spread 105 = .ok (.getfield 22, 3) := by decide +kernel
theorem d_BufferWalk_spread_108 : decode b_BufferWalk_spread 108 = .ok (.aload_n 0, 1) := by decide +kernel
theorem d_BufferWalk_spread_109 : decode b_BufferWalk_spread 109 = .ok (.iconst 0, 1) := by decide +kernel
theorem d_BufferWalk_spread_110 : decode b_BufferWalk_spread 110 = .ok (.invokevirtual 90, 3) := by decide +kernel
theorem d_BufferWalk_spread_113 : decode b_BufferWalk_spread 113 = .ok (.aload_n 0, 1) := by decide +kernel
theorem d_BufferWalk_spread_114 : decode b_BufferWalk_spread 114 = .ok (.iconst 1, 1) := by decide +kernel
theorem d_BufferWalk_spread_115 : decode b_BufferWalk_spread 115 = .ok (.invokevirtual 90, 3) := by decide +kernel
theorem d_BufferWalk_spread_118 : decode b_BufferWalk_spread 118 = .ok (.aload_n 0, 1) := by decide +kernel
theorem d_BufferWalk_spread_119 : decode b_BufferWalk_spread 119 = .ok (.iconst 2, 1) := by decide +kernel
theorem d_BufferWalk_spread_120 : decode b_BufferWalk_spread 120 = .ok (.invokevirtual 90, 3) := by decide +kernel
theorem d_BufferWalk_spread_123 : decode b_BufferWalk_spread 123 = .ok (.invokevirtual 94, 3) := by decide +kernel
theorem d_BufferWalk_spread_126 : decode b_BufferWalk_spread 126 = .ok (.istore 5, 2) := by decide +kernel
theorem d_BufferWalk_spread_128 : decode b_BufferWalk_spread 128 = .ok (.aload_n 0, 1) := by decide +kernel
theorem d_BufferWalk_spread_129 : decode b_BufferWalk_spread 129 = .ok (.getfield 34, 3) := by decide +kernel
theorem d_BufferWalk_spread_132 : decode b_BufferWalk_spread 132 = .ok (.aload_n 0, 1) := by decide +kernel
theorem d_BufferWalk_spread_133 : decode b_BufferWalk_spread 133 = .ok (.getfield 22, 3) := by decide +kernel
theorem d_BufferWalk_spread_136 : decode b_BufferWalk_spread 136 = .ok (.invokevirtual 98, 3) := by decide +kernel
theorem d_BufferWalk_spread_139 : decode b_BufferWalk_spread 139 = .ok (.iload 5, 2) := by decide +kernel
theorem d_BufferWalk_spread_141 : decode b_BufferWalk_spread 141 = .ok (.aload_n 0, 1) := by decide +kernel
theorem d_BufferWalk_spread_142 : decode b_BufferWalk_spread 142 = .ok (.getfield 9, 3) := by decide +kernel
theorem d_BufferWalk_spread_145 : decode b_BufferWalk_spread 145 = .ok (.iload_n 1, 1) := by decide +kernel
theorem d_BufferWalk_spread_146 : decode b_BufferWalk_spread 146 = .ok (.invokevirtual 101, 3) := by decide +kernel
theorem d_BufferWalk_spread_149 : decode b_BufferWalk_spread 149 = .ok (.return_, 1) := by decide +kernel
theorem d_BufferWalk_goNext_0 : decode b_BufferWalk_goNext 0 = .ok (.aload_n 0, 1) := by decide +kernel
theorem d_BufferWalk_goNext_1 : decode b_BufferWalk_goNext 1 = .ok (.getfield 22, 3) := by decide +kernel
theorem d_BufferWalk_goNext_4 : decode b_BufferWalk_goNext 4 = .ok (.iload_n 1, 1) := by decide +kernel
theorem d_BufferWalk_goNext_5 : decode b_BufferWalk_goNext 5 = .ok (.invokevirtual 105, 3) := by decide +kernel
theorem d_BufferWalk_goNext_8 : decode b_BufferWalk_goNext 8 = .ok (.istore_n 3, 1) := by decide +kernel
theorem d_BufferWalk_goNext_9 : decode b_BufferWalk_goNext 9 = .ok (.iload_n 3, 1) := by decide +kernel
theorem d_BufferWalk_goNext_10 : decode b_BufferWalk_goNext 10 = .ok (.iconst (-1), 1) := by decide +kernel
theorem d_BufferWalk_goNext_11 : decode b_BufferWalk_goNext 11 = .ok (.if_icmp .eq 17, 3) := by decide +kernel
theorem d_BufferWalk_goNext_14 : decode b_BufferWalk_goNext 14 = .ok (.iload_n 2, 1) := by decide +kernel
theorem d_BufferWalk_goNext_15 : decode b_BufferWalk_goNext 15 = .ok (.bipush 14, 2) := by decide +kernel
theorem d_BufferWalk_goNext_17 : decode b_BufferWalk_goNext 17 = .ok (.if_icmp .ge 11, 3) := by decide +kernel
theorem d_BufferWalk_goNext_20 : decode b_BufferWalk_goNext 20 = .ok (.aload_n 0, 1) := by decide +kernel
theorem d_BufferWalk_goNext_21 : decode b_BufferWalk_goNext 21 = .ok (.iload_n 3, 1) := by decide +kernel
theorem d_BufferWalk_goNext_22 : decode b_BufferWalk_goNext 22 = .ok (.invokevirtual 108, 3) := by decide +kernel
theorem d_BufferWalk_goNext_25 : decode b_BufferWalk_goNext 25 = .ok (.ifCond .eq 5, 3) := by decide +kernel
theorem d_BufferWalk_goNext_28 : decode b_BufferWalk_goNext 28 = .ok (.iconst 0, 1) := by decide +kernel
theorem d_BufferWalk_goNext_29 : decode b_BufferWalk_goNext 29 = .ok (.ireturn, 1) := by decide +kernel
theorem d_BufferWalk_goNext_30 : decode b_BufferWalk_goNext 30 = .ok (.aload_n 0, 1) := by decide +kernel
theorem d_BufferWalk_goNext_31 : decode b_BufferWalk_goNext 31 = .ok (.getfield 22, 3) := by decide +kernel
theorem d_BufferWalk_goNext_34 : decode b_BufferWalk_goNext 34 = .ok (.iload_n 3, 1) := by decide +kernel
theorem d_BufferWalk_goNext_35 : decode b_BufferWalk_goNext 35 = .ok (.invokevirtual 112, 3) := by decide +kernel
theorem d_BufferWalk_goNext_38 : decode b_BufferWalk_goNext 38 = .ok (.istore 4, 2) := by decide +kernel
theorem d_BufferWalk_goNext_40 : decode b_BufferWalk_goNext 40 = .ok (.aload_n 0, 1) := by decide +kernel
theorem d_BufferWalk_goNext_41 : decode b_BufferWalk_goNext 41 = .ok (.getfield 51, 3) := by decide +kernel
theorem d_BufferWalk_goNext_44 : decode b_BufferWalk_goNext 44 = .ok (.istore 5, 2) := by decide +kernel
theorem d_BufferWalk_goNext_46 : decode b_BufferWalk_goNext 46 = .ok (.aload_n 0, 1) := by decide +kernel
theorem d_BufferWalk_goNext_47 : decode b_BufferWalk_goNext 47 = .ok (.getfield 54, 3) := by decide +kernel
theorem d_BufferWalk_goNext_50 : decode b_BufferWalk_goNext 50 = .ok (.istore 6, 2) := by decide +kernel
theorem d_BufferWalk_goNext_52 : decode b_BufferWalk_goNext 52 = .ok (.aload_n 0, 1) := by decide +kernel
theorem d_BufferWalk_goNext_53 : decode b_BufferWalk_goNext 53 = .ok (.getfield 22, 3) := by decide +kernel
theorem d_BufferWalk_goNext_56 : decode b_BufferWalk_goNext 56 = .ok (.iload_n 3, 1) := by decide +kernel
theorem d_BufferWalk_goNext_57 : decode b_BufferWalk_goNext 57 = .ok (.aload_n 0, 1) := by decide +kernel
theorem d_BufferWalk_goNext_58 : decode b_BufferWalk_goNext 58 = .ok (.getfield 18, 3) := by decide +kernel
theorem d_BufferWalk_goNext_61 : decode b_BufferWalk_goNext 61 = .ok (.iload_n 3, 1) := by decide +kernel
theorem d_BufferWalk_goNext_62 : decode b_BufferWalk_goNext 62 = .ok (.invokevirtual 115, 3) := by decide +kernel
theorem d_BufferWalk_goNext_65 : decode b_BufferWalk_goNext 65 = .ok (.ifCond .eq 11, 3) := by decide +kernel
theorem d_BufferWalk_goNext_68 : decode b_BufferWalk_goNext 68 = .ok (.aload_n 0, 1) := by decide +kernel
theorem d_BufferWalk_goNext_69 : decode b_BufferWalk_goNext 69 = .ok (.iload_n 3, 1) := by decide +kernel
theorem d_BufferWalk_goNext_70 : decode b_BufferWalk_goNext 70 = .ok (.invokevirtual 118, 3) := by decide +kernel
theorem d_BufferWalk_goNext_73 : decode b_BufferWalk_goNext 73 = .ok (.goto 4, 3) := by decide +kernel
theorem d_BufferWalk_goNext_76 : decode b_BufferWalk_goNext 76 = .ok (.iconst 0, 1) := by decide +kernel
theorem d_BufferWalk_goNext_77 : decode b_BufferWalk_goNext 77 = .ok (.invokevirtual 121, 3) := by decide +kernel
theorem d_BufferWalk_goNext_80 : decode b_BufferWalk_goNext 80 = .ok (.aload_n 0, 1) := by decide +kernel
theorem d_BufferWalk_goNext_81 : decode b_BufferWalk_goNext 81 = .ok (.iload_n 3, 1) := by decide +kernel
theorem d_BufferWalk_goNext_82 : decode b_BufferWalk_goNext 82 = .ok (.invokevirtual 125, 3) := by decide +kernel
theorem d_BufferWalk_goNext_85 : decode b_BufferWalk_goNext 85 = .ok (.aload_n 0, 1) := by decide +kernel
theorem d_BufferWalk_goNext_86 : decode b_BufferWalk_goNext 86 = .ok (.getfield 9, 3) := by decide +kernel
theorem d_BufferWalk_goNext_89 : decode b_BufferWalk_goNext 89 = .ok (.iload_n 2, 1) := by decide +kernel
theorem d_BufferWalk_goNext_90 : decode b_BufferWalk_goNext 90 = .ok (.iload_n 1, 1) := by decide +kernel
theorem d_BufferWalk_goNext_91 : decode b_BufferWalk_goNext 91 = .ok (.bipush 100, 2) := by decide +kernel
theorem d_BufferWalk_goNext_93 : decode b_BufferWalk_goNext 93 = .ok (.imul, 1) := by decide +kernel
theorem d_BufferWalk_goNext_94 : decode b_BufferWalk_goNext 94 = .ok (.iastore, 1) := by decide +kernel
theorem d_BufferWalk_goNext_95 : decode b_BufferWalk_goNext 95 = .ok (.aload_n 0, 1) := by decide +kernel
theorem d_BufferWalk_goNext_96 : decode b_BufferWalk_goNext 96 = .ok (.iload_n 2, 1) := by decide +kernel
theorem d_BufferWalk_goNext_97 : decode b_BufferWalk_goNext 97 = .ok (.iconst 1, 1) := by decide +kernel
theorem d_BufferWalk_goNext_98 : decode b_BufferWalk_goNext 98 = .ok (.iadd, 1) := by decide +kernel
theorem d_BufferWalk_goNext_99 : decode b_BufferWalk_goNext 99 = .ok (.invokevirtual 63, 3) := by decide +kernel
theorem d_BufferWalk_goNext_102 : decode b_BufferWalk_goNext 102 = .ok (.aload_n 0, 1) := by decide +kernel
theorem d_BufferWalk_goNext_103 : decode b_BufferWalk_goNext 103 = .ok (.iload 5, 2) := by decide +kernel
theorem d_BufferWalk_goNext_105 : decode b_BufferWalk_goNext 105 = .ok (.putfield 51, 3) := by decide +kernel
theorem d_BufferWalk_goNext_108 : decode b_BufferWalk_goNext 108 = .ok (.aload_n 0, 1) := by decide +kernel
theorem d_BufferWalk_goNext_109 : decode b_BufferWalk_goNext 109 = .ok (.iload 6, 2) := by decide +kernel
theorem d_BufferWalk_goNext_111 : decode b_BufferWalk_goNext 111 = .ok (.putfield 54, 3) := by decide +kernel
theorem d_BufferWalk_goNext_114 : decode b_BufferWalk_goNext 114 = .ok (.aload_n 0, 1) := by decide +kernel
theorem d_BufferWalk_goNext_115 : decode b_BufferWalk_goNext 115 = .ok (.getfield 22, 3) := by decide +kernel
theorem d_BufferWalk_goNext_118 : decode b_BufferWalk_goNext 118 = .ok (.iload_n 3, 1) := by decide +kernel
theorem d_BufferWalk_goNext_119 : decode b_BufferWalk_goNext 119 = .ok (.iload 4, 2) := by decide +kernel
theorem d_BufferWalk_goNext_121 : decode b_BufferWalk_goNext 121 = .ok (.invokevirtual 128, 3) := by decide +kernel
theorem d_BufferWalk_goNext_124 : decode b_BufferWalk_goNext 124 = .ok (.iconst 1, 1) := by decide +kernel
theorem d_BufferWalk_goNext_125 : decode b_BufferWalk_goNext 125 = .ok (.ireturn, 1) := by decide +kernel
theorem d_BufferWalk_waitsForBuffers_0 : decode b_BufferWalk_waitsForBuffers 0 = .ok (.aload_n 0, 1) := by decide +kernel
theorem d_BufferWalk_waitsForBuffers_1 : decode b_BufferWalk_waitsForBuffers 1 = .ok (.getfield 18, 3) := by decide +kernel
theorem d_BufferWalk_waitsForBuffers_4 : decode b_BufferWalk_waitsForBuffers 4 = .ok (.getfield 131, 3) := by decide +kernel
theorem d_BufferWalk_waitsForBuffers_7 : decode b_BufferWalk_waitsForBuffers 7 = .ok (.iload_n 1, 1) := by decide +kernel
theorem d_BufferWalk_waitsForBuffers_8 : decode b_BufferWalk_waitsForBuffers 8 = .ok (.iaload, 1) := by decide +kernel
theorem d_BufferWalk_waitsForBuffers_9 : decode b_BufferWalk_waitsForBuffers 9 = .ok (.istore_n 2, 1) := by decide +kernel
theorem d_BufferWalk_waitsForBuffers_10 : decode b_BufferWalk_waitsForBuffers 10 = .ok (.iload_n 2, 1) := by decide +kernel
theorem d_BufferWalk_waitsForBuffers_11 : decode b_BufferWalk_waitsForBuffers 11 = .ok (.iconst 4, 1) := by decide +kernel
theorem d_BufferWalk_waitsForBuffers_12 : decode b_BufferWalk_waitsForBuffers 12 = .ok (.if_icmp .eq 8, 3) := by decide +kernel
theorem d_BufferWalk_waitsForBuffers_15 : decode b_BufferWalk_waitsForBuffers 15 = .ok (.iload_n 2, 1) := by decide +kernel
theorem d_BufferWalk_waitsForBuffers_16 : decode b_BufferWalk_waitsForBuffers 16 = .ok (.iconst 3, 1) := by decide +kernel
theorem d_BufferWalk_waitsForBuffers_17 : decode b_BufferWalk_waitsForBuffers 17 = .ok (.if_icmp .ne 32, 3) := by decide +kernel
theorem d_BufferWalk_waitsForBuffers_20 : decode b_BufferWalk_waitsForBuffers 20 = .ok (.aload_n 0, 1) := by decide +kernel
theorem d_BufferWalk_waitsForBuffers_21 : decode b_BufferWalk_waitsForBuffers 21 = .ok (.getfield 54, 3) := by decide +kernel
theorem d_BufferWalk_waitsForBuffers_24 : decode b_BufferWalk_waitsForBuffers 24 = .ok (.aload_n 0, 1) := by decide +kernel
theorem d_BufferWalk_waitsForBuffers_25 : decode b_BufferWalk_waitsForBuffers 25 = .ok (.getfield 18, 3) := by decide +kernel
theorem d_BufferWalk_waitsForBuffers_28 : decode b_BufferWalk_waitsForBuffers 28 = .ok (.getfield 134, 3) := by decide +kernel
theorem d_BufferWalk_waitsForBuffers_31 : decode b_BufferWalk_waitsForBuffers 31 = .ok (.aload_n 0, 1) := by decide +kernel
theorem d_BufferWalk_waitsForBuffers_32 : decode b_BufferWalk_waitsForBuffers 32 = .ok (.getfield 18, 3) := by decide +kernel
theorem d_BufferWalk_waitsForBuffers_35 : decode b_BufferWalk_waitsForBuffers 35 = .ok (.getfield 137, 3) := by decide +kernel
theorem d_BufferWalk_waitsForBuffers_38 : decode b_BufferWalk_waitsForBuffers 38 = .ok (.iload_n 1, 1) := by decide +kernel
theorem d_BufferWalk_waitsForBuffers_39 : decode b_BufferWalk_waitsForBuffers 39 = .ok (.iaload, 1) := by decide +kernel
theorem d_BufferWalk_waitsForBuffers_40 : decode b_BufferWalk_waitsForBuffers 40 = .ok (.iaload, 1) := by decide +kernel
theorem d_BufferWalk_waitsForBuffers_41 : decode b_BufferWalk_waitsForBuffers 41 = .ok (.iand, 1) := by decide +kernel
theorem d_BufferWalk_waitsForBuffers_42 : decode b_BufferWalk_waitsForBuffers 42 = .ok (.ifCond .eq 7, 3) := by decide +kernel
theorem d_BufferWalk_waitsForBuffers_45 : decode b_BufferWalk_waitsForBuffers 45 = .ok (.iconst 1, 1) := by decide +kernel
theorem d_BufferWalk_waitsForBuffers_46 : decode b_BufferWalk_waitsForBuffers 46 = .ok (.goto 4, 3) := by decide +kernel
theorem d_BufferWalk_waitsForBuffers_49 : decode b_BufferWalk_waitsForBuffers 49 = .ok (.iconst 0, 1) := by decide +kernel
theorem d_BufferWalk_waitsForBuffers_50 : decode b_BufferWalk_waitsForBuffers 50 = .ok (.ireturn, 1) := by decide +kernel
theorem d_BufferWalk_sourceFor_0 : decode b_BufferWalk_sourceFor 0 = .ok (.aload_n 0, 1) := by decide +kernel
theorem d_BufferWalk_sourceFor_1 : decode b_BufferWalk_sourceFor 1 = .ok (.getfield 18, 3) := by decide +kernel
theorem d_BufferWalk_sourceFor_4 : decode b_BufferWalk_sourceFor 4 = .ok (.getfield 140, 3) := by decide +kernel
theorem d_BufferWalk_sourceFor_7 : decode b_BufferWalk_sourceFor 7 = .ok (.iload_n 1, 1) := by decide +kernel
theorem d_BufferWalk_sourceFor_8 : decode b_BufferWalk_sourceFor 8 = .ok (.iaload, 1) := by decide +kernel
theorem d_BufferWalk_sourceFor_9 : decode b_BufferWalk_sourceFor 9 = .ok (.istore_n 2, 1) := by decide +kernel
theorem d_BufferWalk_sourceFor_10 : decode b_BufferWalk_sourceFor 10 = .ok (.aload_n 0, 1) := by decide +kernel
theorem d_BufferWalk_sourceFor_11 : decode b_BufferWalk_sourceFor 11 = .ok (.getfield 54, 3) := by decide +kernel
theorem d_BufferWalk_sourceFor_14 : decode b_BufferWalk_sourceFor 14 = .ok (.aload_n 0, 1) := by decide +kernel
theorem d_BufferWalk_sourceFor_15 : decode b_BufferWalk_sourceFor 15 = .ok (.getfield 18, 3) := by decide +kernel
theorem d_BufferWalk_sourceFor_18 : decode b_BufferWalk_sourceFor 18 = .ok (.getfield 134, 3) := by decide +kernel
theorem d_BufferWalk_sourceFor_21 : decode b_BufferWalk_sourceFor 21 = .ok (.aload_n 0, 1) := by decide +kernel
theorem d_BufferWalk_sourceFor_22 : decode b_BufferWalk_sourceFor 22 = .ok (.getfield 18, 3) := by decide +kernel
theorem d_BufferWalk_sourceFor_25 : decode b_BufferWalk_sourceFor 25 = .ok (.getfield 137, 3) := by decide +kernel
theorem d_BufferWalk_sourceFor_28 : decode b_BufferWalk_sourceFor 28 = .ok (.iload_n 1, 1) := by decide +kernel
theorem d_BufferWalk_sourceFor_29 : decode b_BufferWalk_sourceFor 29 = .ok (.iaload, 1) := by decide +kernel
theorem d_BufferWalk_sourceFor_30 : decode b_BufferWalk_sourceFor 30 = .ok (.iaload, 1) := by decide +kernel
theorem d_BufferWalk_sourceFor_31 : decode b_BufferWalk_sourceFor 31 = .ok (.iand, 1) := by decide +kernel
theorem d_BufferWalk_sourceFor_32 : decode b_BufferWalk_sourceFor 32 = .ok (.aload_n 0, 1) := by decide +kernel
theorem d_BufferWalk_sourceFor_33 : decode b_BufferWalk_sourceFor 33 = .ok (.getfield 18, 3) := by decide +kernel
theorem d_BufferWalk_sourceFor_36 : decode b_BufferWalk_sourceFor 36 = .ok (.getfield 143, 3) := by decide +kernel
theorem d_BufferWalk_sourceFor_39 : decode b_BufferWalk_sourceFor 39 = .ok (.iload_n 2, 1) := by decide +kernel
theorem d_BufferWalk_sourceFor_40 : decode b_BufferWalk_sourceFor 40 = .ok (.iaload, 1) := by decide +kernel
theorem d_BufferWalk_sourceFor_41 : decode b_BufferWalk_sourceFor 41 = .ok (.iand, 1) := by decide +kernel
theorem d_BufferWalk_sourceFor_42 : decode b_BufferWalk_sourceFor 42 = .ok (.istore_n 3, 1) := by decide +kernel
theorem d_BufferWalk_sourceFor_43 : decode b_BufferWalk_sourceFor 43 = .ok (.bipush 6, 2) := by decide +kernel
theorem d_BufferWalk_sourceFor_45 : decode b_BufferWalk_sourceFor 45 = .ok (.istore 4, 2) := by decide +kernel
theorem d_BufferWalk_sourceFor_47 : decode b_BufferWalk_sourceFor 47 = .ok (.iload 4, 2) := by decide +kernel
theorem d_BufferWalk_sourceFor_49 : decode b_BufferWalk_sourceFor 49 = .ok (.ifCond .lt 27, 3) := by decide +kernel
theorem d_BufferWalk_sourceFor_52 : decode b_BufferWalk_sourceFor 52 = .ok (.iload_n 3, 1) := by decide +kernel
theorem d_BufferWalk_sourceFor_53 : decode b_BufferWalk_sourceFor 53 = .ok (.ifCond .eq 23, 3) := by decide +kernel
theorem d_BufferWalk_sourceFor_56 : decode b_BufferWalk_sourceFor 56 = .ok (.iload_n 3, 1) := by decide +kernel
theorem d_BufferWalk_sourceFor_57 : decode b_BufferWalk_sourceFor 57 = .ok (.iload 4, 2) := by decide +kernel
theorem d_BufferWalk_sourceFor_59 : decode b_BufferWalk_sourceFor 59 = .ok (.invokestatic 146, 3) := by decide +kernel
theorem d_BufferWalk_sourceFor_62 : decode b_BufferWalk_sourceFor 62 = .ok (.ifCond .eq 8, 3) := by decide +kernel
theorem d_BufferWalk_sourceFor_65 : decode b_BufferWalk_sourceFor 65 = .ok (.iload 4, 2) := by decide +kernel
theorem d_BufferWalk_sourceFor_67 : decode b_BufferWalk_sourceFor 67 = .ok (.iconst 1, 1) := by decide +kernel
theorem d_BufferWalk_sourceFor_68 : decode b_BufferWalk_sourceFor 68 = .ok (.iadd, 1) := by decide +kernel
theorem d_BufferWalk_sourceFor_69 : decode b_BufferWalk_sourceFor 69 = .ok (.ireturn, 1) := by decide +kernel
theorem d_BufferWalk_sourceFor_70 : decode b_BufferWalk_sourceFor 70 = .ok (.iinc 4 (-1), 3) := by decide +kernel
theorem d_BufferWalk_sourceFor_73 : decode b_BufferWalk_sourceFor 73 = .ok (.goto (-26), 3) := by decide +kernel
theorem d_BufferWalk_sourceFor_76 : decode b_BufferWalk_sourceFor 76 = .ok (.aload_n 0, 1) := by decide +kernel
theorem d_BufferWalk_sourceFor_77 : decode b_BufferWalk_sourceFor 77 = .ok (.iload_n 2, 1) := by decide +kernel
theorem d_BufferWalk_sourceFor_78 : decode b_BufferWalk_sourceFor 78 = .ok (.invokevirtual 90, 3) := by decide +kernel
theorem d_BufferWalk_sourceFor_81 : decode b_BufferWalk_sourceFor 81 = .ok (.ireturn, 1) := by decide +kernel
theorem d_BufferWalk_keepWritten_0 : decode b_BufferWalk_keepWritten 0 = .ok (.aload_n 0, 1) := by decide +kernel
theorem d_BufferWalk_keepWritten_1 : decode b_BufferWalk_keepWritten 1 = .ok (.getfield 18, 3) := by decide +kernel
theorem d_BufferWalk_keepWritten_4 : decode b_BufferWalk_keepWritten 4 = .ok (.getfield 131, 3) := by decide +kernel
theorem d_BufferWalk_keepWritten_7 : decode b_BufferWalk_keepWritten 7 = .ok (.iload_n 1, 1) := by decide +kernel
theorem d_BufferWalk_keepWritten_8 : decode b_BufferWalk_keepWritten 8 = .ok (.iaload, 1) := by decide +kernel
theorem d_BufferWalk_keepWritten_9 : decode b_BufferWalk_keepWritten 9 = .ok (.istore_n 2, 1) := by decide +kernel
theorem d_BufferWalk_keepWritten_10 : decode b_BufferWalk_keepWritten 10 = .ok (.iload_n 2, 1) := by decide +kernel
theorem d_BufferWalk_keepWritten_11 : decode b_BufferWalk_keepWritten 11 = .ok (.iconst 3, 1) := by decide +kernel
theorem d_BufferWalk_keepWritten_12 : decode b_BufferWalk_keepWritten 12 = .ok (.if_icmp .eq 20, 3) := by decide +kernel
theorem d_BufferWalk_keepWritten_15 : decode b_BufferWalk_keepWritten 15 = .ok (.aload_n 0, 1) := by decide +kernel
theorem d_BufferWalk_keepWritten_16 : decode b_BufferWalk_keepWritten 16 = .ok (.getfield 30, 3) := by decide +kernel
theorem d_BufferWalk_keepWritten_19 : decode b_BufferWalk_keepWritten 19 = .ok (.ifCond .ne 21, 3) := by decide +kernel
theorem d_BufferWalk_keepWritten_22 : decode b_BufferWalk_keepWritten 22 = .ok (.iload_n 2, 1) := by decide +kernel
theorem d_BufferWalk_keepWritten_23 : decode b_BufferWalk_keepWritten 23 = .ok (.iconst 1, 1) := by decide +kernel
theorem d_BufferWalk_keepWritten_24 : decode b_BufferWalk_keepWritten 24 = .ok (.if_icmp .eq 8, 3) := by decide +kernel
theorem d_BufferWalk_keepWritten_27 : decode b_BufferWalk_keepWritten 27 = .ok (.iload_n 2, 1) := by decide +kernel
theorem d_BufferWalk_keepWritten_28 : decode b_BufferWalk_keepWritten 28 = .ok (.iconst 2, 1) := by decide +kernel
theorem d_BufferWalk_keepWritten_29 : decode b_BufferWalk_keepWritten 29 = .ok (.if_icmp .ne 11, 3) := by decide +kernel
theorem d_BufferWalk_keepWritten_32 : decode b_BufferWalk_keepWritten 32 = .ok (.aload_n 0, 1) := by decide +kernel
theorem d_BufferWalk_keepWritten_33 : decode b_BufferWalk_keepWritten 33 = .ok (.iload_n 1, 1) := by decide +kernel
theorem d_BufferWalk_keepWritten_34 : decode b_BufferWalk_keepWritten 34 = .ok (.invokevirtual 149, 3) := by decide +kernel
theorem d_BufferWalk_keepWritten_37 : decode b_BufferWalk_keepWritten 37 = .ok (.goto 25, 3) := by decide +kernel
theorem d_BufferWalk_keepWritten_40 : decode b_BufferWalk_keepWritten 40 = .ok (.iload_n 2, 1) := by decide +kernel
theorem d_BufferWalk_keepWritten_41 : decode b_BufferWalk_keepWritten 41 = .ok (.iconst 1, 1) := by decide +kernel
theorem d_BufferWalk_keepWritten_42 : decode b_BufferWalk_keepWritten 42 = .ok (.if_icmp .eq 8, 3) := by decide +kernel
theorem d_BufferWalk_keepWritten_45 : decode b_BufferWalk_keepWritten 45 = .ok (.iload_n 2, 1) := by decide +kernel
theorem d_BufferWalk_keepWritten_46 : decode b_BufferWalk_keepWritten 46 = .ok (.iconst 2, 1) := by decide +kernel
theorem d_BufferWalk_keepWritten_47 : decode b_BufferWalk_keepWritten 47 = .ok (.if_icmp .ne 15, 3) := by decide +kernel
theorem d_BufferWalk_keepWritten_50 : decode b_BufferWalk_keepWritten 50 = .ok (.aload_n 0, 1) := by decide +kernel
theorem d_BufferWalk_keepWritten_51 : decode b_BufferWalk_keepWritten 51 = .ok (.dup, 1) := by decide +kernel
theorem d_BufferWalk_keepWritten_52 : decode b_BufferWalk_keepWritten 52 = .ok (.getfield 54, 3) := by decide +kernel
theorem d_BufferWalk_keepWritten_55 : decode b_BufferWalk_keepWritten 55 = .ok (.iconst 1, 1) := by decide +kernel
theorem d_BufferWalk_keepWritten_56 : decode b_BufferWalk_keepWritten 56 = .ok (.iload_n 1, 1) := by decide +kernel
theorem d_BufferWalk_keepWritten_57 : decode b_BufferWalk_keepWritten 57 = .ok (.ishl, 1) := by decide +kernel
theorem d_BufferWalk_keepWritten_58 : decode b_BufferWalk_keepWritten 58 = .ok (.ior, 1) := by decide +kernel
theorem d_BufferWalk_keepWritten_59 : decode b_BufferWalk_keepWritten 59 = .ok (.putfield 54, 3) := by decide +kernel
theorem d_BufferWalk_keepWritten_62 : decode b_BufferWalk_keepWritten 62 = .ok (.return_, 1) := by decide +kernel
theorem d_BufferWalk_sourceIn_0 : decode b_BufferWalk_sourceIn 0 = .ok (.aload_n 0, 1) := by decide +kernel
theorem d_BufferWalk_sourceIn_1 : decode b_BufferWalk_sourceIn 1 = .ok (.getfield 51, 3) := by decide +kernel
theorem d_BufferWalk_sourceIn_4 : decode b_BufferWalk_sourceIn 4 = .ok (.iconst 3, 1) := by decide +kernel
theorem d_BufferWalk_sourceIn_5 : decode b_BufferWalk_sourceIn 5 = .ok (.iload_n 1, 1) := by decide +kernel
theorem d_BufferWalk_sourceIn_6 : decode b_BufferWalk_sourceIn 6 = .ok (.imul, 1) := by decide +kernel
theorem d_BufferWalk_sourceIn_7 : decode b_BufferWalk_sourceIn 7 = .ok (.ishr, 1) := by decide +kernel
theorem d_BufferWalk_sourceIn_8 : decode b_BufferWalk_sourceIn 8 = .ok (.bipush 7, 2) := by decide +kernel
theorem d_BufferWalk_sourceIn_10 : decode b_BufferWalk_sourceIn 10 = .ok (.iand, 1) := by decide +kernel
theorem d_BufferWalk_sourceIn_11 : decode b_BufferWalk_sourceIn 11 = .ok (.ireturn, 1) := by decide +kernel
theorem d_BufferWalk_putIntoMemory_0 : decode b_BufferWalk_putIntoMemory 0 = .ok (.iconst 3, 1) := by decide +kernel
theorem d_BufferWalk_putIntoMemory_1 : decode b_BufferWalk_putIntoMemory 1 = .ok (.aload_n 0, 1) := by decide +kernel
theorem d_BufferWalk_putIntoMemory_2 : decode b_BufferWalk_putIntoMemory 2 = .ok (.getfield 18, 3) := by decide +kernel
theorem d_BufferWalk_putIntoMemory_5 : decode b_BufferWalk_putIntoMemory 5 = .ok (.getfield 140, 3) := by decide +kernel
theorem d_BufferWalk_putIntoMemory_8 : decode b_BufferWalk_putIntoMemory 8 = .ok (.iload_n 1, 1) := by decide +kernel
theorem d_BufferWalk_putIntoMemory_9 : decode b_BufferWalk_putIntoMemory 9 = .ok (.iaload, 1) := by decide +kernel
theorem d_BufferWalk_putIntoMemory_10 : decode b_BufferWalk_putIntoMemory 10 = .ok (.imul, 1) := by decide +kernel
theorem d_BufferWalk_putIntoMemory_11 : decode b_BufferWalk_putIntoMemory 11 = .ok (.istore_n 2, 1) := by decide +kernel
theorem d_BufferWalk_putIntoMemory_12 : decode b_BufferWalk_putIntoMemory 12 = .ok (.aload_n 0, 1) := by decide +kernel
theorem d_BufferWalk_putIntoMemory_13 : decode b_BufferWalk_putIntoMemory 13 = .ok (.aload_n 0, 1) := by decide +kernel
theorem d_BufferWalk_putIntoMemory_14 : decode b_BufferWalk_putIntoMemory 14 = .ok (.getfield 51, 3) := by decide +kernel
theorem d_BufferWalk_putIntoMemory_17 : decode b_BufferWalk_putIntoMemory 17 = .ok (.bipush 7, 2) := by decide +kernel
theorem d_BufferWalk_putIntoMemory_19 : decode b_BufferWalk_putIntoMemory 19 = .ok (.iload_n 2, 1) := by decide +kernel
theorem d_BufferWalk_putIntoMemory_20 : decode b_BufferWalk_putIntoMemory 20 = .ok (.ishl, 1) := by decide +kernel
theorem d_BufferWalk_putIntoMemory_21 : decode b_BufferWalk_putIntoMemory 21 = .ok (.iconst (-1), 1) := by decide +kernel
theorem d_BufferWalk_putIntoMemory_22 : decode b_BufferWalk_putIntoMemory 22 = .ok (.ixor, 1) := by decide +kernel
theorem d_BufferWalk_putIntoMemory_23 : decode b_BufferWalk_putIntoMemory 23 = .ok (.iand, 1) := by decide +kernel
theorem d_BufferWalk_putIntoMemory_24 : decode b_BufferWalk_putIntoMemory 24 = .ok (.iload_n 1, 1) := by decide +kernel
theorem d_BufferWalk_putIntoMemory_25 : decode b_BufferWalk_putIntoMemory 25 = .ok (.iconst 1, 1) := by decide +kernel
theorem d_BufferWalk_putIntoMemory_26 : decode b_BufferWalk_putIntoMemory 26 = .ok (.iadd, 1) := by decide +kernel
theorem d_BufferWalk_putIntoMemory_27 : decode b_BufferWalk_putIntoMemory 27 = .ok (.iload_n 2, 1) := by decide +kernel
theorem d_BufferWalk_putIntoMemory_28 : decode b_BufferWalk_putIntoMemory 28 = .ok (.ishl, 1) := by decide +kernel
theorem d_BufferWalk_putIntoMemory_29 : decode b_BufferWalk_putIntoMemory 29 = .ok (.ior, 1) := by decide +kernel
theorem d_BufferWalk_putIntoMemory_30 : decode b_BufferWalk_putIntoMemory 30 = .ok (.putfield 51, 3) := by decide +kernel
theorem d_BufferWalk_putIntoMemory_33 : decode b_BufferWalk_putIntoMemory 33 = .ok (.return_, 1) := by decide +kernel
theorem d_BufferWalk_goFromBuffers_0 : decode b_BufferWalk_goFromBuffers 0 = .ok (.aload_n 0, 1) := by decide +kernel
theorem d_BufferWalk_goFromBuffers_1 : decode b_BufferWalk_goFromBuffers 1 = .ok (.getfield 54, 3) := by decide +kernel
theorem d_BufferWalk_goFromBuffers_4 : decode b_BufferWalk_goFromBuffers 4 = .ok (.aload_n 0, 1) := by decide +kernel
theorem d_BufferWalk_goFromBuffers_5 : decode b_BufferWalk_goFromBuffers 5 = .ok (.getfield 18, 3) := by decide +kernel
theorem d_BufferWalk_goFromBuffers_8 : decode b_BufferWalk_goFromBuffers 8 = .ok (.getfield 134, 3) := by decide +kernel
theorem d_BufferWalk_goFromBuffers_11 : decode b_BufferWalk_goFromBuffers 11 = .ok (.iload_n 1, 1) := by decide +kernel
theorem d_BufferWalk_goFromBuffers_12 : decode b_BufferWalk_goFromBuffers 12 = .ok (.iaload, 1) := by decide +kernel
theorem d_BufferWalk_goFromBuffers_13 : decode b_BufferWalk_goFromBuffers 13 = .ok (.iand, 1) := by decide +kernel
theorem d_BufferWalk_goFromBuffers_14 : decode b_BufferWalk_goFromBuffers 14 = .ok (.istore_n 3, 1) := by decide +kernel
theorem d_BufferWalk_goFromBuffers_15 : decode b_BufferWalk_goFromBuffers 15 = .ok (.iload_n 3, 1) := by decide +kernel
theorem d_BufferWalk_goFromBuffers_16 : decode b_BufferWalk_goFromBuffers 16 = .ok (.ifCond .ne 5, 3) := by decide +kernel
theorem d_BufferWalk_goFromBuffers_19 : decode b_BufferWalk_goFromBuffers 19 = .ok (.iconst 0, 1) := by decide +kernel
theorem d_BufferWalk_goFromBuffers_20 : decode b_BufferWalk_goFromBuffers 20 = .ok (.ireturn, 1) := by decide +kernel
theorem d_BufferWalk_goFromBuffers_21 : decode b_BufferWalk_goFromBuffers 21 = .ok (.aload_n 0, 1) := by decide +kernel
theorem d_BufferWalk_goFromBuffers_22 : decode b_BufferWalk_goFromBuffers 22 = .ok (.getfield 30, 3) := by decide +kernel
theorem d_BufferWalk_goFromBuffers_25 : decode b_BufferWalk_goFromBuffers 25 = .ok (.iconst 1, 1) := by decide +kernel
theorem d_BufferWalk_goFromBuffers_26 : decode b_BufferWalk_goFromBuffers 26 = .ok (.if_icmp .ne 17, 3) := by decide +kernel
theorem d_BufferWalk_goFromBuffers_29 : decode b_BufferWalk_goFromBuffers 29 = .ok (.aload_n 0, 1) := by decide +kernel
theorem d_BufferWalk_goFromBuffers_30 : decode b_BufferWalk_goFromBuffers 30 = .ok (.iload_n 3, 1) := by decide +kernel
theorem d_BufferWalk_goFromBuffers_31 : decode b_BufferWalk_goFromBuffers 31 = .ok (.iload_n 1, 1) := by decide +kernel
theorem d_BufferWalk_goFromBuffers_32 : decode b_BufferWalk_goFromBuffers 32 = .ok (.bipush 100, 2) := by decide +kernel
theorem d_BufferWalk_goFromBuffers_34 : decode b_BufferWalk_goFromBuffers 34 = .ok (.imul, 1) := by decide +kernel
theorem d_BufferWalk_goFromBuffers_35 : decode b_BufferWalk_goFromBuffers 35 = .ok (.iconst 1, 1) := by decide +kernel
theorem d_BufferWalk_goFromBuffers_36 : decode b_BufferWalk_goFromBuffers 36 = .ok (.iadd, 1) := by decide +kernel
theorem d_BufferWalk_goFromBuffers_37 : decode b_BufferWalk_goFromBuffers 37 = .ok (.iload_n 2, 1) := by decide +kernel
theorem d_BufferWalk_goFromBuffers_38 : decode b_BufferWalk_goFromBuffers 38 = .ok (.invokevirtual 152, 3) := by decide +kernel
theorem d_BufferWalk_goFromBuffers_41 : decode b_BufferWalk_goFromBuffers 41 = .ok (.iconst 1, 1) := by decide +kernel
theorem d_BufferWalk_goFromBuffers_42 : decode b_BufferWalk_goFromBuffers 42 = .ok (.ireturn, 1) := by decide +kernel
theorem d_BufferWalk_goFromBuffers_43 : decode b_BufferWalk_goFromBuffers 43 = .ok (.iconst 0, 1) := by decide +kernel
theorem d_BufferWalk_goFromBuffers_44 : decode b_BufferWalk_goFromBuffers 44 = .ok (.istore 4, 2) := by decide +kernel
theorem d_BufferWalk_goFromBuffers_46 : decode b_BufferWalk_goFromBuffers 46 = .ok (.iload 4, 2) := by decide +kernel
theorem d_BufferWalk_goFromBuffers_48 : decode b_BufferWalk_goFromBuffers 48 = .ok (.iconst 3, 1) := by decide +kernel
theorem d_BufferWalk_goFromBuffers_49 : decode b_BufferWalk_goFromBuffers 49 = .ok (.if_icmp .ge 35, 3) := by decide +kernel
theorem d_BufferWalk_goFromBuffers_52 : decode b_BufferWalk_goFromBuffers 52 = .ok (.aload_n 0, 1) := by decide +kernel
theorem d_BufferWalk_goFromBuffers_53 : decode b_BufferWalk_goFromBuffers 53 = .ok (.iload_n 3, 1) := by decide +kernel
theorem d_BufferWalk_goFromBuffers_54 : decode b_BufferWalk_goFromBuffers 54 = .ok (.aload_n 0, 1) := by decide +kernel
theorem d_BufferWalk_goFromBuffers_55 : decode b_BufferWalk_goFromBuffers 55 = .ok (.getfield 18, 3) := by decide +kernel
theorem d_BufferWalk_goFromBuffers_58 : decode b_BufferWalk_goFromBuffers 58 = .ok (.getfield 143, 3) := by decide +kernel
theorem d_BufferWalk_goFromBuffers_61 : decode b_BufferWalk_goFromBuffers 61 = .ok (.iload 4, 2) := by decide +kernel
theorem d_BufferWalk_goFromBuffers_63 : decode b_BufferWalk_goFromBuffers 63 = .ok (.iaload, 1) := by decide +kernel
theorem d_BufferWalk_goFromBuffers_64 : decode b_BufferWalk_goFromBuffers 64 = .ok (.iand, 1) := by decide +kernel
theorem d_BufferWalk_goFromBuffers_65 : decode b_BufferWalk_goFromBuffers 65 = .ok (.iload_n 1, 1) := by decide +kernel
theorem d_BufferWalk_goFromBuffers_66 : decode b_BufferWalk_goFromBuffers 66 = .ok (.bipush 100, 2) := by decide +kernel
theorem d_BufferWalk_goFromBuffers_68 : decode b_BufferWalk_goFromBuffers 68 = .ok (.imul, 1) := by decide +kernel
theorem d_BufferWalk_goFromBuffers_69 : decode b_BufferWalk_goFromBuffers 69 = .ok (.iconst 1, 1) := by decide +kernel
theorem d_BufferWalk_goFromBuffers_70 : decode b_BufferWalk_goFromBuffers 70 = .ok (.iadd, 1) := by decide +kernel
theorem d_BufferWalk_goFromBuffers_71 : decode b_BufferWalk_goFromBuffers 71 = .ok (.iload 4, 2) := by decide +kernel
theorem d_BufferWalk_goFromBuffers_73 : decode b_BufferWalk_goFromBuffers 73 = .ok (.iadd, 1) := by decide +kernel
theorem d_BufferWalk_goFromBuffers_74 : decode b_BufferWalk_goFromBuffers 74 = .ok (.iload_n 2, 1) := by decide +kernel
theorem d_BufferWalk_goFromBuffers_75 : decode b_BufferWalk_goFromBuffers 75 = .ok (.invokevirtual 152, 3) := by decide +kernel
theorem d_BufferWalk_goFromBuffers_78 : decode b_BufferWalk_goFromBuffers 78 = .ok (.iinc 4 1, 3) := by decide +kernel
theorem d_BufferWalk_goFromBuffers_81 : decode b_BufferWalk_goFromBuffers 81 = .ok (.goto (-35), 3) := by decide +kernel
theorem d_BufferWalk_goFromBuffers_84 : decode b_BufferWalk_goFromBuffers 84 = .ok (.iconst 1, 1) := by decide +kernel
theorem d_BufferWalk_goFromBuffers_85 : decode b_BufferWalk_goFromBuffers 85 = .ok (.ireturn, 1) := by decide +kernel
theorem d_BufferWalk_letGo_0 : decode b_BufferWalk_letGo 0 = .ok (.iload_n 1, 1) := by decide +kernel
theorem d_BufferWalk_letGo_1 : decode b_BufferWalk_letGo 1 = .ok (.ifCond .eq 9, 3) := by decide +kernel
theorem d_BufferWalk_letGo_4 : decode b_BufferWalk_letGo 4 = .ok (.iload_n 3, 1) := by decide +kernel
theorem d_BufferWalk_letGo_5 : decode b_BufferWalk_letGo 5 = .ok (.bipush 14, 2) := by decide +kernel
theorem d_BufferWalk_letGo_7 : decode b_BufferWalk_letGo 7 = .ok (.if_icmp .lt 4, 3) := by decide +kernel
theorem d_BufferWalk_letGo_10 : decode b_BufferWalk_letGo 10 = .ok (.return_, 1) := by decide +kernel
theorem d_BufferWalk_letGo_11 : decode b_BufferWalk_letGo 11 = .ok (.iload_n 1, 1) := by decide +kernel
theorem d_BufferWalk_letGo_12 : decode b_BufferWalk_letGo 12 = .ok (.iload_n 1, 1) := by decide +kernel
theorem d_BufferWalk_letGo_13 : decode b_BufferWalk_letGo 13 = .ok (.ineg, 1) := by decide +kernel
theorem d_BufferWalk_letGo_14 : decode b_BufferWalk_letGo 14 = .ok (.iand, 1) := by decide +kernel
theorem d_BufferWalk_letGo_15 : decode b_BufferWalk_letGo 15 = .ok (.istore 4, 2) := by decide +kernel
theorem d_BufferWalk_letGo_17 : decode b_BufferWalk_letGo 17 = .ok (.aload_n 0, 1) := by decide +kernel
theorem d_BufferWalk_letGo_18 : decode b_BufferWalk_letGo 18 = .ok (.getfield 51, 3) := by decide +kernel
theorem d_BufferWalk_letGo_21 : decode b_BufferWalk_letGo 21 = .ok (.istore 5, 2) := by decide +kernel
theorem d_BufferWalk_letGo_23 : decode b_BufferWalk_letGo 23 = .ok (.aload_n 0, 1) := by decide +kernel
theorem d_BufferWalk_letGo_24 : decode b_BufferWalk_letGo 24 = .ok (.dup, 1) := by decide +kernel
theorem d_BufferWalk_letGo_25 : decode b_BufferWalk_letGo 25 = .ok (.getfield 54, 3) := by decide +kernel
theorem d_BufferWalk_letGo_28 : decode b_BufferWalk_letGo 28 = .ok (.iload 4, 2) := by decide +kernel
theorem d_BufferWalk_letGo_30 : decode b_BufferWalk_letGo 30 = .ok (.iconst (-1), 1) := by decide +kernel
theorem d_BufferWalk_letGo_31 : decode b_BufferWalk_letGo 31 = .ok (.ixor, 1) := by decide +kernel
theorem d_BufferWalk_letGo_32 : decode b_BufferWalk_letGo 32 = .ok (.iand, 1) := by decide +kernel
theorem d_BufferWalk_letGo_33 : decode b_BufferWalk_letGo 33 = .ok (.putfield 54, 3) := by decide +kernel
theorem d_BufferWalk_letGo_36 : decode b_BufferWalk_letGo 36 = .ok (.aload_n 0, 1) := by decide +kernel
theorem d_BufferWalk_letGo_37 : decode b_BufferWalk_letGo 37 = .ok (.iload 4, 2) := by decide +kernel
theorem d_BufferWalk_letGo_39 : decode b_BufferWalk_letGo 39 = .ok (.iconst 1, 1) := by decide +kernel
theorem d_BufferWalk_letGo_40 : decode b_BufferWalk_letGo 40 = .ok (.isub, 1) := by decide +kernel
theorem d_BufferWalk_letGo_41 : decode b_BufferWalk_letGo 41 = .ok (.invokestatic 156, 3) := by decide +kernel
theorem d_BufferWalk_letGo_44 : decode b_BufferWalk_letGo 44 = .ok (.invokevirtual 149, 3) := by decide +kernel
theorem d_BufferWalk_letGo_47 : decode b_BufferWalk_letGo 47 = .ok (.aload_n 0, 1) := by decide +kernel
theorem d_BufferWalk_letGo_48 : decode b_BufferWalk_letGo 48 = .ok (.getfield 9, 3) := by decide +kernel
theorem d_BufferWalk_letGo_51 : decode b_BufferWalk_letGo 51 = .ok (.iload_n 3, 1) := by decide +kernel
theorem d_BufferWalk_letGo_52 : decode b_BufferWalk_letGo 52 = .ok (.iload_n 2, 1) := by decide +kernel
theorem d_BufferWalk_letGo_53 : decode b_BufferWalk_letGo 53 = .ok (.iastore, 1) := by decide +kernel
theorem d_BufferWalk_letGo_54 : decode b_BufferWalk_letGo 54 = .ok (.aload_n 0, 1) := by decide +kernel
theorem d_BufferWalk_letGo_55 : decode b_BufferWalk_letGo 55 = .ok (.iload_n 3, 1) := by decide +kernel
theorem d_BufferWalk_letGo_56 : decode b_BufferWalk_letGo 56 = .ok (.iconst 1, 1) := by decide +kernel
theorem d_BufferWalk_letGo_57 : decode b_BufferWalk_letGo 57 = .ok (.iadd, 1) := by decide +kernel
theorem d_BufferWalk_letGo_58 : decode b_BufferWalk_letGo 58 = .ok (.invokevirtual 63, 3) := by decide +kernel
theorem d_BufferWalk_letGo_61 : decode b_BufferWalk_letGo 61 = .ok (.aload_n 0, 1) := by decide +kernel
theorem d_BufferWalk_letGo_62 : decode b_BufferWalk_letGo 62 = .ok (.dup, 1) := by decide +kernel
theorem d_BufferWalk_letGo_63 : decode b_BufferWalk_letGo 63 = .ok (.getfield 54, 3) := by decide +kernel
theorem d_BufferWalk_letGo_66 : decode b_BufferWalk_letGo 66 = .ok (.iload 4, 2) := by decide +kernel
theorem d_BufferWalk_letGo_68 : decode b_BufferWalk_letGo 68 = .ok (.ior, 1) := by decide +kernel
theorem d_BufferWalk_letGo_69 : decode b_BufferWalk_letGo 69 = .ok (.putfield 54, 3) := by decide +kernel
theorem d_BufferWalk_letGo_72 : decode b_BufferWalk_letGo 72 = .ok (.aload_n 0, 1) := by decide +kernel
theorem d_BufferWalk_letGo_73 : decode b_BufferWalk_letGo 73 = .ok (.iload 5, 2) := by decide +kernel
theorem d_BufferWalk_letGo_75 : decode b_BufferWalk_letGo 75 = .ok (.putfield 51, 3) := by decide +kernel
theorem d_BufferWalk_letGo_78 : decode b_BufferWalk_letGo 78 = .ok (.return_, 1) := by decide +kernel
theorem d_BufferWalk_noteRaces_0 : decode b_BufferWalk_noteRaces 0 = .ok (.iconst 0, 1) := by decide +kernel
theorem d_BufferWalk_noteRaces_1 : decode b_BufferWalk_noteRaces 1 = .ok (.istore_n 1, 1) := by decide +kernel
theorem d_BufferWalk_noteRaces_2 : decode b_BufferWalk_noteRaces 2 = .ok (.iconst 0, 1) := by decide +kernel
theorem d_BufferWalk_noteRaces_3 : decode b_BufferWalk_noteRaces 3 = .ok (.istore_n 2, 1) := by decide +kernel
theorem d_BufferWalk_noteRaces_4 : decode b_BufferWalk_noteRaces 4 = .ok (.iload_n 2, 1) := by decide +kernel
theorem d_BufferWalk_noteRaces_5 : decode b_BufferWalk_noteRaces 5 = .ok (.aload_n 0, 1) := by decide +kernel
theorem d_BufferWalk_noteRaces_6 : decode b_BufferWalk_noteRaces 6 = .ok (.getfield 18, 3) := by decide +kernel
theorem d_BufferWalk_noteRaces_9 : decode b_BufferWalk_noteRaces 9 = .ok (.getfield 78, 3) := by decide +kernel
theorem d_BufferWalk_noteRaces_12 : decode b_BufferWalk_noteRaces 12 = .ok (.if_icmp .ge 33, 3) := by decide +kernel
theorem d_BufferWalk_noteRaces_15 : decode b_BufferWalk_noteRaces 15 = .ok (.aload_n 0, 1) := by decide +kernel
theorem d_BufferWalk_noteRaces_16 : decode b_BufferWalk_noteRaces 16 = .ok (.getfield 22, 3) := by decide +kernel
theorem d_BufferWalk_noteRaces_19 : decode b_BufferWalk_noteRaces 19 = .ok (.iload_n 2, 1) := by decide +kernel
theorem d_BufferWalk_noteRaces_20 : decode b_BufferWalk_noteRaces 20 = .ok (.invokevirtual 105, 3) := by decide +kernel
theorem d_BufferWalk_noteRaces_23 : decode b_BufferWalk_noteRaces 23 = .ok (.istore_n 3, 1) := by decide +kernel
theorem d_BufferWalk_noteRaces_24 : decode b_BufferWalk_noteRaces 24 = .ok (.iload_n 1, 1) := by decide +kernel
theorem d_BufferWalk_noteRaces_25 : decode b_BufferWalk_noteRaces 25 = .ok (.iload_n 3, 1) := by decide +kernel
theorem d_BufferWalk_noteRaces_26 : decode b_BufferWalk_noteRaces 26 = .ok (.iconst (-1), 1) := by decide +kernel
theorem d_BufferWalk_noteRaces_27 : decode b_BufferWalk_noteRaces 27 = .ok (.if_icmp .ne 7, 3) := by decide +kernel
theorem d_BufferWalk_noteRaces_30 : decode b_BufferWalk_noteRaces 30 = .ok (.iconst 0, 1) := by decide +kernel
theorem d_BufferWalk_noteRaces_31 : decode b_BufferWalk_noteRaces 31 = .ok (.goto 6, 3) := by decide +kernel
theorem d_BufferWalk_noteRaces_34 : decode b_BufferWalk_noteRaces 34 = .ok (.iconst 1, 1) := by decide +kernel
theorem d_BufferWalk_noteRaces_35 : decode b_BufferWalk_noteRaces 35 = .ok (.iload_n 3, 1) := by decide +kernel
theorem d_BufferWalk_noteRaces_36 : decode b_BufferWalk_noteRaces 36 = .ok (.ishl, 1) := by decide +kernel
theorem d_BufferWalk_noteRaces_37 : decode b_BufferWalk_noteRaces 37 = .ok (.ior, 1) := by decide +kernel
theorem d_BufferWalk_noteRaces_38 : decode b_BufferWalk_noteRaces 38 = .ok (.istore_n 1, 1) := by decide +kernel
theorem d_BufferWalk_noteRaces_39 : decode b_BufferWalk_noteRaces 39 = .ok (.iinc 2 1, 3) := by decide +kernel
theorem d_BufferWalk_noteRaces_42 : decode b_BufferWalk_noteRaces 42 = .ok (.goto (-38), 3) := by decide +kernel
theorem d_BufferWalk_noteRaces_45 : decode b_BufferWalk_noteRaces 45 = .ok (.iconst 0, 1) := by decide +kernel
theorem d_BufferWalk_noteRaces_46 : decode b_BufferWalk_noteRaces 46 = .ok (.istore_n 2, 1) := by decide +kernel
theorem d_BufferWalk_noteRaces_47 : decode b_BufferWalk_noteRaces 47 = .ok (.iload_n 2, 1) := by decide +kernel
theorem d_BufferWalk_noteRaces_48 : decode b_BufferWalk_noteRaces 48 = .ok (.aload_n 0, 1) := by decide +kernel
theorem d_BufferWalk_noteRaces_49 : decode b_BufferWalk_noteRaces 49 = .ok (.getfield 18, 3) := by decide +kernel
theorem d_BufferWalk_noteRaces_52 : decode b_BufferWalk_noteRaces 52 = .ok (.getfield 161, 3) := by decide +kernel
theorem d_BufferWalk_noteRaces_55 : decode b_BufferWalk_noteRaces 55 = .ok (.if_icmp .ge 36, 3) := by decide +kernel
theorem d_BufferWalk_noteRaces_58 : decode b_BufferWalk_noteRaces 58 = .ok (.iload_n 1, 1) := by decide +kernel
theorem d_BufferWalk_noteRaces_59 : decode b_BufferWalk_noteRaces 59 = .ok (.iload_n 2, 1) := by decide +kernel
theorem d_BufferWalk_noteRaces_60 : decode b_BufferWalk_noteRaces 60 = .ok (.invokestatic 146, 3) := by decide +kernel
theorem d_BufferWalk_noteRaces_63 : decode b_BufferWalk_noteRaces 63 = .ok (.ifCond .eq 22, 3) := by decide +kernel
theorem d_BufferWalk_noteRaces_66 : decode b_BufferWalk_noteRaces 66 = .ok (.aload_n 0, 1) := by decide +kernel
theorem d_BufferWalk_noteRaces_67 : decode b_BufferWalk_noteRaces 67 = .ok (.getfield 15, 3) := by decide +kernel
theorem d_BufferWalk_noteRaces_70 : decode b_BufferWalk_noteRaces 70 = .ok (.iload_n 2, 1) := by decide +kernel
theorem d_BufferWalk_noteRaces_71 : decode b_BufferWalk_noteRaces 71 = .ok (.dup2, 1) := by decide +kernel
theorem d_BufferWalk_noteRaces_72 : decode b_BufferWalk_noteRaces 72 = .ok (.iaload, 1) := by decide +kernel
theorem d_BufferWalk_noteRaces_73 : decode b_BufferWalk_noteRaces 73 = .ok (.iload_n 1, 1) := by decide +kernel
theorem d_BufferWalk_noteRaces_74 : decode b_BufferWalk_noteRaces 74 = .ok (.aload_n 0, 1) := by decide +kernel
theorem d_BufferWalk_noteRaces_75 : decode b_BufferWalk_noteRaces 75 = .ok (.getfield 18, 3) := by decide +kernel
theorem d_BufferWalk_noteRaces_78 : decode b_BufferWalk_noteRaces 78 = .ok (.iload_n 2, 1) := by decide +kernel
theorem d_BufferWalk_noteRaces_79 : decode b_BufferWalk_noteRaces 79 = .ok (.invokevirtual 164, 3) := by decide +kernel
theorem d_BufferWalk_noteRaces_82 : decode b_BufferWalk_noteRaces 82 = .ok (.iand, 1) := by decide +kernel
theorem d_BufferWalk_noteRaces_83 : decode b_BufferWalk_noteRaces 83 = .ok (.ior, 1) := by decide +kernel
theorem d_BufferWalk_noteRaces_84 : decode b_BufferWalk_noteRaces 84 = .ok (.iastore, 1) := by decide +kernel
theorem d_BufferWalk_noteRaces_85 : decode b_BufferWalk_noteRaces 85 = .ok (.iinc 2 1, 3) := by decide +kernel
theorem d_BufferWalk_noteRaces_88 : decode b_BufferWalk_noteRaces 88 = .ok (.goto (-41), 3) := by decide +kernel
theorem d_BufferWalk_noteRaces_91 : decode b_BufferWalk_noteRaces 91 = .ok (.return_, 1) := by decide +kernel
theorem d_GraphSearch_init_0 : decode b_GraphSearch_init 0 = .ok (.aload_n 0, 1) := by decide +kernel
theorem d_GraphSearch_init_1 : decode b_GraphSearch_init 1 = .ok (.invokespecial 3, 3) := by decide +kernel
theorem d_GraphSearch_init_4 : decode b_GraphSearch_init 4 = .ok (.aload_n 0, 1) := by decide +kernel
theorem d_GraphSearch_init_5 : decode b_GraphSearch_init 5 = .ok (.bipush 7, 2) := by decide +kernel
theorem d_GraphSearch_init_7 : decode b_GraphSearch_init 7 = .ok (.newarray .int, 2) := by decide +kernel
theorem d_GraphSearch_init_9 : decode b_GraphSearch_init 9 = .ok (.putfield 9, 3) := by decide +kernel
theorem d_GraphSearch_init_12 : decode b_GraphSearch_init 12 = .ok (.aload_n 0, 1) := by decide +kernel
theorem d_GraphSearch_init_13 : decode b_GraphSearch_init 13 = .ok (.iconst 4, 1) := by decide +kernel
theorem d_GraphSearch_init_14 : decode b_GraphSearch_init 14 = .ok (.newarray .int, 2) := by decide +kernel
theorem d_GraphSearch_init_16 : decode b_GraphSearch_init 16 = .ok (.putfield 15, 3) := by decide +kernel
theorem d_GraphSearch_init_19 : decode b_GraphSearch_init 19 = .ok (.aload_n 0, 1) := by decide +kernel
theorem d_GraphSearch_init_20 : decode b_GraphSearch_init 20 = .ok (.iconst 3, 1) := by decide +kernel
theorem d_GraphSearch_init_21 : decode b_GraphSearch_init 21 = .ok (.newarray .int, 2) := by decide +kernel
theorem d_GraphSearch_init_23 : decode b_GraphSearch_init 23 = .ok (.putfield 18, 3) := by decide +kernel
theorem d_GraphSearch_init_26 : decode b_GraphSearch_init 26 = .ok (.aload_n 0, 1) := by decide +kernel
theorem d_GraphSearch_init_27 : decode b_GraphSearch_init 27 = .ok (.bipush 7, 2) := by decide +kernel
theorem d_GraphSearch_init_29 : decode b_GraphSearch_init 29 = .ok (.newarray .int, 2) := by decide +kernel
theorem d_GraphSearch_init_31 : decode b_GraphSearch_init 31 = .ok (.putfield 21, 3) := by decide +kernel
theorem d_GraphSearch_init_34 : decode b_GraphSearch_init 34 = .ok (.aload_n 0, 1) := by decide +kernel
theorem d_GraphSearch_init_35 : decode b_GraphSearch_init 35 = .ok (.bipush 7, 2) := by decide +kernel
theorem d_GraphSearch_init_37 : decode b_GraphSearch_init 37 = .ok (.newarray .int, 2) := by decide +kernel
theorem d_GraphSearch_init_39 : decode b_GraphSearch_init 39 = .ok (.putfield 24, 3) := by decide +kernel
theorem d_GraphSearch_init_42 : decode b_GraphSearch_init 42 = .ok (.aload_n 0, 1) := by decide +kernel
theorem d_GraphSearch_init_43 : decode b_GraphSearch_init 43 = .ok (.bipush 7, 2) := by decide +kernel
theorem d_GraphSearch_init_45 : decode b_GraphSearch_init 45 = .ok (.newarray .int, 2) := by decide +kernel
theorem d_GraphSearch_init_47 : decode b_GraphSearch_init 47 = .ok (.putfield 27, 3) := by decide +kernel
theorem d_GraphSearch_init_50 : decode b_GraphSearch_init 50 = .ok (.aload_n 0, 1) := by decide +kernel
theorem d_GraphSearch_init_51 : decode b_GraphSearch_init 51 = .ok (.bipush 8, 2) := by decide +kernel
theorem d_GraphSearch_init_53 : decode b_GraphSearch_init 53 = .ok (.newarray .int, 2) := by decide +kernel
theorem d_GraphSearch_init_55 : decode b_GraphSearch_init 55 = .ok (.putfield 30, 3) := by decide +kernel
theorem d_GraphSearch_init_58 : decode b_GraphSearch_init 58 = .ok (.aload_n 0, 1) := by decide +kernel
theorem d_GraphSearch_init_59 : decode b_GraphSearch_init 59 = .ok (.iconst 4, 1) := by decide +kernel
theorem d_GraphSearch_init_60 : decode b_GraphSearch_init 60 = .ok (.newarray .int, 2) := by decide +kernel
theorem d_GraphSearch_init_62 : decode b_GraphSearch_init 62 = .ok (.putfield 33, 3) := by decide +kernel
theorem d_GraphSearch_init_65 : decode b_GraphSearch_init 65 = .ok (.aload_n 0, 1) := by decide +kernel
theorem d_GraphSearch_init_66 : decode b_GraphSearch_init 66 = .ok (.iconst 4, 1) := by decide +kernel
theorem d_GraphSearch_init_67 : decode b_GraphSearch_init 67 = .ok (.newarray .int, 2) := by decide +kernel
theorem d_GraphSearch_init_69 : decode b_GraphSearch_init 69 = .ok (.putfield 36, 3) := by decide +kernel
theorem d_GraphSearch_init_72 : decode b_GraphSearch_init 72 = .ok (.aload_n 0, 1) := by decide +kernel
theorem d_GraphSearch_init_73 : decode b_GraphSearch_init 73 = .ok (.bipush 7, 2) := by decide +kernel
theorem d_GraphSearch_init_75 : decode b_GraphSearch_init 75 = .ok (.newarray .int, 2) := by decide +kernel
theorem d_GraphSearch_init_77 : decode b_GraphSearch_init 77 = .ok (.putfield 39, 3) := by decide +kernel
theorem d_GraphSearch_init_80 : decode b_GraphSearch_init 80 = .ok (.aload_n 0, 1) := by decide +kernel
theorem d_GraphSearch_init_81 : decode b_GraphSearch_init 81 = .ok (.bipush 7, 2) := by decide +kernel
theorem d_GraphSearch_init_83 : decode b_GraphSearch_init 83 = .ok (.newarray .int, 2) := by decide +kernel
theorem d_GraphSearch_init_85 : decode b_GraphSearch_init 85 = .ok (.putfield 42, 3) := by decide +kernel
theorem d_GraphSearch_init_88 : decode b_GraphSearch_init 88 = .ok (.aload_n 0, 1) := by decide +kernel
theorem d_GraphSearch_init_89 : decode b_GraphSearch_init 89 = .ok (.bipush 7, 2) := by decide +kernel
theorem d_GraphSearch_init_91 : decode b_GraphSearch_init 91 = .ok (.newarray .int, 2) := by decide +kernel
theorem d_GraphSearch_init_93 : decode b_GraphSearch_init 93 = .ok (.putfield 45, 3) := by decide +kernel
theorem d_GraphSearch_init_96 : decode b_GraphSearch_init 96 = .ok (.aload_n 0, 1) := by decide +kernel
theorem d_GraphSearch_init_97 : decode b_GraphSearch_init 97 = .ok (.aload_n 1, 1) := by decide +kernel
theorem d_GraphSearch_init_98 : decode b_GraphSearch_init 98 = .ok (.putfield 48, 3) := by decide +kernel
theorem d_GraphSearch_init_101 : decode b_GraphSearch_init 101 = .ok (.aload_n 0, 1) := by decide +kernel
theorem d_GraphSearch_init_102 : decode b_GraphSearch_init 102 = .ok (.aload_n 2, 1) := by decide +kernel
theorem d_GraphSearch_init_103 : decode b_GraphSearch_init 103 = .ok (.putfield 52, 3) := by decide +kernel
theorem d_GraphSearch_init_106 : decode b_GraphSearch_init 106 = .ok (.return_, 1) := by decide +kernel
theorem d_GraphSearch_search_0 : decode b_GraphSearch_search 0 = .ok (.aload_n 0, 1) := by decide +kernel
theorem d_GraphSearch_search_1 : decode b_GraphSearch_search 1 = .ok (.iload_n 1, 1) := by decide +kernel
theorem d_GraphSearch_search_2 : decode b_GraphSearch_search 2 = .ok (.putfield 56, 3) := by decide +kernel
theorem d_GraphSearch_search_5 : decode b_GraphSearch_search 5 = .ok (.aload_n 0, 1) := by decide +kernel
theorem d_GraphSearch_search_6 : decode b_GraphSearch_search 6 = .ok (.aload_n 2, 1) := by decide +kernel
theorem d_GraphSearch_search_7 : decode b_GraphSearch_search 7 = .ok (.putfield 60, 3) := by decide +kernel
theorem d_GraphSearch_search_10 : decode b_GraphSearch_search 10 = .ok (.aload_n 0, 1) := by decide +kernel
theorem d_GraphSearch_search_11 : decode b_GraphSearch_search 11 = .ok (.getfield 60, 3) := by decide +kernel
theorem d_GraphSearch_search_14 : decode b_GraphSearch_search 14 = .ok (.invokevirtual 64, 3) := by decide +kernel
theorem d_GraphSearch_search_17 : decode b_GraphSearch_search 17 = .ok (.aload_n 0, 1) := by decide +kernel
theorem d_GraphSearch_search_18 : decode b_GraphSearch_search 18 = .ok (.getfield 52, 3) := by decide +kernel
theorem d_GraphSearch_search_21 : decode b_GraphSearch_search 21 = .ok (.invokevirtual 69, 3) := by decide +kernel
theorem d_GraphSearch_search_24 : decode b_GraphSearch_search 24 = .ok (.aload_n 0, 1) := by decide +kernel
theorem d_GraphSearch_search_25 : decode b_GraphSearch_search 25 = .ok (.getfield 9, 3) := by decide +kernel
theorem d_GraphSearch_search_28 : decode b_GraphSearch_search 28 = .ok (.iconst (-1), 1) := by decide +kernel
theorem d_GraphSearch_search_29 : decode b_GraphSearch_search 29 = .ok (.invokestatic 72, 3) := by decide +kernel
theorem d_GraphSearch_search_32 : decode b_GraphSearch_search 32 = .ok (.aload_n 0, 1) := by decide +kernel
theorem d_GraphSearch_search_33 : decode b_GraphSearch_search 33 = .ok (.getfield 15, 3) := by decide +kernel
theorem d_GraphSearch_search_36 : decode b_GraphSearch_search 36 = .ok (.iconst (-1), 1) := by decide +kernel
theorem d_GraphSearch_search_37 : decode b_GraphSearch_search 37 = .ok (.invokestatic 72, 3) := by decide +kernel
theorem d_GraphSearch_search_40 : decode b_GraphSearch_search 40 = .ok (.aload_n 0, 1) := by decide +kernel
theorem d_GraphSearch_search_41 : decode b_GraphSearch_search 41 = .ok (.getfield 18, 3) := by decide +kernel
theorem d_GraphSearch_search_44 : decode b_GraphSearch_search 44 = .ok (.iconst 0, 1) := by decide +kernel
theorem d_GraphSearch_search_45 : decode b_GraphSearch_search 45 = .ok (.invokestatic 72, 3) := by decide +kernel
theorem d_GraphSearch_search_48 : decode b_GraphSearch_search 48 = .ok (.iconst 0, 1) := by decide +kernel
theorem d_GraphSearch_search_49 : decode b_GraphSearch_search 49 = .ok (.istore_n 3, 1) := by decide +kernel
theorem d_GraphSearch_search_50 : decode b_GraphSearch_search 50 = .ok (.iload_n 3, 1) := by decide +kernel
theorem d_GraphSearch_search_51 : decode b_GraphSearch_search 51 = .ok (.aload_n 0, 1) := by decide +kernel
theorem d_GraphSearch_search_52 : decode b_GraphSearch_search 52 = .ok (.getfield 48, 3) := by decide +kernel
theorem d_GraphSearch_search_55 : decode b_GraphSearch_search 55 = .ok (.getfield 78, 3) := by decide +kernel
theorem d_GraphSearch_search_58 : decode b_GraphSearch_search 58 = .ok (.if_icmp .ge 14, 3) := by decide +kernel
theorem d_GraphSearch_search_61 : decode b_GraphSearch_search 61 = .ok (.aload_n 0, 1) := by decide +kernel
theorem d_GraphSearch_search_62 : decode b_GraphSearch_search 62 = .ok (.iload_n 3, 1) := by decide +kernel
theorem d_GraphSearch_search_63 : decode b_GraphSearch_search 63 = .ok (.invokevirtual 83, 3) := by decide +kernel
theorem d_GraphSearch_search_66 : decode b_GraphSearch_search 66 = .ok (.iinc 3 1, 3) := by decide +kernel
theorem d_GraphSearch_search_69 : decode b_GraphSearch_search 69 = .ok (.goto (-19), 3) := by decide +kernel
theorem d_GraphSearch_search_72 : decode b_GraphSearch_search 72 = .ok (.aload_n 0, 1) := by decide +kernel
theorem d_GraphSearch_search_73 : decode b_GraphSearch_search 73 = .ok (.iconst 0, 1) := by decide +kernel
theorem d_GraphSearch_search_74 : decode b_GraphSearch_search 74 = .ok (.invokevirtual 87, 3) := by decide +kernel
theorem d_GraphSearch_search_77 : decode b_GraphSearch_search 77 = .ok (.return_, 1) := by decide +kernel
theorem d_GraphSearch_tellOwn_0 : decode b_GraphSearch_tellOwn 0 = .ok (.aload_n 0, 1) := by decide +kernel
theorem d_GraphSearch_tellOwn_1 : decode b_GraphSearch_tellOwn 1 = .ok (.getfield 48, 3) := by decide +kernel
theorem d_GraphSearch_tellOwn_4 : decode b_GraphSearch_tellOwn 4 = .ok (.getfield 90, 3) := by decide +kernel
theorem d_GraphSearch_tellOwn_7 : decode b_GraphSearch_tellOwn 7 = .ok (.iload_n 1, 1) := by decide +kernel
theorem d_GraphSearch_tellOwn_8 : decode b_GraphSearch_tellOwn 8 = .ok (.iaload, 1) := by decide +kernel
theorem d_GraphSearch_tellOwn_9 : decode b_GraphSearch_tellOwn 9 = .ok (.istore_n 2, 1) := by decide +kernel
theorem d_GraphSearch_tellOwn_10 : decode b_GraphSearch_tellOwn 10 = .ok (.iconst 0, 1) := by decide +kernel
theorem d_GraphSearch_tellOwn_11 : decode b_GraphSearch_tellOwn 11 = .ok (.istore_n 3, 1) := by decide +kernel
theorem d_GraphSearch_tellOwn_12 : decode b_GraphSearch_tellOwn 12 = .ok (.aload_n 0, 1) := by decide +kernel
theorem d_GraphSearch_tellOwn_13 : decode b_GraphSearch_tellOwn 13 = .ok (.getfield 21, 3) := by decide +kernel
theorem d_GraphSearch_tellOwn_16 : decode b_GraphSearch_tellOwn 16 = .ok (.iload_n 1, 1) := by decide +kernel
theorem d_GraphSearch_tellOwn_17 : decode b_GraphSearch_tellOwn 17 = .ok (.aload_n 0, 1) := by decide +kernel
theorem d_GraphSearch_tellOwn_18 : decode b_GraphSearch_tellOwn 18 = .ok (.getfield 48, 3) := by decide +kernel
theorem d_GraphSearch_tellOwn_21 : decode b_GraphSearch_tellOwn 21 = .ok (.iload_n 1, 1) := by decide +kernel
theorem d_GraphSearch_tellOwn_22 : decode b_GraphSearch_tellOwn 22 = .ok (.invokevirtual 93, 3) := by decide +kernel
theorem d_GraphSearch_tellOwn_25 : decode b_GraphSearch_tellOwn 25 = .ok (.iastore, 1) := by decide +kernel
theorem d_GraphSearch_tellOwn_26 : decode b_GraphSearch_tellOwn 26 = .ok (.aload_n 0, 1) := by decide +kernel
theorem d_GraphSearch_tellOwn_27 : decode b_GraphSearch_tellOwn 27 = .ok (.getfield 24, 3) := by decide +kernel
theorem d_GraphSearch_tellOwn_30 : decode b_GraphSearch_tellOwn 30 = .ok (.iload_n 1, 1) := by decide +kernel
theorem d_GraphSearch_tellOwn_31 : decode b_GraphSearch_tellOwn 31 = .ok (.iconst 0, 1) := by decide +kernel
theorem d_GraphSearch_tellOwn_32 : decode b_GraphSearch_tellOwn 32 = .ok (.iastore, 1) := by decide +kernel
theorem d_GraphSearch_tellOwn_33 : decode b_GraphSearch_tellOwn 33 = .ok (.iload_n 2, 1) := by decide +kernel
theorem d_GraphSearch_tellOwn_34 : decode b_GraphSearch_tellOwn 34 = .ok (.iconst 4, 1) := by decide +kernel
theorem d_GraphSearch_tellOwn_35 : decode b_GraphSearch_tellOwn 35 = .ok (.if_icmp .ge 33, 3) := by decide +kernel
theorem d_GraphSearch_tellOwn_38 : decode b_GraphSearch_tellOwn 38 = .ok (.aload_n 0, 1) := by decide +kernel
theorem d_GraphSearch_tellOwn_39 : decode b_GraphSearch_tellOwn 39 = .ok (.getfield 24, 3) := by decide +kernel
theorem d_GraphSearch_tellOwn_42 : decode b_GraphSearch_tellOwn 42 = .ok (.iload_n 1, 1) := by decide +kernel
theorem d_GraphSearch_tellOwn_43 : decode b_GraphSearch_tellOwn 43 = .ok (.aload_n 0, 1) := by decide +kernel
theorem d_GraphSearch_tellOwn_44 : decode b_GraphSearch_tellOwn 44 = .ok (.getfield 21, 3) := by decide +kernel
theorem d_GraphSearch_tellOwn_47 : decode b_GraphSearch_tellOwn 47 = .ok (.iload_n 1, 1) := by decide +kernel
theorem d_GraphSearch_tellOwn_48 : decode b_GraphSearch_tellOwn 48 = .ok (.iaload, 1) := by decide +kernel
theorem d_GraphSearch_tellOwn_49 : decode b_GraphSearch_tellOwn 49 = .ok (.aload_n 0, 1) := by decide +kernel
theorem d_GraphSearch_tellOwn_50 : decode b_GraphSearch_tellOwn 50 = .ok (.getfield 48, 3) := by decide +kernel
theorem d_GraphSearch_tellOwn_53 : decode b_GraphSearch_tellOwn 53 = .ok (.getfield 97, 3) := by decide +kernel
theorem d_GraphSearch_tellOwn_56 : decode b_GraphSearch_tellOwn 56 = .ok (.aload_n 0, 1) := by decide +kernel
theorem d_GraphSearch_tellOwn_57 : decode b_GraphSearch_tellOwn 57 = .ok (.getfield 48, 3) := by decide +kernel
theorem d_GraphSearch_tellOwn_60 : decode b_GraphSearch_tellOwn 60 = .ok (.getfield 100, 3) := by decide +kernel
theorem d_GraphSearch_tellOwn_63 : decode b_GraphSearch_tellOwn 63 = .ok (.iload_n 1, 1) := by decide +kernel
theorem d_GraphSearch_tellOwn_64 : decode b_GraphSearch_tellOwn 64 = .ok (.iaload, 1) := by decide +kernel
theorem d_GraphSearch_tellOwn_65 : decode b_GraphSearch_tellOwn 65 = .ok (.iaload, 1) := by decide +kernel
theorem d_GraphSearch_tellOwn_66 : decode b_GraphSearch_tellOwn 66 = .ok (.iand, 1) := by decide +kernel
theorem d_GraphSearch_tellOwn_67 : decode b_GraphSearch_tellOwn 67 = .ok (.iastore, 1) := by decide +kernel
theorem d_GraphSearch_tellOwn_68 : decode b_GraphSearch_tellOwn 68 = .ok (.iload_n 2, 1) := by decide +kernel
theorem d_GraphSearch_tellOwn_69 : decode b_GraphSearch_tellOwn 69 = .ok (.ifCond .ne 14, 3) := by decide +kernel
theorem d_GraphSearch_tellOwn_72 : decode b_GraphSearch_tellOwn 72 = .ok (.aload_n 0, 1) := by decide +kernel
theorem d_GraphSearch_tellOwn_73 : decode b_GraphSearch_tellOwn 73 = .ok (.getfield 48, 3) := by decide +kernel
theorem d_GraphSearch_tellOwn_76 : decode b_GraphSearch_tellOwn 76 = .ok (.invokevirtual 103, 3) := by decide +kernel
theorem d_GraphSearch_tellOwn_79 : decode b_GraphSearch_tellOwn 79 = .ok (.istore_n 3, 1) := by decide +kernel
theorem d_GraphSearch_tellOwn_80 : decode b_GraphSearch_tellOwn 80 = .ok (.goto 49, 3) := by decide +kernel
theorem d_GraphSearch_tellOwn_83 : decode b_GraphSearch_tellOwn 83 = .ok (.aload_n 0, 1) := by decide +kernel
theorem d_GraphSearch_tellOwn_84 : decode b_GraphSearch_tellOwn 84 = .ok (.getfield 56, 3) := by decide +kernel
theorem d_GraphSearch_tellOwn_87 : decode b_GraphSearch_tellOwn 87 = .ok (.iconst 2, 1) := by decide +kernel
theorem d_GraphSearch_tellOwn_88 : decode b_GraphSearch_tellOwn 88 = .ok (.if_icmp .ne 41, 3) := by decide +kernel
theorem d_GraphSearch_tellOwn_91 : decode b_GraphSearch_tellOwn 91 = .ok (.iload_n 2, 1) := by decide +kernel
theorem d_GraphSearch_tellOwn_92 : decode b_GraphSearch_tellOwn 92 = .ok (.iconst 1, 1) := by decide +kernel
theorem d_GraphSearch_tellOwn_93 : decode b_GraphSearch_tellOwn 93 = .ok (.if_icmp .eq 8, 3) := by decide +kernel
theorem d_GraphSearch_tellOwn_96 : decode b_GraphSearch_tellOwn 96 = .ok (.iload_n 2, 1) := by decide +kernel
theorem d_GraphSearch_tellOwn_97 : decode b_GraphSearch_tellOwn 97 = .ok (.iconst 2, 1) := by decide +kernel
theorem d_GraphSearch_tellOwn_98 : decode b_GraphSearch_tellOwn 98 = .ok (.if_icmp .ne 31, 3) := by decide +kernel
theorem d_GraphSearch_tellOwn_101 : decode b_GraphSearch_tellOwn 101 = .ok (.aload_n 0, 1) := by decide +kernel
theorem d_GraphSearch_tellOwn_102 : decode b_GraphSearch_tellOwn 102 = .ok (.getfield 48, 3) := by decide +kernel
theorem d_GraphSearch_tellOwn_105 : decode b_GraphSearch_tellOwn 105 = .ok (.invokevirtual 103, 3) := by decide +kernel
theorem d_GraphSearch_tellOwn_108 : decode b_GraphSearch_tellOwn 108 = .ok (.aload_n 0, 1) := by decide +kernel
theorem d_GraphSearch_tellOwn_109 : decode b_GraphSearch_tellOwn 109 = .ok (.getfield 48, 3) := by decide +kernel
theorem d_GraphSearch_tellOwn_112 : decode b_GraphSearch_tellOwn 112 = .ok (.getfield 97, 3) := by decide +kernel
theorem d_GraphSearch_tellOwn_115 : decode b_GraphSearch_tellOwn 115 = .ok (.aload_n 0, 1) := by decide +kernel
theorem d_GraphSearch_tellOwn_116 : decode b_GraphSearch_tellOwn 116 = .ok (.getfield 48, 3) := by decide +kernel
theorem d_GraphSearch_tellOwn_119 : decode b_GraphSearch_tellOwn 119 = .ok (.getfield 100, 3) := by decide +kernel
theorem d_GraphSearch_tellOwn_122 : decode b_GraphSearch_tellOwn 122 = .ok (.iload_n 1, 1) := by decide +kernel
theorem d_GraphSearch_tellOwn_123 : decode b_GraphSearch_tellOwn 123 = .ok (.iaload, 1) := by decide +kernel
theorem d_GraphSearch_tellOwn_124 : decode b_GraphSearch_tellOwn 124 = .ok (.iaload, 1) := by decide +kernel
theorem d_GraphSearch_tellOwn_125 : decode b_GraphSearch_tellOwn 125 = .ok (.iconst (-1), 1) := by decide +kernel
theorem d_GraphSearch_tellOwn_126 : decode b_GraphSearch_tellOwn 126 = .ok (.ixor, 1) := by decide +kernel
theorem d_GraphSearch_tellOwn_127 : decode b_GraphSearch_tellOwn 127 = .ok (.iand, 1) := by decide +kernel
theorem d_GraphSearch_tellOwn_128 : decode b_GraphSearch_tellOwn 128 = .ok (.istore_n 3, 1) := by decide +kernel
theorem d_GraphSearch_tellOwn_129 : decode b_GraphSearch_tellOwn 129 = .ok (.aload_n 0, 1) := by decide +kernel
theorem d_GraphSearch_tellOwn_130 : decode b_GraphSearch_tellOwn 130 = .ok (.getfield 27, 3) := by decide +kernel
theorem d_GraphSearch_tellOwn_133 : decode b_GraphSearch_tellOwn 133 = .ok (.iload_n 1, 1) := by decide +kernel
theorem d_GraphSearch_tellOwn_134 : decode b_GraphSearch_tellOwn 134 = .ok (.aload_n 0, 1) := by decide +kernel
theorem d_GraphSearch_tellOwn_135 : decode b_GraphSearch_tellOwn 135 = .ok (.getfield 21, 3) := by decide +kernel
theorem d_GraphSearch_tellOwn_138 : decode b_GraphSearch_tellOwn 138 = .ok (.iload_n 1, 1) := by decide +kernel
theorem d_GraphSearch_tellOwn_139 : decode b_GraphSearch_tellOwn 139 = .ok (.iaload, 1) := by decide +kernel
theorem d_GraphSearch_tellOwn_140 : decode b_GraphSearch_tellOwn 140 = .ok (.iload_n 3, 1) := by decide +kernel
theorem d_GraphSearch_tellOwn_141 : decode b_GraphSearch_tellOwn 141 = .ok (.iconst (-1), 1) := by decide +kernel
theorem d_GraphSearch_tellOwn_142 : decode b_GraphSearch_tellOwn 142 = .ok (.ixor, 1) := by decide +kernel
theorem d_GraphSearch_tellOwn_143 : decode b_GraphSearch_tellOwn 143 = .ok (.iand, 1) := by decide +kernel
theorem d_GraphSearch_tellOwn_144 : decode b_GraphSearch_tellOwn 144 = .ok (.iastore, 1) := by decide +kernel
theorem d_GraphSearch_tellOwn_145 : decode b_GraphSearch_tellOwn 145 = .ok (.return_, 1) := by decide +kernel
theorem d_GraphSearch_choose_0 : decode b_GraphSearch_choose 0 = .ok (.iload_n 1, 1) := by decide +kernel
theorem d_GraphSearch_choose_1 : decode b_GraphSearch_choose 1 = .ok (.bipush 14, 2) := by decide +kernel
theorem d_GraphSearch_choose_3 : decode b_GraphSearch_choose 3 = .ok (.if_icmp .le 4, 3) := by decide +kernel
theorem d_GraphSearch_choose_6 : decode b_GraphSearch_choose 6 = .ok (.return_, 1) := by decide +kernel
theorem d_GraphSearch_choose_7 : decode b_GraphSearch_choose 7 = .ok (.aload_n 0, 1) := by decide +kernel
theorem d_GraphSearch_choose_8 : decode b_GraphSearch_choose 8 = .ok (.invokevirtual 107, 3) := by decide +kernel
theorem d_GraphSearch_choose_11 : decode b_GraphSearch_choose 11 = .ok (.istore_n 2, 1) := by decide +kernel
theorem d_GraphSearch_choose_12 : decode b_GraphSearch_choose 12 = .ok (.iload_n 2, 1) := by decide +kernel
theorem d_GraphSearch_choose_13 : decode b_GraphSearch_choose 13 = .ok (.iconst (-1), 1) := by decide +kernel
theorem d_GraphSearch_choose_14 : decode b_GraphSearch_choose 14 = .ok (.if_icmp .ne 33, 3) := by decide +kernel
theorem d_GraphSearch_choose_17 : decode b_GraphSearch_choose 17 = .ok (.aload_n 0, 1) := by decide +kernel
theorem d_GraphSearch_choose_18 : decode b_GraphSearch_choose 18 = .ok (.invokevirtual 110, 3) := by decide +kernel
theorem d_GraphSearch_choose_21 : decode b_GraphSearch_choose 21 = .ok (.ifCond .eq 25, 3) := by decide +kernel
theorem d_GraphSearch_choose_24 : decode b_GraphSearch_choose 24 = .ok (.aload_n 0, 1) := by decide +kernel
theorem d_GraphSearch_choose_25 : decode b_GraphSearch_choose 25 = .ok (.invokevirtual 114, 3) := by decide +kernel
theorem d_GraphSearch_choose_28 : decode b_GraphSearch_choose 28 = .ok (.aload_n 0, 1) := by decide +kernel
theorem d_GraphSearch_choose_29 : decode b_GraphSearch_choose 29 = .ok (.aload_n 0, 1) := by decide +kernel
theorem d_GraphSearch_choose_30 : decode b_GraphSearch_choose 30 = .ok (.getfield 56, 3) := by decide +kernel
theorem d_GraphSearch_choose_33 : decode b_GraphSearch_choose 33 = .ok (.iconst 3, 1) := by decide +kernel
theorem d_GraphSearch_choose_34 : decode b_GraphSearch_choose 34 = .ok (.if_icmp .ne 7, 3) := by decide +kernel
theorem d_GraphSearch_choose_37 : decode b_GraphSearch_choose 37 = .ok (.iconst 3, 1) := by decide +kernel
theorem d_GraphSearch_choose_38 : decode b_GraphSearch_choose 38 = .ok (.goto 4, 3) := by decide +kernel
theorem d_GraphSearch_choose_41 : decode b_GraphSearch_choose 41 = .ok (.iconst 2, 1) := by decide +kernel
theorem d_GraphSearch_choose_42 : decode b_GraphSearch_choose 42 = .ok (.iconst 0, 1) := by decide +kernel
theorem d_GraphSearch_choose_43 : decode b_GraphSearch_choose 43 = .ok (.invokevirtual 117, 3) := by decide +kernel
theorem d_GraphSearch_choose_46 : decode b_GraphSearch_choose 46 = .ok (.return_, 1) := by decide +kernel
theorem d_GraphSearch_choose_47 : decode b_GraphSearch_choose 47 = .ok (.aload_n 0, 1) := by decide +kernel
theorem d_GraphSearch_choose_48 : decode b_GraphSearch_choose 48 = .ok (.getfield 52, 3) := by decide +kernel
theorem d_GraphSearch_choose_51 : decode b_GraphSearch_choose 51 = .ok (.iload_n 2, 1) := by decide +kernel
theorem d_GraphSearch_choose_52 : decode b_GraphSearch_choose 52 = .ok (.invokevirtual 121, 3) := by decide +kernel
theorem d_GraphSearch_choose_55 : decode b_GraphSearch_choose 55 = .ok (.istore_n 3, 1) := by decide +kernel
theorem d_GraphSearch_choose_56 : decode b_GraphSearch_choose 56 = .ok (.aload_n 0, 1) := by decide +kernel
theorem d_GraphSearch_choose_57 : decode b_GraphSearch_choose 57 = .ok (.getfield 15, 3) := by decide +kernel
theorem d_GraphSearch_choose_60 : decode b_GraphSearch_choose 60 = .ok (.iload_n 2, 1) := by decide +kernel
theorem d_GraphSearch_choose_61 : decode b_GraphSearch_choose 61 = .ok (.iaload, 1) := by decide +kernel
theorem d_GraphSearch_choose_62 : decode b_GraphSearch_choose 62 = .ok (.istore 4, 2) := by decide +kernel
theorem d_GraphSearch_choose_64 : decode b_GraphSearch_choose 64 = .ok (.aload_n 0, 1) := by decide +kernel
theorem d_GraphSearch_choose_65 : decode b_GraphSearch_choose 65 = .ok (.getfield 48, 3) := by decide +kernel
theorem d_GraphSearch_choose_68 : decode b_GraphSearch_choose 68 = .ok (.iload_n 3, 1) := by decide +kernel
theorem d_GraphSearch_choose_69 : decode b_GraphSearch_choose 69 = .ok (.invokevirtual 124, 3) := by decide +kernel
theorem d_GraphSearch_choose_72 : decode b_GraphSearch_choose 72 = .ok (.ifCond .ne 13, 3) := by decide +kernel
theorem d_GraphSearch_choose_75 : decode b_GraphSearch_choose 75 = .ok (.aload_n 0, 1) := by decide +kernel
theorem d_GraphSearch_choose_76 : decode b_GraphSearch_choose 76 = .ok (.iload_n 3, 1) := by decide +kernel
theorem d_GraphSearch_choose_77 : decode b_GraphSearch_choose 77 = .ok (.iconst 0, 1) := by decide +kernel
theorem d_GraphSearch_choose_78 : decode b_GraphSearch_choose 78 = .ok (.iload_n 1, 1) := by decide +kernel
theorem d_GraphSearch_choose_79 : decode b_GraphSearch_choose 79 = .ok (.invokevirtual 128, 3) := by decide +kernel
theorem d_GraphSearch_choose_82 : decode b_GraphSearch_choose 82 = .ok (.goto 41, 3) := by decide +kernel
theorem d_GraphSearch_choose_85 : decode b_GraphSearch_choose 85 = .ok (.iload 4, 2) := by decide +kernel
theorem d_GraphSearch_choose_87 : decode b_GraphSearch_choose 87 = .ok (.iconst (-1), 1) := by decide +kernel
theorem d_GraphSearch_choose_88 : decode b_GraphSearch_choose 88 = .ok (.if_icmp .ne 12, 3) := by decide +kernel
theorem d_GraphSearch_choose_91 : decode b_GraphSearch_choose 91 = .ok (.aload_n 0, 1) := by decide +kernel
theorem d_GraphSearch_choose_92 : decode b_GraphSearch_choose 92 = .ok (.iload_n 3, 1) := by decide +kernel
theorem d_GraphSearch_choose_93 : decode b_GraphSearch_choose 93 = .ok (.iload_n 1, 1) := by decide +kernel
theorem d_GraphSearch_choose_94 : decode b_GraphSearch_choose 94 = .ok (.invokevirtual 132, 3) := by decide +kernel
theorem d_GraphSearch_choose_97 : decode b_GraphSearch_choose 97 = .ok (.goto 26, 3) := by decide +kernel
theorem d_GraphSearch_choose_100 : decode b_GraphSearch_choose 100 = .ok (.aload_n 0, 1) := by decide +kernel
theorem d_GraphSearch_choose_101 : decode b_GraphSearch_choose 101 = .ok (.getfield 15, 3) := by decide +kernel
theorem d_GraphSearch_choose_104 : decode b_GraphSearch_choose 104 = .ok (.iload_n 2, 1) := by decide +kernel
theorem d_GraphSearch_choose_105 : decode b_GraphSearch_choose 105 = .ok (.iconst (-1), 1) := by decide +kernel
theorem d_GraphSearch_choose_106 : decode b_GraphSearch_choose 106 = .ok (.iastore, 1) := by decide +kernel
theorem d_GraphSearch_choose_107 : decode b_GraphSearch_choose 107 = .ok (.aload_n 0, 1) := by decide +kernel
theorem d_GraphSearch_choose_108 : decode b_GraphSearch_choose 108 = .ok (.iload_n 3, 1) := by decide +kernel
theorem d_GraphSearch_choose_109 : decode b_GraphSearch_choose 109 = .ok (.iload 4, 2) := by decide +kernel
theorem d_GraphSearch_choose_111 : decode b_GraphSearch_choose 111 = .ok (.iload_n 1, 1) := by decide +kernel
theorem d_GraphSearch_choose_112 : decode b_GraphSearch_choose 112 = .ok (.invokevirtual 128, 3) := by decide +kernel
theorem d_GraphSearch_choose_115 : decode b_GraphSearch_choose 115 = .ok (.aload_n 0, 1) := by decide +kernel
theorem d_GraphSearch_choose_116 : decode b_GraphSearch_choose 116 = .ok (.getfield 15, 3) := by decide +kernel
theorem d_GraphSearch_choose_119 : decode b_GraphSearch_choose 119 = .ok (.iload_n 2, 1) := by decide +kernel
theorem d_GraphSearch_choose_120 : decode b_GraphSearch_choose 120 = .ok (.iload 4, 2) := by decide +kernel
theorem d_GraphSearch_choose_122 : decode b_GraphSearch_choose 122 = .ok (.iastore, 1) := by decide +kernel
theorem d_GraphSearch_choose_123 : decode b_GraphSearch_choose 123 = .ok (.return_, 1) := by decide +kernel
theorem d_GraphSearch_freeThread_0 : decode b_GraphSearch_freeThread 0 = .ok (.iconst 0, 1) := by decide +kernel
theorem d_GraphSearch_freeThread_1 : decode b_GraphSearch_freeThread 1 = .ok (.istore_n 1, 1) := by decide +kernel
theorem d_GraphSearch_freeThread_2 : decode b_GraphSearch_freeThread 2 = .ok (.iload_n 1, 1) := by decide +kernel
theorem d_GraphSearch_freeThread_3 : decode b_GraphSearch_freeThread 3 = .ok (.aload_n 0, 1) := by decide +kernel
theorem d_GraphSearch_freeThread_4 : decode b_GraphSearch_freeThread 4 = .ok (.getfield 48, 3) := by decide +kernel
theorem d_GraphSearch_freeThread_7 : decode b_GraphSearch_freeThread 7 = .ok (.getfield 135, 3) := by decide +kernel
theorem d_GraphSearch_freeThread_10 : decode b_GraphSearch_freeThread 10 = .ok (.if_icmp .ge 31, 3) := by decide +kernel
theorem d_GraphSearch_freeThread_13 : decode b_GraphSearch_freeThread 13 = .ok (.aload_n 0, 1) := by decide +kernel
theorem d_GraphSearch_freeThread_14 : decode b_GraphSearch_freeThread 14 = .ok (.getfield 52, 3) := by decide +kernel
theorem d_GraphSearch_freeThread_17 : decode b_GraphSearch_freeThread 17 = .ok (.iload_n 1, 1) := by decide +kernel
theorem d_GraphSearch_freeThread_18 : decode b_GraphSearch_freeThread 18 = .ok (.invokevirtual 121, 3) := by decide +kernel
theorem d_GraphSearch_freeThread_21 : decode b_GraphSearch_freeThread 21 = .ok (.iconst (-1), 1) := by decide +kernel
theorem d_GraphSearch_freeThread_22 : decode b_GraphSearch_freeThread 22 = .ok (.if_icmp .eq 13, 3) := by decide +kernel
theorem d_GraphSearch_freeThread_25 : decode b_GraphSearch_freeThread 25 = .ok (.aload_n 0, 1) := by decide +kernel
theorem d_GraphSearch_freeThread_26 : decode b_GraphSearch_freeThread 26 = .ok (.iload_n 1, 1) := by decide +kernel
theorem d_GraphSearch_freeThread_27 : decode b_GraphSearch_freeThread 27 = .ok (.invokevirtual 138, 3) := by decide +kernel
theorem d_GraphSearch_freeThread_30 : decode b_GraphSearch_freeThread 30 = .ok (.ifCond .ne 5, 3) := by decide +kernel
theorem d_GraphSearch_freeThread_33 : decode b_GraphSearch_freeThread 33 = .ok (.iload_n 1, 1) := by decide +kernel
theorem d_GraphSearch_freeThread_34 : decode b_GraphSearch_freeThread 34 = .ok (.ireturn, 1) := by decide +kernel
theorem d_GraphSearch_freeThread_35 : decode b_GraphSearch_freeThread 35 = .ok (.iinc 1 1, 3) := by decide +kernel
theorem d_GraphSearch_freeThread_38 : decode b_GraphSearch_freeThread 38 = .ok (.goto (-36), 3) := by decide +kernel
theorem d_GraphSearch_freeThread_41 : decode b_GraphSearch_freeThread 41 = .ok (.iconst (-1), 1) := by decide +kernel
theorem d_GraphSearch_freeThread_42 : decode b_GraphSearch_freeThread 42 = .ok (.ireturn, 1) := by decide +kernel
theorem d_GraphSearch_isBlocked_0 : decode b_GraphSearch_isBlocked 0 = .ok (.aload_n 0, 1) := by decide +kernel
theorem d_GraphSearch_isBlocked_1 : decode b_GraphSearch_isBlocked 1 = .ok (.getfield 15, 3) := by decide +kernel
theorem d_GraphSearch_isBlocked_4 : decode b_GraphSearch_isBlocked 4 = .ok (.iload_n 1, 1) := by decide +kernel
theorem d_GraphSearch_isBlocked_5 : decode b_GraphSearch_isBlocked 5 = .ok (.iaload, 1) := by decide +kernel
theorem d_GraphSearch_isBlocked_6 : decode b_GraphSearch_isBlocked 6 = .ok (.iconst (-1), 1) := by decide +kernel
theorem d_GraphSearch_isBlocked_7 : decode b_GraphSearch_isBlocked 7 = .ok (.if_icmp .eq 23, 3) := by decide +kernel
theorem d_GraphSearch_isBlocked_10 : decode b_GraphSearch_isBlocked 10 = .ok (.aload_n 0, 1) := by decide +kernel
theorem d_GraphSearch_isBlocked_11 : decode b_GraphSearch_isBlocked 11 = .ok (.getfield 52, 3) := by decide +kernel
theorem d_GraphSearch_isBlocked_14 : decode b_GraphSearch_isBlocked 14 = .ok (.aload_n 0, 1) := by decide +kernel
theorem d_GraphSearch_isBlocked_15 : decode b_GraphSearch_isBlocked 15 = .ok (.getfield 15, 3) := by decide +kernel
theorem d_GraphSearch_isBlocked_18 : decode b_GraphSearch_isBlocked 18 = .ok (.iload_n 1, 1) := by decide +kernel
theorem d_GraphSearch_isBlocked_19 : decode b_GraphSearch_isBlocked 19 = .ok (.iaload, 1) := by decide +kernel
theorem d_GraphSearch_isBlocked_20 : decode b_GraphSearch_isBlocked 20 = .ok (.invokevirtual 141, 3) := by decide +kernel
theorem d_GraphSearch_isBlocked_23 : decode b_GraphSearch_isBlocked 23 = .ok (.ifCond .ne 7, 3) := by decide +kernel
theorem d_GraphSearch_isBlocked_26 : decode b_GraphSearch_isBlocked 26 = .ok (.iconst 1, 1) := by decide +kernel
theorem d_GraphSearch_isBlocked_27 : decode b_GraphSearch_isBlocked 27 = .ok (.goto 4, 3) := by decide +kernel
theorem d_GraphSearch_isBlocked_30 : decode b_GraphSearch_isBlocked 30 = .ok (.iconst 0, 1) := by decide +kernel
theorem d_GraphSearch_isBlocked_31 : decode b_GraphSearch_isBlocked 31 = .ok (.ireturn, 1) := by decide +kernel
theorem d_GraphSearch_allEnded_0 : decode b_GraphSearch_allEnded 0 = .ok (.iconst 0, 1) := by decide +kernel
theorem d_GraphSearch_allEnded_1 : decode b_GraphSearch_allEnded 1 = .ok (.istore_n 1, 1) := by decide +kernel
theorem d_GraphSearch_allEnded_2 : decode b_GraphSearch_allEnded 2 = .ok (.iload_n 1, 1) := by decide +kernel
theorem d_GraphSearch_allEnded_3 : decode b_GraphSearch_allEnded 3 = .ok (.aload_n 0, 1) := by decide +kernel
theorem d_GraphSearch_allEnded_4 : decode b_GraphSearch_allEnded 4 = .ok (.getfield 48, 3) := by decide +kernel
theorem d_GraphSearch_allEnded_7 : decode b_GraphSearch_allEnded 7 = .ok (.getfield 135, 3) := by decide +kernel
theorem d_GraphSearch_allEnded_10 : decode b_GraphSearch_allEnded 10 = .ok (.if_icmp .ge 23, 3) := by decide +kernel
theorem d_GraphSearch_allEnded_13 : decode b_GraphSearch_allEnded 13 = .ok (.aload_n 0, 1) := by decide +kernel
theorem d_GraphSearch_allEnded_14 : decode b_GraphSearch_allEnded 14 = .ok (.getfield 52, 3) := by decide +kernel
theorem d_GraphSearch_allEnded_17 : decode b_GraphSearch_allEnded 17 = .ok (.iload_n 1, 1) := by decide +kernel
theorem d_GraphSearch_allEnded_18 : decode b_GraphSearch_allEnded 18 = .ok (.invokevirtual 121, 3) := by decide +kernel
theorem d_GraphSearch_allEnded_21 : decode b_GraphSearch_allEnded 21 = .ok (.iconst (-1), 1) := by decide +kernel
theorem d_GraphSearch_allEnded_22 : decode b_GraphSearch_allEnded 22 = .ok (.if_icmp .eq 5, 3) := by decide +kernel
theorem d_GraphSearch_allEnded_25 : decode b_GraphSearch_allEnded 25 = .ok (.iconst 0, 1) := by decide +kernel
theorem d_GraphSearch_allEnded_26 : decode b_GraphSearch_allEnded 26 = .ok (.ireturn, 1) := by decide +kernel
theorem d_GraphSearch_allEnded_27 : decode b_GraphSearch_allEnded 27 = .ok (.iinc 1 1, 3) := by decide +kernel
theorem d_GraphSearch_allEnded_30 : decode b_GraphSearch_allEnded 30 = .ok (.goto (-28), 3) := by decide +kernel
theorem d_GraphSearch_allEnded_33 : decode b_GraphSearch_allEnded 33 = .ok (.iconst 1, 1) := by decide +kernel
theorem d_GraphSearch_allEnded_34 : decode b_GraphSearch_allEnded 34 = .ok (.ireturn, 1) := by decide +kernel
theorem d_GraphSearch_take_0 : decode b_GraphSearch_take 0 = .ok (.aload_n 0, 1) := by decide +kernel
theorem d_GraphSearch_take_1 : decode b_GraphSearch_take 1 = .ok (.getfield 52, 3) := by decide +kernel
theorem d_GraphSearch_take_4 : decode b_GraphSearch_take 4 = .ok (.iload_n 1, 1) := by decide +kernel
theorem d_GraphSearch_take_5 : decode b_GraphSearch_take 5 = .ok (.invokevirtual 144, 3) := by decide +kernel
theorem d_GraphSearch_take_8 : decode b_GraphSearch_take 8 = .ok (.istore 4, 2) := by decide +kernel
theorem d_GraphSearch_take_10 : decode b_GraphSearch_take 10 = .ok (.aload_n 0, 1) := by decide +kernel
theorem d_GraphSearch_take_11 : decode b_GraphSearch_take 11 = .ok (.getfield 52, 3) := by decide +kernel
theorem d_GraphSearch_take_14 : decode b_GraphSearch_take 14 = .ok (.iload_n 1, 1) := by decide +kernel
theorem d_GraphSearch_take_15 : decode b_GraphSearch_take 15 = .ok (.iload_n 2, 1) := by decide +kernel
theorem d_GraphSearch_take_16 : decode b_GraphSearch_take 16 = .ok (.invokevirtual 147, 3) := by decide +kernel
theorem d_GraphSearch_take_19 : decode b_GraphSearch_take 19 = .ok (.aload_n 0, 1) := by decide +kernel
theorem d_GraphSearch_take_20 : decode b_GraphSearch_take 20 = .ok (.iload_n 3, 1) := by decide +kernel
theorem d_GraphSearch_take_21 : decode b_GraphSearch_take 21 = .ok (.iconst 1, 1) := by decide +kernel
theorem d_GraphSearch_take_22 : decode b_GraphSearch_take 22 = .ok (.iadd, 1) := by decide +kernel
theorem d_GraphSearch_take_23 : decode b_GraphSearch_take 23 = .ok (.invokevirtual 87, 3) := by decide +kernel
theorem d_GraphSearch_take_26 : decode b_GraphSearch_take 26 = .ok (.aload_n 0, 1) := by decide +kernel
theorem d_GraphSearch_take_27 : decode b_GraphSearch_take 27 = .ok (.getfield 52, 3) := by decide +kernel
theorem d_GraphSearch_take_30 : decode b_GraphSearch_take 30 = .ok (.iload_n 1, 1) := by decide +kernel
theorem d_GraphSearch_take_31 : decode b_GraphSearch_take 31 = .ok (.iload 4, 2) := by decide +kernel
theorem d_GraphSearch_take_33 : decode b_GraphSearch_take 33 = .ok (.invokevirtual 150, 3) := by decide +kernel
theorem d_GraphSearch_take_36 : decode b_GraphSearch_take 36 = .ok (.return_, 1) := by decide +kernel
theorem d_GraphSearch_chooseSource_0 : decode b_GraphSearch_chooseSource 0 = .ok (.aload_n 0, 1) := by decide +kernel
theorem d_GraphSearch_chooseSource_1 : decode b_GraphSearch_chooseSource 1 = .ok (.getfield 48, 3) := by decide +kernel
theorem d_GraphSearch_chooseSource_4 : decode b_GraphSearch_chooseSource 4 = .ok (.getfield 100, 3) := by decide +kernel
theorem d_GraphSearch_chooseSource_7 : decode b_GraphSearch_chooseSource 7 = .ok (.iload_n 1, 1) := by decide +kernel
theorem d_GraphSearch_chooseSource_8 : decode b_GraphSearch_chooseSource 8 = .ok (.iaload, 1) := by decide +kernel
theorem d_GraphSearch_chooseSource_9 : decode b_GraphSearch_chooseSource 9 = .ok (.istore_n 3, 1) := by decide +kernel
theorem d_GraphSearch_chooseSource_10 : decode b_GraphSearch_chooseSource 10 = .ok (.aload_n 0, 1) := by decide +kernel
theorem d_GraphSearch_chooseSource_11 : decode b_GraphSearch_chooseSource 11 = .ok (.getfield 48, 3) := by decide +kernel
theorem d_GraphSearch_chooseSource_14 : decode b_GraphSearch_chooseSource 14 = .ok (.getfield 153, 3) := by decide +kernel
theorem d_GraphSearch_chooseSource_17 : decode b_GraphSearch_chooseSource 17 = .ok (.iload_n 1, 1) := by decide +kernel
theorem d_GraphSearch_chooseSource_18 : decode b_GraphSearch_chooseSource 18 = .ok (.iaload, 1) := by decide +kernel
theorem d_GraphSearch_chooseSource_19 : decode b_GraphSearch_chooseSource 19 = .ok (.istore 4, 2) := by decide +kernel
theorem d_GraphSearch_chooseSource_21 : decode b_GraphSearch_chooseSource 21 = .ok (.aload_n 0, 1) := by decide +kernel
theorem d_GraphSearch_chooseSource_22 : decode b_GraphSearch_chooseSource 22 = .ok (.getfield 18, 3) := by decide +kernel
theorem d_GraphSearch_chooseSource_25 : decode b_GraphSearch_chooseSource 25 = .ok (.iload_n 3, 1) := by decide +kernel
theorem d_GraphSearch_chooseSource_26 : decode b_GraphSearch_chooseSource 26 = .ok (.iaload, 1) := by decide +kernel
theorem d_GraphSearch_chooseSource_27 : decode b_GraphSearch_chooseSource 27 = .ok (.istore 5, 2) := by decide +kernel
theorem d_GraphSearch_chooseSource_29 : decode b_GraphSearch_chooseSource 29 = .ok (.iconst 0, 1) := by decide +kernel
theorem d_GraphSearch_chooseSource_30 : decode b_GraphSearch_chooseSource 30 = .ok (.istore 6, 2) := by decide +kernel
theorem d_GraphSearch_chooseSource_32 : decode b_GraphSearch_chooseSource 32 = .ok (.iload 6, 2) := by decide +kernel
theorem d_GraphSearch_chooseSource_34 : decode b_GraphSearch_chooseSource 34 = .ok (.aload_n 0, 1) := by decide +kernel
theorem d_GraphSearch_chooseSource_35 : decode b_GraphSearch_chooseSource 35 = .ok (.getfield 48, 3) := by decide +kernel
theorem d_GraphSearch_chooseSource_38 : decode b_GraphSearch_chooseSource 38 = .ok (.getfield 78, 3) := by decide +kernel
theorem d_GraphSearch_chooseSource_41 : decode b_GraphSearch_chooseSource 41 = .ok (.if_icmp .gt 133, 3) := by decide +kernel
theorem d_GraphSearch_chooseSource_44 : decode b_GraphSearch_chooseSource 44 = .ok (.aload_n 0, 1) := by decide +kernel
theorem d_GraphSearch_chooseSource_45 : decode b_GraphSearch_chooseSource 45 = .ok (.iload_n 1, 1) := by decide +kernel
theorem d_GraphSearch_chooseSource_46 : decode b_GraphSearch_chooseSource 46 = .ok (.iload 6, 2) := by decide +kernel
theorem d_GraphSearch_chooseSource_48 : decode b_GraphSearch_chooseSource 48 = .ok (.invokevirtual 156, 3) := by decide +kernel
theorem d_GraphSearch_chooseSource_51 : decode b_GraphSearch_chooseSource 51 = .ok (.ifCond .eq 117, 3) := by decide +kernel
theorem d_GraphSearch_chooseSource_54 : decode b_GraphSearch_chooseSource 54 = .ok (.aload_n 0, 1) := by decide +kernel
theorem d_GraphSearch_chooseSource_55 : decode b_GraphSearch_chooseSource 55 = .ok (.iload 6, 2) := by decide +kernel
theorem d_GraphSearch_chooseSource_57 : decode b_GraphSearch_chooseSource 57 = .ok (.iload 4, 2) := by decide +kernel
theorem d_GraphSearch_chooseSource_59 : decode b_GraphSearch_chooseSource 59 = .ok (.invokevirtual 160, 3) := by decide +kernel
theorem d_GraphSearch_chooseSource_62 : decode b_GraphSearch_chooseSource 62 = .ok (.ifCond .ne 6, 3) := by decide +kernel
theorem d_GraphSearch_chooseSource_65 : decode b_GraphSearch_chooseSource 65 = .ok (.goto 103, 3) := by decide +kernel
theorem d_GraphSearch_chooseSource_68 : decode b_GraphSearch_chooseSource 68 = .ok (.aload_n 0, 1) := by decide +kernel
theorem d_GraphSearch_chooseSource_69 : decode b_GraphSearch_chooseSource 69 = .ok (.getfield 9, 3) := by decide +kernel
theorem d_GraphSearch_chooseSource_72 : decode b_GraphSearch_chooseSource 72 = .ok (.iload_n 1, 1) := by decide +kernel
theorem d_GraphSearch_chooseSource_73 : decode b_GraphSearch_chooseSource 73 = .ok (.iload 6, 2) := by decide +kernel
theorem d_GraphSearch_chooseSource_75 : decode b_GraphSearch_chooseSource 75 = .ok (.iastore, 1) := by decide +kernel
theorem d_GraphSearch_chooseSource_76 : decode b_GraphSearch_chooseSource 76 = .ok (.aload_n 0, 1) := by decide +kernel
theorem d_GraphSearch_chooseSource_77 : decode b_GraphSearch_chooseSource 77 = .ok (.getfield 18, 3) := by decide +kernel
theorem d_GraphSearch_chooseSource_80 : decode b_GraphSearch_chooseSource 80 = .ok (.iload_n 3, 1) := by decide +kernel
theorem d_GraphSearch_chooseSource_81 : decode b_GraphSearch_chooseSource 81 = .ok (.dup2, 1) := by decide +kernel
theorem d_GraphSearch_chooseSource_82 : decode b_GraphSearch_chooseSource 82 = .ok (.iaload, 1) := by decide +kernel
theorem d_GraphSearch_chooseSource_83 : decode b_GraphSearch_chooseSource 83 = .ok (.aload_n 0, 1) := by decide +kernel
theorem d_GraphSearch_chooseSource_84 : decode b_GraphSearch_chooseSource 84 = .ok (.getfield 48, 3) := by decide +kernel
theorem d_GraphSearch_chooseSource_87 : decode b_GraphSearch_chooseSource 87 = .ok (.getfield 90, 3) := by decide +kernel
theorem d_GraphSearch_chooseSource_90 : decode b_GraphSearch_chooseSource 90 = .ok (.iload_n 1, 1) := by decide +kernel
theorem d_GraphSearch_chooseSource_91 : decode b_GraphSearch_chooseSource 91 = .ok (.iaload, 1) := by decide +kernel
theorem d_GraphSearch_chooseSource_92 : decode b_GraphSearch_chooseSource 92 = .ok (.iconst 3, 1) := by decide +kernel
theorem d_GraphSearch_chooseSource_93 : decode b_GraphSearch_chooseSource 93 = .ok (.if_icmp .ne 10, 3) := by decide +kernel
theorem d_GraphSearch_chooseSource_96 : decode b_GraphSearch_chooseSource 96 = .ok (.iconst 1, 1) := by decide +kernel
theorem d_GraphSearch_chooseSource_97 : decode b_GraphSearch_chooseSource 97 = .ok (.iload 6, 2) := by decide +kernel
theorem d_GraphSearch_chooseSource_99 : decode b_GraphSearch_chooseSource 99 = .ok (.ishl, 1) := by decide +kernel
theorem d_GraphSearch_chooseSource_100 : decode b_GraphSearch_chooseSource 100 = .ok (.goto 4, 3) := by decide +kernel
theorem d_GraphSearch_chooseSource_103 : decode b_GraphSearch_chooseSource 103 = .ok (.iconst 0, 1) := by decide +kernel
theorem d_GraphSearch_chooseSource_104 : decode b_GraphSearch_chooseSource 104 = .ok (.ior, 1) := by decide +kernel
theorem d_GraphSearch_chooseSource_105 : decode b_GraphSearch_chooseSource 105 = .ok (.iastore, 1) := by decide +kernel
theorem d_GraphSearch_chooseSource_106 : decode b_GraphSearch_chooseSource 106 = .ok (.aload_n 0, 1) := by decide +kernel
theorem d_GraphSearch_chooseSource_107 : decode b_GraphSearch_chooseSource 107 = .ok (.getfield 52, 3) := by decide +kernel
theorem d_GraphSearch_chooseSource_110 : decode b_GraphSearch_chooseSource 110 = .ok (.iload 6, 2) := by decide +kernel
theorem d_GraphSearch_chooseSource_112 : decode b_GraphSearch_chooseSource 112 = .ok (.invokevirtual 141, 3) := by decide +kernel
theorem d_GraphSearch_chooseSource_115 : decode b_GraphSearch_chooseSource 115 = .ok (.ifCond .eq 14, 3) := by decide +kernel
theorem d_GraphSearch_chooseSource_118 : decode b_GraphSearch_chooseSource 118 = .ok (.aload_n 0, 1) := by decide +kernel
theorem d_GraphSearch_chooseSource_119 : decode b_GraphSearch_chooseSource 119 = .ok (.iload_n 1, 1) := by decide +kernel
theorem d_GraphSearch_chooseSource_120 : decode b_GraphSearch_chooseSource 120 = .ok (.iload 6, 2) := by decide +kernel
theorem d_GraphSearch_chooseSource_122 : decode b_GraphSearch_chooseSource 122 = .ok (.iload_n 2, 1) := by decide +kernel
theorem d_GraphSearch_chooseSource_123 : decode b_GraphSearch_chooseSource 123 = .ok (.invokevirtual 128, 3) := by decide +kernel
theorem d_GraphSearch_chooseSource_126 : decode b_GraphSearch_chooseSource 126 = .ok (.goto 27, 3) := by decide +kernel
theorem d_GraphSearch_chooseSource_129 : decode b_GraphSearch_chooseSource 129 = .ok (.aload_n 0, 1) := by decide +kernel
theorem d_GraphSearch_chooseSource_130 : decode b_GraphSearch_chooseSource 130 = .ok (.getfield 15, 3) := by decide +kernel
theorem d_GraphSearch_chooseSource_133 : decode b_GraphSearch_chooseSource 133 = .ok (.iload 4, 2) := by decide +kernel
theorem d_GraphSearch_chooseSource_135 : decode b_GraphSearch_chooseSource 135 = .ok (.iload 6, 2) := by decide +kernel
theorem d_GraphSearch_chooseSource_137 : decode b_GraphSearch_chooseSource 137 = .ok (.iastore, 1) := by decide +kernel
theorem d_GraphSearch_chooseSource_138 : decode b_GraphSearch_chooseSource 138 = .ok (.aload_n 0, 1) := by decide +kernel
theorem d_GraphSearch_chooseSource_139 : decode b_GraphSearch_chooseSource 139 = .ok (.iload_n 2, 1) := by decide +kernel
theorem d_GraphSearch_chooseSource_140 : decode b_GraphSearch_chooseSource 140 = .ok (.iconst 1, 1) := by decide +kernel
theorem d_GraphSearch_chooseSource_141 : decode b_GraphSearch_chooseSource 141 = .ok (.iadd, 1) := by decide +kernel
theorem d_GraphSearch_chooseSource_142 : decode b_GraphSearch_chooseSource 142 = .ok (.invokevirtual 87, 3) := by decide +kernel
theorem d_GraphSearch_chooseSource_145 : decode b_GraphSearch_chooseSource 145 = .ok (.aload_n 0, 1) := by decide +kernel
theorem d_GraphSearch_chooseSource_146 : decode b_GraphSearch_chooseSource 146 = .ok (.getfield 15, 3) := by decide +kernel
theorem d_GraphSearch_chooseSource_149 : decode b_GraphSearch_chooseSource 149 = .ok (.iload 4, 2) := by decide +kernel
theorem d_GraphSearch_chooseSource_151 : decode b_GraphSearch_chooseSource 151 = .ok (.iconst (-1), 1) := by decide +kernel
theorem d_GraphSearch_chooseSource_152 : decode b_GraphSearch_chooseSource 152 = .ok (.iastore, 1) := by decide +kernel
theorem d_GraphSearch_chooseSource_153 : decode b_GraphSearch_chooseSource 153 = .ok (.aload_n 0, 1) := by decide +kernel
theorem d_GraphSearch_chooseSource_154 : decode b_GraphSearch_chooseSource 154 = .ok (.getfield 18, 3) := by decide +kernel
theorem d_GraphSearch_chooseSource_157 : decode b_GraphSearch_chooseSource 157 = .ok (.iload_n 3, 1) := by decide +kernel
theorem d_GraphSearch_chooseSource_158 : decode b_GraphSearch_chooseSource 158 = .ok (.iload 5, 2) := by decide +kernel
theorem d_GraphSearch_chooseSource_160 : decode b_GraphSearch_chooseSource 160 = .ok (.iastore, 1) := by decide +kernel
theorem d_GraphSearch_chooseSource_161 : decode b_GraphSearch_chooseSource 161 = .ok (.aload_n 0, 1) := by decide +kernel
theorem d_GraphSearch_chooseSource_162 : decode b_GraphSearch_chooseSource 162 = .ok (.getfield 9, 3) := by decide +kernel
theorem d_GraphSearch_chooseSource_165 : decode b_GraphSearch_chooseSource 165 = .ok (.iload_n 1, 1) := by decide +kernel
theorem d_GraphSearch_chooseSource_166 : decode b_GraphSearch_chooseSource 166 = .ok (.iconst (-1), 1) := by decide +kernel
theorem d_GraphSearch_chooseSource_167 : decode b_GraphSearch_chooseSource 167 = .ok (.iastore, 1) := by decide +kernel
theorem d_GraphSearch_chooseSource_168 : decode b_GraphSearch_chooseSource 168 = .ok (.iinc 6 1, 3) := by decide +kernel
theorem d_GraphSearch_chooseSource_171 : decode b_GraphSearch_chooseSource 171 = .ok (.goto (-139), 3) := by decide +kernel
theorem d_GraphSearch_chooseSource_174 : decode b_GraphSearch_chooseSource 174 = .ok (.return_, 1) := by decide +kernel
theorem d_GraphSearch_mayBeFrom_0 : decode b_GraphSearch_mayBeFrom 0 = .ok (.aload_n 0, 1) := by decide +kernel
theorem d_GraphSearch_mayBeFrom_1 : decode b_GraphSearch_mayBeFrom 1 = .ok (.getfield 48, 3) := by decide +kernel
theorem d_GraphSearch_mayBeFrom_4 : decode b_GraphSearch_mayBeFrom 4 = .ok (.getfield 100, 3) := by decide +kernel
theorem d_GraphSearch_mayBeFrom_7 : decode b_GraphSearch_mayBeFrom 7 = .ok (.iload_n 1, 1) := by decide +kernel
theorem d_GraphSearch_mayBeFrom_8 : decode b_GraphSearch_mayBeFrom 8 = .ok (.iaload, 1) := by decide +kernel
theorem d_GraphSearch_mayBeFrom_9 : decode b_GraphSearch_mayBeFrom 9 = .ok (.istore_n 3, 1) := by decide +kernel
theorem d_GraphSearch_mayBeFrom_10 : decode b_GraphSearch_mayBeFrom 10 = .ok (.iload_n 2, 1) := by decide +kernel
theorem d_GraphSearch_mayBeFrom_11 : decode b_GraphSearch_mayBeFrom 11 = .ok (.ifCond .le 29, 3) := by decide +kernel
theorem d_GraphSearch_mayBeFrom_14 : decode b_GraphSearch_mayBeFrom 14 = .ok (.iload_n 2, 1) := by decide +kernel
theorem d_GraphSearch_mayBeFrom_15 : decode b_GraphSearch_mayBeFrom 15 = .ok (.iconst 1, 1) := by decide +kernel
theorem d_GraphSearch_mayBeFrom_16 : decode b_GraphSearch_mayBeFrom 16 = .ok (.isub, 1) := by decide +kernel
theorem d_GraphSearch_mayBeFrom_17 : decode b_GraphSearch_mayBeFrom 17 = .ok (.iload_n 1, 1) := by decide +kernel
theorem d_GraphSearch_mayBeFrom_18 : decode b_GraphSearch_mayBeFrom 18 = .ok (.if_icmp .eq 20, 3) := by decide +kernel
theorem d_GraphSearch_mayBeFrom_21 : decode b_GraphSearch_mayBeFrom 21 = .ok (.aload_n 0, 1) := by decide +kernel
theorem d_GraphSearch_mayBeFrom_22 : decode b_GraphSearch_mayBeFrom 22 = .ok (.getfield 48, 3) := by decide +kernel
theorem d_GraphSearch_mayBeFrom_25 : decode b_GraphSearch_mayBeFrom 25 = .ok (.iload_n 3, 1) := by decide +kernel
theorem d_GraphSearch_mayBeFrom_26 : decode b_GraphSearch_mayBeFrom 26 = .ok (.invokevirtual 163, 3) := by decide +kernel
theorem d_GraphSearch_mayBeFrom_29 : decode b_GraphSearch_mayBeFrom 29 = .ok (.iload_n 2, 1) := by decide +kernel
theorem d_GraphSearch_mayBeFrom_30 : decode b_GraphSearch_mayBeFrom 30 = .ok (.iconst 1, 1) := by decide +kernel
theorem d_GraphSearch_mayBeFrom_31 : decode b_GraphSearch_mayBeFrom 31 = .ok (.isub, 1) := by decide +kernel
theorem d_GraphSearch_mayBeFrom_32 : decode b_GraphSearch_mayBeFrom 32 = .ok (.invokestatic 166, 3) := by decide +kernel
theorem d_GraphSearch_mayBeFrom_35 : decode b_GraphSearch_mayBeFrom 35 = .ok (.ifCond .ne 5, 3) := by decide +kernel
theorem d_GraphSearch_mayBeFrom_38 : decode b_GraphSearch_mayBeFrom 38 = .ok (.iconst 0, 1) := by decide +kernel
theorem d_GraphSearch_mayBeFrom_39 : decode b_GraphSearch_mayBeFrom 39 = .ok (.ireturn, 1) := by decide +kernel
theorem d_GraphSearch_mayBeFrom_40 : decode b_GraphSearch_mayBeFrom 40 = .ok (.aload_n 0, 1) := by decide +kernel
theorem d_GraphSearch_mayBeFrom_41 : decode b_GraphSearch_mayBeFrom 41 = .ok (.getfield 48, 3) := by decide +kernel
theorem d_GraphSearch_mayBeFrom_44 : decode b_GraphSearch_mayBeFrom 44 = .ok (.getfield 90, 3) := by decide +kernel
theorem d_GraphSearch_mayBeFrom_47 : decode b_GraphSearch_mayBeFrom 47 = .ok (.iload_n 1, 1) := by decide +kernel
theorem d_GraphSearch_mayBeFrom_48 : decode b_GraphSearch_mayBeFrom 48 = .ok (.iaload, 1) := by decide +kernel
theorem d_GraphSearch_mayBeFrom_49 : decode b_GraphSearch_mayBeFrom 49 = .ok (.iconst 3, 1) := by decide +kernel
theorem d_GraphSearch_mayBeFrom_50 : decode b_GraphSearch_mayBeFrom 50 = .ok (.if_icmp .ne 18, 3) := by decide +kernel
theorem d_GraphSearch_mayBeFrom_53 : decode b_GraphSearch_mayBeFrom 53 = .ok (.aload_n 0, 1) := by decide +kernel
theorem d_GraphSearch_mayBeFrom_54 : decode b_GraphSearch_mayBeFrom 54 = .ok (.getfield 18, 3) := by decide +kernel
theorem d_GraphSearch_mayBeFrom_57 : decode b_GraphSearch_mayBeFrom 57 = .ok (.iload_n 3, 1) := by decide +kernel
theorem d_GraphSearch_mayBeFrom_58 : decode b_GraphSearch_mayBeFrom 58 = .ok (.iaload, 1) := by decide +kernel
theorem d_GraphSearch_mayBeFrom_59 : decode b_GraphSearch_mayBeFrom 59 = .ok (.iload_n 2, 1) := by decide +kernel
theorem d_GraphSearch_mayBeFrom_60 : decode b_GraphSearch_mayBeFrom 60 = .ok (.invokestatic 166, 3) := by decide +kernel
theorem d_GraphSearch_mayBeFrom_63 : decode b_GraphSearch_mayBeFrom 63 = .ok (.ifCond .eq 5, 3) := by decide +kernel
theorem d_GraphSearch_mayBeFrom_66 : decode b_GraphSearch_mayBeFrom 66 = .ok (.iconst 0, 1) := by decide +kernel
theorem d_GraphSearch_mayBeFrom_67 : decode b_GraphSearch_mayBeFrom 67 = .ok (.ireturn, 1) := by decide +kernel
theorem d_GraphSearch_mayBeFrom_68 : decode b_GraphSearch_mayBeFrom 68 = .ok (.aload_n 0, 1) := by decide +kernel
theorem d_GraphSearch_mayBeFrom_69 : decode b_GraphSearch_mayBeFrom 69 = .ok (.iload_n 1, 1) := by decide +kernel
theorem d_GraphSearch_mayBeFrom_70 : decode b_GraphSearch_mayBeFrom 70 = .ok (.iload_n 2, 1) := by decide +kernel
theorem d_GraphSearch_mayBeFrom_71 : decode b_GraphSearch_mayBeFrom 71 = .ok (.invokevirtual 169, 3) := by decide +kernel
theorem d_GraphSearch_mayBeFrom_74 : decode b_GraphSearch_mayBeFrom 74 = .ok (.ifCond .ne 7, 3) := by decide +kernel
theorem d_GraphSearch_mayBeFrom_77 : decode b_GraphSearch_mayBeFrom 77 = .ok (.iconst 1, 1) := by decide +kernel
theorem d_GraphSearch_mayBeFrom_78 : decode b_GraphSearch_mayBeFrom 78 = .ok (.goto 4, 3) := by decide +kernel
theorem d_GraphSearch_mayBeFrom_81 : decode b_GraphSearch_mayBeFrom 81 = .ok (.iconst 0, 1) := by decide +kernel
theorem d_GraphSearch_mayBeFrom_82 : decode b_GraphSearch_mayBeFrom 82 = .ok (.ireturn, 1) := by decide +kernel
theorem d_GraphSearch_isPast_0 : decode b_GraphSearch_isPast 0 = .ok (.aload_n 0, 1) := by decide +kernel
theorem d_GraphSearch_isPast_1 : decode b_GraphSearch_isPast 1 = .ok (.getfield 24, 3) := by decide +kernel
theorem d_GraphSearch_isPast_4 : decode b_GraphSearch_isPast 4 = .ok (.iload_n 1, 1) := by decide +kernel
theorem d_GraphSearch_isPast_5 : decode b_GraphSearch_isPast 5 = .ok (.iaload, 1) := by decide +kernel
theorem d_GraphSearch_isPast_6 : decode b_GraphSearch_isPast 6 = .ok (.aload_n 0, 1) := by decide +kernel
theorem d_GraphSearch_isPast_7 : decode b_GraphSearch_isPast 7 = .ok (.getfield 52, 3) := by decide +kernel
theorem d_GraphSearch_isPast_10 : decode b_GraphSearch_isPast 10 = .ok (.getfield 172, 3) := by decide +kernel
theorem d_GraphSearch_isPast_13 : decode b_GraphSearch_isPast 13 = .ok (.iand, 1) := by decide +kernel
theorem d_GraphSearch_isPast_14 : decode b_GraphSearch_isPast 14 = .ok (.istore_n 3, 1) := by decide +kernel
theorem d_GraphSearch_isPast_15 : decode b_GraphSearch_isPast 15 = .ok (.iconst 0, 1) := by decide +kernel
theorem d_GraphSearch_isPast_16 : decode b_GraphSearch_isPast 16 = .ok (.istore 4, 2) := by decide +kernel
theorem d_GraphSearch_isPast_18 : decode b_GraphSearch_isPast 18 = .ok (.iload 4, 2) := by decide +kernel
theorem d_GraphSearch_isPast_20 : decode b_GraphSearch_isPast 20 = .ok (.iload_n 1, 1) := by decide +kernel
theorem d_GraphSearch_isPast_21 : decode b_GraphSearch_isPast 21 = .ok (.if_icmp .ge 70, 3) := by decide +kernel
theorem d_GraphSearch_isPast_24 : decode b_GraphSearch_isPast 24 = .ok (.iload_n 3, 1) := by decide +kernel
theorem d_GraphSearch_isPast_25 : decode b_GraphSearch_isPast 25 = .ok (.iload 4, 2) := by decide +kernel
theorem d_GraphSearch_isPast_27 : decode b_GraphSearch_isPast 27 = .ok (.invokestatic 166, 3) := by decide +kernel
theorem d_GraphSearch_isPast_30 : decode b_GraphSearch_isPast 30 = .ok (.ifCond .eq 55, 3) := by decide +kernel
theorem d_GraphSearch_isPast_33 : decode b_GraphSearch_isPast 33 = .ok (.aload_n 0, 1) := by decide +kernel
theorem d_GraphSearch_isPast_34 : decode b_GraphSearch_isPast 34 = .ok (.getfield 48, 3) := by decide +kernel
theorem d_GraphSearch_isPast_37 : decode b_GraphSearch_isPast 37 = .ok (.getfield 90, 3) := by decide +kernel
theorem d_GraphSearch_isPast_40 : decode b_GraphSearch_isPast 40 = .ok (.iload 4, 2) := by decide +kernel
theorem d_GraphSearch_isPast_42 : decode b_GraphSearch_isPast 42 = .ok (.iaload, 1) := by decide +kernel
theorem d_GraphSearch_isPast_43 : decode b_GraphSearch_isPast 43 = .ok (.ifCond .ne 13, 3) := by decide +kernel
theorem d_GraphSearch_isPast_46 : decode b_GraphSearch_isPast 46 = .ok (.aload_n 0, 1) := by decide +kernel
theorem d_GraphSearch_isPast_47 : decode b_GraphSearch_isPast 47 = .ok (.getfield 9, 3) := by decide +kernel
theorem d_GraphSearch_isPast_50 : decode b_GraphSearch_isPast 50 = .ok (.iload 4, 2) := by decide +kernel
theorem d_GraphSearch_isPast_52 : decode b_GraphSearch_isPast 52 = .ok (.iaload, 1) := by decide +kernel
theorem d_GraphSearch_isPast_53 : decode b_GraphSearch_isPast 53 = .ok (.goto 7, 3) := by decide +kernel
theorem d_GraphSearch_isPast_56 : decode b_GraphSearch_isPast 56 = .ok (.iload 4, 2) := by decide +kernel
theorem d_GraphSearch_isPast_58 : decode b_GraphSearch_isPast 58 = .ok (.iconst 1, 1) := by decide +kernel
theorem d_GraphSearch_isPast_59 : decode b_GraphSearch_isPast 59 = .ok (.iadd, 1) := by decide +kernel
theorem d_GraphSearch_isPast_60 : decode b_GraphSearch_isPast 60 = .ok (.istore 5, 2) := by decide +kernel
theorem d_GraphSearch_isPast_62 : decode b_GraphSearch_isPast 62 = .ok (.iload 5, 2) := by decide +kernel
theorem d_GraphSearch_isPast_64 : decode b_GraphSearch_isPast 64 = .ok (.ifCond .le 21, 3) := by decide +kernel
theorem d_GraphSearch_isPast_67 : decode b_GraphSearch_isPast 67 = .ok (.iload_n 2, 1) := by decide +kernel
theorem d_GraphSearch_isPast_68 : decode b_GraphSearch_isPast 68 = .ok (.ifCond .eq 15, 3) := by decide +kernel
theorem d_GraphSearch_isPast_71 : decode b_GraphSearch_isPast 71 = .ok (.aload_n 0, 1) := by decide +kernel
theorem d_GraphSearch_isPast_72 : decode b_GraphSearch_isPast 72 = .ok (.iload 5, 2) := by decide +kernel
theorem d_GraphSearch_isPast_74 : decode b_GraphSearch_isPast 74 = .ok (.iconst 1, 1) := by decide +kernel
theorem d_GraphSearch_isPast_75 : decode b_GraphSearch_isPast 75 = .ok (.isub, 1) := by decide +kernel
theorem d_GraphSearch_isPast_76 : decode b_GraphSearch_isPast 76 = .ok (.iload_n 2, 1) := by decide +kernel
theorem d_GraphSearch_isPast_77 : decode b_GraphSearch_isPast 77 = .ok (.invokevirtual 175, 3) := by decide +kernel
theorem d_GraphSearch_isPast_80 : decode b_GraphSearch_isPast 80 = .ok (.ifCond .eq 5, 3) := by decide +kernel
theorem d_GraphSearch_isPast_83 : decode b_GraphSearch_isPast 83 = .ok (.iconst 1, 1) := by decide +kernel
theorem d_GraphSearch_isPast_84 : decode b_GraphSearch_isPast 84 = .ok (.ireturn, 1) := by decide +kernel
theorem d_GraphSearch_isPast_85 : decode b_GraphSearch_isPast 85 = .ok (.iinc 4 1, 3) := by decide +kernel
theorem d_GraphSearch_isPast_88 : decode b_GraphSearch_isPast 88 = .ok (.goto (-70), 3) := by decide +kernel
theorem d_GraphSearch_isPast_91 : decode b_GraphSearch_isPast 91 = .ok (.iconst 0, 1) := by decide +kernel
theorem d_GraphSearch_isPast_92 : decode b_GraphSearch_isPast 92 = .ok (.ireturn, 1) := by decide +kernel
theorem d_GraphSearch_isBehind_0 : decode b_GraphSearch_isBehind 0 = .ok (.aload_n 0, 1) := by decide +kernel
theorem d_GraphSearch_isBehind_1 : decode b_GraphSearch_isBehind 1 = .ok (.getfield 9, 3) := by decide +kernel
theorem d_GraphSearch_isBehind_4 : decode b_GraphSearch_isBehind 4 = .ok (.iload_n 1, 1) := by decide +kernel
theorem d_GraphSearch_isBehind_5 : decode b_GraphSearch_isBehind 5 = .ok (.iaload, 1) := by decide +kernel
theorem d_GraphSearch_isBehind_6 : decode b_GraphSearch_isBehind 6 = .ok (.iload_n 2, 1) := by decide +kernel
theorem d_GraphSearch_isBehind_7 : decode b_GraphSearch_isBehind 7 = .ok (.if_icmp .eq 20, 3) := by decide +kernel
theorem d_GraphSearch_isBehind_10 : decode b_GraphSearch_isBehind 10 = .ok (.aload_n 0, 1) := by decide +kernel
theorem d_GraphSearch_isBehind_11 : decode b_GraphSearch_isBehind 11 = .ok (.getfield 48, 3) := by decide +kernel
theorem d_GraphSearch_isBehind_14 : decode b_GraphSearch_isBehind 14 = .ok (.iload_n 2, 1) := by decide +kernel
theorem d_GraphSearch_isBehind_15 : decode b_GraphSearch_isBehind 15 = .ok (.iconst 1, 1) := by decide +kernel
theorem d_GraphSearch_isBehind_16 : decode b_GraphSearch_isBehind 16 = .ok (.isub, 1) := by decide +kernel
theorem d_GraphSearch_isBehind_17 : decode b_GraphSearch_isBehind 17 = .ok (.invokevirtual 178, 3) := by decide +kernel
theorem d_GraphSearch_isBehind_20 : decode b_GraphSearch_isBehind 20 = .ok (.iload_n 1, 1) := by decide +kernel
theorem d_GraphSearch_isBehind_21 : decode b_GraphSearch_isBehind 21 = .ok (.invokestatic 166, 3) := by decide +kernel
theorem d_GraphSearch_isBehind_24 : decode b_GraphSearch_isBehind 24 = .ok (.ifCond .eq 7, 3) := by decide +kernel
theorem d_GraphSearch_isBehind_27 : decode b_GraphSearch_isBehind 27 = .ok (.iconst 1, 1) := by decide +kernel
theorem d_GraphSearch_isBehind_28 : decode b_GraphSearch_isBehind 28 = .ok (.goto 4, 3) := by decide +kernel
theorem d_GraphSearch_isBehind_31 : decode b_GraphSearch_isBehind 31 = .ok (.iconst 0, 1) := by decide +kernel
theorem d_GraphSearch_isBehind_32 : decode b_GraphSearch_isBehind 32 = .ok (.ireturn, 1) := by decide +kernel
theorem d_GraphSearch_canHappen_0 : decode b_GraphSearch_canHappen 0 = .ok (.aload_n 0, 1) := by decide +kernel
theorem d_GraphSearch_canHappen_1 : decode b_GraphSearch_canHappen 1 = .ok (.getfield 52, 3) := by decide +kernel
theorem d_GraphSearch_canHappen_4 : decode b_GraphSearch_canHappen 4 = .ok (.iload_n 1, 1) := by decide +kernel
theorem d_GraphSearch_canHappen_5 : decode b_GraphSearch_canHappen 5 = .ok (.invokevirtual 141, 3) := by decide +kernel
theorem d_GraphSearch_canHappen_8 : decode b_GraphSearch_canHappen 8 = .ok (.ifCond .eq 5, 3) := by decide +kernel
theorem d_GraphSearch_canHappen_11 : decode b_GraphSearch_canHappen 11 = .ok (.iconst 1, 1) := by decide +kernel
theorem d_GraphSearch_canHappen_12 : decode b_GraphSearch_canHappen 12 = .ok (.ireturn, 1) := by decide +kernel
theorem d_GraphSearch_canHappen_13 : decode b_GraphSearch_canHappen 13 = .ok (.aload_n 0, 1) := by decide +kernel
theorem d_GraphSearch_canHappen_14 : decode b_GraphSearch_canHappen 14 = .ok (.getfield 48, 3) := by decide +kernel
theorem d_GraphSearch_canHappen_17 : decode b_GraphSearch_canHappen 17 = .ok (.getfield 153, 3) := by decide +kernel
theorem d_GraphSearch_canHappen_20 : decode b_GraphSearch_canHappen 20 = .ok (.iload_n 1, 1) := by decide +kernel
theorem d_GraphSearch_canHappen_21 : decode b_GraphSearch_canHappen 21 = .ok (.iconst 1, 1) := by decide +kernel
theorem d_GraphSearch_canHappen_22 : decode b_GraphSearch_canHappen 22 = .ok (.isub, 1) := by decide +kernel
theorem d_GraphSearch_canHappen_23 : decode b_GraphSearch_canHappen 23 = .ok (.iaload, 1) := by decide +kernel
theorem d_GraphSearch_canHappen_24 : decode b_GraphSearch_canHappen 24 = .ok (.istore_n 3, 1) := by decide +kernel
theorem d_GraphSearch_canHappen_25 : decode b_GraphSearch_canHappen 25 = .ok (.aload_n 0, 1) := by decide +kernel
theorem d_GraphSearch_canHappen_26 : decode b_GraphSearch_canHappen 26 = .ok (.getfield 48, 3) := by decide +kernel
theorem d_GraphSearch_canHappen_29 : decode b_GraphSearch_canHappen 29 = .ok (.getfield 181, 3) := by decide +kernel
theorem d_GraphSearch_canHappen_32 : decode b_GraphSearch_canHappen 32 = .ok (.iload_n 1, 1) := by decide +kernel
theorem d_GraphSearch_canHappen_33 : decode b_GraphSearch_canHappen 33 = .ok (.iconst 1, 1) := by decide +kernel
theorem d_GraphSearch_canHappen_34 : decode b_GraphSearch_canHappen 34 = .ok (.isub, 1) := by decide +kernel
theorem d_GraphSearch_canHappen_35 : decode b_GraphSearch_canHappen 35 = .ok (.iaload, 1) := by decide +kernel
theorem d_GraphSearch_canHappen_36 : decode b_GraphSearch_canHappen 36 = .ok (.aload_n 0, 1) := by decide +kernel
theorem d_GraphSearch_canHappen_37 : decode b_GraphSearch_canHappen 37 = .ok (.getfield 52, 3) := by decide +kernel
theorem d_GraphSearch_canHappen_40 : decode b_GraphSearch_canHappen 40 = .ok (.getfield 184, 3) := by decide +kernel
theorem d_GraphSearch_canHappen_43 : decode b_GraphSearch_canHappen 43 = .ok (.iload_n 3, 1) := by decide +kernel
theorem d_GraphSearch_canHappen_44 : decode b_GraphSearch_canHappen 44 = .ok (.iaload, 1) := by decide +kernel
theorem d_GraphSearch_canHappen_45 : decode b_GraphSearch_canHappen 45 = .ok (.if_icmp .ge 5, 3) := by decide +kernel
theorem d_GraphSearch_canHappen_48 : decode b_GraphSearch_canHappen 48 = .ok (.iconst 0, 1) := by decide +kernel
theorem d_GraphSearch_canHappen_49 : decode b_GraphSearch_canHappen 49 = .ok (.ireturn, 1) := by decide +kernel
theorem d_GraphSearch_canHappen_50 : decode b_GraphSearch_canHappen 50 = .ok (.iconst 0, 1) := by decide +kernel
theorem d_GraphSearch_canHappen_51 : decode b_GraphSearch_canHappen 51 = .ok (.istore 4, 2) := by decide +kernel
theorem d_GraphSearch_canHappen_53 : decode b_GraphSearch_canHappen 53 = .ok (.iload 4, 2) := by decide +kernel
theorem d_GraphSearch_canHappen_55 : decode b_GraphSearch_canHappen 55 = .ok (.iconst 4, 1) := by decide +kernel
theorem d_GraphSearch_canHappen_56 : decode b_GraphSearch_canHappen 56 = .ok (.if_icmp .ge 43, 3) := by decide +kernel
theorem d_GraphSearch_canHappen_59 : decode b_GraphSearch_canHappen 59 = .ok (.iload_n 3, 1) := by decide +kernel
theorem d_GraphSearch_canHappen_60 : decode b_GraphSearch_canHappen 60 = .ok (.iload_n 2, 1) := by decide +kernel
theorem d_GraphSearch_canHappen_61 : decode b_GraphSearch_canHappen 61 = .ok (.if_icmp .ne 5, 3) := by decide +kernel
theorem d_GraphSearch_canHappen_64 : decode b_GraphSearch_canHappen 64 = .ok (.iconst 0, 1) := by decide +kernel
theorem d_GraphSearch_canHappen_65 : decode b_GraphSearch_canHappen 65 = .ok (.ireturn, 1) := by decide +kernel
theorem d_GraphSearch_canHappen_66 : decode b_GraphSearch_canHappen 66 = .ok (.aload_n 0, 1) := by decide +kernel
theorem d_GraphSearch_canHappen_67 : decode b_GraphSearch_canHappen 67 = .ok (.iload_n 3, 1) := by decide +kernel
theorem d_GraphSearch_canHappen_68 : decode b_GraphSearch_canHappen 68 = .ok (.invokevirtual 138, 3) := by decide +kernel
theorem d_GraphSearch_canHappen_71 : decode b_GraphSearch_canHappen 71 = .ok (.ifCond .ne 5, 3) := by decide +kernel
theorem d_GraphSearch_canHappen_74 : decode b_GraphSearch_canHappen 74 = .ok (.iconst 1, 1) := by decide +kernel
theorem d_GraphSearch_canHappen_75 : decode b_GraphSearch_canHappen 75 = .ok (.ireturn, 1) := by decide +kernel
theorem d_GraphSearch_canHappen_76 : decode b_GraphSearch_canHappen 76 = .ok (.aload_n 0, 1) := by decide +kernel
theorem d_GraphSearch_canHappen_77 : decode b_GraphSearch_canHappen 77 = .ok (.getfield 48, 3) := by decide +kernel
theorem d_GraphSearch_canHappen_80 : decode b_GraphSearch_canHappen 80 = .ok (.getfield 153, 3) := by decide +kernel
theorem d_GraphSearch_canHappen_83 : decode b_GraphSearch_canHappen 83 = .ok (.aload_n 0, 1) := by decide +kernel
theorem d_GraphSearch_canHappen_84 : decode b_GraphSearch_canHappen 84 = .ok (.getfield 15, 3) := by decide +kernel
theorem d_GraphSearch_canHappen_87 : decode b_GraphSearch_canHappen 87 = .ok (.iload_n 3, 1) := by decide +kernel
theorem d_GraphSearch_canHappen_88 : decode b_GraphSearch_canHappen 88 = .ok (.iaload, 1) := by decide +kernel
theorem d_GraphSearch_canHappen_89 : decode b_GraphSearch_canHappen 89 = .ok (.iconst 1, 1) := by decide +kernel
theorem d_GraphSearch_canHappen_90 : decode b_GraphSearch_canHappen 90 = .ok (.isub, 1) := by decide +kernel
theorem d_GraphSearch_canHappen_91 : decode b_GraphSearch_canHappen 91 = .ok (.iaload, 1) := by decide +kernel
theorem d_GraphSearch_canHappen_92 : decode b_GraphSearch_canHappen 92 = .ok (.istore_n 3, 1) := by decide +kernel
theorem d_GraphSearch_canHappen_93 : decode b_GraphSearch_canHappen 93 = .ok (.iinc 4 1, 3) := by decide +kernel
theorem d_GraphSearch_canHappen_96 : decode b_GraphSearch_canHappen 96 = .ok (.goto (-43), 3) := by decide +kernel
theorem d_GraphSearch_canHappen_99 : decode b_GraphSearch_canHappen 99 = .ok (.iconst 0, 1) := by decide +kernel
theorem d_GraphSearch_canHappen_100 : decode b_GraphSearch_canHappen 100 = .ok (.ireturn, 1) := by decide +kernel
theorem d_GraphSearch_noteReaders_0 : decode b_GraphSearch_noteReaders 0 = .ok (.aload_n 0, 1) := by decide +kernel
theorem d_GraphSearch_noteReaders_1 : decode b_GraphSearch_noteReaders 1 = .ok (.aload_n 0, 1) := by decide +kernel
theorem d_GraphSearch_noteReaders_2 : decode b_GraphSearch_noteReaders 2 = .ok (.getfield 52, 3) := by decide +kernel
theorem d_GraphSearch_noteReaders_5 : decode b_GraphSearch_noteReaders 5 = .ok (.getfield 172, 3) := by decide +kernel
theorem d_GraphSearch_noteReaders_8 : decode b_GraphSearch_noteReaders 8 = .ok (.aload_n 0, 1) := by decide +kernel
theorem d_GraphSearch_noteReaders_9 : decode b_GraphSearch_noteReaders 9 = .ok (.getfield 48, 3) := by decide +kernel
theorem d_GraphSearch_noteReaders_12 : decode b_GraphSearch_noteReaders 12 = .ok (.getfield 187, 3) := by decide +kernel
theorem d_GraphSearch_noteReaders_15 : decode b_GraphSearch_noteReaders 15 = .ok (.iconst 5, 1) := by decide +kernel
theorem d_GraphSearch_noteReaders_16 : decode b_GraphSearch_noteReaders 16 = .ok (.iaload, 1) := by decide +kernel
theorem d_GraphSearch_noteReaders_17 : decode b_GraphSearch_noteReaders 17 = .ok (.iconst (-1), 1) := by decide +kernel
theorem d_GraphSearch_noteReaders_18 : decode b_GraphSearch_noteReaders 18 = .ok (.ixor, 1) := by decide +kernel
theorem d_GraphSearch_noteReaders_19 : decode b_GraphSearch_noteReaders 19 = .ok (.iand, 1) := by decide +kernel
theorem d_GraphSearch_noteReaders_20 : decode b_GraphSearch_noteReaders 20 = .ok (.putfield 190, 3) := by decide +kernel
theorem d_GraphSearch_noteReaders_23 : decode b_GraphSearch_noteReaders 23 = .ok (.aload_n 0, 1) := by decide +kernel
theorem d_GraphSearch_noteReaders_24 : decode b_GraphSearch_noteReaders 24 = .ok (.getfield 30, 3) := by decide +kernel
theorem d_GraphSearch_noteReaders_27 : decode b_GraphSearch_noteReaders 27 = .ok (.iconst 0, 1) := by decide +kernel
theorem d_GraphSearch_noteReaders_28 : decode b_GraphSearch_noteReaders 28 = .ok (.invokestatic 72, 3) := by decide +kernel
theorem d_GraphSearch_noteReaders_31 : decode b_GraphSearch_noteReaders 31 = .ok (.aload_n 0, 1) := by decide +kernel
theorem d_GraphSearch_noteReaders_32 : decode b_GraphSearch_noteReaders 32 = .ok (.getfield 33, 3) := by decide +kernel
theorem d_GraphSearch_noteReaders_35 : decode b_GraphSearch_noteReaders 35 = .ok (.iconst 0, 1) := by decide +kernel
theorem d_GraphSearch_noteReaders_36 : decode b_GraphSearch_noteReaders 36 = .ok (.invokestatic 72, 3) := by decide +kernel
theorem d_GraphSearch_noteReaders_39 : decode b_GraphSearch_noteReaders 39 = .ok (.aload_n 0, 1) := by decide +kernel
theorem d_GraphSearch_noteReaders_40 : decode b_GraphSearch_noteReaders 40 = .ok (.getfield 39, 3) := by decide +kernel
theorem d_GraphSearch_noteReaders_43 : decode b_GraphSearch_noteReaders 43 = .ok (.iconst 0, 1) := by decide +kernel
theorem d_GraphSearch_noteReaders_44 : decode b_GraphSearch_noteReaders 44 = .ok (.invokestatic 72, 3) := by decide +kernel
theorem d_GraphSearch_noteReaders_47 : decode b_GraphSearch_noteReaders 47 = .ok (.iconst 0, 1) := by decide +kernel
theorem d_GraphSearch_noteReaders_48 : decode b_GraphSearch_noteReaders 48 = .ok (.istore_n 1, 1) := by decide +kernel
theorem d_GraphSearch_noteReaders_49 : decode b_GraphSearch_noteReaders 49 = .ok (.iload_n 1, 1) := by decide +kernel
theorem d_GraphSearch_noteReaders_50 : decode b_GraphSearch_noteReaders 50 = .ok (.aload_n 0, 1) := by decide +kernel
theorem d_GraphSearch_noteReaders_51 : decode b_GraphSearch_noteReaders 51 = .ok (.getfield 48, 3) := by decide +kernel
theorem d_GraphSearch_noteReaders_54 : decode b_GraphSearch_noteReaders 54 = .ok (.getfield 78, 3) := by decide +kernel
theorem d_GraphSearch_noteReaders_57 : decode b_GraphSearch_noteReaders 57 = .ok (.if_icmp .ge 36, 3) := by decide +kernel
theorem d_GraphSearch_noteReaders_60 : decode b_GraphSearch_noteReaders 60 = .ok (.aload_n 0, 1) := by decide +kernel
theorem d_GraphSearch_noteReaders_61 : decode b_GraphSearch_noteReaders 61 = .ok (.getfield 190, 3) := by decide +kernel
theorem d_GraphSearch_noteReaders_64 : decode b_GraphSearch_noteReaders 64 = .ok (.iload_n 1, 1) := by decide +kernel
theorem d_GraphSearch_noteReaders_65 : decode b_GraphSearch_noteReaders 65 = .ok (.invokestatic 166, 3) := by decide +kernel
theorem d_GraphSearch_noteReaders_68 : decode b_GraphSearch_noteReaders 68 = .ok (.ifCond .eq 19, 3) := by decide +kernel
theorem d_GraphSearch_noteReaders_71 : decode b_GraphSearch_noteReaders 71 = .ok (.aload_n 0, 1) := by decide +kernel
theorem d_GraphSearch_noteReaders_72 : decode b_GraphSearch_noteReaders 72 = .ok (.getfield 48, 3) := by decide +kernel
theorem d_GraphSearch_noteReaders_75 : decode b_GraphSearch_noteReaders 75 = .ok (.iload_n 1, 1) := by decide +kernel
theorem d_GraphSearch_noteReaders_76 : decode b_GraphSearch_noteReaders 76 = .ok (.invokevirtual 124, 3) := by decide +kernel
theorem d_GraphSearch_noteReaders_79 : decode b_GraphSearch_noteReaders 79 = .ok (.ifCond .eq 8, 3) := by decide +kernel
theorem d_GraphSearch_noteReaders_82 : decode b_GraphSearch_noteReaders 82 = .ok (.aload_n 0, 1) := by decide +kernel
theorem d_GraphSearch_noteReaders_83 : decode b_GraphSearch_noteReaders 83 = .ok (.iload_n 1, 1) := by decide +kernel
theorem d_GraphSearch_noteReaders_84 : decode b_GraphSearch_noteReaders 84 = .ok (.invokevirtual 193, 3) := by decide +kernel
theorem d_GraphSearch_noteReaders_87 : decode b_GraphSearch_noteReaders 87 = .ok (.iinc 1 1, 3) := by decide +kernel
theorem d_GraphSearch_noteReaders_90 : decode b_GraphSearch_noteReaders 90 = .ok (.goto (-41), 3) := by decide +kernel
theorem d_GraphSearch_noteReaders_93 : decode b_GraphSearch_noteReaders 93 = .ok (.return_, 1) := by decide +kernel
theorem d_GraphSearch_noteReader_0 : decode b_GraphSearch_noteReader 0 = .ok (.aload_n 0, 1) := by decide +kernel
theorem d_GraphSearch_noteReader_1 : decode b_GraphSearch_noteReader 1 = .ok (.getfield 9, 3) := by decide +kernel
theorem d_GraphSearch_noteReader_4 : decode b_GraphSearch_noteReader 4 = .ok (.iload_n 1, 1) := by decide +kernel
theorem d_GraphSearch_noteReader_5 : decode b_GraphSearch_noteReader 5 = .ok (.iaload, 1) := by decide +kernel
theorem d_GraphSearch_noteReader_6 : decode b_GraphSearch_noteReader 6 = .ok (.istore_n 2, 1) := by decide +kernel
theorem d_GraphSearch_noteReader_7 : decode b_GraphSearch_noteReader 7 = .ok (.iload_n 2, 1) := by decide +kernel
theorem d_GraphSearch_noteReader_8 : decode b_GraphSearch_noteReader 8 = .ok (.ifCond .le 29, 3) := by decide +kernel
theorem d_GraphSearch_noteReader_11 : decode b_GraphSearch_noteReader 11 = .ok (.aload_n 0, 1) := by decide +kernel
theorem d_GraphSearch_noteReader_12 : decode b_GraphSearch_noteReader 12 = .ok (.getfield 30, 3) := by decide +kernel
theorem d_GraphSearch_noteReader_15 : decode b_GraphSearch_noteReader 15 = .ok (.iload_n 2, 1) := by decide +kernel
theorem d_GraphSearch_noteReader_16 : decode b_GraphSearch_noteReader 16 = .ok (.dup2, 1) := by decide +kernel
theorem d_GraphSearch_noteReader_17 : decode b_GraphSearch_noteReader 17 = .ok (.iaload, 1) := by decide +kernel
theorem d_GraphSearch_noteReader_18 : decode b_GraphSearch_noteReader 18 = .ok (.iconst 1, 1) := by decide +kernel
theorem d_GraphSearch_noteReader_19 : decode b_GraphSearch_noteReader 19 = .ok (.iload_n 1, 1) := by decide +kernel
theorem d_GraphSearch_noteReader_20 : decode b_GraphSearch_noteReader 20 = .ok (.ishl, 1) := by decide +kernel
theorem d_GraphSearch_noteReader_21 : decode b_GraphSearch_noteReader 21 = .ok (.ior, 1) := by decide +kernel
theorem d_GraphSearch_noteReader_22 : decode b_GraphSearch_noteReader 22 = .ok (.iastore, 1) := by decide +kernel
theorem d_GraphSearch_noteReader_23 : decode b_GraphSearch_noteReader 23 = .ok (.aload_n 0, 1) := by decide +kernel
theorem d_GraphSearch_noteReader_24 : decode b_GraphSearch_noteReader 24 = .ok (.getfield 39, 3) := by decide +kernel
theorem d_GraphSearch_noteReader_27 : decode b_GraphSearch_noteReader 27 = .ok (.iload_n 1, 1) := by decide +kernel
theorem d_GraphSearch_noteReader_28 : decode b_GraphSearch_noteReader 28 = .ok (.iconst 1, 1) := by decide +kernel
theorem d_GraphSearch_noteReader_29 : decode b_GraphSearch_noteReader 29 = .ok (.iload_n 2, 1) := by decide +kernel
theorem d_GraphSearch_noteReader_30 : decode b_GraphSearch_noteReader 30 = .ok (.iconst 1, 1) := by decide +kernel
theorem d_GraphSearch_noteReader_31 : decode b_GraphSearch_noteReader 31 = .ok (.isub, 1) := by decide +kernel
theorem d_GraphSearch_noteReader_32 : decode b_GraphSearch_noteReader 32 = .ok (.ishl, 1) := by decide +kernel
theorem d_GraphSearch_noteReader_33 : decode b_GraphSearch_noteReader 33 = .ok (.iastore, 1) := by decide +kernel
theorem d_GraphSearch_noteReader_34 : decode b_GraphSearch_noteReader 34 = .ok (.goto 23, 3) := by decide +kernel
theorem d_GraphSearch_noteReader_37 : decode b_GraphSearch_noteReader 37 = .ok (.aload_n 0, 1) := by decide +kernel
theorem d_GraphSearch_noteReader_38 : decode b_GraphSearch_noteReader 38 = .ok (.getfield 33, 3) := by decide +kernel
theorem d_GraphSearch_noteReader_41 : decode b_GraphSearch_noteReader 41 = .ok (.aload_n 0, 1) := by decide +kernel
theorem d_GraphSearch_noteReader_42 : decode b_GraphSearch_noteReader 42 = .ok (.getfield 48, 3) := by decide +kernel
theorem d_GraphSearch_noteReader_45 : decode b_GraphSearch_noteReader 45 = .ok (.getfield 100, 3) := by decide +kernel
theorem d_GraphSearch_noteReader_48 : decode b_GraphSearch_noteReader 48 = .ok (.iload_n 1, 1) := by decide +kernel
theorem d_GraphSearch_noteReader_49 : decode b_GraphSearch_noteReader 49 = .ok (.iaload, 1) := by decide +kernel
theorem d_GraphSearch_noteReader_50 : decode b_GraphSearch_noteReader 50 = .ok (.dup2, 1) := by decide +kernel
theorem d_GraphSearch_noteReader_51 : decode b_GraphSearch_noteReader 51 = .ok (.iaload, 1) := by decide +kernel
theorem d_GraphSearch_noteReader_52 : decode b_GraphSearch_noteReader 52 = .ok (.iconst 1, 1) := by decide +kernel
theorem d_GraphSearch_noteReader_53 : decode b_GraphSearch_noteReader 53 = .ok (.iload_n 1, 1) := by decide +kernel
theorem d_GraphSearch_noteReader_54 : decode b_GraphSearch_noteReader 54 = .ok (.ishl, 1) := by decide +kernel
theorem d_GraphSearch_noteReader_55 : decode b_GraphSearch_noteReader 55 = .ok (.ior, 1) := by decide +kernel
theorem d_GraphSearch_noteReader_56 : decode b_GraphSearch_noteReader 56 = .ok (.iastore, 1) := by decide +kernel
theorem d_GraphSearch_noteReader_57 : decode b_GraphSearch_noteReader 57 = .ok (.return_, 1) := by decide +kernel
theorem d_GraphSearch_startRow_0 : decode b_GraphSearch_startRow 0 = .ok (.aload_n 0, 1) := by decide +kernel
theorem d_GraphSearch_startRow_1 : decode b_GraphSearch_startRow 1 = .ok (.getfield 56, 3) := by decide +kernel
theorem d_GraphSearch_startRow_4 : decode b_GraphSearch_startRow 4 = .ok (.iconst 3, 1) := by decide +kernel
theorem d_GraphSearch_startRow_5 : decode b_GraphSearch_startRow 5 = .ok (.if_icmp .ne 12, 3) := by decide +kernel
theorem d_GraphSearch_startRow_8 : decode b_GraphSearch_startRow 8 = .ok (.iload_n 1, 1) := by decide +kernel
theorem d_GraphSearch_startRow_9 : decode b_GraphSearch_startRow 9 = .ok (.iconst 2, 1) := by decide +kernel
theorem d_GraphSearch_startRow_10 : decode b_GraphSearch_startRow 10 = .ok (.if_icmp .ne 7, 3) := by decide +kernel
theorem d_GraphSearch_startRow_13 : decode b_GraphSearch_startRow 13 = .ok (.aload_n 0, 1) := by decide +kernel
theorem d_GraphSearch_startRow_14 : decode b_GraphSearch_startRow 14 = .ok (.invokevirtual 196, 3) := by decide +kernel
theorem d_GraphSearch_startRow_17 : decode b_GraphSearch_startRow 17 = .ok (.iload_n 1, 1) := by decide +kernel
theorem d_GraphSearch_startRow_18 : decode b_GraphSearch_startRow 18 = .ok (.ifCond .lt 33, 3) := by decide +kernel
theorem d_GraphSearch_startRow_21 : decode b_GraphSearch_startRow 21 = .ok (.aload_n 0, 1) := by decide +kernel
theorem d_GraphSearch_startRow_22 : decode b_GraphSearch_startRow 22 = .ok (.iload_n 1, 1) := by decide +kernel
theorem d_GraphSearch_startRow_23 : decode b_GraphSearch_startRow 23 = .ok (.iconst 0, 1) := by decide +kernel
theorem d_GraphSearch_startRow_24 : decode b_GraphSearch_startRow 24 = .ok (.aload_n 0, 1) := by decide +kernel
theorem d_GraphSearch_startRow_25 : decode b_GraphSearch_startRow 25 = .ok (.getfield 48, 3) := by decide +kernel
theorem d_GraphSearch_startRow_28 : decode b_GraphSearch_startRow 28 = .ok (.iload_n 1, 1) := by decide +kernel
theorem d_GraphSearch_startRow_29 : decode b_GraphSearch_startRow 29 = .ok (.invokevirtual 163, 3) := by decide +kernel
theorem d_GraphSearch_startRow_32 : decode b_GraphSearch_startRow 32 = .ok (.aload_n 0, 1) := by decide +kernel
theorem d_GraphSearch_startRow_33 : decode b_GraphSearch_startRow 33 = .ok (.getfield 190, 3) := by decide +kernel
theorem d_GraphSearch_startRow_36 : decode b_GraphSearch_startRow 36 = .ok (.iand, 1) := by decide +kernel
theorem d_GraphSearch_startRow_37 : decode b_GraphSearch_startRow 37 = .ok (.iconst 0, 1) := by decide +kernel
theorem d_GraphSearch_startRow_38 : decode b_GraphSearch_startRow 38 = .ok (.aload_n 0, 1) := by decide +kernel
theorem d_GraphSearch_startRow_39 : decode b_GraphSearch_startRow 39 = .ok (.getfield 33, 3) := by decide +kernel
theorem d_GraphSearch_startRow_42 : decode b_GraphSearch_startRow 42 = .ok (.iload_n 1, 1) := by decide +kernel
theorem d_GraphSearch_startRow_43 : decode b_GraphSearch_startRow 43 = .ok (.iaload, 1) := by decide +kernel
theorem d_GraphSearch_startRow_44 : decode b_GraphSearch_startRow 44 = .ok (.iload_n 2, 1) := by decide +kernel
theorem d_GraphSearch_startRow_45 : decode b_GraphSearch_startRow 45 = .ok (.invokevirtual 199, 3) := by decide +kernel
theorem d_GraphSearch_startRow_48 : decode b_GraphSearch_startRow 48 = .ok (.goto 51, 3) := by decide +kernel
theorem d_GraphSearch_startRow_51 : decode b_GraphSearch_startRow 51 = .ok (.aload_n 0, 1) := by decide +kernel
theorem d_GraphSearch_startRow_52 : decode b_GraphSearch_startRow 52 = .ok (.invokevirtual 203, 3) := by decide +kernel
theorem d_GraphSearch_startRow_55 : decode b_GraphSearch_startRow 55 = .ok (.ifCond .eq 44, 3) := by decide +kernel
theorem d_GraphSearch_startRow_58 : decode b_GraphSearch_startRow 58 = .ok (.aload_n 0, 1) := by decide +kernel
theorem d_GraphSearch_startRow_59 : decode b_GraphSearch_startRow 59 = .ok (.getfield 52, 3) := by decide +kernel
theorem d_GraphSearch_startRow_62 : decode b_GraphSearch_startRow 62 = .ok (.aload_n 0, 1) := by decide +kernel
theorem d_GraphSearch_startRow_63 : decode b_GraphSearch_startRow 63 = .ok (.getfield 36, 3) := by decide +kernel
theorem d_GraphSearch_startRow_66 : decode b_GraphSearch_startRow 66 = .ok (.iconst 0, 1) := by decide +kernel
theorem d_GraphSearch_startRow_67 : decode b_GraphSearch_startRow 67 = .ok (.iaload, 1) := by decide +kernel
theorem d_GraphSearch_startRow_68 : decode b_GraphSearch_startRow 68 = .ok (.aload_n 0, 1) := by decide +kernel
theorem d_GraphSearch_startRow_69 : decode b_GraphSearch_startRow 69 = .ok (.getfield 36, 3) := by decide +kernel
theorem d_GraphSearch_startRow_72 : decode b_GraphSearch_startRow 72 = .ok (.iconst 1, 1) := by decide +kernel
theorem d_GraphSearch_startRow_73 : decode b_GraphSearch_startRow 73 = .ok (.iaload, 1) := by decide +kernel
theorem d_GraphSearch_startRow_74 : decode b_GraphSearch_startRow 74 = .ok (.aload_n 0, 1) := by decide +kernel
theorem d_GraphSearch_startRow_75 : decode b_GraphSearch_startRow 75 = .ok (.getfield 36, 3) := by decide +kernel
theorem d_GraphSearch_startRow_78 : decode b_GraphSearch_startRow 78 = .ok (.iconst 2, 1) := by decide +kernel
theorem d_GraphSearch_startRow_79 : decode b_GraphSearch_startRow 79 = .ok (.iaload, 1) := by decide +kernel
theorem d_GraphSearch_startRow_80 : decode b_GraphSearch_startRow 80 = .ok (.invokevirtual 206, 3) := by decide +kernel
theorem d_GraphSearch_startRow_83 : decode b_GraphSearch_startRow 83 = .ok (.istore_n 3, 1) := by decide +kernel
theorem d_GraphSearch_startRow_84 : decode b_GraphSearch_startRow 84 = .ok (.aload_n 0, 1) := by decide +kernel
theorem d_GraphSearch_startRow_85 : decode b_GraphSearch_startRow 85 = .ok (.getfield 60, 3) := by decide +kernel
theorem d_GraphSearch_startRow_88 : decode b_GraphSearch_startRow 88 = .ok (.aload_n 0, 1) := by decide +kernel
theorem d_GraphSearch_startRow_89 : decode b_GraphSearch_startRow 89 = .ok (.getfield 52, 3) := by decide +kernel
theorem d_GraphSearch_startRow_92 : decode b_GraphSearch_startRow 92 = .ok (.invokevirtual 210, 3) := by decide +kernel
theorem d_GraphSearch_startRow_95 : decode b_GraphSearch_startRow 95 = .ok (.iload_n 3, 1) := by decide +kernel
theorem d_GraphSearch_startRow_96 : decode b_GraphSearch_startRow 96 = .ok (.invokevirtual 214, 3) := by decide +kernel
theorem d_GraphSearch_startRow_99 : decode b_GraphSearch_startRow 99 = .ok (.return_, 1) := by decide +kernel
theorem d_GraphSearch_lay_0 : decode b_GraphSearch_lay 0 = .ok (.iload 6, 2) := by decide +kernel
theorem d_GraphSearch_lay_2 : decode b_GraphSearch_lay 2 = .ok (.bipush 11, 2) := by decide +kernel
theorem d_GraphSearch_lay_4 : decode b_GraphSearch_lay 4 = .ok (.if_icmp .le 4, 3) := by decide +kernel
theorem d_GraphSearch_lay_7 : decode b_GraphSearch_lay 7 = .ok (.return_, 1) := by decide +kernel
theorem d_GraphSearch_lay_8 : decode b_GraphSearch_lay 8 = .ok (.iload_n 3, 1) := by decide +kernel
theorem d_GraphSearch_lay_9 : decode b_GraphSearch_lay 9 = .ok (.ifCond .ne 22, 3) := by decide +kernel
theorem d_GraphSearch_lay_12 : decode b_GraphSearch_lay 12 = .ok (.aload_n 0, 1) := by decide +kernel
theorem d_GraphSearch_lay_13 : decode b_GraphSearch_lay 13 = .ok (.getfield 36, 3) := by decide +kernel
theorem d_GraphSearch_lay_16 : decode b_GraphSearch_lay 16 = .ok (.iload_n 1, 1) := by decide +kernel
theorem d_GraphSearch_lay_17 : decode b_GraphSearch_lay 17 = .ok (.iload_n 2, 1) := by decide +kernel
theorem d_GraphSearch_lay_18 : decode b_GraphSearch_lay 18 = .ok (.iastore, 1) := by decide +kernel
theorem d_GraphSearch_lay_19 : decode b_GraphSearch_lay 19 = .ok (.aload_n 0, 1) := by decide +kernel
theorem d_GraphSearch_lay_20 : decode b_GraphSearch_lay 20 = .ok (.iload_n 1, 1) := by decide +kernel
theorem d_GraphSearch_lay_21 : decode b_GraphSearch_lay 21 = .ok (.iconst 1, 1) := by decide +kernel
theorem d_GraphSearch_lay_22 : decode b_GraphSearch_lay 22 = .ok (.isub, 1) := by decide +kernel
theorem d_GraphSearch_lay_23 : decode b_GraphSearch_lay 23 = .ok (.iload 6, 2) := by decide +kernel
theorem d_GraphSearch_lay_25 : decode b_GraphSearch_lay 25 = .ok (.iconst 1, 1) := by decide +kernel
theorem d_GraphSearch_lay_26 : decode b_GraphSearch_lay 26 = .ok (.iadd, 1) := by decide +kernel
theorem d_GraphSearch_lay_27 : decode b_GraphSearch_lay 27 = .ok (.invokevirtual 117, 3) := by decide +kernel
theorem d_GraphSearch_lay_30 : decode b_GraphSearch_lay 30 = .ok (.return_, 1) := by decide +kernel
theorem d_GraphSearch_lay_31 : decode b_GraphSearch_lay 31 = .ok (.iload_n 1, 1) := by decide +kernel
theorem d_GraphSearch_lay_32 : decode b_GraphSearch_lay 32 = .ok (.iconst 3, 1) := by decide +kernel
theorem d_GraphSearch_lay_33 : decode b_GraphSearch_lay 33 = .ok (.if_icmp .ne 7, 3) := by decide +kernel
theorem d_GraphSearch_lay_36 : decode b_GraphSearch_lay 36 = .ok (.iconst 0, 1) := by decide +kernel
theorem d_GraphSearch_lay_37 : decode b_GraphSearch_lay 37 = .ok (.goto 14, 3) := by decide +kernel
theorem d_GraphSearch_lay_40 : decode b_GraphSearch_lay 40 = .ok (.iload_n 3, 1) := by decide +kernel
theorem d_GraphSearch_lay_41 : decode b_GraphSearch_lay 41 = .ok (.aload_n 0, 1) := by decide +kernel
theorem d_GraphSearch_lay_42 : decode b_GraphSearch_lay 42 = .ok (.getfield 48, 3) := by decide +kernel
theorem d_GraphSearch_lay_45 : decode b_GraphSearch_lay 45 = .ok (.getfield 187, 3) := by decide +kernel
theorem d_GraphSearch_lay_48 : decode b_GraphSearch_lay 48 = .ok (.iconst 3, 1) := by decide +kernel
theorem d_GraphSearch_lay_49 : decode b_GraphSearch_lay 49 = .ok (.iaload, 1) := by decide +kernel
theorem d_GraphSearch_lay_50 : decode b_GraphSearch_lay 50 = .ok (.iand, 1) := by decide +kernel
theorem d_GraphSearch_lay_51 : decode b_GraphSearch_lay 51 = .ok (.istore 7, 2) := by decide +kernel
theorem d_GraphSearch_lay_53 : decode b_GraphSearch_lay 53 = .ok (.iload 7, 2) := by decide +kernel
theorem d_GraphSearch_lay_55 : decode b_GraphSearch_lay 55 = .ok (.iload_n 2, 1) := by decide +kernel
theorem d_GraphSearch_lay_56 : decode b_GraphSearch_lay 56 = .ok (.ifCond .ne 12, 3) := by decide +kernel
theorem d_GraphSearch_lay_59 : decode b_GraphSearch_lay 59 = .ok (.aload_n 0, 1) := by decide +kernel
theorem d_GraphSearch_lay_60 : decode b_GraphSearch_lay 60 = .ok (.getfield 33, 3) := by decide +kernel
theorem d_GraphSearch_lay_63 : decode b_GraphSearch_lay 63 = .ok (.iload_n 1, 1) := by decide +kernel
theorem d_GraphSearch_lay_64 : decode b_GraphSearch_lay 64 = .ok (.iaload, 1) := by decide +kernel
theorem d_GraphSearch_lay_65 : decode b_GraphSearch_lay 65 = .ok (.goto 9, 3) := by decide +kernel
theorem d_GraphSearch_lay_68 : decode b_GraphSearch_lay 68 = .ok (.aload_n 0, 1) := by decide +kernel
theorem d_GraphSearch_lay_69 : decode b_GraphSearch_lay 69 = .ok (.getfield 30, 3) := by decide +kernel
theorem d_GraphSearch_lay_72 : decode b_GraphSearch_lay 72 = .ok (.iload_n 2, 1) := by decide +kernel
theorem d_GraphSearch_lay_73 : decode b_GraphSearch_lay 73 = .ok (.iaload, 1) := by decide +kernel
theorem d_GraphSearch_lay_74 : decode b_GraphSearch_lay 74 = .ok (.iand, 1) := by decide +kernel
theorem d_GraphSearch_lay_75 : decode b_GraphSearch_lay 75 = .ok (.istore 8, 2) := by decide +kernel
theorem d_GraphSearch_lay_77 : decode b_GraphSearch_lay 77 = .ok (.iload 8, 2) := by decide +kernel
theorem d_GraphSearch_lay_79 : decode b_GraphSearch_lay 79 = .ok (.ifCond .eq 8, 3) := by decide +kernel
theorem d_GraphSearch_lay_82 : decode b_GraphSearch_lay 82 = .ok (.iload 8, 2) := by decide +kernel
theorem d_GraphSearch_lay_84 : decode b_GraphSearch_lay 84 = .ok (.goto 9, 3) := by decide +kernel
theorem d_GraphSearch_lay_87 : decode b_GraphSearch_lay 87 = .ok (.iload_n 3, 1) := by decide +kernel
theorem d_GraphSearch_lay_88 : decode b_GraphSearch_lay 88 = .ok (.iload 7, 2) := by decide +kernel
theorem d_GraphSearch_lay_90 : decode b_GraphSearch_lay 90 = .ok (.iconst (-1), 1) := by decide +kernel
theorem d_GraphSearch_lay_91 : decode b_GraphSearch_lay 91 = .ok (.ixor, 1) := by decide +kernel
theorem d_GraphSearch_lay_92 : decode b_GraphSearch_lay 92 = .ok (.iand, 1) := by decide +kernel
theorem d_GraphSearch_lay_93 : decode b_GraphSearch_lay 93 = .ok (.istore 9, 2) := by decide +kernel
theorem d_GraphSearch_lay_95 : decode b_GraphSearch_lay 95 = .ok (.iconst 0, 1) := by decide +kernel
theorem d_GraphSearch_lay_96 : decode b_GraphSearch_lay 96 = .ok (.istore 10, 2) := by decide +kernel
theorem d_GraphSearch_lay_98 : decode b_GraphSearch_lay 98 = .ok (.iload 10, 2) := by decide +kernel
theorem d_GraphSearch_lay_100 : decode b_GraphSearch_lay 100 = .ok (.aload_n 0, 1) := by decide +kernel
theorem d_GraphSearch_lay_101 : decode b_GraphSearch_lay 101 = .ok (.getfield 48, 3) := by decide +kernel
theorem d_GraphSearch_lay_104 : decode b_GraphSearch_lay 104 = .ok (.getfield 78, 3) := by decide +kernel
theorem d_GraphSearch_lay_107 : decode b_GraphSearch_lay 107 = .ok (.if_icmp .ge 105, 3) := by decide +kernel
theorem d_GraphSearch_lay_110 : decode b_GraphSearch_lay 110 = .ok (.iload 9, 2) := by decide +kernel
theorem d_GraphSearch_lay_112 : decode b_GraphSearch_lay 112 = .ok (.iload 10, 2) := by decide +kernel
theorem d_GraphSearch_lay_114 : decode b_GraphSearch_lay 114 = .ok (.invokestatic 166, 3) := by decide +kernel
theorem d_GraphSearch_lay_117 : decode b_GraphSearch_lay 117 = .ok (.ifCond .eq 89, 3) := by decide +kernel
theorem d_GraphSearch_lay_120 : decode b_GraphSearch_lay 120 = .ok (.aload_n 0, 1) := by decide +kernel
theorem d_GraphSearch_lay_121 : decode b_GraphSearch_lay 121 = .ok (.getfield 21, 3) := by decide +kernel
theorem d_GraphSearch_lay_124 : decode b_GraphSearch_lay 124 = .ok (.iload 10, 2) := by decide +kernel
theorem d_GraphSearch_lay_126 : decode b_GraphSearch_lay 126 = .ok (.iaload, 1) := by decide +kernel
theorem d_GraphSearch_lay_127 : decode b_GraphSearch_lay 127 = .ok (.iload_n 3, 1) := by decide +kernel
theorem d_GraphSearch_lay_128 : decode b_GraphSearch_lay 128 = .ok (.iand, 1) := by decide +kernel
theorem d_GraphSearch_lay_129 : decode b_GraphSearch_lay 129 = .ok (.ifCond .ne 77, 3) := by decide +kernel
theorem d_GraphSearch_lay_132 : decode b_GraphSearch_lay 132 = .ok (.iload 5, 2) := by decide +kernel
theorem d_GraphSearch_lay_134 : decode b_GraphSearch_lay 134 = .ok (.aload_n 0, 1) := by decide +kernel
theorem d_GraphSearch_lay_135 : decode b_GraphSearch_lay 135 = .ok (.getfield 48, 3) := by decide +kernel
theorem d_GraphSearch_lay_138 : decode b_GraphSearch_lay 138 = .ok (.iload 10, 2) := by decide +kernel
theorem d_GraphSearch_lay_140 : decode b_GraphSearch_lay 140 = .ok (.invokevirtual 178, 3) := by decide +kernel
theorem d_GraphSearch_lay_143 : decode b_GraphSearch_lay 143 = .ok (.iand, 1) := by decide +kernel
theorem d_GraphSearch_lay_144 : decode b_GraphSearch_lay 144 = .ok (.ifCond .ne 62, 3) := by decide +kernel
theorem d_GraphSearch_lay_147 : decode b_GraphSearch_lay 147 = .ok (.iconst 1, 1) := by decide +kernel
theorem d_GraphSearch_lay_148 : decode b_GraphSearch_lay 148 = .ok (.iload 10, 2) := by decide +kernel
theorem d_GraphSearch_lay_150 : decode b_GraphSearch_lay 150 = .ok (.ishl, 1) := by decide +kernel
theorem d_GraphSearch_lay_151 : decode b_GraphSearch_lay 151 = .ok (.istore 11, 2) := by decide +kernel
theorem d_GraphSearch_lay_153 : decode b_GraphSearch_lay 153 = .ok (.aload_n 0, 1) := by decide +kernel
theorem d_GraphSearch_lay_154 : decode b_GraphSearch_lay 154 = .ok (.getfield 39, 3) := by decide +kernel
theorem d_GraphSearch_lay_157 : decode b_GraphSearch_lay 157 = .ok (.iload 10, 2) := by decide +kernel
theorem d_GraphSearch_lay_159 : decode b_GraphSearch_lay 159 = .ok (.iload 4, 2) := by decide +kernel
theorem d_GraphSearch_lay_161 : decode b_GraphSearch_lay 161 = .ok (.iload 5, 2) := by decide +kernel
theorem d_GraphSearch_lay_163 : decode b_GraphSearch_lay 163 = .ok (.iload 11, 2) := by decide +kernel
theorem d_GraphSearch_lay_165 : decode b_GraphSearch_lay 165 = .ok (.iconst (-1), 1) := by decide +kernel
theorem d_GraphSearch_lay_166 : decode b_GraphSearch_lay 166 = .ok (.ixor, 1) := by decide +kernel
theorem d_GraphSearch_lay_167 : decode b_GraphSearch_lay 167 = .ok (.iand, 1) := by decide +kernel
theorem d_GraphSearch_lay_168 : decode b_GraphSearch_lay 168 = .ok (.ior, 1) := by decide +kernel
theorem d_GraphSearch_lay_169 : decode b_GraphSearch_lay 169 = .ok (.iastore, 1) := by decide +kernel
theorem d_GraphSearch_lay_170 : decode b_GraphSearch_lay 170 = .ok (.aload_n 0, 1) := by decide +kernel
theorem d_GraphSearch_lay_171 : decode b_GraphSearch_lay 171 = .ok (.iload_n 1, 1) := by decide +kernel
theorem d_GraphSearch_lay_172 : decode b_GraphSearch_lay 172 = .ok (.iload 10, 2) := by decide +kernel
theorem d_GraphSearch_lay_174 : decode b_GraphSearch_lay 174 = .ok (.iconst 1, 1) := by decide +kernel
theorem d_GraphSearch_lay_175 : decode b_GraphSearch_lay 175 = .ok (.iadd, 1) := by decide +kernel
theorem d_GraphSearch_lay_176 : decode b_GraphSearch_lay 176 = .ok (.iload_n 3, 1) := by decide +kernel
theorem d_GraphSearch_lay_177 : decode b_GraphSearch_lay 177 = .ok (.iload 11, 2) := by decide +kernel
theorem d_GraphSearch_lay_179 : decode b_GraphSearch_lay 179 = .ok (.iconst (-1), 1) := by decide +kernel
theorem d_GraphSearch_lay_180 : decode b_GraphSearch_lay 180 = .ok (.ixor, 1) := by decide +kernel
theorem d_GraphSearch_lay_181 : decode b_GraphSearch_lay 181 = .ok (.iand, 1) := by decide +kernel
theorem d_GraphSearch_lay_182 : decode b_GraphSearch_lay 182 = .ok (.iload 4, 2) := by decide +kernel
theorem d_GraphSearch_lay_184 : decode b_GraphSearch_lay 184 = .ok (.iload 11, 2) := by decide +kernel
theorem d_GraphSearch_lay_186 : decode b_GraphSearch_lay 186 = .ok (.ior, 1) := by decide +kernel
theorem d_GraphSearch_lay_187 : decode b_GraphSearch_lay 187 = .ok (.iload 5, 2) := by decide +kernel
theorem d_GraphSearch_lay_189 : decode b_GraphSearch_lay 189 = .ok (.aload_n 0, 1) := by decide +kernel
theorem d_GraphSearch_lay_190 : decode b_GraphSearch_lay 190 = .ok (.getfield 30, 3) := by decide +kernel
theorem d_GraphSearch_lay_193 : decode b_GraphSearch_lay 193 = .ok (.iload 10, 2) := by decide +kernel
theorem d_GraphSearch_lay_195 : decode b_GraphSearch_lay 195 = .ok (.iconst 1, 1) := by decide +kernel
theorem d_GraphSearch_lay_196 : decode b_GraphSearch_lay 196 = .ok (.iadd, 1) := by decide +kernel
theorem d_GraphSearch_lay_197 : decode b_GraphSearch_lay 197 = .ok (.iaload, 1) := by decide +kernel
theorem d_GraphSearch_lay_198 : decode b_GraphSearch_lay 198 = .ok (.ior, 1) := by decide +kernel
theorem d_GraphSearch_lay_199 : decode b_GraphSearch_lay 199 = .ok (.iload 6, 2) := by decide +kernel
theorem d_GraphSearch_lay_201 : decode b_GraphSearch_lay 201 = .ok (.iconst 1, 1) := by decide +kernel
theorem d_GraphSearch_lay_202 : decode b_GraphSearch_lay 202 = .ok (.iadd, 1) := by decide +kernel
theorem d_GraphSearch_lay_203 : decode b_GraphSearch_lay 203 = .ok (.invokevirtual 199, 3) := by decide +kernel
theorem d_GraphSearch_lay_206 : decode b_GraphSearch_lay 206 = .ok (.iinc 10 1, 3) := by decide +kernel
theorem d_GraphSearch_lay_209 : decode b_GraphSearch_lay 209 = .ok (.goto (-111), 3) := by decide +kernel
theorem d_GraphSearch_lay_212 : decode b_GraphSearch_lay 212 = .ok (.return_, 1) := by decide +kernel
theorem d_GraphSearch_stands_0 : decode b_GraphSearch_stands 0 = .ok (.aload_n 0, 1) := by decide +kernel
theorem d_GraphSearch_stands_1 : decode b_GraphSearch_stands 1 = .ok (.getfield 56, 3) := by decide +kernel
theorem d_GraphSearch_stands_4 : decode b_GraphSearch_stands 4 = .ok (.lookupswitch 50 #[(0, 28), (3, 45)], 28) := by decide +kernel
theorem d_GraphSearch_stands_32 : decode b_GraphSearch_stands 32 = .ok (.aload_n 0, 1) := by decide +kernel
theorem d_GraphSearch_stands_33 : decode b_GraphSearch_stands 33 = .ok (.aload_n 0, 1) := by decide +kernel
theorem d_GraphSearch_stands_34 : decode b_GraphSearch_stands 34 = .ok (.getfield 21, 3) := by decide +kernel
theorem d_GraphSearch_stands_37 : decode b_GraphSearch_stands 37 = .ok (.aload_n 0, 1) := by decide +kernel
theorem d_GraphSearch_stands_38 : decode b_GraphSearch_stands 38 = .ok (.getfield 39, 3) := by decide +kernel
theorem d_GraphSearch_stands_41 : decode b_GraphSearch_stands 41 = .ok (.aload_n 0, 1) := by decide +kernel
theorem d_GraphSearch_stands_42 : decode b_GraphSearch_stands 42 = .ok (.getfield 190, 3) := by decide +kernel
theorem d_GraphSearch_stands_45 : decode b_GraphSearch_stands 45 = .ok (.invokevirtual 218, 3) := by decide +kernel
theorem d_GraphSearch_stands_48 : decode b_GraphSearch_stands 48 = .ok (.ireturn, 1) := by decide +kernel
theorem d_GraphSearch_stands_49 : decode b_GraphSearch_stands 49 = .ok (.aload_n 0, 1) := by decide +kernel
theorem d_GraphSearch_stands_50 : decode b_GraphSearch_stands 50 = .ok (.invokevirtual 222, 3) := by decide +kernel
theorem d_GraphSearch_stands_53 : decode b_GraphSearch_stands 53 = .ok (.ireturn, 1) := by decide +kernel
theorem d_GraphSearch_stands_54 : decode b_GraphSearch_stands 54 = .ok (.aload_n 0, 1) := by decide +kernel
theorem d_GraphSearch_stands_55 : decode b_GraphSearch_stands 55 = .ok (.invokevirtual 225, 3) := by decide +kernel
theorem d_GraphSearch_stands_58 : decode b_GraphSearch_stands 58 = .ok (.aload_n 0, 1) := by decide +kernel
theorem d_GraphSearch_stands_59 : decode b_GraphSearch_stands 59 = .ok (.aload_n 0, 1) := by decide +kernel
theorem d_GraphSearch_stands_60 : decode b_GraphSearch_stands 60 = .ok (.getfield 24, 3) := by decide +kernel
theorem d_GraphSearch_stands_63 : decode b_GraphSearch_stands 63 = .ok (.aload_n 0, 1) := by decide +kernel
theorem d_GraphSearch_stands_64 : decode b_GraphSearch_stands 64 = .ok (.getfield 39, 3) := by decide +kernel
theorem d_GraphSearch_stands_67 : decode b_GraphSearch_stands 67 = .ok (.aload_n 0, 1) := by decide +kernel
theorem d_GraphSearch_stands_68 : decode b_GraphSearch_stands 68 = .ok (.getfield 190, 3) := by decide +kernel
theorem d_GraphSearch_stands_71 : decode b_GraphSearch_stands 71 = .ok (.aload_n 0, 1) := by decide +kernel
theorem d_GraphSearch_stands_72 : decode b_GraphSearch_stands 72 = .ok (.getfield 48, 3) := by decide +kernel
theorem d_GraphSearch_stands_75 : decode b_GraphSearch_stands 75 = .ok (.getfield 187, 3) := by decide +kernel
theorem d_GraphSearch_stands_78 : decode b_GraphSearch_stands 78 = .ok (.iconst 4, 1) := by decide +kernel
theorem d_GraphSearch_stands_79 : decode b_GraphSearch_stands 79 = .ok (.iaload, 1) := by decide +kernel
theorem d_GraphSearch_stands_80 : decode b_GraphSearch_stands 80 = .ok (.iconst (-1), 1) := by decide +kernel
theorem d_GraphSearch_stands_81 : decode b_GraphSearch_stands 81 = .ok (.ixor, 1) := by decide +kernel
theorem d_GraphSearch_stands_82 : decode b_GraphSearch_stands 82 = .ok (.iand, 1) := by decide +kernel
theorem d_GraphSearch_stands_83 : decode b_GraphSearch_stands 83 = .ok (.invokevirtual 218, 3) := by decide +kernel
theorem d_GraphSearch_stands_86 : decode b_GraphSearch_stands 86 = .ok (.ifCond .eq 26, 3) := by decide +kernel
theorem d_GraphSearch_stands_89 : decode b_GraphSearch_stands 89 = .ok (.aload_n 0, 1) := by decide +kernel
theorem d_GraphSearch_stands_90 : decode b_GraphSearch_stands 90 = .ok (.aload_n 0, 1) := by decide +kernel
theorem d_GraphSearch_stands_91 : decode b_GraphSearch_stands 91 = .ok (.getfield 27, 3) := by decide +kernel
theorem d_GraphSearch_stands_94 : decode b_GraphSearch_stands 94 = .ok (.aload_n 0, 1) := by decide +kernel
theorem d_GraphSearch_stands_95 : decode b_GraphSearch_stands 95 = .ok (.getfield 42, 3) := by decide +kernel
theorem d_GraphSearch_stands_98 : decode b_GraphSearch_stands 98 = .ok (.aload_n 0, 1) := by decide +kernel
theorem d_GraphSearch_stands_99 : decode b_GraphSearch_stands 99 = .ok (.getfield 190, 3) := by decide +kernel
theorem d_GraphSearch_stands_102 : decode b_GraphSearch_stands 102 = .ok (.invokevirtual 218, 3) := by decide +kernel
theorem d_GraphSearch_stands_105 : decode b_GraphSearch_stands 105 = .ok (.ifCond .eq 7, 3) := by decide +kernel
theorem d_GraphSearch_stands_108 : decode b_GraphSearch_stands 108 = .ok (.iconst 1, 1) := by decide +kernel
theorem d_GraphSearch_stands_109 : decode b_GraphSearch_stands 109 = .ok (.goto 4, 3) := by decide +kernel
theorem d_GraphSearch_stands_112 : decode b_GraphSearch_stands 112 = .ok (.iconst 0, 1) := by decide +kernel
theorem d_GraphSearch_stands_113 : decode b_GraphSearch_stands 113 = .ok (.ireturn, 1) := by decide +kernel
theorem d_GraphSearch_tellOuter_0 : decode b_GraphSearch_tellOuter 0 = .ok (.iconst 0, 1) := by decide +kernel
theorem d_GraphSearch_tellOuter_1 : decode b_GraphSearch_tellOuter 1 = .ok (.istore_n 1, 1) := by decide +kernel
theorem d_GraphSearch_tellOuter_2 : decode b_GraphSearch_tellOuter 2 = .ok (.iload_n 1, 1) := by decide +kernel
theorem d_GraphSearch_tellOuter_3 : decode b_GraphSearch_tellOuter 3 = .ok (.aload_n 0, 1) := by decide +kernel
theorem d_GraphSearch_tellOuter_4 : decode b_GraphSearch_tellOuter 4 = .ok (.getfield 48, 3) := by decide +kernel
theorem d_GraphSearch_tellOuter_7 : decode b_GraphSearch_tellOuter 7 = .ok (.getfield 78, 3) := by decide +kernel
theorem d_GraphSearch_tellOuter_10 : decode b_GraphSearch_tellOuter 10 = .ok (.if_icmp .ge 72, 3) := by decide +kernel
theorem d_GraphSearch_tellOuter_13 : decode b_GraphSearch_tellOuter 13 = .ok (.aload_n 0, 1) := by decide +kernel
theorem d_GraphSearch_tellOuter_14 : decode b_GraphSearch_tellOuter 14 = .ok (.getfield 48, 3) := by decide +kernel
theorem d_GraphSearch_tellOuter_17 : decode b_GraphSearch_tellOuter 17 = .ok (.getfield 90, 3) := by decide +kernel
theorem d_GraphSearch_tellOuter_20 : decode b_GraphSearch_tellOuter 20 = .ok (.iload_n 1, 1) := by decide +kernel
theorem d_GraphSearch_tellOuter_21 : decode b_GraphSearch_tellOuter 21 = .ok (.iaload, 1) := by decide +kernel
theorem d_GraphSearch_tellOuter_22 : decode b_GraphSearch_tellOuter 22 = .ok (.ifCond .ne 7, 3) := by decide +kernel
theorem d_GraphSearch_tellOuter_25 : decode b_GraphSearch_tellOuter 25 = .ok (.iconst 1, 1) := by decide +kernel
theorem d_GraphSearch_tellOuter_26 : decode b_GraphSearch_tellOuter 26 = .ok (.goto 4, 3) := by decide +kernel
theorem d_GraphSearch_tellOuter_29 : decode b_GraphSearch_tellOuter 29 = .ok (.iconst 0, 1) := by decide +kernel
theorem d_GraphSearch_tellOuter_30 : decode b_GraphSearch_tellOuter 30 = .ok (.istore_n 2, 1) := by decide +kernel
theorem d_GraphSearch_tellOuter_31 : decode b_GraphSearch_tellOuter 31 = .ok (.aload_n 0, 1) := by decide +kernel
theorem d_GraphSearch_tellOuter_32 : decode b_GraphSearch_tellOuter 32 = .ok (.getfield 42, 3) := by decide +kernel
theorem d_GraphSearch_tellOuter_35 : decode b_GraphSearch_tellOuter 35 = .ok (.iload_n 1, 1) := by decide +kernel
theorem d_GraphSearch_tellOuter_36 : decode b_GraphSearch_tellOuter 36 = .ok (.iload_n 2, 1) := by decide +kernel
theorem d_GraphSearch_tellOuter_37 : decode b_GraphSearch_tellOuter 37 = .ok (.ifCond .eq 32, 3) := by decide +kernel
theorem d_GraphSearch_tellOuter_40 : decode b_GraphSearch_tellOuter 40 = .ok (.aload_n 0, 1) := by decide +kernel
theorem d_GraphSearch_tellOuter_41 : decode b_GraphSearch_tellOuter 41 = .ok (.getfield 39, 3) := by decide +kernel
theorem d_GraphSearch_tellOuter_44 : decode b_GraphSearch_tellOuter 44 = .ok (.iload_n 1, 1) := by decide +kernel
theorem d_GraphSearch_tellOuter_45 : decode b_GraphSearch_tellOuter 45 = .ok (.iaload, 1) := by decide +kernel
theorem d_GraphSearch_tellOuter_46 : decode b_GraphSearch_tellOuter 46 = .ok (.aload_n 0, 1) := by decide +kernel
theorem d_GraphSearch_tellOuter_47 : decode b_GraphSearch_tellOuter 47 = .ok (.getfield 48, 3) := by decide +kernel
theorem d_GraphSearch_tellOuter_50 : decode b_GraphSearch_tellOuter 50 = .ok (.getfield 228, 3) := by decide +kernel
theorem d_GraphSearch_tellOuter_53 : decode b_GraphSearch_tellOuter 53 = .ok (.aload_n 0, 1) := by decide +kernel
theorem d_GraphSearch_tellOuter_54 : decode b_GraphSearch_tellOuter 54 = .ok (.getfield 48, 3) := by decide +kernel
theorem d_GraphSearch_tellOuter_57 : decode b_GraphSearch_tellOuter 57 = .ok (.getfield 153, 3) := by decide +kernel
theorem d_GraphSearch_tellOuter_60 : decode b_GraphSearch_tellOuter 60 = .ok (.iload_n 1, 1) := by decide +kernel
theorem d_GraphSearch_tellOuter_61 : decode b_GraphSearch_tellOuter 61 = .ok (.iaload, 1) := by decide +kernel
theorem d_GraphSearch_tellOuter_62 : decode b_GraphSearch_tellOuter 62 = .ok (.iaload, 1) := by decide +kernel
theorem d_GraphSearch_tellOuter_63 : decode b_GraphSearch_tellOuter 63 = .ok (.iconst (-1), 1) := by decide +kernel
theorem d_GraphSearch_tellOuter_64 : decode b_GraphSearch_tellOuter 64 = .ok (.ixor, 1) := by decide +kernel
theorem d_GraphSearch_tellOuter_65 : decode b_GraphSearch_tellOuter 65 = .ok (.iand, 1) := by decide +kernel
theorem d_GraphSearch_tellOuter_66 : decode b_GraphSearch_tellOuter 66 = .ok (.goto 9, 3) := by decide +kernel
theorem d_GraphSearch_tellOuter_69 : decode b_GraphSearch_tellOuter 69 = .ok (.aload_n 0, 1) := by decide +kernel
theorem d_GraphSearch_tellOuter_70 : decode b_GraphSearch_tellOuter 70 = .ok (.getfield 39, 3) := by decide +kernel
theorem d_GraphSearch_tellOuter_73 : decode b_GraphSearch_tellOuter 73 = .ok (.iload_n 1, 1) := by decide +kernel
theorem d_GraphSearch_tellOuter_74 : decode b_GraphSearch_tellOuter 74 = .ok (.iaload, 1) := by decide +kernel
theorem d_GraphSearch_tellOuter_75 : decode b_GraphSearch_tellOuter 75 = .ok (.iastore, 1) := by decide +kernel
theorem d_GraphSearch_tellOuter_76 : decode b_GraphSearch_tellOuter 76 = .ok (.iinc 1 1, 3) := by decide +kernel
theorem d_GraphSearch_tellOuter_79 : decode b_GraphSearch_tellOuter 79 = .ok (.goto (-77), 3) := by decide +kernel
theorem d_GraphSearch_tellOuter_82 : decode b_GraphSearch_tellOuter 82 = .ok (.return_, 1) := by decide +kernel
theorem d_GraphSearch_hasNoRing_0 : decode b_GraphSearch_hasNoRing 0 = .ok (.iload_n 3, 1) := by decide +kernel
theorem d_GraphSearch_hasNoRing_1 : decode b_GraphSearch_hasNoRing 1 = .ok (.istore 4, 2) := by decide +kernel
theorem d_GraphSearch_hasNoRing_3 : decode b_GraphSearch_hasNoRing 3 = .ok (.iconst 0, 1) := by decide +kernel
theorem d_GraphSearch_hasNoRing_4 : decode b_GraphSearch_hasNoRing 4 = .ok (.istore 5, 2) := by decide +kernel
theorem d_GraphSearch_hasNoRing_6 : decode b_GraphSearch_hasNoRing 6 = .ok (.iload 5, 2) := by decide +kernel
theorem d_GraphSearch_hasNoRing_8 : decode b_GraphSearch_hasNoRing 8 = .ok (.bipush 7, 2) := by decide +kernel
theorem d_GraphSearch_hasNoRing_10 : decode b_GraphSearch_hasNoRing 10 = .ok (.if_icmp .ge 61, 3) := by decide +kernel
theorem d_GraphSearch_hasNoRing_13 : decode b_GraphSearch_hasNoRing 13 = .ok (.iload 4, 2) := by decide +kernel
theorem d_GraphSearch_hasNoRing_15 : decode b_GraphSearch_hasNoRing 15 = .ok (.ifCond .eq 56, 3) := by decide +kernel
theorem d_GraphSearch_hasNoRing_18 : decode b_GraphSearch_hasNoRing 18 = .ok (.iconst 0, 1) := by decide +kernel
theorem d_GraphSearch_hasNoRing_19 : decode b_GraphSearch_hasNoRing 19 = .ok (.istore 6, 2) := by decide +kernel
theorem d_GraphSearch_hasNoRing_21 : decode b_GraphSearch_hasNoRing 21 = .ok (.iload 6, 2) := by decide +kernel
theorem d_GraphSearch_hasNoRing_23 : decode b_GraphSearch_hasNoRing 23 = .ok (.aload_n 0, 1) := by decide +kernel
theorem d_GraphSearch_hasNoRing_24 : decode b_GraphSearch_hasNoRing 24 = .ok (.getfield 48, 3) := by decide +kernel
theorem d_GraphSearch_hasNoRing_27 : decode b_GraphSearch_hasNoRing 27 = .ok (.getfield 78, 3) := by decide +kernel
theorem d_GraphSearch_hasNoRing_30 : decode b_GraphSearch_hasNoRing 30 = .ok (.if_icmp .ge 35, 3) := by decide +kernel
theorem d_GraphSearch_hasNoRing_33 : decode b_GraphSearch_hasNoRing 33 = .ok (.aload_n 1, 1) := by decide +kernel
theorem d_GraphSearch_hasNoRing_34 : decode b_GraphSearch_hasNoRing 34 = .ok (.iload 6, 2) := by decide +kernel
theorem d_GraphSearch_hasNoRing_36 : decode b_GraphSearch_hasNoRing 36 = .ok (.iaload, 1) := by decide +kernel
theorem d_GraphSearch_hasNoRing_37 : decode b_GraphSearch_hasNoRing 37 = .ok (.aload_n 2, 1) := by decide +kernel
theorem d_GraphSearch_hasNoRing_38 : decode b_GraphSearch_hasNoRing 38 = .ok (.iload 6, 2) := by decide +kernel
theorem d_GraphSearch_hasNoRing_40 : decode b_GraphSearch_hasNoRing 40 = .ok (.iaload, 1) := by decide +kernel
theorem d_GraphSearch_hasNoRing_41 : decode b_GraphSearch_hasNoRing 41 = .ok (.ior, 1) := by decide +kernel
theorem d_GraphSearch_hasNoRing_42 : decode b_GraphSearch_hasNoRing 42 = .ok (.iload 4, 2) := by decide +kernel
theorem d_GraphSearch_hasNoRing_44 : decode b_GraphSearch_hasNoRing 44 = .ok (.iand, 1) := by decide +kernel
theorem d_GraphSearch_hasNoRing_45 : decode b_GraphSearch_hasNoRing 45 = .ok (.ifCond .ne 14, 3) := by decide +kernel
theorem d_GraphSearch_hasNoRing_48 : decode b_GraphSearch_hasNoRing 48 = .ok (.iload 4, 2) := by decide +kernel
theorem d_GraphSearch_hasNoRing_50 : decode b_GraphSearch_hasNoRing 50 = .ok (.iconst 1, 1) := by decide +kernel
theorem d_GraphSearch_hasNoRing_51 : decode b_GraphSearch_hasNoRing 51 = .ok (.iload 6, 2) := by decide +kernel
theorem d_GraphSearch_hasNoRing_53 : decode b_GraphSearch_hasNoRing 53 = .ok (.ishl, 1) := by decide +kernel
theorem d_GraphSearch_hasNoRing_54 : decode b_GraphSearch_hasNoRing 54 = .ok (.iconst (-1), 1) := by decide +kernel
theorem d_GraphSearch_hasNoRing_55 : decode b_GraphSearch_hasNoRing 55 = .ok (.ixor, 1) := by decide +kernel
theorem d_GraphSearch_hasNoRing_56 : decode b_GraphSearch_hasNoRing 56 = .ok (.iand, 1) := by decide +kernel
theorem d_GraphSearch_hasNoRing_57 : decode b_GraphSearch_hasNoRing 57 = .ok (.istore 4, 2) := by decide +kernel
theorem d_GraphSearch_hasNoRing_59 : decode b_GraphSearch_hasNoRing 59 = .ok (.iinc 6 1, 3) := by decide +kernel
theorem d_GraphSearch_hasNoRing_62 : decode b_GraphSearch_hasNoRing 62 = .ok (.goto (-41), 3) := by decide +kernel
theorem d_GraphSearch_hasNoRing_65 : decode b_GraphSearch_hasNoRing 65 = .ok (.iinc 5 1, 3) := by decide +kernel
theorem d_GraphSearch_hasNoRing_68 : decode b_GraphSearch_hasNoRing 68 = .ok (.goto (-62), 3) := by decide +kernel
theorem d_GraphSearch_hasNoRing_71 : decode b_GraphSearch_hasNoRing 71 = .ok (.iload 4, 2) := by decide +kernel
theorem d_GraphSearch_hasNoRing_73 : decode b_GraphSearch_hasNoRing 73 = .ok (.ifCond .ne 7, 3) := by decide +kernel
theorem d_GraphSearch_hasNoRing_76 : decode b_GraphSearch_hasNoRing 76 = .ok (.iconst 1, 1) := by decide +kernel
theorem d_GraphSearch_hasNoRing_77 : decode b_GraphSearch_hasNoRing 77 = .ok (.goto 4, 3) := by decide +kernel
theorem d_GraphSearch_hasNoRing_80 : decode b_GraphSearch_hasNoRing 80 = .ok (.iconst 0, 1) := by decide +kernel
theorem d_GraphSearch_hasNoRing_81 : decode b_GraphSearch_hasNoRing 81 = .ok (.ireturn, 1) := by decide +kernel
theorem d_GraphSearch_closeHappens_0 : decode b_GraphSearch_closeHappens 0 = .ok (.iconst 0, 1) := by decide +kernel
theorem d_GraphSearch_closeHappens_1 : decode b_GraphSearch_closeHappens 1 = .ok (.istore_n 1, 1) := by decide +kernel
theorem d_GraphSearch_closeHappens_2 : decode b_GraphSearch_closeHappens 2 = .ok (.iload_n 1, 1) := by decide +kernel
theorem d_GraphSearch_closeHappens_3 : decode b_GraphSearch_closeHappens 3 = .ok (.aload_n 0, 1) := by decide +kernel
theorem d_GraphSearch_closeHappens_4 : decode b_GraphSearch_closeHappens 4 = .ok (.getfield 48, 3) := by decide +kernel
theorem d_GraphSearch_closeHappens_7 : decode b_GraphSearch_closeHappens 7 = .ok (.getfield 78, 3) := by decide +kernel
theorem d_GraphSearch_closeHappens_10 : decode b_GraphSearch_closeHappens 10 = .ok (.if_icmp .ge 88, 3) := by decide +kernel
theorem d_GraphSearch_closeHappens_13 : decode b_GraphSearch_closeHappens 13 = .ok (.aload_n 0, 1) := by decide +kernel
theorem d_GraphSearch_closeHappens_14 : decode b_GraphSearch_closeHappens 14 = .ok (.getfield 45, 3) := by decide +kernel
theorem d_GraphSearch_closeHappens_17 : decode b_GraphSearch_closeHappens 17 = .ok (.iload_n 1, 1) := by decide +kernel
theorem d_GraphSearch_closeHappens_18 : decode b_GraphSearch_closeHappens 18 = .ok (.aload_n 0, 1) := by decide +kernel
theorem d_GraphSearch_closeHappens_19 : decode b_GraphSearch_closeHappens 19 = .ok (.getfield 48, 3) := by decide +kernel
theorem d_GraphSearch_closeHappens_22 : decode b_GraphSearch_closeHappens 22 = .ok (.iload_n 1, 1) := by decide +kernel
theorem d_GraphSearch_closeHappens_23 : decode b_GraphSearch_closeHappens 23 = .ok (.invokevirtual 178, 3) := by decide +kernel
theorem d_GraphSearch_closeHappens_26 : decode b_GraphSearch_closeHappens 26 = .ok (.aload_n 0, 1) := by decide +kernel
theorem d_GraphSearch_closeHappens_27 : decode b_GraphSearch_closeHappens 27 = .ok (.getfield 190, 3) := by decide +kernel
theorem d_GraphSearch_closeHappens_30 : decode b_GraphSearch_closeHappens 30 = .ok (.iand, 1) := by decide +kernel
theorem d_GraphSearch_closeHappens_31 : decode b_GraphSearch_closeHappens 31 = .ok (.aload_n 0, 1) := by decide +kernel
theorem d_GraphSearch_closeHappens_32 : decode b_GraphSearch_closeHappens 32 = .ok (.getfield 30, 3) := by decide +kernel
theorem d_GraphSearch_closeHappens_35 : decode b_GraphSearch_closeHappens 35 = .ok (.iload_n 1, 1) := by decide +kernel
theorem d_GraphSearch_closeHappens_36 : decode b_GraphSearch_closeHappens 36 = .ok (.iconst 1, 1) := by decide +kernel
theorem d_GraphSearch_closeHappens_37 : decode b_GraphSearch_closeHappens 37 = .ok (.iadd, 1) := by decide +kernel
theorem d_GraphSearch_closeHappens_38 : decode b_GraphSearch_closeHappens 38 = .ok (.iaload, 1) := by decide +kernel
theorem d_GraphSearch_closeHappens_39 : decode b_GraphSearch_closeHappens 39 = .ok (.ior, 1) := by decide +kernel
theorem d_GraphSearch_closeHappens_40 : decode b_GraphSearch_closeHappens 40 = .ok (.iastore, 1) := by decide +kernel
theorem d_GraphSearch_closeHappens_41 : decode b_GraphSearch_closeHappens 41 = .ok (.aload_n 0, 1) := by decide +kernel
theorem d_GraphSearch_closeHappens_42 : decode b_GraphSearch_closeHappens 42 = .ok (.getfield 48, 3) := by decide +kernel
theorem d_GraphSearch_closeHappens_45 : decode b_GraphSearch_closeHappens 45 = .ok (.getfield 90, 3) := by decide +kernel
theorem d_GraphSearch_closeHappens_48 : decode b_GraphSearch_closeHappens 48 = .ok (.iload_n 1, 1) := by decide +kernel
theorem d_GraphSearch_closeHappens_49 : decode b_GraphSearch_closeHappens 49 = .ok (.iaload, 1) := by decide +kernel
theorem d_GraphSearch_closeHappens_50 : decode b_GraphSearch_closeHappens 50 = .ok (.iconst 4, 1) := by decide +kernel
theorem d_GraphSearch_closeHappens_51 : decode b_GraphSearch_closeHappens 51 = .ok (.if_icmp .ne 41, 3) := by decide +kernel
theorem d_GraphSearch_closeHappens_54 : decode b_GraphSearch_closeHappens 54 = .ok (.aload_n 0, 1) := by decide +kernel
theorem d_GraphSearch_closeHappens_55 : decode b_GraphSearch_closeHappens 55 = .ok (.getfield 39, 3) := by decide +kernel
theorem d_GraphSearch_closeHappens_58 : decode b_GraphSearch_closeHappens 58 = .ok (.iload_n 1, 1) := by decide +kernel
theorem d_GraphSearch_closeHappens_59 : decode b_GraphSearch_closeHappens 59 = .ok (.iaload, 1) := by decide +kernel
theorem d_GraphSearch_closeHappens_60 : decode b_GraphSearch_closeHappens 60 = .ok (.iconst 1, 1) := by decide +kernel
theorem d_GraphSearch_closeHappens_61 : decode b_GraphSearch_closeHappens 61 = .ok (.iload_n 1, 1) := by decide +kernel
theorem d_GraphSearch_closeHappens_62 : decode b_GraphSearch_closeHappens 62 = .ok (.ishl, 1) := by decide +kernel
theorem d_GraphSearch_closeHappens_63 : decode b_GraphSearch_closeHappens 63 = .ok (.ior, 1) := by decide +kernel
theorem d_GraphSearch_closeHappens_64 : decode b_GraphSearch_closeHappens 64 = .ok (.istore_n 2, 1) := by decide +kernel
theorem d_GraphSearch_closeHappens_65 : decode b_GraphSearch_closeHappens 65 = .ok (.aload_n 0, 1) := by decide +kernel
theorem d_GraphSearch_closeHappens_66 : decode b_GraphSearch_closeHappens 66 = .ok (.getfield 45, 3) := by decide +kernel
theorem d_GraphSearch_closeHappens_69 : decode b_GraphSearch_closeHappens 69 = .ok (.iload_n 1, 1) := by decide +kernel
theorem d_GraphSearch_closeHappens_70 : decode b_GraphSearch_closeHappens 70 = .ok (.dup2, 1) := by decide +kernel
theorem d_GraphSearch_closeHappens_71 : decode b_GraphSearch_closeHappens 71 = .ok (.iaload, 1) := by decide +kernel
theorem d_GraphSearch_closeHappens_72 : decode b_GraphSearch_closeHappens 72 = .ok (.aload_n 0, 1) := by decide +kernel
theorem d_GraphSearch_closeHappens_73 : decode b_GraphSearch_closeHappens 73 = .ok (.getfield 190, 3) := by decide +kernel
theorem d_GraphSearch_closeHappens_76 : decode b_GraphSearch_closeHappens 76 = .ok (.aload_n 0, 1) := by decide +kernel
theorem d_GraphSearch_closeHappens_77 : decode b_GraphSearch_closeHappens 77 = .ok (.getfield 48, 3) := by decide +kernel
theorem d_GraphSearch_closeHappens_80 : decode b_GraphSearch_closeHappens 80 = .ok (.getfield 187, 3) := by decide +kernel
theorem d_GraphSearch_closeHappens_83 : decode b_GraphSearch_closeHappens 83 = .ok (.iconst 4, 1) := by decide +kernel
theorem d_GraphSearch_closeHappens_84 : decode b_GraphSearch_closeHappens 84 = .ok (.iaload, 1) := by decide +kernel
theorem d_GraphSearch_closeHappens_85 : decode b_GraphSearch_closeHappens 85 = .ok (.iand, 1) := by decide +kernel
theorem d_GraphSearch_closeHappens_86 : decode b_GraphSearch_closeHappens 86 = .ok (.iload_n 2, 1) := by decide +kernel
theorem d_GraphSearch_closeHappens_87 : decode b_GraphSearch_closeHappens 87 = .ok (.iconst (-1), 1) := by decide +kernel
theorem d_GraphSearch_closeHappens_88 : decode b_GraphSearch_closeHappens 88 = .ok (.ixor, 1) := by decide +kernel
theorem d_GraphSearch_closeHappens_89 : decode b_GraphSearch_closeHappens 89 = .ok (.iand, 1) := by decide +kernel
theorem d_GraphSearch_closeHappens_90 : decode b_GraphSearch_closeHappens 90 = .ok (.ior, 1) := by decide +kernel
