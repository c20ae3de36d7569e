theorem d_law_law_218 : decode code 218 = .ok (.iaload, 1) := by decide +kernel
theorem d_law_law_219 : decode code 219 = .ok (.aload_n 0, 1) := by decide +kernel
theorem d_law_law_220 : decode code 220 = .ok (.iload_n 3, 1) := by decide +kernel
theorem d_law_law_221 : decode code 221 = .ok (.iconst 3, 1) := by decide +kernel
theorem d_law_law_222 : decode code 222 = .ok (.iadd, 1) := by decide +kernel
theorem d_law_law_223 : decode code 223 = .ok (.iaload, 1) := by decide +kernel
theorem d_law_law_224 : decode code 224 = .ok (.invokevirtual 32, 3) := by decide +kernel
theorem d_law_law_227 : decode code 227 = .ok (.aload_n 2, 1) := by decide +kernel
theorem d_law_law_228 : decode code 228 = .ok (.aload_n 0, 1) := by decide +kernel
theorem d_law_law_229 : decode code 229 = .ok (.iload_n 3, 1) := by decide +kernel
theorem d_law_law_230 : decode code 230 = .ok (.iconst 1, 1) := by decide +kernel
theorem d_law_law_231 : decode code 231 = .ok (.iadd, 1) := by decide +kernel
theorem d_law_law_232 : decode code 232 = .ok (.iaload, 1) := by decide +kernel
theorem d_law_law_233 : decode code 233 = .ok (.aload_n 0, 1) := by decide +kernel
theorem d_law_law_234 : decode code 234 = .ok (.iload_n 3, 1) := by decide +kernel
theorem d_law_law_235 : decode code 235 = .ok (.iconst 2, 1) := by decide +kernel
theorem d_law_law_236 : decode code 236 = .ok (.iadd, 1) := by decide +kernel
theorem d_law_law_237 : decode code 237 = .ok (.iaload, 1) := by decide +kernel
theorem d_law_law_238 : decode code 238 = .ok (.aload_n 0, 1) := by decide +kernel
theorem d_law_law_239 : decode code 239 = .ok (.iload_n 3, 1) := by decide +kernel
theorem d_law_law_240 : decode code 240 = .ok (.iconst 3, 1) := by decide +kernel
theorem d_law_law_241 : decode code 241 = .ok (.iadd, 1) := by decide +kernel
theorem d_law_law_242 : decode code 242 = .ok (.iaload, 1) := by decide +kernel
theorem d_law_law_243 : decode code 243 = .ok (.invokevirtual 36, 3) := by decide +kernel
theorem d_law_law_246 : decode code 246 = .ok (.if_icmp .eq 236, 3) := by decide +kernel
theorem d_law_law_249 : decode code 249 = .ok (.iconst 0, 1) := by decide +kernel
theorem d_law_law_250 : decode code 250 = .ok (.ireturn, 1) := by decide +kernel
theorem d_law_law_251 : decode code 251 = .ok (.aload_n 1, 1) := by decide +kernel
theorem d_law_law_252 : decode code 252 = .ok (.aload_n 0, 1) := by decide +kernel
theorem d_law_law_253 : decode code 253 = .ok (.iload_n 3, 1) := by decide +kernel
theorem d_law_law_254 : decode code 254 = .ok (.iconst 1, 1) := by decide +kernel
theorem d_law_law_255 : decode code 255 = .ok (.iadd, 1) := by decide +kernel
theorem d_law_law_256 : decode code 256 = .ok (.iaload, 1) := by decide +kernel
theorem d_law_law_257 : decode code 257 = .ok (.aload_n 0, 1) := by decide +kernel
theorem d_law_law_258 : decode code 258 = .ok (.iload_n 3, 1) := by decide +kernel
theorem d_law_law_259 : decode code 259 = .ok (.iconst 2, 1) := by decide +kernel
theorem d_law_law_260 : decode code 260 = .ok (.iadd, 1) := by decide +kernel
theorem d_law_law_261 : decode code 261 = .ok (.iaload, 1) := by decide +kernel
theorem d_law_law_262 : decode code 262 = .ok (.aload_n 0, 1) := by decide +kernel
theorem d_law_law_263 : decode code 263 = .ok (.iload_n 3, 1) := by decide +kernel
theorem d_law_law_264 : decode code 264 = .ok (.iconst 3, 1) := by decide +kernel
theorem d_law_law_265 : decode code 265 = .ok (.iadd, 1) := by decide +kernel
theorem d_law_law_266 : decode code 266 = .ok (.iaload, 1) := by decide +kernel
theorem d_law_law_267 : decode code 267 = .ok (.invokevirtual 37, 3) := by decide +kernel
theorem d_law_law_270 : decode code 270 = .ok (.aload_n 2, 1) := by decide +kernel
theorem d_law_law_271 : decode code 271 = .ok (.aload_n 0, 1) := by decide +kernel
theorem d_law_law_272 : decode code 272 = .ok (.iload_n 3, 1) := by decide +kernel
theorem d_law_law_273 : decode code 273 = .ok (.iconst 1, 1) := by decide +kernel
theorem d_law_law_274 : decode code 274 = .ok (.iadd, 1) := by decide +kernel
theorem d_law_law_275 : decode code 275 = .ok (.iaload, 1) := by decide +kernel
theorem d_law_law_276 : decode code 276 = .ok (.aload_n 0, 1) := by decide +kernel
theorem d_law_law_277 : decode code 277 = .ok (.iload_n 3, 1) := by decide +kernel
theorem d_law_law_278 : decode code 278 = .ok (.iconst 2, 1) := by decide +kernel
theorem d_law_law_279 : decode code 279 = .ok (.iadd, 1) := by decide +kernel
theorem d_law_law_280 : decode code 280 = .ok (.iaload, 1) := by decide +kernel
theorem d_law_law_281 : decode code 281 = .ok (.aload_n 0, 1) := by decide +kernel
theorem d_law_law_282 : decode code 282 = .ok (.iload_n 3, 1) := by decide +kernel
theorem d_law_law_283 : decode code 283 = .ok (.iconst 3, 1) := by decide +kernel
theorem d_law_law_284 : decode code 284 = .ok (.iadd, 1) := by decide +kernel
theorem d_law_law_285 : decode code 285 = .ok (.iaload, 1) := by decide +kernel
