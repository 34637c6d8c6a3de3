theorem dl_231 : decode code 231 = .ok (.aload_n 0, 1) := by decide +kernel
theorem dl_232 : decode code 232 = .ok (.iload_n 3, 1) := by decide +kernel
theorem dl_233 : decode code 233 = .ok (.iconst 5, 1) := by decide +kernel
theorem dl_234 : decode code 234 = .ok (.iadd, 1) := by decide +kernel
theorem dl_235 : decode code 235 = .ok (.iaload, 1) := by decide +kernel
theorem dl_236 : decode code 236 = .ok (.invokevirtual 33, 3) := by decide +kernel
theorem dl_239 : decode code 239 = .ok (.aload_n 2, 1) := by decide +kernel
theorem dl_240 : decode code 240 = .ok (.aload_n 0, 1) := by decide +kernel
theorem dl_241 : decode code 241 = .ok (.iload_n 3, 1) := by decide +kernel
theorem dl_242 : decode code 242 = .ok (.iconst 1, 1) := by decide +kernel
theorem dl_243 : decode code 243 = .ok (.iadd, 1) := by decide +kernel
theorem dl_244 : decode code 244 = .ok (.iaload, 1) := by decide +kernel
theorem dl_245 : decode code 245 = .ok (.aload_n 0, 1) := by decide +kernel
theorem dl_246 : decode code 246 = .ok (.iload_n 3, 1) := by decide +kernel
theorem dl_247 : decode code 247 = .ok (.iconst 2, 1) := by decide +kernel
theorem dl_248 : decode code 248 = .ok (.iadd, 1) := by decide +kernel
theorem dl_249 : decode code 249 = .ok (.iaload, 1) := by decide +kernel
theorem dl_250 : decode code 250 = .ok (.i2l, 1) := by decide +kernel
theorem dl_251 : decode code 251 = .ok (.bipush 32, 2) := by decide +kernel
theorem dl_253 : decode code 253 = .ok (.lshl, 1) := by decide +kernel
theorem dl_254 : decode code 254 = .ok (.aload_n 0, 1) := by decide +kernel
theorem dl_255 : decode code 255 = .ok (.iload_n 3, 1) := by decide +kernel
theorem dl_256 : decode code 256 = .ok (.iconst 3, 1) := by decide +kernel
theorem dl_257 : decode code 257 = .ok (.iadd, 1) := by decide +kernel
theorem dl_258 : decode code 258 = .ok (.iaload, 1) := by decide +kernel
theorem dl_259 : decode code 259 = .ok (.i2l, 1) := by decide +kernel
theorem dl_260 : decode code 260 = .ok (.ldc2_w 31, 3) := by decide +kernel
theorem dl_263 : decode code 263 = .ok (.land, 1) := by decide +kernel
theorem dl_264 : decode code 264 = .ok (.lor, 1) := by decide +kernel
theorem dl_265 : decode code 265 = .ok (.aload_n 0, 1) := by decide +kernel
theorem dl_266 : decode code 266 = .ok (.iload_n 3, 1) := by decide +kernel
theorem dl_267 : decode code 267 = .ok (.iconst 4, 1) := by decide +kernel
theorem dl_268 : decode code 268 = .ok (.iadd, 1) := by decide +kernel
theorem dl_269 : decode code 269 = .ok (.iaload, 1) := by decide +kernel
theorem dl_270 : decode code 270 = .ok (.aload_n 0, 1) := by decide +kernel
theorem dl_271 : decode code 271 = .ok (.iload_n 3, 1) := by decide +kernel
theorem dl_272 : decode code 272 = .ok (.iconst 5, 1) := by decide +kernel
theorem dl_273 : decode code 273 = .ok (.iadd, 1) := by decide +kernel
theorem dl_274 : decode code 274 = .ok (.iaload, 1) := by decide +kernel
theorem dl_275 : decode code 275 = .ok (.invokevirtual 37, 3) := by decide +kernel
theorem dl_278 : decode code 278 = .ok (.if_icmp .eq 578, 3) := by decide +kernel
theorem dl_281 : decode code 281 = .ok (.iconst 0, 1) := by decide +kernel
theorem dl_282 : decode code 282 = .ok (.ireturn, 1) := by decide +kernel
theorem dl_283 : decode code 283 = .ok (.aload_n 1, 1) := by decide +kernel
theorem dl_284 : decode code 284 = .ok (.aload_n 0, 1) := by decide +kernel
theorem dl_285 : decode code 285 = .ok (.iload_n 3, 1) := by decide +kernel
theorem dl_286 : decode code 286 = .ok (.iconst 1, 1) := by decide +kernel
theorem dl_287 : decode code 287 = .ok (.iadd, 1) := by decide +kernel
theorem dl_288 : decode code 288 = .ok (.iaload, 1) := by decide +kernel
theorem dl_289 : decode code 289 = .ok (.aload_n 0, 1) := by decide +kernel
theorem dl_290 : decode code 290 = .ok (.iload_n 3, 1) := by decide +kernel
theorem dl_291 : decode code 291 = .ok (.iconst 2, 1) := by decide +kernel
theorem dl_292 : decode code 292 = .ok (.iadd, 1) := by decide +kernel
theorem dl_293 : decode code 293 = .ok (.iaload, 1) := by decide +kernel
theorem dl_294 : decode code 294 = .ok (.aload_n 0, 1) := by decide +kernel
theorem dl_295 : decode code 295 = .ok (.iload_n 3, 1) := by decide +kernel
theorem dl_296 : decode code 296 = .ok (.iconst 3, 1) := by decide +kernel
theorem dl_297 : decode code 297 = .ok (.iadd, 1) := by decide +kernel
theorem dl_298 : decode code 298 = .ok (.iaload, 1) := by decide +kernel
theorem dl_299 : decode code 299 = .ok (.invokevirtual 38, 3) := by decide +kernel
