theorem d_RM_round_0 : decode prog_6_method_12_code 0 = .ok (.aload_n 0, 1) := by decide +kernel
theorem d_RM_round_1 : decode prog_6_method_12_code 1 = .ok (.invokevirtual 51, 3) := by decide +kernel
theorem d_RM_round_4 : decode prog_6_method_12_code 4 = .ok (.istore 4, 2) := by decide +kernel
theorem d_RM_round_6 : decode prog_6_method_12_code 6 = .ok (.aload_n 0, 1) := by decide +kernel
theorem d_RM_round_7 : decode prog_6_method_12_code 7 = .ok (.getfield 7, 3) := by decide +kernel
theorem d_RM_round_10 : decode prog_6_method_12_code 10 = .ok (.iload_n 1, 1) := by decide +kernel
theorem d_RM_round_11 : decode prog_6_method_12_code 11 = .ok (.iaload, 1) := by decide +kernel
theorem d_RM_round_12 : decode prog_6_method_12_code 12 = .ok (.istore 5, 2) := by decide +kernel
theorem d_RM_round_14 : decode prog_6_method_12_code 14 = .ok (.aload_n 0, 1) := by decide +kernel
theorem d_RM_round_15 : decode prog_6_method_12_code 15 = .ok (.iload 4, 2) := by decide +kernel
theorem d_RM_round_17 : decode prog_6_method_12_code 17 = .ok (.iload 5, 2) := by decide +kernel
theorem d_RM_round_19 : decode prog_6_method_12_code 19 = .ok (.isub, 1) := by decide +kernel
theorem d_RM_round_20 : decode prog_6_method_12_code 20 = .ok (.iconst 1, 1) := by decide +kernel
theorem d_RM_round_21 : decode prog_6_method_12_code 21 = .ok (.iadd, 1) := by decide +kernel
theorem d_RM_round_22 : decode prog_6_method_12_code 22 = .ok (.invokevirtual 44, 3) := by decide +kernel
theorem d_RM_round_25 : decode prog_6_method_12_code 25 = .ok (.ifCond .ne 7, 3) := by decide +kernel
theorem d_RM_round_28 : decode prog_6_method_12_code 28 = .ok (.iconst 1, 1) := by decide +kernel
theorem d_RM_round_29 : decode prog_6_method_12_code 29 = .ok (.goto 4, 3) := by decide +kernel
theorem d_RM_round_32 : decode prog_6_method_12_code 32 = .ok (.iconst 0, 1) := by decide +kernel
theorem d_RM_round_33 : decode prog_6_method_12_code 33 = .ok (.istore 6, 2) := by decide +kernel
theorem d_RM_round_35 : decode prog_6_method_12_code 35 = .ok (.aload_n 0, 1) := by decide +kernel
theorem d_RM_round_36 : decode prog_6_method_12_code 36 = .ok (.iload 4, 2) := by decide +kernel
theorem d_RM_round_38 : decode prog_6_method_12_code 38 = .ok (.iload 5, 2) := by decide +kernel
theorem d_RM_round_40 : decode prog_6_method_12_code 40 = .ok (.iload_n 3, 1) := by decide +kernel
theorem d_RM_round_41 : decode prog_6_method_12_code 41 = .ok (.iload_n 2, 1) := by decide +kernel
theorem d_RM_round_42 : decode prog_6_method_12_code 42 = .ok (.invokevirtual 55, 3) := by decide +kernel
theorem d_RM_round_45 : decode prog_6_method_12_code 45 = .ok (.istore 7, 2) := by decide +kernel
theorem d_RM_round_47 : decode prog_6_method_12_code 47 = .ok (.iload 7, 2) := by decide +kernel
theorem d_RM_round_49 : decode prog_6_method_12_code 49 = .ok (.ifCond .eq 7, 3) := by decide +kernel
theorem d_RM_round_52 : decode prog_6_method_12_code 52 = .ok (.iconst 1, 1) := by decide +kernel
theorem d_RM_round_53 : decode prog_6_method_12_code 53 = .ok (.goto 4, 3) := by decide +kernel
theorem d_RM_round_56 : decode prog_6_method_12_code 56 = .ok (.iconst 0, 1) := by decide +kernel
theorem d_RM_round_57 : decode prog_6_method_12_code 57 = .ok (.istore 8, 2) := by decide +kernel
theorem d_RM_round_59 : decode prog_6_method_12_code 59 = .ok (.iload 5, 2) := by decide +kernel
theorem d_RM_round_61 : decode prog_6_method_12_code 61 = .ok (.iconst 1, 1) := by decide +kernel
theorem d_RM_round_62 : decode prog_6_method_12_code 62 = .ok (.isub, 1) := by decide +kernel
theorem d_RM_round_63 : decode prog_6_method_12_code 63 = .ok (.istore 9, 2) := by decide +kernel
theorem d_RM_round_65 : decode prog_6_method_12_code 65 = .ok (.iload 9, 2) := by decide +kernel
theorem d_RM_round_67 : decode prog_6_method_12_code 67 = .ok (.ifCond .lt 44, 3) := by decide +kernel
theorem d_RM_round_70 : decode prog_6_method_12_code 70 = .ok (.aload_n 0, 1) := by decide +kernel
theorem d_RM_round_71 : decode prog_6_method_12_code 71 = .ok (.getfield 28, 3) := by decide +kernel
theorem d_RM_round_74 : decode prog_6_method_12_code 74 = .ok (.iload 9, 2) := by decide +kernel
theorem d_RM_round_76 : decode prog_6_method_12_code 76 = .ok (.aload_n 0, 1) := by decide +kernel
theorem d_RM_round_77 : decode prog_6_method_12_code 77 = .ok (.getfield 25, 3) := by decide +kernel
theorem d_RM_round_80 : decode prog_6_method_12_code 80 = .ok (.iload 4, 2) := by decide +kernel
theorem d_RM_round_82 : decode prog_6_method_12_code 82 = .ok (.iload 9, 2) := by decide +kernel
theorem d_RM_round_84 : decode prog_6_method_12_code 84 = .ok (.isub, 1) := by decide +kernel
theorem d_RM_round_85 : decode prog_6_method_12_code 85 = .ok (.iaload, 1) := by decide +kernel
theorem d_RM_round_86 : decode prog_6_method_12_code 86 = .ok (.iload 8, 2) := by decide +kernel
theorem d_RM_round_88 : decode prog_6_method_12_code 88 = .ok (.ixor, 1) := by decide +kernel
theorem d_RM_round_89 : decode prog_6_method_12_code 89 = .ok (.iastore, 1) := by decide +kernel
theorem d_RM_round_90 : decode prog_6_method_12_code 90 = .ok (.aload_n 0, 1) := by decide +kernel
theorem d_RM_round_91 : decode prog_6_method_12_code 91 = .ok (.getfield 25, 3) := by decide +kernel
theorem d_RM_round_94 : decode prog_6_method_12_code 94 = .ok (.iload 4, 2) := by decide +kernel
theorem d_RM_round_96 : decode prog_6_method_12_code 96 = .ok (.iload 9, 2) := by decide +kernel
theorem d_RM_round_98 : decode prog_6_method_12_code 98 = .ok (.isub, 1) := by decide +kernel
theorem d_RM_round_99 : decode prog_6_method_12_code 99 = .ok (.iaload, 1) := by decide +kernel
theorem d_RM_round_100 : decode prog_6_method_12_code 100 = .ok (.iload 8, 2) := by decide +kernel
theorem d_RM_round_102 : decode prog_6_method_12_code 102 = .ok (.iand, 1) := by decide +kernel
theorem d_RM_round_103 : decode prog_6_method_12_code 103 = .ok (.istore 8, 2) := by decide +kernel
theorem d_RM_round_105 : decode prog_6_method_12_code 105 = .ok (.iinc 9 (-1), 3) := by decide +kernel
theorem d_RM_round_108 : decode prog_6_method_12_code 108 = .ok (.goto (-43), 3) := by decide +kernel
theorem d_RM_round_111 : decode prog_6_method_12_code 111 = .ok (.iload 4, 2) := by decide +kernel
theorem d_RM_round_113 : decode prog_6_method_12_code 113 = .ok (.sipush 600, 3) := by decide +kernel
theorem d_RM_round_116 : decode prog_6_method_12_code 116 = .ok (.isub, 1) := by decide +kernel
theorem d_RM_round_117 : decode prog_6_method_12_code 117 = .ok (.iconst 1, 1) := by decide +kernel
theorem d_RM_round_118 : decode prog_6_method_12_code 118 = .ok (.iadd, 1) := by decide +kernel
theorem d_RM_round_119 : decode prog_6_method_12_code 119 = .ok (.iload 8, 2) := by decide +kernel
theorem d_RM_round_121 : decode prog_6_method_12_code 121 = .ok (.iadd, 1) := by decide +kernel
theorem d_RM_round_122 : decode prog_6_method_12_code 122 = .ok (.istore 9, 2) := by decide +kernel
theorem d_RM_round_124 : decode prog_6_method_12_code 124 = .ok (.iload 9, 2) := by decide +kernel
theorem d_RM_round_126 : decode prog_6_method_12_code 126 = .ok (.sipush 200, 3) := by decide +kernel
theorem d_RM_round_129 : decode prog_6_method_12_code 129 = .ok (.if_icmp .le 34, 3) := by decide +kernel
theorem d_RM_round_132 : decode prog_6_method_12_code 132 = .ok (.iload_n 3, 1) := by decide +kernel
theorem d_RM_round_133 : decode prog_6_method_12_code 133 = .ok (.ifCond .eq 11, 3) := by decide +kernel
theorem d_RM_round_136 : decode prog_6_method_12_code 136 = .ok (.iload_n 3, 1) := by decide +kernel
theorem d_RM_round_137 : decode prog_6_method_12_code 137 = .ok (.iload_n 2, 1) := by decide +kernel
theorem d_RM_round_138 : decode prog_6_method_12_code 138 = .ok (.invokestatic 47, 3) := by decide +kernel
theorem d_RM_round_141 : decode prog_6_method_12_code 141 = .ok (.ifCond .eq 15, 3) := by decide +kernel
theorem d_RM_round_144 : decode prog_6_method_12_code 144 = .ok (.aload_n 0, 1) := by decide +kernel
theorem d_RM_round_145 : decode prog_6_method_12_code 145 = .ok (.iload_n 1, 1) := by decide +kernel
theorem d_RM_round_146 : decode prog_6_method_12_code 146 = .ok (.iconst 1, 1) := by decide +kernel
theorem d_RM_round_147 : decode prog_6_method_12_code 147 = .ok (.iload_n 2, 1) := by decide +kernel
theorem d_RM_round_148 : decode prog_6_method_12_code 148 = .ok (.invokevirtual 59, 3) := by decide +kernel
theorem d_RM_round_151 : decode prog_6_method_12_code 151 = .ok (.iload_n 2, 1) := by decide +kernel
theorem d_RM_round_152 : decode prog_6_method_12_code 152 = .ok (.iadd, 1) := by decide +kernel
theorem d_RM_round_153 : decode prog_6_method_12_code 153 = .ok (.goto 9, 3) := by decide +kernel
theorem d_RM_round_156 : decode prog_6_method_12_code 156 = .ok (.aload_n 0, 1) := by decide +kernel
theorem d_RM_round_157 : decode prog_6_method_12_code 157 = .ok (.iload_n 1, 1) := by decide +kernel
theorem d_RM_round_158 : decode prog_6_method_12_code 158 = .ok (.iload_n 2, 1) := by decide +kernel
theorem d_RM_round_159 : decode prog_6_method_12_code 159 = .ok (.invokevirtual 63, 3) := by decide +kernel
theorem d_RM_round_162 : decode prog_6_method_12_code 162 = .ok (.ireturn, 1) := by decide +kernel
theorem d_RM_round_163 : decode prog_6_method_12_code 163 = .ok (.iload 9, 2) := by decide +kernel
theorem d_RM_round_165 : decode prog_6_method_12_code 165 = .ok (.sipush (-200), 3) := by decide +kernel
theorem d_RM_round_168 : decode prog_6_method_12_code 168 = .ok (.if_icmp .ge 83, 3) := by decide +kernel
theorem d_RM_round_171 : decode prog_6_method_12_code 171 = .ok (.iload 4, 2) := by decide +kernel
theorem d_RM_round_173 : decode prog_6_method_12_code 173 = .ok (.sipush 398, 3) := by decide +kernel
theorem d_RM_round_176 : decode prog_6_method_12_code 176 = .ok (.if_icmp .lt 20, 3) := by decide +kernel
theorem d_RM_round_179 : decode prog_6_method_12_code 179 = .ok (.iload 4, 2) := by decide +kernel
theorem d_RM_round_181 : decode prog_6_method_12_code 181 = .ok (.sipush 398, 3) := by decide +kernel
theorem d_RM_round_184 : decode prog_6_method_12_code 184 = .ok (.if_icmp .ne 16, 3) := by decide +kernel
theorem d_RM_round_187 : decode prog_6_method_12_code 187 = .ok (.aload_n 0, 1) := by decide +kernel
theorem d_RM_round_188 : decode prog_6_method_12_code 188 = .ok (.iload 4, 2) := by decide +kernel
theorem d_RM_round_190 : decode prog_6_method_12_code 190 = .ok (.invokevirtual 44, 3) := by decide +kernel
theorem d_RM_round_193 : decode prog_6_method_12_code 193 = .ok (.ifCond .ne 7, 3) := by decide +kernel
theorem d_RM_round_196 : decode prog_6_method_12_code 196 = .ok (.iconst 1, 1) := by decide +kernel
theorem d_RM_round_197 : decode prog_6_method_12_code 197 = .ok (.goto 4, 3) := by decide +kernel
theorem d_RM_round_200 : decode prog_6_method_12_code 200 = .ok (.iconst 0, 1) := by decide +kernel
theorem d_RM_round_201 : decode prog_6_method_12_code 201 = .ok (.istore 10, 2) := by decide +kernel
theorem d_RM_round_203 : decode prog_6_method_12_code 203 = .ok (.iload_n 3, 1) := by decide +kernel
theorem d_RM_round_204 : decode prog_6_method_12_code 204 = .ok (.ifCond .ne 8, 3) := by decide +kernel
theorem d_RM_round_207 : decode prog_6_method_12_code 207 = .ok (.iload 10, 2) := by decide +kernel
theorem d_RM_round_209 : decode prog_6_method_12_code 209 = .ok (.goto 16, 3) := by decide +kernel
theorem d_RM_round_212 : decode prog_6_method_12_code 212 = .ok (.iload_n 3, 1) := by decide +kernel
theorem d_RM_round_213 : decode prog_6_method_12_code 213 = .ok (.iload_n 2, 1) := by decide +kernel
theorem d_RM_round_214 : decode prog_6_method_12_code 214 = .ok (.invokestatic 47, 3) := by decide +kernel
theorem d_RM_round_217 : decode prog_6_method_12_code 217 = .ok (.ifCond .ne 7, 3) := by decide +kernel
theorem d_RM_round_220 : decode prog_6_method_12_code 220 = .ok (.iconst 1, 1) := by decide +kernel
theorem d_RM_round_221 : decode prog_6_method_12_code 221 = .ok (.goto 4, 3) := by decide +kernel
theorem d_RM_round_224 : decode prog_6_method_12_code 224 = .ok (.iconst 0, 1) := by decide +kernel
theorem d_RM_round_225 : decode prog_6_method_12_code 225 = .ok (.istore 11, 2) := by decide +kernel
theorem d_RM_round_227 : decode prog_6_method_12_code 227 = .ok (.iload 11, 2) := by decide +kernel
theorem d_RM_round_229 : decode prog_6_method_12_code 229 = .ok (.ifCond .eq 15, 3) := by decide +kernel
theorem d_RM_round_232 : decode prog_6_method_12_code 232 = .ok (.aload_n 0, 1) := by decide +kernel
theorem d_RM_round_233 : decode prog_6_method_12_code 233 = .ok (.iload_n 1, 1) := by decide +kernel
theorem d_RM_round_234 : decode prog_6_method_12_code 234 = .ok (.iconst 2, 1) := by decide +kernel
theorem d_RM_round_235 : decode prog_6_method_12_code 235 = .ok (.iload_n 2, 1) := by decide +kernel
theorem d_RM_round_236 : decode prog_6_method_12_code 236 = .ok (.invokevirtual 59, 3) := by decide +kernel
theorem d_RM_round_239 : decode prog_6_method_12_code 239 = .ok (.iload_n 2, 1) := by decide +kernel
theorem d_RM_round_240 : decode prog_6_method_12_code 240 = .ok (.isub, 1) := by decide +kernel
theorem d_RM_round_241 : decode prog_6_method_12_code 241 = .ok (.goto 9, 3) := by decide +kernel
theorem d_RM_round_244 : decode prog_6_method_12_code 244 = .ok (.aload_n 0, 1) := by decide +kernel
theorem d_RM_round_245 : decode prog_6_method_12_code 245 = .ok (.iload_n 1, 1) := by decide +kernel
theorem d_RM_round_246 : decode prog_6_method_12_code 246 = .ok (.iload_n 2, 1) := by decide +kernel
theorem d_RM_round_247 : decode prog_6_method_12_code 247 = .ok (.invokevirtual 67, 3) := by decide +kernel
theorem d_RM_round_250 : decode prog_6_method_12_code 250 = .ok (.ireturn, 1) := by decide +kernel
theorem d_RM_round_251 : decode prog_6_method_12_code 251 = .ok (.aload_n 0, 1) := by decide +kernel
theorem d_RM_round_252 : decode prog_6_method_12_code 252 = .ok (.getfield 13, 3) := by decide +kernel
theorem d_RM_round_255 : decode prog_6_method_12_code 255 = .ok (.iload_n 1, 1) := by decide +kernel
theorem d_RM_round_256 : decode prog_6_method_12_code 256 = .ok (.iconst 3, 1) := by decide +kernel
theorem d_RM_round_257 : decode prog_6_method_12_code 257 = .ok (.iastore, 1) := by decide +kernel
theorem d_RM_round_258 : decode prog_6_method_12_code 258 = .ok (.aload_n 0, 1) := by decide +kernel
theorem d_RM_round_259 : decode prog_6_method_12_code 259 = .ok (.getfield 16, 3) := by decide +kernel
theorem d_RM_round_262 : decode prog_6_method_12_code 262 = .ok (.iload_n 1, 1) := by decide +kernel
theorem d_RM_round_263 : decode prog_6_method_12_code 263 = .ok (.iload_n 2, 1) := by decide +kernel
theorem d_RM_round_264 : decode prog_6_method_12_code 264 = .ok (.iastore, 1) := by decide +kernel
theorem d_RM_round_265 : decode prog_6_method_12_code 265 = .ok (.aload_n 0, 1) := by decide +kernel
theorem d_RM_round_266 : decode prog_6_method_12_code 266 = .ok (.getfield 19, 3) := by decide +kernel
theorem d_RM_round_269 : decode prog_6_method_12_code 269 = .ok (.iload_n 1, 1) := by decide +kernel
theorem d_RM_round_270 : decode prog_6_method_12_code 270 = .ok (.iload 9, 2) := by decide +kernel
theorem d_RM_round_272 : decode prog_6_method_12_code 272 = .ok (.iastore, 1) := by decide +kernel
theorem d_RM_round_273 : decode prog_6_method_12_code 273 = .ok (.iconst 0, 1) := by decide +kernel
theorem d_RM_round_274 : decode prog_6_method_12_code 274 = .ok (.istore 10, 2) := by decide +kernel
theorem d_RM_round_276 : decode prog_6_method_12_code 276 = .ok (.iload 10, 2) := by decide +kernel
theorem d_RM_round_278 : decode prog_6_method_12_code 278 = .ok (.bipush 93, 2) := by decide +kernel
theorem d_RM_round_280 : decode prog_6_method_12_code 280 = .ok (.if_icmp .ge 58, 3) := by decide +kernel
theorem d_RM_round_283 : decode prog_6_method_12_code 283 = .ok (.aload_n 0, 1) := by decide +kernel
theorem d_RM_round_284 : decode prog_6_method_12_code 284 = .ok (.getfield 22, 3) := by decide +kernel
theorem d_RM_round_287 : decode prog_6_method_12_code 287 = .ok (.bipush 93, 2) := by decide +kernel
theorem d_RM_round_289 : decode prog_6_method_12_code 289 = .ok (.iload_n 1, 1) := by decide +kernel
theorem d_RM_round_290 : decode prog_6_method_12_code 290 = .ok (.imul, 1) := by decide +kernel
theorem d_RM_round_291 : decode prog_6_method_12_code 291 = .ok (.iload 10, 2) := by decide +kernel
theorem d_RM_round_293 : decode prog_6_method_12_code 293 = .ok (.iadd, 1) := by decide +kernel
theorem d_RM_round_294 : decode prog_6_method_12_code 294 = .ok (.iload 10, 2) := by decide +kernel
theorem d_RM_round_296 : decode prog_6_method_12_code 296 = .ok (.iload 5, 2) := by decide +kernel
theorem d_RM_round_298 : decode prog_6_method_12_code 298 = .ok (.if_icmp .lt 7, 3) := by decide +kernel
theorem d_RM_round_301 : decode prog_6_method_12_code 301 = .ok (.iconst 0, 1) := by decide +kernel
theorem d_RM_round_302 : decode prog_6_method_12_code 302 = .ok (.goto 29, 3) := by decide +kernel
theorem d_RM_round_305 : decode prog_6_method_12_code 305 = .ok (.iload 8, 2) := by decide +kernel
theorem d_RM_round_307 : decode prog_6_method_12_code 307 = .ok (.iconst 1, 1) := by decide +kernel
theorem d_RM_round_308 : decode prog_6_method_12_code 308 = .ok (.if_icmp .ne 16, 3) := by decide +kernel
theorem d_RM_round_311 : decode prog_6_method_12_code 311 = .ok (.iload 10, 2) := by decide +kernel
theorem d_RM_round_313 : decode prog_6_method_12_code 313 = .ok (.ifCond .ne 7, 3) := by decide +kernel
theorem d_RM_round_316 : decode prog_6_method_12_code 316 = .ok (.iconst 1, 1) := by decide +kernel
theorem d_RM_round_317 : decode prog_6_method_12_code 317 = .ok (.goto 14, 3) := by decide +kernel
theorem d_RM_round_320 : decode prog_6_method_12_code 320 = .ok (.iconst 0, 1) := by decide +kernel
theorem d_RM_round_321 : decode prog_6_method_12_code 321 = .ok (.goto 10, 3) := by decide +kernel
theorem d_RM_round_324 : decode prog_6_method_12_code 324 = .ok (.aload_n 0, 1) := by decide +kernel
theorem d_RM_round_325 : decode prog_6_method_12_code 325 = .ok (.getfield 28, 3) := by decide +kernel
theorem d_RM_round_328 : decode prog_6_method_12_code 328 = .ok (.iload 10, 2) := by decide +kernel
theorem d_RM_round_330 : decode prog_6_method_12_code 330 = .ok (.iaload, 1) := by decide +kernel
theorem d_RM_round_331 : decode prog_6_method_12_code 331 = .ok (.iastore, 1) := by decide +kernel
theorem d_RM_round_332 : decode prog_6_method_12_code 332 = .ok (.iinc 10 1, 3) := by decide +kernel
theorem d_RM_round_335 : decode prog_6_method_12_code 335 = .ok (.goto (-59), 3) := by decide +kernel
theorem d_RM_round_338 : decode prog_6_method_12_code 338 = .ok (.iload 6, 2) := by decide +kernel
theorem d_RM_round_340 : decode prog_6_method_12_code 340 = .ok (.ifCond .eq 7, 3) := by decide +kernel
theorem d_RM_round_343 : decode prog_6_method_12_code 343 = .ok (.iconst 0, 1) := by decide +kernel
theorem d_RM_round_344 : decode prog_6_method_12_code 344 = .ok (.goto 14, 3) := by decide +kernel
theorem d_RM_round_347 : decode prog_6_method_12_code 347 = .ok (.iload 7, 2) := by decide +kernel
theorem d_RM_round_349 : decode prog_6_method_12_code 349 = .ok (.ifCond .eq 7, 3) := by decide +kernel
theorem d_RM_round_352 : decode prog_6_method_12_code 352 = .ok (.iload_n 2, 1) := by decide +kernel
theorem d_RM_round_353 : decode prog_6_method_12_code 353 = .ok (.goto 5, 3) := by decide +kernel
theorem d_RM_round_356 : decode prog_6_method_12_code 356 = .ok (.iload_n 2, 1) := by decide +kernel
theorem d_RM_round_357 : decode prog_6_method_12_code 357 = .ok (.ineg, 1) := by decide +kernel
theorem d_RM_round_358 : decode prog_6_method_12_code 358 = .ok (.ireturn, 1) := by decide +kernel
def RM_round_331 (k276 : Int32 → Int32 → Int32 → Int32 → Int32 → Int32 → Int32 → rm_S → Option (Int32 × rm_S)) (L1 : Int32) (L2 : Int32) (L5 : Int32) (L6 : Int32) (L7 : Int32) (L8 : Int32) (L10 : Int32) (s0 : Int32) (s1 : Int32) (st : rm_S) : Option (Int32 × rm_S) := (if ob_in s1 744 = true then nm (rm_up st 5 s1.toNatClampNeg s0) (fun t331 => nm (L10 + (1 : Int32)) (fun x332 => k276 L1 L2 L5 L6 L7 L8 x332 t331)) else none)
def RM_round_276 : Nat → Int32 → Int32 → Int32 → Int32 → Int32 → Int32 → Int32 → rm_S → Option (Int32 × rm_S)
  | 0, _, _, _, _, _, _, _, _ => none
  | n + 1, L1, L2, L5, L6, L7, L8, L10, st => (if (93 : Int32) ≤ L10 then (if L6 = 0 then (if L7 = 0 then some ((-L2), st) else some (L2, st)) else some ((0 : Int32), st)) else (if L10 < L5 then (if L8 = (1 : Int32) then (if L10 = 0 then RM_round_331 (RM_round_276 n) L1 L2 L5 L6 L7 L8 L10 (1 : Int32) (((93 : Int32) * L1) + L10) st else RM_round_331 (RM_round_276 n) L1 L2 L5 L6 L7 L8 L10 (0 : Int32) (((93 : Int32) * L1) + L10) st) else (if ob_in L10 1024 = true then RM_round_331 (RM_round_276 n) L1 L2 L5 L6 L7 L8 L10 (st 7 L10.toNatClampNeg) (((93 : Int32) * L1) + L10) st else none)) else RM_round_331 (RM_round_276 n) L1 L2 L5 L6 L7 L8 L10 (0 : Int32) (((93 : Int32) * L1) + L10) st))
def RM_round_225 (L1 : Int32) (L2 : Int32) (s0 : Int32) (st : rm_S) : Option (Int32 × rm_S) := (if s0 = 0 then ob2 (RM_keepLeast st L1 L2) (fun r247 t247 => some (r247, t247)) else ob2 (RM_keep st L1 (2 : Int32) L2) (fun r236 t236 => some ((r236 - L2), t236)))
def RM_round_201 (L1 : Int32) (L2 : Int32) (L3 : Int32) (s0 : Int32) (st : rm_S) : Option (Int32 × rm_S) := (if L3 = 0 then RM_round_225 L1 L2 s0 st else nm (RM_grows L3 L2) (fun r214 => (if r214 = 0 then RM_round_225 L1 L2 (1 : Int32) st else RM_round_225 L1 L2 (0 : Int32) st)))
def RM_round_196 (L1 : Int32) (L2 : Int32) (L3 : Int32) (st : rm_S) : Option (Int32 × rm_S) := RM_round_201 L1 L2 L3 (1 : Int32) st
def RM_round_200 (L1 : Int32) (L2 : Int32) (L3 : Int32) (st : rm_S) : Option (Int32 × rm_S) := RM_round_201 L1 L2 L3 (0 : Int32) st
def RM_round_144 (L1 : Int32) (L2 : Int32) (st : rm_S) : Option (Int32 × rm_S) := ob2 (RM_keep st L1 (1 : Int32) L2) (fun r148 t148 => some ((r148 + L2), t148))
def RM_round_65 : Nat → Int32 → Int32 → Int32 → Int32 → Int32 → Int32 → Int32 → Int32 → Int32 → rm_S → Option (Int32 × rm_S)
  | 0, _, _, _, _, _, _, _, _, _, _ => none
  | n + 1, L1, L2, L3, L4, L5, L6, L7, L8, L9, st => (if L9 < 0 then nm (((L4 - (600 : Int32)) + (1 : Int32)) + L8) (fun x122 => (if x122 ≤ (200 : Int32) then (if (-200 : Int32) ≤ x122 then (if ob_in L1 8 = true then nm (rm_up st 2 L1.toNatClampNeg (3 : Int32)) (fun t257 => (if ob_in L1 8 = true then nm (rm_up t257 3 L1.toNatClampNeg L2) (fun t264 => (if ob_in L1 8 = true then nm (rm_up t264 4 L1.toNatClampNeg x122) (fun t272 => RM_round_276 (2000) L1 L2 L5 L6 L7 L8 (0 : Int32) t272) else none)) else none)) else none) else (if L4 < (398 : Int32) then RM_round_196 L1 L2 L3 st else (if L4 = (398 : Int32) then ob1 (RM_anyBelow st L4) (fun r190 => (if r190 = 0 then RM_round_196 L1 L2 L3 st else RM_round_200 L1 L2 L3 st)) else RM_round_200 L1 L2 L3 st))) else (if L3 = 0 then RM_round_144 L1 L2 st else nm (RM_grows L3 L2) (fun r138 => (if r138 = 0 then ob2 (RM_keepGreatest st L1 L2) (fun r159 t159 => some (r159, t159)) else RM_round_144 L1 L2 st))))) else (if ob_in (L4 - L9) 1024 = true then (if ob_in L9 1024 = true then nm (rm_up st 7 L9.toNatClampNeg ((st 6 (L4 - L9).toNatClampNeg) ^^^ L8)) (fun t89 => (if ob_in (L4 - L9) 1024 = true then nm ((t89 6 (L4 - L9).toNatClampNeg) &&& L8) (fun x103 => nm (L9 + (-1 : Int32)) (fun x105 => (RM_round_65 n) L1 L2 L3 L4 L5 L6 L7 x103 x105 t89)) else none)) else none) else none))
def RM_round_57 (L1 : Int32) (L2 : Int32) (L3 : Int32) (L4 : Int32) (L5 : Int32) (L6 : Int32) (L7 : Int32) (s0 : Int32) (st : rm_S) : Option (Int32 × rm_S) := nm (L5 - (1 : Int32)) (fun x63 => RM_round_65 (2000) L1 L2 L3 L4 L5 L6 L7 s0 x63 st)
def RM_round_33 (L1 : Int32) (L2 : Int32) (L3 : Int32) (L4 : Int32) (L5 : Int32) (s0 : Int32) (st : rm_S) : Option (Int32 × rm_S) := ob1 (RM_goesUp st L4 L5 L3 L2) (fun r42 => (if r42 = 0 then RM_round_57 L1 L2 L3 L4 L5 s0 r42 (0 : Int32) st else RM_round_57 L1 L2 L3 L4 L5 s0 r42 (1 : Int32) st))
def RM_round (st : rm_S) (p0 : Int32) (p1 : Int32) (p2 : Int32) : Option (Int32 × rm_S) := ob1 (RM_highest st) (fun r1 => (if ob_in p0 8 = true then nm (st 1 p0.toNatClampNeg) (fun x12 => ob1 (RM_anyBelow st ((r1 - x12) + (1 : Int32))) (fun r22 => (if r22 = 0 then RM_round_33 p0 p1 p2 r1 x12 (1 : Int32) st else RM_round_33 p0 p1 p2 r1 x12 (0 : Int32) st))) else none))
set_option maxHeartbeats 4000000 in
set_option maxRecDepth 100000 in
theorem c_RM_round (l : Launch) {D : va_G} (a : Nat → Nat) (ci : ClassId) (hi : rm_inj a) (st : rm_S) (p0 : Int32) (p1 : Int32) (p2 : Int32) (r0 : Int32) (t0 : rm_S) (hF : RM_round st p0 p1 p2 = some (r0, t0)) : ct_i l ⟨"RoundedNumbersModel", "round", "(III)I"⟩ (.code ⟨"RoundedNumbersModel", "round", "(III)I"⟩ prog_6_method_12_code 12 (some .int) :: ct_T) { frames := 2, cells := 0, slots := 0, locals := 50 } D vwCl (rm_T ci) (rm_g a ci) (rm_X a) [.ref (a 0), .int p0, .int p1, .int p2] st r0 t0 := by
  refine ct_i.mk (cc := prog_6_method_12_code) (maxL := 12) (by decide) rfl (Nat.le_of_ble_eq_true rfl) ?_
  intro p e s m below meth c hx hb hr hml hown hts hlk hK hN hP hS ls hl
  have hown : s.vm.findClass "RoundedNumbersModel" = some m.cls := hown
  have hl : lv_has ls 12 [(0, .ref (a 0)), (1, .int p0), (2, .int p1), (3, .int p2)] := hl
  have htb := fun w h => hts w (List.mem_cons_of_mem _ h)
  unfold RM_round at hF
  refine lv_aload_n hx hb d_RM_round_0 rfl (lv_at hl 0 rfl) ?_
  obtain ⟨r1, e1, hF⟩ := ob_one hF
  refine ct_calli (va_runV (As := []) (rest := []) ⟨hx, hb, hml, hown, hts⟩ (c_RM_highest l (D := D) a ci hi st _ e1 _) (kc_RM_51 hts ⟨by decide, by decide⟩) ⟨ct_blind, rm_rc hK hP, ct_ok hP hK hN⟩ rfl rfl hl.1 rfl (lv_room (Nat.le_of_ble_eq_true rfl)) d_RM_round_1 ⟨Nat.zero_le _, Nat.zero_le _⟩) hS (fun H locs hP hS => ?_)
  refine lv_istore (lv' := [(4, .int r1), (0, .ref (a 0)), (1, .int p0), (2, .int p1), (3, .int p2)]) hx hb d_RM_round_4 hl (by decide) rfl (fun ls hl => ?_)
  refine lv_aload_n hx hb d_RM_round_6 rfl (lv_at hl 1 rfl) ?_
  refine gf_RM_7 hx hb htb hown hK hP d_RM_round_7 ?_
  refine lv_iload_n hx hb d_RM_round_10 rfl (lv_at hl 2 rfl) ?_
  obtain ⟨b11, hF⟩ := ob_if hF
  refine rm_ald hx hb hK hP (k := 1) (by decide) (by decide) (ob_vi b11) d_RM_round_11 ?_
  refine lv_topi (fun x12 e12 => ?_)
  replace hF := (nm_eq e12.symm).symm.trans hF
  refine lv_istore (lv' := [(5, .int x12), (4, .int r1), (0, .ref (a 0)), (1, .int p0), (2, .int p1), (3, .int p2)]) hx hb d_RM_round_12 hl (by decide) rfl (fun ls hl => ?_)
  refine lv_aload_n hx hb d_RM_round_14 rfl (lv_at hl 2 rfl) ?_
  refine lv_iload hx hb d_RM_round_15 (lv_at hl 1 rfl) ?_
  refine lv_iload hx hb d_RM_round_17 (lv_at hl 0 rfl) ?_
  refine lv_isub hx hb d_RM_round_19 ?_
  refine lv_iconst (v := 1) hx hb d_RM_round_20 (by decide) ?_
  refine lv_iadd hx hb d_RM_round_21 ?_
  obtain ⟨r22, e22, hF⟩ := ob_one hF
  refine ct_calli (va_runV (As := [.int ((r1 - x12) + (1 : Int32))]) (rest := []) ⟨hx, hb, hml, hown, hts⟩ (c_RM_anyBelow l (D := D) a ci hi st ((r1 - x12) + (1 : Int32)) _ e22 _) (kc_RM_44 hts ⟨by decide, by decide⟩) ⟨ct_blind, rm_rc hK hP, ct_ok hP hK hN⟩ rfl rfl hl.1 rfl (lv_room (Nat.le_of_ble_eq_true rfl)) d_RM_round_22 ⟨Nat.zero_le _, Nat.zero_le _⟩) hS (fun H locs hP hS => ?_)
  refine ct_cut1 (fun (j33s0 : Int32) ls H locs => lv_has ls 12 [(5, .int x12), (4, .int r1), (0, .ref (a 0)), (1, .int p0), (2, .int p1), (3, .int p2)] ∧ RM_round_33 p0 p1 p2 r1 x12 j33s0 st = some (r0, t0) ∧ va_P D vwCl (rm_g a ci st) H ∧ va_S (ct_F (rm_X a) s.heap.size) s.heap H locs) 33 (fun j33s0 => [.int j33s0]) ?_ ?_
  · intro j33s0 ls H locs hq
    obtain ⟨hl, hF, hP, hS⟩ := hq
    unfold RM_round_33 at hF
    refine lv_istore (lv' := [(6, .int j33s0), (5, .int x12), (4, .int r1), (0, .ref (a 0)), (1, .int p0), (2, .int p1), (3, .int p2)]) hx hb d_RM_round_33 hl (by decide) rfl (fun ls hl => ?_)
    refine lv_aload_n hx hb d_RM_round_35 rfl (lv_at hl 3 rfl) ?_
    refine lv_iload hx hb d_RM_round_36 (lv_at hl 2 rfl) ?_
    refine lv_iload hx hb d_RM_round_38 (lv_at hl 1 rfl) ?_
    refine lv_iload_n hx hb d_RM_round_40 rfl (lv_at hl 6 rfl) ?_
    refine lv_iload_n hx hb d_RM_round_41 rfl (lv_at hl 5 rfl) ?_
    obtain ⟨r42, e42, hF⟩ := ob_one hF
    refine ct_calli (va_runV (As := [.int r1, .int x12, .int p2, .int p1]) (rest := []) ⟨hx, hb, hml, hown, hts⟩ (c_RM_goesUp l (D := D) a ci hi st r1 x12 p2 p1 _ e42 _) (kc_RM_55 hts ⟨by decide, by decide⟩) ⟨ct_blind, rm_rc hK hP, ct_ok hP hK hN⟩ rfl rfl hl.1 rfl (lv_room (Nat.le_of_ble_eq_true rfl)) d_RM_round_42 ⟨Nat.zero_le _, Nat.zero_le _⟩) hS (fun H locs hP hS => ?_)
    refine lv_istore (lv' := [(7, .int r42), (6, .int j33s0), (5, .int x12), (4, .int r1), (0, .ref (a 0)), (1, .int p0), (2, .int p1), (3, .int p2)]) hx hb d_RM_round_45 hl (by decide) rfl (fun ls hl => ?_)
    refine lv_iload hx hb d_RM_round_47 (lv_at hl 0 rfl) ?_
    refine ct_cut1 (fun (j57s0 : Int32) ls H locs => lv_has ls 12 [(7, .int r42), (6, .int j33s0), (5, .int x12), (4, .int r1), (0, .ref (a 0)), (1, .int p0), (2, .int p1), (3, .int p2)] ∧ RM_round_57 p0 p1 p2 r1 x12 j33s0 r42 j57s0 st = some (r0, t0) ∧ va_P D vwCl (rm_g a ci st) H ∧ va_S (ct_F (rm_X a) s.heap.size) s.heap H locs) 57 (fun j57s0 => [.int j57s0]) ?_ ?_
    · intro j57s0 ls H locs hq
      obtain ⟨hl, hF, hP, hS⟩ := hq
      unfold RM_round_57 at hF
      refine lv_istore (lv' := [(8, .int j57s0), (7, .int r42), (6, .int j33s0), (5, .int x12), (4, .int r1), (0, .ref (a 0)), (1, .int p0), (2, .int p1), (3, .int p2)]) hx hb d_RM_round_57 hl (by decide) rfl (fun ls hl => ?_)
      refine lv_iload hx hb d_RM_round_59 (lv_at hl 3 rfl) ?_
      refine lv_iconst (v := 1) hx hb d_RM_round_61 (by decide) ?_
      refine lv_isub hx hb d_RM_round_62 ?_
      refine lv_topi (fun x63 e63 => ?_)
      replace hF := (nm_eq e63.symm).symm.trans hF
      refine lv_istore (lv' := [(9, .int x63), (8, .int j57s0), (7, .int r42), (6, .int j33s0), (5, .int x12), (4, .int r1), (0, .ref (a 0)), (1, .int p0), (2, .int p1), (3, .int p2)]) hx hb d_RM_round_63 hl (by decide) rfl (fun ls hl => ?_)
      refine ct_loop3 (fun n (w65L9 : Int32) (w65L8 : Int32) (w65t : rm_S) ls H locs => lv_has ls 12 [(9, .int w65L9), (8, .int w65L8), (7, .int r42), (6, .int j33s0), (5, .int x12), (4, .int r1), (0, .ref (a 0)), (1, .int p0), (2, .int p1), (3, .int p2)] ∧ RM_round_65 n p0 p1 p2 r1 x12 j33s0 r42 w65L8 w65L9 w65t = some (r0, t0) ∧ va_P D vwCl (rm_g a ci w65t) H ∧ va_S (ct_F (rm_X a) s.heap.size) s.heap H locs) 65 ?_ ?_ (2000) x63 j57s0 st ⟨lv_sub hl [0, 1, 2, 3, 4, 5, 6, 7, 8, 9] rfl, hF, hP, hS⟩
      · intro w65L9 w65L8 w65t ls H locs hq
        obtain ⟨hl, hF, hP, hS⟩ := hq
        rw [RM_round_65] at hF
        cases hF
      · intro n65 ih65 w65L9 w65L8 w65t ls H locs hq
        obtain ⟨hl, hF, hP, hS⟩ := hq
        rw [RM_round_65] at hF
        refine lv_iload hx hb d_RM_round_65 (lv_at hl 0 rfl) ?_
        refine lv_if_lt hx hb d_RM_round_67 (tgt := 111) (by decide) (fun c67 => ?_) (fun c67 => ?_)
        · replace hF := (if_pos c67).symm.trans hF
          refine lv_iload hx hb d_RM_round_111 (lv_at hl 5 rfl) ?_
          refine lv_sipush (v := 600) hx hb d_RM_round_113 (by decide) ?_
          refine lv_isub hx hb d_RM_round_116 ?_
          refine lv_iconst (v := 1) hx hb d_RM_round_117 (by decide) ?_
          refine lv_iadd hx hb d_RM_round_118 ?_
          refine lv_iload hx hb d_RM_round_119 (lv_at hl 1 rfl) ?_
          refine lv_iadd hx hb d_RM_round_121 ?_
          refine lv_topi (fun x122 e122 => ?_)
          replace hF := (nm_eq e122.symm).symm.trans hF
          refine lv_istore (lv' := [(9, .int x122), (8, .int w65L8), (7, .int r42), (6, .int j33s0), (5, .int x12), (4, .int r1), (0, .ref (a 0)), (1, .int p0), (2, .int p1), (3, .int p2)]) hx hb d_RM_round_122 hl (by decide) rfl (fun ls hl => ?_)
          refine lv_iload hx hb d_RM_round_124 (lv_at hl 0 rfl) ?_
          refine lv_sipush (v := 200) hx hb d_RM_round_126 (by decide) ?_
          refine lv_icmp_le hx hb d_RM_round_129 (tgt := 163) (by decide) (fun c129 => ?_) (fun c129 => ?_)
          · replace hF := (if_pos c129).symm.trans hF
            refine lv_iload hx hb d_RM_round_163 (lv_at hl 0 rfl) ?_
            refine lv_sipush (v := -200) hx hb d_RM_round_165 (by decide) ?_
            refine lv_icmp_ge hx hb d_RM_round_168 (tgt := 251) (by decide) (fun c168 => ?_) (fun c168 => ?_)
            · replace hF := (if_pos c168).symm.trans hF
              refine lv_aload_n hx hb d_RM_round_251 rfl (lv_at hl 6 rfl) ?_
              refine gf_RM_13 hx hb htb hown hK hP d_RM_round_252 ?_
              refine lv_iload_n hx hb d_RM_round_255 rfl (lv_at hl 7 rfl) ?_
              refine lv_iconst (v := 3) hx hb d_RM_round_256 (by decide) ?_
              obtain ⟨b257, hF⟩ := ob_if hF
              refine rm_ast hx hb hK hP hS hi (k := 2) (by decide) (by decide) (ob_vi b257) d_RM_round_257 (fun H locs hP hS => ?_)
              obtain ⟨t257, e257, hP⟩ := nm_st hP
              replace hF := (nm_eq e257).symm.trans hF
              refine lv_aload_n hx hb d_RM_round_258 rfl (lv_at hl 6 rfl) ?_
              refine gf_RM_16 hx hb htb hown hK hP d_RM_round_259 ?_
              refine lv_iload_n hx hb d_RM_round_262 rfl (lv_at hl 7 rfl) ?_
              refine lv_iload_n hx hb d_RM_round_263 rfl (lv_at hl 8 rfl) ?_
              obtain ⟨b264, hF⟩ := ob_if hF
              refine rm_ast hx hb hK hP hS hi (k := 3) (by decide) (by decide) (ob_vi b264) d_RM_round_264 (fun H locs hP hS => ?_)
              obtain ⟨t264, e264, hP⟩ := nm_st hP
              replace hF := (nm_eq e264).symm.trans hF
              refine lv_aload_n hx hb d_RM_round_265 rfl (lv_at hl 6 rfl) ?_
              refine gf_RM_19 hx hb htb hown hK hP d_RM_round_266 ?_
              refine lv_iload_n hx hb d_RM_round_269 rfl (lv_at hl 7 rfl) ?_
              refine lv_iload hx hb d_RM_round_270 (lv_at hl 0 rfl) ?_
              obtain ⟨b272, hF⟩ := ob_if hF
              refine rm_ast hx hb hK hP hS hi (k := 4) (by decide) (by decide) (ob_vi b272) d_RM_round_272 (fun H locs hP hS => ?_)
              obtain ⟨t272, e272, hP⟩ := nm_st hP
              replace hF := (nm_eq e272).symm.trans hF
              refine lv_iconst (v := 0) hx hb d_RM_round_273 (by decide) ?_
              refine lv_istore (lv' := [(10, .int (0 : Int32)), (9, .int x122), (8, .int w65L8), (7, .int r42), (6, .int j33s0), (5, .int x12), (4, .int r1), (0, .ref (a 0)), (1, .int p0), (2, .int p1), (3, .int p2)]) hx hb d_RM_round_274 hl (by decide) rfl (fun ls hl => ?_)
              refine ct_loop2 (fun n (w276L10 : Int32) (w276t : rm_S) ls H locs => lv_has ls 12 [(10, .int w276L10), (8, .int w65L8), (7, .int r42), (6, .int j33s0), (5, .int x12), (0, .ref (a 0)), (1, .int p0), (2, .int p1)] ∧ RM_round_276 n p0 p1 x12 j33s0 r42 w65L8 w276L10 w276t = some (r0, t0) ∧ va_P D vwCl (rm_g a ci w276t) H ∧ va_S (ct_F (rm_X a) s.heap.size) s.heap H locs) 276 ?_ ?_ (2000) (0 : Int32) t272 ⟨lv_sub hl [0, 2, 3, 4, 5, 7, 8, 9] rfl, hF, hP, hS⟩
              · intro w276L10 w276t ls H locs hq
                obtain ⟨hl, hF, hP, hS⟩ := hq
                rw [RM_round_276] at hF
                cases hF
              · intro n276 ih276 w276L10 w276t ls H locs hq
                obtain ⟨hl, hF, hP, hS⟩ := hq
                rw [RM_round_276] at hF
                refine lv_iload hx hb d_RM_round_276 (lv_at hl 0 rfl) ?_
                refine lv_bipush (v := 93) hx hb d_RM_round_278 (by decide) ?_
                refine lv_icmp_ge hx hb d_RM_round_280 (tgt := 338) (by decide) (fun c280 => ?_) (fun c280 => ?_)
                · replace hF := (if_pos c280).symm.trans hF
                  refine lv_iload hx hb d_RM_round_338 (lv_at hl 3 rfl) ?_
                  refine lv_if_eq hx hb d_RM_round_340 (tgt := 347) (by decide) (fun c340 => ?_) (fun c340 => ?_)
                  · replace hF := (if_pos c340).symm.trans hF
                    refine lv_iload hx hb d_RM_round_347 (lv_at hl 2 rfl) ?_
                    refine lv_if_eq hx hb d_RM_round_349 (tgt := 356) (by decide) (fun c349 => ?_) (fun c349 => ?_)
                    · replace hF := (if_pos c349).symm.trans hF
                      refine lv_iload_n hx hb d_RM_round_356 rfl (lv_at hl 7 rfl) ?_
                      refine lv_ineg hx hb d_RM_round_357 ?_
                      replace hF := Option.some.inj hF
                      obtain ⟨rfl, rfl⟩ := Prod.mk.inj hF
                      exact ct_iret hx hb hr hlk hP hS d_RM_round_358
                    · replace hF := (if_neg c349).symm.trans hF
                      refine lv_iload_n hx hb d_RM_round_352 rfl (lv_at hl 7 rfl) ?_
                      refine lv_goto hx hb d_RM_round_353 (tgt := 358) (by decide) ?_
                      replace hF := Option.some.inj hF
                      obtain ⟨rfl, rfl⟩ := Prod.mk.inj hF
                      exact ct_iret hx hb hr hlk hP hS d_RM_round_358
                  · replace hF := (if_neg c340).symm.trans hF
                    refine lv_iconst (v := 0) hx hb d_RM_round_343 (by decide) ?_
                    refine lv_goto hx hb d_RM_round_344 (tgt := 358) (by decide) ?_
                    replace hF := Option.some.inj hF
                    obtain ⟨rfl, rfl⟩ := Prod.mk.inj hF
                    exact ct_iret hx hb hr hlk hP hS d_RM_round_358
                · replace hF := (if_neg c280).symm.trans hF
                  refine lv_aload_n hx hb d_RM_round_283 rfl (lv_at hl 5 rfl) ?_
                  refine gf_RM_22 hx hb htb hown hK hP d_RM_round_284 ?_
                  refine lv_bipush (v := 93) hx hb d_RM_round_287 (by decide) ?_
                  refine lv_iload_n hx hb d_RM_round_289 rfl (lv_at hl 6 rfl) ?_
                  refine lv_imul hx hb d_RM_round_290 ?_
                  refine lv_iload hx hb d_RM_round_291 (lv_at hl 0 rfl) ?_
                  refine lv_iadd hx hb d_RM_round_293 ?_
                  refine lv_iload hx hb d_RM_round_294 (lv_at hl 0 rfl) ?_
                  refine lv_iload hx hb d_RM_round_296 (lv_at hl 4 rfl) ?_
                  refine ct_cut1 (fun (j331s0 : Int32) ls H locs => lv_has ls 12 [(10, .int w276L10), (8, .int w65L8), (7, .int r42), (6, .int j33s0), (5, .int x12), (0, .ref (a 0)), (1, .int p0), (2, .int p1)] ∧ RM_round_331 (RM_round_276 n276) p0 p1 x12 j33s0 r42 w65L8 w276L10 j331s0 (((93 : Int32) * p0) + w276L10) w276t = some (r0, t0) ∧ va_P D vwCl (rm_g a ci w276t) H ∧ va_S (ct_F (rm_X a) s.heap.size) s.heap H locs) 331 (fun j331s0 => [.int j331s0, .int (((93 : Int32) * p0) + w276L10), .ref (a 5)]) ?_ ?_
                  · intro j331s0 ls H locs hq
                    obtain ⟨hl, hF, hP, hS⟩ := hq
                    unfold RM_round_331 at hF
                    obtain ⟨b331, hF⟩ := ob_if hF
                    refine rm_ast hx hb hK hP hS hi (k := 5) (by decide) (by decide) (ob_vi b331) d_RM_round_331 (fun H locs hP hS => ?_)
                    obtain ⟨t331, e331, hP⟩ := nm_st hP
                    replace hF := (nm_eq e331).symm.trans hF
                    obtain ⟨x332, e332⟩ := nm_ex (w276L10 + (1 : Int32))
                    replace hF := (nm_eq e332).symm.trans hF
                    refine lv_iinc (v := x332) (lv' := [(10, .int x332), (8, .int w65L8), (7, .int r42), (6, .int j33s0), (5, .int x12), (0, .ref (a 0)), (1, .int p0), (2, .int p1)]) hx hb d_RM_round_332 hl (k := 0) rfl e332 (by decide) rfl (fun ls hl => ?_)
                    refine lv_goto hx hb d_RM_round_335 (tgt := 276) (by decide) ?_
                    exact ih276 x332 t331 _ _ _ ⟨lv_sub hl [0, 1, 2, 3, 4, 5, 6, 7] rfl, hF, hP, hS⟩
                  · intro kj331
                    refine lv_icmp_lt hx hb d_RM_round_298 (tgt := 305) (by decide) (fun c298 => ?_) (fun c298 => ?_)
                    · replace hF := (if_pos c298).symm.trans hF
                      refine lv_iload hx hb d_RM_round_305 (lv_at hl 1 rfl) ?_
                      refine lv_iconst (v := 1) hx hb d_RM_round_307 (by decide) ?_
                      refine lv_icmp_ne hx hb d_RM_round_308 (tgt := 324) (by decide) (fun c308 => ?_) (fun c308 => ?_)
                      · replace hF := (if_neg c308).symm.trans hF
                        refine lv_aload_n hx hb d_RM_round_324 rfl (lv_at hl 5 rfl) ?_
                        refine gf_RM_28 hx hb htb hown hK hP d_RM_round_325 ?_
                        refine lv_iload hx hb d_RM_round_328 (lv_at hl 0 rfl) ?_
                        obtain ⟨b330, hF⟩ := ob_if hF
                        refine rm_ald hx hb hK hP (k := 7) (by decide) (by decide) (ob_vi b330) d_RM_round_330 ?_
                        exact kj331 (w276t 7 w276L10.toNatClampNeg) _ _ _ ⟨lv_sub hl [0, 1, 2, 3, 4, 5, 6, 7] rfl, hF, hP, hS⟩
                      · replace hF := (if_pos c308).symm.trans hF
                        refine lv_iload hx hb d_RM_round_311 (lv_at hl 0 rfl) ?_
                        refine lv_if_ne hx hb d_RM_round_313 (tgt := 320) (by decide) (fun c313 => ?_) (fun c313 => ?_)
                        · replace hF := (if_neg c313).symm.trans hF
                          refine lv_iconst (v := 0) hx hb d_RM_round_320 (by decide) ?_
                          refine lv_goto hx hb d_RM_round_321 (tgt := 331) (by decide) ?_
                          exact kj331 (0 : Int32) _ _ _ ⟨lv_sub hl [0, 1, 2, 3, 4, 5, 6, 7] rfl, hF, hP, hS⟩
                        · replace hF := (if_pos c313).symm.trans hF
                          refine lv_iconst (v := 1) hx hb d_RM_round_316 (by decide) ?_
                          refine lv_goto hx hb d_RM_round_317 (tgt := 331) (by decide) ?_
                          exact kj331 (1 : Int32) _ _ _ ⟨lv_sub hl [0, 1, 2, 3, 4, 5, 6, 7] rfl, hF, hP, hS⟩
                    · replace hF := (if_neg c298).symm.trans hF
                      refine lv_iconst (v := 0) hx hb d_RM_round_301 (by decide) ?_
                      refine lv_goto hx hb d_RM_round_302 (tgt := 331) (by decide) ?_
                      exact kj331 (0 : Int32) _ _ _ ⟨lv_sub hl [0, 1, 2, 3, 4, 5, 6, 7] rfl, hF, hP, hS⟩
            · replace hF := (if_neg c168).symm.trans hF
              refine lv_iload hx hb d_RM_round_171 (lv_at hl 5 rfl) ?_
              refine lv_sipush (v := 398) hx hb d_RM_round_173 (by decide) ?_
              refine ct_cut1 (fun (j201s0 : Int32) ls H locs => lv_has ls 12 [(0, .ref (a 0)), (1, .int p0), (2, .int p1), (3, .int p2)] ∧ RM_round_201 p0 p1 p2 j201s0 w65t = some (r0, t0) ∧ va_P D vwCl (rm_g a ci w65t) H ∧ va_S (ct_F (rm_X a) s.heap.size) s.heap H locs) 201 (fun j201s0 => [.int j201s0]) ?_ ?_
              · intro j201s0 ls H locs hq
                obtain ⟨hl, hF, hP, hS⟩ := hq
                unfold RM_round_201 at hF
                refine lv_istore (lv' := [(10, .int j201s0), (0, .ref (a 0)), (1, .int p0), (2, .int p1), (3, .int p2)]) hx hb d_RM_round_201 hl (by decide) rfl (fun ls hl => ?_)
                refine lv_iload_n hx hb d_RM_round_203 rfl (lv_at hl 4 rfl) ?_
                refine ct_cut1 (fun (j225s0 : Int32) ls H locs => lv_has ls 12 [(0, .ref (a 0)), (1, .int p0), (2, .int p1)] ∧ RM_round_225 p0 p1 j225s0 w65t = some (r0, t0) ∧ va_P D vwCl (rm_g a ci w65t) H ∧ va_S (ct_F (rm_X a) s.heap.size) s.heap H locs) 225 (fun j225s0 => [.int j225s0]) ?_ ?_
                · intro j225s0 ls H locs hq
                  obtain ⟨hl, hF, hP, hS⟩ := hq
                  unfold RM_round_225 at hF
                  refine lv_istore (lv' := [(11, .int j225s0), (0, .ref (a 0)), (1, .int p0), (2, .int p1)]) hx hb d_RM_round_225 hl (by decide) rfl (fun ls hl => ?_)
                  refine lv_iload hx hb d_RM_round_227 (lv_at hl 0 rfl) ?_
                  refine lv_if_eq hx hb d_RM_round_229 (tgt := 244) (by decide) (fun c229 => ?_) (fun c229 => ?_)
                  · replace hF := (if_pos c229).symm.trans hF
                    refine lv_aload_n hx hb d_RM_round_244 rfl (lv_at hl 1 rfl) ?_
                    refine lv_iload_n hx hb d_RM_round_245 rfl (lv_at hl 2 rfl) ?_
                    refine lv_iload_n hx hb d_RM_round_246 rfl (lv_at hl 3 rfl) ?_
                    obtain ⟨r247, t247, e247, hF⟩ := ob_two hF
                    refine ct_calli (va_runV (As := [.int p0, .int p1]) (rest := []) ⟨hx, hb, hml, hown, hts⟩ (c_RM_keepLeast l (D := D) a ci hi w65t p0 p1 _ _ e247 _) (kc_RM_67 hts ⟨by decide, by decide⟩) ⟨ct_blind, rm_rc hK hP, ct_ok hP hK hN⟩ rfl rfl hl.1 rfl (lv_room (Nat.le_of_ble_eq_true rfl)) d_RM_round_247 ⟨Nat.zero_le _, Nat.zero_le _⟩) hS (fun H locs hP hS => ?_)
                    replace hF := Option.some.inj hF
                    obtain ⟨rfl, rfl⟩ := Prod.mk.inj hF
                    exact ct_iret hx hb hr hlk hP hS d_RM_round_250
                  · replace hF := (if_neg c229).symm.trans hF
                    refine lv_aload_n hx hb d_RM_round_232 rfl (lv_at hl 1 rfl) ?_
                    refine lv_iload_n hx hb d_RM_round_233 rfl (lv_at hl 2 rfl) ?_
                    refine lv_iconst (v := 2) hx hb d_RM_round_234 (by decide) ?_
                    refine lv_iload_n hx hb d_RM_round_235 rfl (lv_at hl 3 rfl) ?_
                    obtain ⟨r236, t236, e236, hF⟩ := ob_two hF
                    refine ct_calli (va_runV (As := [.int p0, .int (2 : Int32), .int p1]) (rest := []) ⟨hx, hb, hml, hown, hts⟩ (c_RM_keep l (D := D) a ci hi w65t p0 (2 : Int32) p1 _ _ e236 _) (kc_RM_59 hts ⟨by decide, by decide⟩) ⟨ct_blind, rm_rc hK hP, ct_ok hP hK hN⟩ rfl rfl hl.1 rfl (lv_room (Nat.le_of_ble_eq_true rfl)) d_RM_round_236 ⟨Nat.zero_le _, Nat.zero_le _⟩) hS (fun H locs hP hS => ?_)
                    refine lv_iload_n hx hb d_RM_round_239 rfl (lv_at hl 3 rfl) ?_
                    refine lv_isub hx hb d_RM_round_240 ?_
                    refine lv_goto hx hb d_RM_round_241 (tgt := 250) (by decide) ?_
                    replace hF := Option.some.inj hF
                    obtain ⟨rfl, rfl⟩ := Prod.mk.inj hF
                    exact ct_iret hx hb hr hlk hP hS d_RM_round_250
                · intro kj225
                  refine lv_if_ne hx hb d_RM_round_204 (tgt := 212) (by decide) (fun c204 => ?_) (fun c204 => ?_)
                  · replace hF := (if_neg c204).symm.trans hF
                    refine lv_iload_n hx hb d_RM_round_212 rfl (lv_at hl 4 rfl) ?_
                    refine lv_iload_n hx hb d_RM_round_213 rfl (lv_at hl 3 rfl) ?_
                    obtain ⟨r214, e214⟩ := nm_ex (RM_grows p2 p1)
                    replace hF := (nm_eq e214).symm.trans hF
                    refine ct_calli (va_runS (As := [.int p2, .int p1]) (rest := []) ⟨hx, hb, hml, hown, hts⟩ (c_RM_grows l (D := D) a ci hi w65t p2 p1 _ e214 _) (kc_RM_47 hts ⟨by decide, by decide⟩) ⟨ct_blind, ct_ok hP hK hN⟩ rfl rfl hl.1 rfl (lv_room (Nat.le_of_ble_eq_true rfl)) d_RM_round_214 ⟨Nat.zero_le _, Nat.zero_le _⟩) hS (fun H locs hP hS => ?_)
                    refine lv_if_ne hx hb d_RM_round_217 (tgt := 224) (by decide) (fun c217 => ?_) (fun c217 => ?_)
                    · replace hF := (if_neg c217).symm.trans hF
                      refine lv_iconst (v := 0) hx hb d_RM_round_224 (by decide) ?_
                      exact kj225 (0 : Int32) _ _ _ ⟨lv_sub hl [1, 2, 3] rfl, hF, hP, hS⟩
                    · replace hF := (if_pos c217).symm.trans hF
                      refine lv_iconst (v := 1) hx hb d_RM_round_220 (by decide) ?_
                      refine lv_goto hx hb d_RM_round_221 (tgt := 225) (by decide) ?_
                      exact kj225 (1 : Int32) _ _ _ ⟨lv_sub hl [1, 2, 3] rfl, hF, hP, hS⟩
                  · replace hF := (if_pos c204).symm.trans hF
                    refine lv_iload hx hb d_RM_round_207 (lv_at hl 0 rfl) ?_
                    refine lv_goto hx hb d_RM_round_209 (tgt := 225) (by decide) ?_
                    exact kj225 j201s0 _ _ _ ⟨lv_sub hl [1, 2, 3] rfl, hF, hP, hS⟩
              · intro kj201
                refine ct_cut0 (fun  ls H locs => lv_has ls 12 [(0, .ref (a 0)), (1, .int p0), (2, .int p1), (3, .int p2)] ∧ RM_round_196 p0 p1 p2 w65t = some (r0, t0) ∧ va_P D vwCl (rm_g a ci w65t) H ∧ va_S (ct_F (rm_X a) s.heap.size) s.heap H locs) 196 [] ?_ ?_
                · intro ls H locs hq
                  obtain ⟨hl, hF, hP, hS⟩ := hq
                  unfold RM_round_196 at hF
                  refine lv_iconst (v := 1) hx hb d_RM_round_196 (by decide) ?_
                  refine lv_goto hx hb d_RM_round_197 (tgt := 201) (by decide) ?_
                  exact kj201 (1 : Int32) _ _ _ ⟨lv_sub hl [0, 1, 2, 3] rfl, hF, hP, hS⟩
                · intro kj196
                  refine lv_icmp_lt hx hb d_RM_round_176 (tgt := 196) (by decide) (fun c176 => ?_) (fun c176 => ?_)
                  · replace hF := (if_pos c176).symm.trans hF
                    exact kj196 _ _ _ ⟨lv_sub hl [6, 7, 8, 9] rfl, hF, hP, hS⟩
                  · replace hF := (if_neg c176).symm.trans hF
                    refine lv_iload hx hb d_RM_round_179 (lv_at hl 5 rfl) ?_
                    refine lv_sipush (v := 398) hx hb d_RM_round_181 (by decide) ?_
                    refine ct_cut0 (fun  ls H locs => lv_has ls 12 [(0, .ref (a 0)), (1, .int p0), (2, .int p1), (3, .int p2)] ∧ RM_round_200 p0 p1 p2 w65t = some (r0, t0) ∧ va_P D vwCl (rm_g a ci w65t) H ∧ va_S (ct_F (rm_X a) s.heap.size) s.heap H locs) 200 [] ?_ ?_
                    · intro ls H locs hq
                      obtain ⟨hl, hF, hP, hS⟩ := hq
                      unfold RM_round_200 at hF
                      refine lv_iconst (v := 0) hx hb d_RM_round_200 (by decide) ?_
                      exact kj201 (0 : Int32) _ _ _ ⟨lv_sub hl [0, 1, 2, 3] rfl, hF, hP, hS⟩
                    · intro kj200
                      refine lv_icmp_ne hx hb d_RM_round_184 (tgt := 200) (by decide) (fun c184 => ?_) (fun c184 => ?_)
                      · replace hF := (if_neg c184).symm.trans hF
                        exact kj200 _ _ _ ⟨lv_sub hl [6, 7, 8, 9] rfl, hF, hP, hS⟩
                      · replace hF := (if_pos c184).symm.trans hF
                        refine lv_aload_n hx hb d_RM_round_187 rfl (lv_at hl 6 rfl) ?_
                        refine lv_iload hx hb d_RM_round_188 (lv_at hl 5 rfl) ?_
                        obtain ⟨r190, e190, hF⟩ := ob_one hF
                        refine ct_calli (va_runV (As := [.int r1]) (rest := []) ⟨hx, hb, hml, hown, hts⟩ (c_RM_anyBelow l (D := D) a ci hi w65t r1 _ e190 _) (kc_RM_44 hts ⟨by decide, by decide⟩) ⟨ct_blind, rm_rc hK hP, ct_ok hP hK hN⟩ rfl rfl hl.1 rfl (lv_room (Nat.le_of_ble_eq_true rfl)) d_RM_round_190 ⟨Nat.zero_le _, Nat.zero_le _⟩) hS (fun H locs hP hS => ?_)
                        refine lv_if_ne hx hb d_RM_round_193 (tgt := 200) (by decide) (fun c193 => ?_) (fun c193 => ?_)
                        · replace hF := (if_neg c193).symm.trans hF
                          exact kj200 _ _ _ ⟨lv_sub hl [6, 7, 8, 9] rfl, hF, hP, hS⟩
                        · replace hF := (if_pos c193).symm.trans hF
                          exact kj196 _ _ _ ⟨lv_sub hl [6, 7, 8, 9] rfl, hF, hP, hS⟩
          · replace hF := (if_neg c129).symm.trans hF
            refine lv_iload_n hx hb d_RM_round_132 rfl (lv_at hl 9 rfl) ?_
            refine ct_cut0 (fun  ls H locs => lv_has ls 12 [(0, .ref (a 0)), (1, .int p0), (2, .int p1)] ∧ RM_round_144 p0 p1 w65t = some (r0, t0) ∧ va_P D vwCl (rm_g a ci w65t) H ∧ va_S (ct_F (rm_X a) s.heap.size) s.heap H locs) 144 [] ?_ ?_
            · intro ls H locs hq
              obtain ⟨hl, hF, hP, hS⟩ := hq
              unfold RM_round_144 at hF
              refine lv_aload_n hx hb d_RM_round_144 rfl (lv_at hl 0 rfl) ?_
              refine lv_iload_n hx hb d_RM_round_145 rfl (lv_at hl 1 rfl) ?_
              refine lv_iconst (v := 1) hx hb d_RM_round_146 (by decide) ?_
              refine lv_iload_n hx hb d_RM_round_147 rfl (lv_at hl 2 rfl) ?_
              obtain ⟨r148, t148, e148, hF⟩ := ob_two hF
              refine ct_calli (va_runV (As := [.int p0, .int (1 : Int32), .int p1]) (rest := []) ⟨hx, hb, hml, hown, hts⟩ (c_RM_keep l (D := D) a ci hi w65t p0 (1 : Int32) p1 _ _ e148 _) (kc_RM_59 hts ⟨by decide, by decide⟩) ⟨ct_blind, rm_rc hK hP, ct_ok hP hK hN⟩ rfl rfl hl.1 rfl (lv_room (Nat.le_of_ble_eq_true rfl)) d_RM_round_148 ⟨Nat.zero_le _, Nat.zero_le _⟩) hS (fun H locs hP hS => ?_)
              refine lv_iload_n hx hb d_RM_round_151 rfl (lv_at hl 2 rfl) ?_
              refine lv_iadd hx hb d_RM_round_152 ?_
              refine lv_goto hx hb d_RM_round_153 (tgt := 162) (by decide) ?_
              replace hF := Option.some.inj hF
              obtain ⟨rfl, rfl⟩ := Prod.mk.inj hF
              exact ct_iret hx hb hr hlk hP hS d_RM_round_162
            · intro kj144
              refine lv_if_eq hx hb d_RM_round_133 (tgt := 144) (by decide) (fun c133 => ?_) (fun c133 => ?_)
              · replace hF := (if_pos c133).symm.trans hF
                exact kj144 _ _ _ ⟨lv_sub hl [6, 7, 8] rfl, hF, hP, hS⟩
              · replace hF := (if_neg c133).symm.trans hF
                refine lv_iload_n hx hb d_RM_round_136 rfl (lv_at hl 9 rfl) ?_
                refine lv_iload_n hx hb d_RM_round_137 rfl (lv_at hl 8 rfl) ?_
                obtain ⟨r138, e138⟩ := nm_ex (RM_grows p2 p1)
                replace hF := (nm_eq e138).symm.trans hF
                refine ct_calli (va_runS (As := [.int p2, .int p1]) (rest := []) ⟨hx, hb, hml, hown, hts⟩ (c_RM_grows l (D := D) a ci hi w65t p2 p1 _ e138 _) (kc_RM_47 hts ⟨by decide, by decide⟩) ⟨ct_blind, ct_ok hP hK hN⟩ rfl rfl hl.1 rfl (lv_room (Nat.le_of_ble_eq_true rfl)) d_RM_round_138 ⟨Nat.zero_le _, Nat.zero_le _⟩) hS (fun H locs hP hS => ?_)
                refine lv_if_eq hx hb d_RM_round_141 (tgt := 156) (by decide) (fun c141 => ?_) (fun c141 => ?_)
                · replace hF := (if_pos c141).symm.trans hF
                  refine lv_aload_n hx hb d_RM_round_156 rfl (lv_at hl 6 rfl) ?_
                  refine lv_iload_n hx hb d_RM_round_157 rfl (lv_at hl 7 rfl) ?_
                  refine lv_iload_n hx hb d_RM_round_158 rfl (lv_at hl 8 rfl) ?_
                  obtain ⟨r159, t159, e159, hF⟩ := ob_two hF
                  refine ct_calli (va_runV (As := [.int p0, .int p1]) (rest := []) ⟨hx, hb, hml, hown, hts⟩ (c_RM_keepGreatest l (D := D) a ci hi w65t p0 p1 _ _ e159 _) (kc_RM_63 hts ⟨by decide, by decide⟩) ⟨ct_blind, rm_rc hK hP, ct_ok hP hK hN⟩ rfl rfl hl.1 rfl (lv_room (Nat.le_of_ble_eq_true rfl)) d_RM_round_159 ⟨Nat.zero_le _, Nat.zero_le _⟩) hS (fun H locs hP hS => ?_)
                  replace hF := Option.some.inj hF
                  obtain ⟨rfl, rfl⟩ := Prod.mk.inj hF
                  exact ct_iret hx hb hr hlk hP hS d_RM_round_162
                · replace hF := (if_neg c141).symm.trans hF
                  exact kj144 _ _ _ ⟨lv_sub hl [6, 7, 8] rfl, hF, hP, hS⟩
        · replace hF := (if_neg c67).symm.trans hF
          refine lv_aload_n hx hb d_RM_round_70 rfl (lv_at hl 6 rfl) ?_
          refine gf_RM_28 hx hb htb hown hK hP d_RM_round_71 ?_
          refine lv_iload hx hb d_RM_round_74 (lv_at hl 0 rfl) ?_
          refine lv_aload_n hx hb d_RM_round_76 rfl (lv_at hl 6 rfl) ?_
          refine gf_RM_25 hx hb htb hown hK hP d_RM_round_77 ?_
          refine lv_iload hx hb d_RM_round_80 (lv_at hl 5 rfl) ?_
          refine lv_iload hx hb d_RM_round_82 (lv_at hl 0 rfl) ?_
          refine lv_isub hx hb d_RM_round_84 ?_
          obtain ⟨b85, hF⟩ := ob_if hF
          refine rm_ald hx hb hK hP (k := 6) (by decide) (by decide) (ob_vi b85) d_RM_round_85 ?_
          refine lv_iload hx hb d_RM_round_86 (lv_at hl 1 rfl) ?_
          refine lv_ixor hx hb d_RM_round_88 ?_
          obtain ⟨b89, hF⟩ := ob_if hF
          refine rm_ast hx hb hK hP hS hi (k := 7) (by decide) (by decide) (ob_vi b89) d_RM_round_89 (fun H locs hP hS => ?_)
          obtain ⟨t89, e89, hP⟩ := nm_st hP
          replace hF := (nm_eq e89).symm.trans hF
          refine lv_aload_n hx hb d_RM_round_90 rfl (lv_at hl 6 rfl) ?_
          refine gf_RM_25 hx hb htb hown hK hP d_RM_round_91 ?_
          refine lv_iload hx hb d_RM_round_94 (lv_at hl 5 rfl) ?_
          refine lv_iload hx hb d_RM_round_96 (lv_at hl 0 rfl) ?_
          refine lv_isub hx hb d_RM_round_98 ?_
          obtain ⟨b99, hF⟩ := ob_if hF
          refine rm_ald hx hb hK hP (k := 6) (by decide) (by decide) (ob_vi b99) d_RM_round_99 ?_
          refine lv_iload hx hb d_RM_round_100 (lv_at hl 1 rfl) ?_
          refine lv_iand hx hb d_RM_round_102 ?_
          refine lv_topi (fun x103 e103 => ?_)
          replace hF := (nm_eq e103.symm).symm.trans hF
          refine lv_istore (lv' := [(8, .int x103), (9, .int w65L9), (7, .int r42), (6, .int j33s0), (5, .int x12), (4, .int r1), (0, .ref (a 0)), (1, .int p0), (2, .int p1), (3, .int p2)]) hx hb d_RM_round_103 hl (by decide) rfl (fun ls hl => ?_)
          obtain ⟨x105, e105⟩ := nm_ex (w65L9 + (-1 : Int32))
          replace hF := (nm_eq e105).symm.trans hF
          refine lv_iinc (v := x105) (lv' := [(9, .int x105), (8, .int x103), (7, .int r42), (6, .int j33s0), (5, .int x12), (4, .int r1), (0, .ref (a 0)), (1, .int p0), (2, .int p1), (3, .int p2)]) hx hb d_RM_round_105 hl (k := 1) rfl e105 (by decide) rfl (fun ls hl => ?_)
          refine lv_goto hx hb d_RM_round_108 (tgt := 65) (by decide) ?_
          exact ih65 x105 x103 t89 _ _ _ ⟨lv_sub hl [0, 1, 2, 3, 4, 5, 6, 7, 8, 9] rfl, hF, hP, hS⟩
    · intro kj57
      refine lv_if_eq hx hb d_RM_round_49 (tgt := 56) (by decide) (fun c49 => ?_) (fun c49 => ?_)
      · replace hF := (if_pos c49).symm.trans hF
        refine lv_iconst (v := 0) hx hb d_RM_round_56 (by decide) ?_
        exact kj57 (0 : Int32) _ _ _ ⟨lv_sub hl [0, 1, 2, 3, 4, 5, 6, 7] rfl, hF, hP, hS⟩
      · replace hF := (if_neg c49).symm.trans hF
        refine lv_iconst (v := 1) hx hb d_RM_round_52 (by decide) ?_
        refine lv_goto hx hb d_RM_round_53 (tgt := 57) (by decide) ?_
        exact kj57 (1 : Int32) _ _ _ ⟨lv_sub hl [0, 1, 2, 3, 4, 5, 6, 7] rfl, hF, hP, hS⟩
  · intro kj33
    refine lv_if_ne hx hb d_RM_round_25 (tgt := 32) (by decide) (fun c25 => ?_) (fun c25 => ?_)
    · replace hF := (if_neg c25).symm.trans hF
      refine lv_iconst (v := 0) hx hb d_RM_round_32 (by decide) ?_
      exact kj33 (0 : Int32) _ _ _ ⟨lv_sub hl [0, 1, 2, 3, 4, 5] rfl, hF, hP, hS⟩
    · replace hF := (if_pos c25).symm.trans hF
      refine lv_iconst (v := 1) hx hb d_RM_round_28 (by decide) ?_
      refine lv_goto hx hb d_RM_round_29 (tgt := 33) (by decide) ?_
      exact kj33 (1 : Int32) _ _ _ ⟨lv_sub hl [0, 1, 2, 3, 4, 5] rfl, hF, hP, hS⟩
theorem d_RM_clear_0 : decode prog_6_method_13_code 0 = .ok (.iconst 0, 1) := by decide +kernel
theorem d_RM_clear_1 : decode prog_6_method_13_code 1 = .ok (.istore_n 1, 1) := by decide +kernel
theorem d_RM_clear_2 : decode prog_6_method_13_code 2 = .ok (.iload_n 1, 1) := by decide +kernel
theorem d_RM_clear_3 : decode prog_6_method_13_code 3 = .ok (.sipush 1024, 3) := by decide +kernel
theorem d_RM_clear_6 : decode prog_6_method_13_code 6 = .ok (.if_icmp .ge 23, 3) := by decide +kernel
theorem d_RM_clear_9 : decode prog_6_method_13_code 9 = .ok (.aload_n 0, 1) := by decide +kernel
theorem d_RM_clear_10 : decode prog_6_method_13_code 10 = .ok (.getfield 25, 3) := by decide +kernel
theorem d_RM_clear_13 : decode prog_6_method_13_code 13 = .ok (.iload_n 1, 1) := by decide +kernel
theorem d_RM_clear_14 : decode prog_6_method_13_code 14 = .ok (.iconst 0, 1) := by decide +kernel
theorem d_RM_clear_15 : decode prog_6_method_13_code 15 = .ok (.iastore, 1) := by decide +kernel
theorem d_RM_clear_16 : decode prog_6_method_13_code 16 = .ok (.aload_n 0, 1) := by decide +kernel
theorem d_RM_clear_17 : decode prog_6_method_13_code 17 = .ok (.getfield 28, 3) := by decide +kernel
theorem d_RM_clear_20 : decode prog_6_method_13_code 20 = .ok (.iload_n 1, 1) := by decide +kernel
theorem d_RM_clear_21 : decode prog_6_method_13_code 21 = .ok (.iconst 0, 1) := by decide +kernel
theorem d_RM_clear_22 : decode prog_6_method_13_code 22 = .ok (.iastore, 1) := by decide +kernel
theorem d_RM_clear_23 : decode prog_6_method_13_code 23 = .ok (.iinc 1 1, 3) := by decide +kernel
theorem d_RM_clear_26 : decode prog_6_method_13_code 26 = .ok (.goto (-24), 3) := by decide +kernel
theorem d_RM_clear_29 : decode prog_6_method_13_code 29 = .ok (.return_, 1) := by decide +kernel
def RM_clear_2 : Nat → Int32 → rm_S → Option (rm_S)
  | 0, _, _ => none
  | n + 1, L1, st => (if (1024 : Int32) ≤ L1 then some st else (if ob_in L1 1024 = true then nm (rm_up st 6 L1.toNatClampNeg (0 : Int32)) (fun t15 => (if ob_in L1 1024 = true then nm (rm_up t15 7 L1.toNatClampNeg (0 : Int32)) (fun t22 => nm (L1 + (1 : Int32)) (fun x23 => (RM_clear_2 n) x23 t22)) else none)) else none))
def RM_clear (st : rm_S) : Option (rm_S) := RM_clear_2 (2000) (0 : Int32) st
set_option maxHeartbeats 4000000 in
set_option maxRecDepth 100000 in
theorem c_RM_clear (l : Launch) {D : va_G} (a : Nat → Nat) (ci : ClassId) (hi : rm_inj a) (st : rm_S) (t0 : rm_S) (hF : RM_clear st = some t0) : ct_v l ⟨"RoundedNumbersModel", "clear", "()V"⟩ (.code ⟨"RoundedNumbersModel", "clear", "()V"⟩ prog_6_method_13_code 2 none :: ct_T) { frames := 0, cells := 0, slots := 0, locals := 0 } D vwCl (rm_T ci) (rm_g a ci) (rm_X a) [.ref (a 0)] st t0 := by
  refine ct_v.mk (cc := prog_6_method_13_code) (maxL := 2) (by decide) rfl (Nat.le_of_ble_eq_true rfl) ?_
  intro p e s m below meth c hx hb hr hml hown hts hlk hK hN hP hS ls hl
  have hown : s.vm.findClass "RoundedNumbersModel" = some m.cls := hown
  have hl : lv_has ls 2 [(0, .ref (a 0))] := hl
  have htb := fun w h => hts w (List.mem_cons_of_mem _ h)
  unfold RM_clear at hF
  refine lv_iconst (v := 0) hx hb d_RM_clear_0 (by decide) ?_
  refine lv_istore_n (lv' := [(1, .int (0 : Int32)), (0, .ref (a 0))]) hx hb d_RM_clear_1 rfl hl (by decide) rfl (fun ls hl => ?_)
  refine ct_loop2 (fun n (w2L1 : Int32) (w2t : rm_S) ls H locs => lv_has ls 2 [(1, .int w2L1), (0, .ref (a 0))] ∧ RM_clear_2 n w2L1 w2t = some t0 ∧ va_P D vwCl (rm_g a ci w2t) H ∧ va_S (ct_F (rm_X a) s.heap.size) s.heap H locs) 2 ?_ ?_ (2000) (0 : Int32) st ⟨lv_sub hl [0, 1] rfl, hF, hP, hS⟩
  · intro w2L1 w2t ls H locs hq
    obtain ⟨hl, hF, hP, hS⟩ := hq
    rw [RM_clear_2] at hF
    cases hF
  · intro n2 ih2 w2L1 w2t ls H locs hq
    obtain ⟨hl, hF, hP, hS⟩ := hq
    rw [RM_clear_2] at hF
    refine lv_iload_n hx hb d_RM_clear_2 rfl (lv_at hl 0 rfl) ?_
    refine lv_sipush (v := 1024) hx hb d_RM_clear_3 (by decide) ?_
    refine lv_icmp_ge hx hb d_RM_clear_6 (tgt := 29) (by decide) (fun c6 => ?_) (fun c6 => ?_)
    · replace hF := (if_pos c6).symm.trans hF
      replace hF := Option.some.inj hF
      subst hF
      exact ct_vret hx hb hr hlk hP hS d_RM_clear_29
    · replace hF := (if_neg c6).symm.trans hF
      refine lv_aload_n hx hb d_RM_clear_9 rfl (lv_at hl 1 rfl) ?_
      refine gf_RM_25 hx hb htb hown hK hP d_RM_clear_10 ?_
      refine lv_iload_n hx hb d_RM_clear_13 rfl (lv_at hl 0 rfl) ?_
      refine lv_iconst (v := 0) hx hb d_RM_clear_14 (by decide) ?_
      obtain ⟨b15, hF⟩ := ob_if hF
      refine rm_ast hx hb hK hP hS hi (k := 6) (by decide) (by decide) (ob_vi b15) d_RM_clear_15 (fun H locs hP hS => ?_)
      obtain ⟨t15, e15, hP⟩ := nm_st hP
      replace hF := (nm_eq e15).symm.trans hF
      refine lv_aload_n hx hb d_RM_clear_16 rfl (lv_at hl 1 rfl) ?_
      refine gf_RM_28 hx hb htb hown hK hP d_RM_clear_17 ?_
      refine lv_iload_n hx hb d_RM_clear_20 rfl (lv_at hl 0 rfl) ?_
      refine lv_iconst (v := 0) hx hb d_RM_clear_21 (by decide) ?_
      obtain ⟨b22, hF⟩ := ob_if hF
      refine rm_ast hx hb hK hP hS hi (k := 7) (by decide) (by decide) (ob_vi b22) d_RM_clear_22 (fun H locs hP hS => ?_)
      obtain ⟨t22, e22, hP⟩ := nm_st hP
      replace hF := (nm_eq e22).symm.trans hF
      obtain ⟨x23, e23⟩ := nm_ex (w2L1 + (1 : Int32))
      replace hF := (nm_eq e23).symm.trans hF
      refine lv_iinc (v := x23) (lv' := [(1, .int x23), (0, .ref (a 0))]) hx hb d_RM_clear_23 hl (k := 0) rfl e23 (by decide) rfl (fun ls hl => ?_)
      refine lv_goto hx hb d_RM_clear_26 (tgt := 2) (by decide) ?_
      exact ih2 x23 t22 _ _ _ ⟨lv_sub hl [0, 1] rfl, hF, hP, hS⟩
theorem d_RM_put_0 : decode prog_6_method_14_code 0 = .ok (.iconst 0, 1) := by decide +kernel
theorem d_RM_put_1 : decode prog_6_method_14_code 1 = .ok (.istore_n 2, 1) := by decide +kernel
theorem d_RM_put_2 : decode prog_6_method_14_code 2 = .ok (.iload_n 2, 1) := by decide +kernel
theorem d_RM_put_3 : decode prog_6_method_14_code 3 = .ok (.aload_n 0, 1) := by decide +kernel
theorem d_RM_put_4 : decode prog_6_method_14_code 4 = .ok (.getfield 7, 3) := by decide +kernel
theorem d_RM_put_7 : decode prog_6_method_14_code 7 = .ok (.iload_n 1, 1) := by decide +kernel
theorem d_RM_put_8 : decode prog_6_method_14_code 8 = .ok (.iaload, 1) := by decide +kernel
theorem d_RM_put_9 : decode prog_6_method_14_code 9 = .ok (.if_icmp .ge 39, 3) := by decide +kernel
theorem d_RM_put_12 : decode prog_6_method_14_code 12 = .ok (.aload_n 0, 1) := by decide +kernel
theorem d_RM_put_13 : decode prog_6_method_14_code 13 = .ok (.getfield 25, 3) := by decide +kernel
theorem d_RM_put_16 : decode prog_6_method_14_code 16 = .ok (.sipush 600, 3) := by decide +kernel
theorem d_RM_put_19 : decode prog_6_method_14_code 19 = .ok (.aload_n 0, 1) := by decide +kernel
theorem d_RM_put_20 : decode prog_6_method_14_code 20 = .ok (.getfield 19, 3) := by decide +kernel
theorem d_RM_put_23 : decode prog_6_method_14_code 23 = .ok (.iload_n 1, 1) := by decide +kernel
theorem d_RM_put_24 : decode prog_6_method_14_code 24 = .ok (.iaload, 1) := by decide +kernel
theorem d_RM_put_25 : decode prog_6_method_14_code 25 = .ok (.iadd, 1) := by decide +kernel
theorem d_RM_put_26 : decode prog_6_method_14_code 26 = .ok (.iconst 1, 1) := by decide +kernel
theorem d_RM_put_27 : decode prog_6_method_14_code 27 = .ok (.isub, 1) := by decide +kernel
theorem d_RM_put_28 : decode prog_6_method_14_code 28 = .ok (.iload_n 2, 1) := by decide +kernel
theorem d_RM_put_29 : decode prog_6_method_14_code 29 = .ok (.isub, 1) := by decide +kernel
theorem d_RM_put_30 : decode prog_6_method_14_code 30 = .ok (.aload_n 0, 1) := by decide +kernel
theorem d_RM_put_31 : decode prog_6_method_14_code 31 = .ok (.getfield 22, 3) := by decide +kernel
theorem d_RM_put_34 : decode prog_6_method_14_code 34 = .ok (.bipush 93, 2) := by decide +kernel
theorem d_RM_put_36 : decode prog_6_method_14_code 36 = .ok (.iload_n 1, 1) := by decide +kernel
theorem d_RM_put_37 : decode prog_6_method_14_code 37 = .ok (.imul, 1) := by decide +kernel
theorem d_RM_put_38 : decode prog_6_method_14_code 38 = .ok (.iload_n 2, 1) := by decide +kernel
theorem d_RM_put_39 : decode prog_6_method_14_code 39 = .ok (.iadd, 1) := by decide +kernel
theorem d_RM_put_40 : decode prog_6_method_14_code 40 = .ok (.iaload, 1) := by decide +kernel
theorem d_RM_put_41 : decode prog_6_method_14_code 41 = .ok (.iastore, 1) := by decide +kernel
theorem d_RM_put_42 : decode prog_6_method_14_code 42 = .ok (.iinc 2 1, 3) := by decide +kernel
theorem d_RM_put_45 : decode prog_6_method_14_code 45 = .ok (.goto (-43), 3) := by decide +kernel
theorem d_RM_put_48 : decode prog_6_method_14_code 48 = .ok (.return_, 1) := by decide +kernel
def RM_put_2 : Nat → Int32 → Int32 → rm_S → Option (rm_S)
  | 0, _, _, _ => none
  | n + 1, L1, L2, st => (if ob_in L1 8 = true then (if (st 1 L1.toNatClampNeg) ≤ L2 then some st else (if ob_in L1 8 = true then (if ob_in (((93 : Int32) * L1) + L2) 744 = true then (if ob_in ((((600 : Int32) + (st 4 L1.toNatClampNeg)) - (1 : Int32)) - L2) 1024 = true then nm (rm_up st 6 ((((600 : Int32) + (st 4 L1.toNatClampNeg)) - (1 : Int32)) - L2).toNatClampNeg (st 5 (((93 : Int32) * L1) + L2).toNatClampNeg)) (fun t41 => nm (L2 + (1 : Int32)) (fun x42 => (RM_put_2 n) L1 x42 t41)) else none) else none) else none)) else none)
def RM_put (st : rm_S) (p0 : Int32) : Option (rm_S) := RM_put_2 (2000) p0 (0 : Int32) st
set_option maxHeartbeats 4000000 in
set_option maxRecDepth 100000 in
theorem c_RM_put (l : Launch) {D : va_G} (a : Nat → Nat) (ci : ClassId) (hi : rm_inj a) (st : rm_S) (p0 : Int32) (t0 : rm_S) (hF : RM_put st p0 = some t0) : ct_v l ⟨"RoundedNumbersModel", "put", "(I)V"⟩ (.code ⟨"RoundedNumbersModel", "put", "(I)V"⟩ prog_6_method_14_code 3 none :: ct_T) { frames := 0, cells := 0, slots := 0, locals := 0 } D vwCl (rm_T ci) (rm_g a ci) (rm_X a) [.ref (a 0), .int p0] st t0 := by
  refine ct_v.mk (cc := prog_6_method_14_code) (maxL := 3) (by decide) rfl (Nat.le_of_ble_eq_true rfl) ?_
  intro p e s m below meth c hx hb hr hml hown hts hlk hK hN hP hS ls hl
  have hown : s.vm.findClass "RoundedNumbersModel" = some m.cls := hown
  have hl : lv_has ls 3 [(0, .ref (a 0)), (1, .int p0)] := hl
  have htb := fun w h => hts w (List.mem_cons_of_mem _ h)
  unfold RM_put at hF
  refine lv_iconst (v := 0) hx hb d_RM_put_0 (by decide) ?_
  refine lv_istore_n (lv' := [(2, .int (0 : Int32)), (0, .ref (a 0)), (1, .int p0)]) hx hb d_RM_put_1 rfl hl (by decide) rfl (fun ls hl => ?_)
  refine ct_loop2 (fun n (w2L2 : Int32) (w2t : rm_S) ls H locs => lv_has ls 3 [(2, .int w2L2), (0, .ref (a 0)), (1, .int p0)] ∧ RM_put_2 n p0 w2L2 w2t = some t0 ∧ va_P D vwCl (rm_g a ci w2t) H ∧ va_S (ct_F (rm_X a) s.heap.size) s.heap H locs) 2 ?_ ?_ (2000) (0 : Int32) st ⟨lv_sub hl [0, 1, 2] rfl, hF, hP, hS⟩
  · intro w2L2 w2t ls H locs hq
    obtain ⟨hl, hF, hP, hS⟩ := hq
    rw [RM_put_2] at hF
    cases hF
  · intro n2 ih2 w2L2 w2t ls H locs hq
    obtain ⟨hl, hF, hP, hS⟩ := hq
    rw [RM_put_2] at hF
    refine lv_iload_n hx hb d_RM_put_2 rfl (lv_at hl 0 rfl) ?_
    refine lv_aload_n hx hb d_RM_put_3 rfl (lv_at hl 1 rfl) ?_
    refine gf_RM_7 hx hb htb hown hK hP d_RM_put_4 ?_
    refine lv_iload_n hx hb d_RM_put_7 rfl (lv_at hl 2 rfl) ?_
    obtain ⟨b8, hF⟩ := ob_if hF
    refine rm_ald hx hb hK hP (k := 1) (by decide) (by decide) (ob_vi b8) d_RM_put_8 ?_
    refine lv_icmp_ge hx hb d_RM_put_9 (tgt := 48) (by decide) (fun c9 => ?_) (fun c9 => ?_)
    · replace hF := (if_pos c9).symm.trans hF
      replace hF := Option.some.inj hF
      subst hF
      exact ct_vret hx hb hr hlk hP hS d_RM_put_48
    · replace hF := (if_neg c9).symm.trans hF
      refine lv_aload_n hx hb d_RM_put_12 rfl (lv_at hl 1 rfl) ?_
      refine gf_RM_25 hx hb htb hown hK hP d_RM_put_13 ?_
      refine lv_sipush (v := 600) hx hb d_RM_put_16 (by decide) ?_
      refine lv_aload_n hx hb d_RM_put_19 rfl (lv_at hl 1 rfl) ?_
      refine gf_RM_19 hx hb htb hown hK hP d_RM_put_20 ?_
      refine lv_iload_n hx hb d_RM_put_23 rfl (lv_at hl 2 rfl) ?_
      obtain ⟨b24, hF⟩ := ob_if hF
      refine rm_ald hx hb hK hP (k := 4) (by decide) (by decide) (ob_vi b24) d_RM_put_24 ?_
      refine lv_iadd hx hb d_RM_put_25 ?_
      refine lv_iconst (v := 1) hx hb d_RM_put_26 (by decide) ?_
      refine lv_isub hx hb d_RM_put_27 ?_
      refine lv_iload_n hx hb d_RM_put_28 rfl (lv_at hl 0 rfl) ?_
      refine lv_isub hx hb d_RM_put_29 ?_
      refine lv_aload_n hx hb d_RM_put_30 rfl (lv_at hl 1 rfl) ?_
      refine gf_RM_22 hx hb htb hown hK hP d_RM_put_31 ?_
      refine lv_bipush (v := 93) hx hb d_RM_put_34 (by decide) ?_
      refine lv_iload_n hx hb d_RM_put_36 rfl (lv_at hl 2 rfl) ?_
      refine lv_imul hx hb d_RM_put_37 ?_
      refine lv_iload_n hx hb d_RM_put_38 rfl (lv_at hl 0 rfl) ?_
      refine lv_iadd hx hb d_RM_put_39 ?_
      obtain ⟨b40, hF⟩ := ob_if hF
      refine rm_ald hx hb hK hP (k := 5) (by decide) (by decide) (ob_vi b40) d_RM_put_40 ?_
      obtain ⟨b41, hF⟩ := ob_if hF
      refine rm_ast hx hb hK hP hS hi (k := 6) (by decide) (by decide) (ob_vi b41) d_RM_put_41 (fun H locs hP hS => ?_)
      obtain ⟨t41, e41, hP⟩ := nm_st hP
      replace hF := (nm_eq e41).symm.trans hF
      obtain ⟨x42, e42⟩ := nm_ex (w2L2 + (1 : Int32))
      replace hF := (nm_eq e42).symm.trans hF
      refine lv_iinc (v := x42) (lv' := [(2, .int x42), (0, .ref (a 0)), (1, .int p0)]) hx hb d_RM_put_42 hl (k := 0) rfl e42 (by decide) rfl (fun ls hl => ?_)
      refine lv_goto hx hb d_RM_put_45 (tgt := 2) (by decide) ?_
      exact ih2 x42 t41 _ _ _ ⟨lv_sub hl [0, 1, 2] rfl, hF, hP, hS⟩
theorem d_RM_putProduct_0 : decode prog_6_method_15_code 0 = .ok (.sipush 600, 3) := by decide +kernel
theorem d_RM_putProduct_3 : decode prog_6_method_15_code 3 = .ok (.aload_n 0, 1) := by decide +kernel
theorem d_RM_putProduct_4 : decode prog_6_method_15_code 4 = .ok (.getfield 19, 3) := by decide +kernel
theorem d_RM_putProduct_7 : decode prog_6_method_15_code 7 = .ok (.iload_n 1, 1) := by decide +kernel
theorem d_RM_putProduct_8 : decode prog_6_method_15_code 8 = .ok (.iaload, 1) := by decide +kernel
theorem d_RM_putProduct_9 : decode prog_6_method_15_code 9 = .ok (.iadd, 1) := by decide +kernel
theorem d_RM_putProduct_10 : decode prog_6_method_15_code 10 = .ok (.aload_n 0, 1) := by decide +kernel
theorem d_RM_putProduct_11 : decode prog_6_method_15_code 11 = .ok (.getfield 19, 3) := by decide +kernel
theorem d_RM_putProduct_14 : decode prog_6_method_15_code 14 = .ok (.iload_n 2, 1) := by decide +kernel
theorem d_RM_putProduct_15 : decode prog_6_method_15_code 15 = .ok (.iaload, 1) := by decide +kernel
theorem d_RM_putProduct_16 : decode prog_6_method_15_code 16 = .ok (.iadd, 1) := by decide +kernel
theorem d_RM_putProduct_17 : decode prog_6_method_15_code 17 = .ok (.iconst 2, 1) := by decide +kernel
theorem d_RM_putProduct_18 : decode prog_6_method_15_code 18 = .ok (.isub, 1) := by decide +kernel
theorem d_RM_putProduct_19 : decode prog_6_method_15_code 19 = .ok (.istore_n 3, 1) := by decide +kernel
theorem d_RM_putProduct_20 : decode prog_6_method_15_code 20 = .ok (.iconst 0, 1) := by decide +kernel
theorem d_RM_putProduct_21 : decode prog_6_method_15_code 21 = .ok (.istore 4, 2) := by decide +kernel
theorem d_RM_putProduct_23 : decode prog_6_method_15_code 23 = .ok (.iload 4, 2) := by decide +kernel
theorem d_RM_putProduct_25 : decode prog_6_method_15_code 25 = .ok (.aload_n 0, 1) := by decide +kernel
theorem d_RM_putProduct_26 : decode prog_6_method_15_code 26 = .ok (.getfield 7, 3) := by decide +kernel
theorem d_RM_putProduct_29 : decode prog_6_method_15_code 29 = .ok (.iload_n 1, 1) := by decide +kernel
theorem d_RM_putProduct_30 : decode prog_6_method_15_code 30 = .ok (.iaload, 1) := by decide +kernel
theorem d_RM_putProduct_31 : decode prog_6_method_15_code 31 = .ok (.if_icmp .ge 79, 3) := by decide +kernel
theorem d_RM_putProduct_34 : decode prog_6_method_15_code 34 = .ok (.iconst 0, 1) := by decide +kernel
theorem d_RM_putProduct_35 : decode prog_6_method_15_code 35 = .ok (.istore 5, 2) := by decide +kernel
theorem d_RM_putProduct_37 : decode prog_6_method_15_code 37 = .ok (.iload 5, 2) := by decide +kernel
theorem d_RM_putProduct_39 : decode prog_6_method_15_code 39 = .ok (.aload_n 0, 1) := by decide +kernel
theorem d_RM_putProduct_40 : decode prog_6_method_15_code 40 = .ok (.getfield 7, 3) := by decide +kernel
theorem d_RM_putProduct_43 : decode prog_6_method_15_code 43 = .ok (.iload_n 2, 1) := by decide +kernel
theorem d_RM_putProduct_44 : decode prog_6_method_15_code 44 = .ok (.iaload, 1) := by decide +kernel
theorem d_RM_putProduct_45 : decode prog_6_method_15_code 45 = .ok (.if_icmp .ge 59, 3) := by decide +kernel
theorem d_RM_putProduct_48 : decode prog_6_method_15_code 48 = .ok (.aload_n 0, 1) := by decide +kernel
theorem d_RM_putProduct_49 : decode prog_6_method_15_code 49 = .ok (.getfield 25, 3) := by decide +kernel
theorem d_RM_putProduct_52 : decode prog_6_method_15_code 52 = .ok (.iload_n 3, 1) := by decide +kernel
theorem d_RM_putProduct_53 : decode prog_6_method_15_code 53 = .ok (.iload 4, 2) := by decide +kernel
theorem d_RM_putProduct_55 : decode prog_6_method_15_code 55 = .ok (.isub, 1) := by decide +kernel
theorem d_RM_putProduct_56 : decode prog_6_method_15_code 56 = .ok (.iload 5, 2) := by decide +kernel
theorem d_RM_putProduct_58 : decode prog_6_method_15_code 58 = .ok (.isub, 1) := by decide +kernel
theorem d_RM_putProduct_59 : decode prog_6_method_15_code 59 = .ok (.aload_n 0, 1) := by decide +kernel
theorem d_RM_putProduct_60 : decode prog_6_method_15_code 60 = .ok (.getfield 25, 3) := by decide +kernel
theorem d_RM_putProduct_63 : decode prog_6_method_15_code 63 = .ok (.iload_n 3, 1) := by decide +kernel
theorem d_RM_putProduct_64 : decode prog_6_method_15_code 64 = .ok (.iload 4, 2) := by decide +kernel
theorem d_RM_putProduct_66 : decode prog_6_method_15_code 66 = .ok (.isub, 1) := by decide +kernel
theorem d_RM_putProduct_67 : decode prog_6_method_15_code 67 = .ok (.iload 5, 2) := by decide +kernel
theorem d_RM_putProduct_69 : decode prog_6_method_15_code 69 = .ok (.isub, 1) := by decide +kernel
theorem d_RM_putProduct_70 : decode prog_6_method_15_code 70 = .ok (.iaload, 1) := by decide +kernel
theorem d_RM_putProduct_71 : decode prog_6_method_15_code 71 = .ok (.aload_n 0, 1) := by decide +kernel
theorem d_RM_putProduct_72 : decode prog_6_method_15_code 72 = .ok (.getfield 22, 3) := by decide +kernel
theorem d_RM_putProduct_75 : decode prog_6_method_15_code 75 = .ok (.bipush 93, 2) := by decide +kernel
theorem d_RM_putProduct_77 : decode prog_6_method_15_code 77 = .ok (.iload_n 1, 1) := by decide +kernel
theorem d_RM_putProduct_78 : decode prog_6_method_15_code 78 = .ok (.imul, 1) := by decide +kernel
theorem d_RM_putProduct_79 : decode prog_6_method_15_code 79 = .ok (.iload 4, 2) := by decide +kernel
theorem d_RM_putProduct_81 : decode prog_6_method_15_code 81 = .ok (.iadd, 1) := by decide +kernel
theorem d_RM_putProduct_82 : decode prog_6_method_15_code 82 = .ok (.iaload, 1) := by decide +kernel
theorem d_RM_putProduct_83 : decode prog_6_method_15_code 83 = .ok (.aload_n 0, 1) := by decide +kernel
theorem d_RM_putProduct_84 : decode prog_6_method_15_code 84 = .ok (.getfield 22, 3) := by decide +kernel
theorem d_RM_putProduct_87 : decode prog_6_method_15_code 87 = .ok (.bipush 93, 2) := by decide +kernel
theorem d_RM_putProduct_89 : decode prog_6_method_15_code 89 = .ok (.iload_n 2, 1) := by decide +kernel
theorem d_RM_putProduct_90 : decode prog_6_method_15_code 90 = .ok (.imul, 1) := by decide +kernel
theorem d_RM_putProduct_91 : decode prog_6_method_15_code 91 = .ok (.iload 5, 2) := by decide +kernel
theorem d_RM_putProduct_93 : decode prog_6_method_15_code 93 = .ok (.iadd, 1) := by decide +kernel
theorem d_RM_putProduct_94 : decode prog_6_method_15_code 94 = .ok (.iaload, 1) := by decide +kernel
theorem d_RM_putProduct_95 : decode prog_6_method_15_code 95 = .ok (.imul, 1) := by decide +kernel
theorem d_RM_putProduct_96 : decode prog_6_method_15_code 96 = .ok (.iadd, 1) := by decide +kernel
theorem d_RM_putProduct_97 : decode prog_6_method_15_code 97 = .ok (.iastore, 1) := by decide +kernel
theorem d_RM_putProduct_98 : decode prog_6_method_15_code 98 = .ok (.iinc 5 1, 3) := by decide +kernel
theorem d_RM_putProduct_101 : decode prog_6_method_15_code 101 = .ok (.goto (-64), 3) := by decide +kernel
theorem d_RM_putProduct_104 : decode prog_6_method_15_code 104 = .ok (.iinc 4 1, 3) := by decide +kernel
theorem d_RM_putProduct_107 : decode prog_6_method_15_code 107 = .ok (.goto (-84), 3) := by decide +kernel
theorem d_RM_putProduct_110 : decode prog_6_method_15_code 110 = .ok (.iconst 0, 1) := by decide +kernel
theorem d_RM_putProduct_111 : decode prog_6_method_15_code 111 = .ok (.istore 4, 2) := by decide +kernel
theorem d_RM_putProduct_113 : decode prog_6_method_15_code 113 = .ok (.iload 4, 2) := by decide +kernel
theorem d_RM_putProduct_115 : decode prog_6_method_15_code 115 = .ok (.iconst 1, 1) := by decide +kernel
theorem d_RM_putProduct_116 : decode prog_6_method_15_code 116 = .ok (.iadd, 1) := by decide +kernel
theorem d_RM_putProduct_117 : decode prog_6_method_15_code 117 = .ok (.sipush 1024, 3) := by decide +kernel
theorem d_RM_putProduct_120 : decode prog_6_method_15_code 120 = .ok (.if_icmp .ge 53, 3) := by decide +kernel
theorem d_RM_putProduct_123 : decode prog_6_method_15_code 123 = .ok (.aload_n 0, 1) := by decide +kernel
theorem d_RM_putProduct_124 : decode prog_6_method_15_code 124 = .ok (.getfield 25, 3) := by decide +kernel
theorem d_RM_putProduct_127 : decode prog_6_method_15_code 127 = .ok (.iload 4, 2) := by decide +kernel
theorem d_RM_putProduct_129 : decode prog_6_method_15_code 129 = .ok (.iconst 1, 1) := by decide +kernel
theorem d_RM_putProduct_130 : decode prog_6_method_15_code 130 = .ok (.iadd, 1) := by decide +kernel
theorem d_RM_putProduct_131 : decode prog_6_method_15_code 131 = .ok (.aload_n 0, 1) := by decide +kernel
theorem d_RM_putProduct_132 : decode prog_6_method_15_code 132 = .ok (.getfield 25, 3) := by decide +kernel
theorem d_RM_putProduct_135 : decode prog_6_method_15_code 135 = .ok (.iload 4, 2) := by decide +kernel
theorem d_RM_putProduct_137 : decode prog_6_method_15_code 137 = .ok (.iconst 1, 1) := by decide +kernel
theorem d_RM_putProduct_138 : decode prog_6_method_15_code 138 = .ok (.iadd, 1) := by decide +kernel
theorem d_RM_putProduct_139 : decode prog_6_method_15_code 139 = .ok (.iaload, 1) := by decide +kernel
theorem d_RM_putProduct_140 : decode prog_6_method_15_code 140 = .ok (.aload_n 0, 1) := by decide +kernel
theorem d_RM_putProduct_141 : decode prog_6_method_15_code 141 = .ok (.getfield 25, 3) := by decide +kernel
theorem d_RM_putProduct_144 : decode prog_6_method_15_code 144 = .ok (.iload 4, 2) := by decide +kernel
theorem d_RM_putProduct_146 : decode prog_6_method_15_code 146 = .ok (.iaload, 1) := by decide +kernel
theorem d_RM_putProduct_147 : decode prog_6_method_15_code 147 = .ok (.iconst 2, 1) := by decide +kernel
theorem d_RM_putProduct_148 : decode prog_6_method_15_code 148 = .ok (.idiv, 1) := by decide +kernel
theorem d_RM_putProduct_149 : decode prog_6_method_15_code 149 = .ok (.iadd, 1) := by decide +kernel
theorem d_RM_putProduct_150 : decode prog_6_method_15_code 150 = .ok (.iastore, 1) := by decide +kernel
theorem d_RM_putProduct_151 : decode prog_6_method_15_code 151 = .ok (.aload_n 0, 1) := by decide +kernel
theorem d_RM_putProduct_152 : decode prog_6_method_15_code 152 = .ok (.getfield 25, 3) := by decide +kernel
theorem d_RM_putProduct_155 : decode prog_6_method_15_code 155 = .ok (.iload 4, 2) := by decide +kernel
theorem d_RM_putProduct_157 : decode prog_6_method_15_code 157 = .ok (.aload_n 0, 1) := by decide +kernel
theorem d_RM_putProduct_158 : decode prog_6_method_15_code 158 = .ok (.getfield 25, 3) := by decide +kernel
theorem d_RM_putProduct_161 : decode prog_6_method_15_code 161 = .ok (.iload 4, 2) := by decide +kernel
theorem d_RM_putProduct_163 : decode prog_6_method_15_code 163 = .ok (.iaload, 1) := by decide +kernel
theorem d_RM_putProduct_164 : decode prog_6_method_15_code 164 = .ok (.iconst 2, 1) := by decide +kernel
theorem d_RM_putProduct_165 : decode prog_6_method_15_code 165 = .ok (.irem, 1) := by decide +kernel
theorem d_RM_putProduct_166 : decode prog_6_method_15_code 166 = .ok (.iastore, 1) := by decide +kernel
theorem d_RM_putProduct_167 : decode prog_6_method_15_code 167 = .ok (.iinc 4 1, 3) := by decide +kernel
theorem d_RM_putProduct_170 : decode prog_6_method_15_code 170 = .ok (.goto (-57), 3) := by decide +kernel
theorem d_RM_putProduct_173 : decode prog_6_method_15_code 173 = .ok (.return_, 1) := by decide +kernel
def RM_putProduct_113 : Nat → Int32 → rm_S → Option (rm_S)
  | 0, _, _ => none
  | n + 1, L4, st => (if (1024 : Int32) ≤ (L4 + (1 : Int32)) then some st else (if ob_in (L4 + (1 : Int32)) 1024 = true then (if ob_in L4 1024 = true then (if ob_in (L4 + (1 : Int32)) 1024 = true then nm (rm_up st 6 (L4 + (1 : Int32)).toNatClampNeg ((st 6 (L4 + (1 : Int32)).toNatClampNeg) + ((st 6 L4.toNatClampNeg) / (2 : Int32)))) (fun t150 => (if ob_in L4 1024 = true then (if ob_in L4 1024 = true then nm (rm_up t150 6 L4.toNatClampNeg ((t150 6 L4.toNatClampNeg) - (t150 6 L4.toNatClampNeg) / (2 : Int32) * (2 : Int32))) (fun t166 => nm (L4 + (1 : Int32)) (fun x167 => (RM_putProduct_113 n) x167 t166)) else none) else none)) else none) else none) else none))
def RM_putProduct_37 (k23 : Int32 → Int32 → Int32 → Int32 → rm_S → Option (rm_S)) : Nat → Int32 → Int32 → Int32 → Int32 → Int32 → rm_S → Option (rm_S)
  | 0, _, _, _, _, _, _ => none
  | n + 1, L1, L2, L3, L4, L5, st => (if ob_in L2 8 = true then (if (st 1 L2.toNatClampNeg) ≤ L5 then nm (L4 + (1 : Int32)) (fun x104 => k23 L1 L2 L3 x104 st) else (if ob_in ((L3 - L4) - L5) 1024 = true then (if ob_in (((93 : Int32) * L1) + L4) 744 = true then (if ob_in (((93 : Int32) * L2) + L5) 744 = true then (if ob_in ((L3 - L4) - L5) 1024 = true then nm (rm_up st 6 ((L3 - L4) - L5).toNatClampNeg ((st 6 ((L3 - L4) - L5).toNatClampNeg) + ((st 5 (((93 : Int32) * L1) + L4).toNatClampNeg) * (st 5 (((93 : Int32) * L2) + L5).toNatClampNeg)))) (fun t97 => nm (L5 + (1 : Int32)) (fun x98 => (RM_putProduct_37 k23 n) L1 L2 L3 L4 x98 t97)) else none) else none) else none) else none)) else none)
def RM_putProduct_23 : Nat → Int32 → Int32 → Int32 → Int32 → rm_S → Option (rm_S)
  | 0, _, _, _, _, _ => none
  | n + 1, L1, L2, L3, L4, st => (if ob_in L1 8 = true then (if (st 1 L1.toNatClampNeg) ≤ L4 then RM_putProduct_113 (2000) (0 : Int32) st else RM_putProduct_37 (RM_putProduct_23 n) (2000) L1 L2 L3 L4 (0 : Int32) st) else none)
def RM_putProduct (st : rm_S) (p0 : Int32) (p1 : Int32) : Option (rm_S) := (if ob_in p0 8 = true then (if ob_in p1 8 = true then nm ((((600 : Int32) + (st 4 p0.toNatClampNeg)) + (st 4 p1.toNatClampNeg)) - (2 : Int32)) (fun x19 => RM_putProduct_23 (2000) p0 p1 x19 (0 : Int32) st) else none) else none)
set_option maxHeartbeats 4000000 in
set_option maxRecDepth 100000 in
theorem c_RM_putProduct (l : Launch) {D : va_G} (a : Nat → Nat) (ci : ClassId) (hi : rm_inj a) (st : rm_S) (p0 : Int32) (p1 : Int32) (t0 : rm_S) (hF : RM_putProduct st p0 p1 = some t0) : ct_v l ⟨"RoundedNumbersModel", "putProduct", "(II)V"⟩ (.code ⟨"RoundedNumbersModel", "putProduct", "(II)V"⟩ prog_6_method_15_code 6 none :: ct_T) { frames := 0, cells := 0, slots := 0, locals := 0 } D vwCl (rm_T ci) (rm_g a ci) (rm_X a) [.ref (a 0), .int p0, .int p1] st t0 := by
  refine ct_v.mk (cc := prog_6_method_15_code) (maxL := 6) (by decide) rfl (Nat.le_of_ble_eq_true rfl) ?_
  intro p e s m below meth c hx hb hr hml hown hts hlk hK hN hP hS ls hl
  have hown : s.vm.findClass "RoundedNumbersModel" = some m.cls := hown
  have hl : lv_has ls 6 [(0, .ref (a 0)), (1, .int p0), (2, .int p1)] := hl
  have htb := fun w h => hts w (List.mem_cons_of_mem _ h)
  unfold RM_putProduct at hF
  refine lv_sipush (v := 600) hx hb d_RM_putProduct_0 (by decide) ?_
  refine lv_aload_n hx hb d_RM_putProduct_3 rfl (lv_at hl 0 rfl) ?_
  refine gf_RM_19 hx hb htb hown hK hP d_RM_putProduct_4 ?_
  refine lv_iload_n hx hb d_RM_putProduct_7 rfl (lv_at hl 1 rfl) ?_
  obtain ⟨b8, hF⟩ := ob_if hF
  refine rm_ald hx hb hK hP (k := 4) (by decide) (by decide) (ob_vi b8) d_RM_putProduct_8 ?_
  refine lv_iadd hx hb d_RM_putProduct_9 ?_
  refine lv_aload_n hx hb d_RM_putProduct_10 rfl (lv_at hl 0 rfl) ?_
  refine gf_RM_19 hx hb htb hown hK hP d_RM_putProduct_11 ?_
  refine lv_iload_n hx hb d_RM_putProduct_14 rfl (lv_at hl 2 rfl) ?_
  obtain ⟨b15, hF⟩ := ob_if hF
  refine rm_ald hx hb hK hP (k := 4) (by decide) (by decide) (ob_vi b15) d_RM_putProduct_15 ?_
  refine lv_iadd hx hb d_RM_putProduct_16 ?_
  refine lv_iconst (v := 2) hx hb d_RM_putProduct_17 (by decide) ?_
  refine lv_isub hx hb d_RM_putProduct_18 ?_
  refine lv_topi (fun x19 e19 => ?_)
  replace hF := (nm_eq e19.symm).symm.trans hF
  refine lv_istore_n (lv' := [(3, .int x19), (0, .ref (a 0)), (1, .int p0), (2, .int p1)]) hx hb d_RM_putProduct_19 rfl hl (by decide) rfl (fun ls hl => ?_)
  refine lv_iconst (v := 0) hx hb d_RM_putProduct_20 (by decide) ?_
  refine lv_istore (lv' := [(4, .int (0 : Int32)), (3, .int x19), (0, .ref (a 0)), (1, .int p0), (2, .int p1)]) hx hb d_RM_putProduct_21 hl (by decide) rfl (fun ls hl => ?_)
  refine ct_loop2 (fun n (w23L4 : Int32) (w23t : rm_S) ls H locs => lv_has ls 6 [(4, .int w23L4), (3, .int x19), (0, .ref (a 0)), (1, .int p0), (2, .int p1)] ∧ RM_putProduct_23 n p0 p1 x19 w23L4 w23t = some t0 ∧ va_P D vwCl (rm_g a ci w23t) H ∧ va_S (ct_F (rm_X a) s.heap.size) s.heap H locs) 23 ?_ ?_ (2000) (0 : Int32) st ⟨lv_sub hl [0, 1, 2, 3, 4] rfl, hF, hP, hS⟩
  · intro w23L4 w23t ls H locs hq
    obtain ⟨hl, hF, hP, hS⟩ := hq
    rw [RM_putProduct_23] at hF
    cases hF
  · intro n23 ih23 w23L4 w23t ls H locs hq
    obtain ⟨hl, hF, hP, hS⟩ := hq
    rw [RM_putProduct_23] at hF
    refine lv_iload hx hb d_RM_putProduct_23 (lv_at hl 0 rfl) ?_
    refine lv_aload_n hx hb d_RM_putProduct_25 rfl (lv_at hl 2 rfl) ?_
    refine gf_RM_7 hx hb htb hown hK hP d_RM_putProduct_26 ?_
    refine lv_iload_n hx hb d_RM_putProduct_29 rfl (lv_at hl 3 rfl) ?_
    obtain ⟨b30, hF⟩ := ob_if hF
    refine rm_ald hx hb hK hP (k := 1) (by decide) (by decide) (ob_vi b30) d_RM_putProduct_30 ?_
    refine lv_icmp_ge hx hb d_RM_putProduct_31 (tgt := 110) (by decide) (fun c31 => ?_) (fun c31 => ?_)
    · replace hF := (if_pos c31).symm.trans hF
      refine lv_iconst (v := 0) hx hb d_RM_putProduct_110 (by decide) ?_
      refine lv_istore (lv' := [(4, .int (0 : Int32)), (3, .int x19), (0, .ref (a 0)), (1, .int p0), (2, .int p1)]) hx hb d_RM_putProduct_111 hl (by decide) rfl (fun ls hl => ?_)
      refine ct_loop2 (fun n (w113L4 : Int32) (w113t : rm_S) ls H locs => lv_has ls 6 [(4, .int w113L4), (0, .ref (a 0))] ∧ RM_putProduct_113 n w113L4 w113t = some t0 ∧ va_P D vwCl (rm_g a ci w113t) H ∧ va_S (ct_F (rm_X a) s.heap.size) s.heap H locs) 113 ?_ ?_ (2000) (0 : Int32) w23t ⟨lv_sub hl [0, 2] rfl, hF, hP, hS⟩
      · intro w113L4 w113t ls H locs hq
        obtain ⟨hl, hF, hP, hS⟩ := hq
        rw [RM_putProduct_113] at hF
        cases hF
      · intro n113 ih113 w113L4 w113t ls H locs hq
        obtain ⟨hl, hF, hP, hS⟩ := hq
        rw [RM_putProduct_113] at hF
        refine lv_iload hx hb d_RM_putProduct_113 (lv_at hl 0 rfl) ?_
        refine lv_iconst (v := 1) hx hb d_RM_putProduct_115 (by decide) ?_
        refine lv_iadd hx hb d_RM_putProduct_116 ?_
        refine lv_sipush (v := 1024) hx hb d_RM_putProduct_117 (by decide) ?_
        refine lv_icmp_ge hx hb d_RM_putProduct_120 (tgt := 173) (by decide) (fun c120 => ?_) (fun c120 => ?_)
        · replace hF := (if_pos c120).symm.trans hF
          replace hF := Option.some.inj hF
          subst hF
          exact ct_vret hx hb hr hlk hP hS d_RM_putProduct_173
        · replace hF := (if_neg c120).symm.trans hF
          refine lv_aload_n hx hb d_RM_putProduct_123 rfl (lv_at hl 1 rfl) ?_
          refine gf_RM_25 hx hb htb hown hK hP d_RM_putProduct_124 ?_
          refine lv_iload hx hb d_RM_putProduct_127 (lv_at hl 0 rfl) ?_
          refine lv_iconst (v := 1) hx hb d_RM_putProduct_129 (by decide) ?_
          refine lv_iadd hx hb d_RM_putProduct_130 ?_
          refine lv_aload_n hx hb d_RM_putProduct_131 rfl (lv_at hl 1 rfl) ?_
          refine gf_RM_25 hx hb htb hown hK hP d_RM_putProduct_132 ?_
          refine lv_iload hx hb d_RM_putProduct_135 (lv_at hl 0 rfl) ?_
          refine lv_iconst (v := 1) hx hb d_RM_putProduct_137 (by decide) ?_
          refine lv_iadd hx hb d_RM_putProduct_138 ?_
          obtain ⟨b139, hF⟩ := ob_if hF
          refine rm_ald hx hb hK hP (k := 6) (by decide) (by decide) (ob_vi b139) d_RM_putProduct_139 ?_
          refine lv_aload_n hx hb d_RM_putProduct_140 rfl (lv_at hl 1 rfl) ?_
          refine gf_RM_25 hx hb htb hown hK hP d_RM_putProduct_141 ?_
          refine lv_iload hx hb d_RM_putProduct_144 (lv_at hl 0 rfl) ?_
          obtain ⟨b146, hF⟩ := ob_if hF
          refine rm_ald hx hb hK hP (k := 6) (by decide) (by decide) (ob_vi b146) d_RM_putProduct_146 ?_
          refine lv_iconst (v := 2) hx hb d_RM_putProduct_147 (by decide) ?_
          refine lv_idiv hx hb d_RM_putProduct_148 (by decide) ?_
          refine lv_iadd hx hb d_RM_putProduct_149 ?_
          obtain ⟨b150, hF⟩ := ob_if hF
          refine rm_ast hx hb hK hP hS hi (k := 6) (by decide) (by decide) (ob_vi b150) d_RM_putProduct_150 (fun H locs hP hS => ?_)
          obtain ⟨t150, e150, hP⟩ := nm_st hP
          replace hF := (nm_eq e150).symm.trans hF
          refine lv_aload_n hx hb d_RM_putProduct_151 rfl (lv_at hl 1 rfl) ?_
          refine gf_RM_25 hx hb htb hown hK hP d_RM_putProduct_152 ?_
          refine lv_iload hx hb d_RM_putProduct_155 (lv_at hl 0 rfl) ?_
          refine lv_aload_n hx hb d_RM_putProduct_157 rfl (lv_at hl 1 rfl) ?_
          refine gf_RM_25 hx hb htb hown hK hP d_RM_putProduct_158 ?_
          refine lv_iload hx hb d_RM_putProduct_161 (lv_at hl 0 rfl) ?_
          obtain ⟨b163, hF⟩ := ob_if hF
          refine rm_ald hx hb hK hP (k := 6) (by decide) (by decide) (ob_vi b163) d_RM_putProduct_163 ?_
          refine lv_iconst (v := 2) hx hb d_RM_putProduct_164 (by decide) ?_
          refine lv_irem hx hb d_RM_putProduct_165 (by decide) ?_
          obtain ⟨b166, hF⟩ := ob_if hF
          refine rm_ast hx hb hK hP hS hi (k := 6) (by decide) (by decide) (ob_vi b166) d_RM_putProduct_166 (fun H locs hP hS => ?_)
          obtain ⟨t166, e166, hP⟩ := nm_st hP
          replace hF := (nm_eq e166).symm.trans hF
          obtain ⟨x167, e167⟩ := nm_ex (w113L4 + (1 : Int32))
          replace hF := (nm_eq e167).symm.trans hF
          refine lv_iinc (v := x167) (lv' := [(4, .int x167), (0, .ref (a 0))]) hx hb d_RM_putProduct_167 hl (k := 0) rfl e167 (by decide) rfl (fun ls hl => ?_)
          refine lv_goto hx hb d_RM_putProduct_170 (tgt := 113) (by decide) ?_
          exact ih113 x167 t166 _ _ _ ⟨lv_sub hl [0, 1] rfl, hF, hP, hS⟩
    · replace hF := (if_neg c31).symm.trans hF
      refine lv_iconst (v := 0) hx hb d_RM_putProduct_34 (by decide) ?_
      refine lv_istore (lv' := [(5, .int (0 : Int32)), (4, .int w23L4), (3, .int x19), (0, .ref (a 0)), (1, .int p0), (2, .int p1)]) hx hb d_RM_putProduct_35 hl (by decide) rfl (fun ls hl => ?_)
      refine ct_loop2 (fun n (w37L5 : Int32) (w37t : rm_S) ls H locs => lv_has ls 6 [(5, .int w37L5), (4, .int w23L4), (3, .int x19), (0, .ref (a 0)), (1, .int p0), (2, .int p1)] ∧ RM_putProduct_37 (RM_putProduct_23 n23) n p0 p1 x19 w23L4 w37L5 w37t = some t0 ∧ va_P D vwCl (rm_g a ci w37t) H ∧ va_S (ct_F (rm_X a) s.heap.size) s.heap H locs) 37 ?_ ?_ (2000) (0 : Int32) w23t ⟨lv_sub hl [0, 1, 2, 3, 4, 5] rfl, hF, hP, hS⟩
      · intro w37L5 w37t ls H locs hq
        obtain ⟨hl, hF, hP, hS⟩ := hq
        rw [RM_putProduct_37] at hF
        cases hF
      · intro n37 ih37 w37L5 w37t ls H locs hq
        obtain ⟨hl, hF, hP, hS⟩ := hq
        rw [RM_putProduct_37] at hF
        refine lv_iload hx hb d_RM_putProduct_37 (lv_at hl 0 rfl) ?_
        refine lv_aload_n hx hb d_RM_putProduct_39 rfl (lv_at hl 3 rfl) ?_
        refine gf_RM_7 hx hb htb hown hK hP d_RM_putProduct_40 ?_
        refine lv_iload_n hx hb d_RM_putProduct_43 rfl (lv_at hl 5 rfl) ?_
        obtain ⟨b44, hF⟩ := ob_if hF
        refine rm_ald hx hb hK hP (k := 1) (by decide) (by decide) (ob_vi b44) d_RM_putProduct_44 ?_
        refine lv_icmp_ge hx hb d_RM_putProduct_45 (tgt := 104) (by decide) (fun c45 => ?_) (fun c45 => ?_)
        · replace hF := (if_pos c45).symm.trans hF
          obtain ⟨x104, e104⟩ := nm_ex (w23L4 + (1 : Int32))
          replace hF := (nm_eq e104).symm.trans hF
          refine lv_iinc (v := x104) (lv' := [(4, .int x104), (5, .int w37L5), (3, .int x19), (0, .ref (a 0)), (1, .int p0), (2, .int p1)]) hx hb d_RM_putProduct_104 hl (k := 1) rfl e104 (by decide) rfl (fun ls hl => ?_)
          refine lv_goto hx hb d_RM_putProduct_107 (tgt := 23) (by decide) ?_
          exact ih23 x104 w37t _ _ _ ⟨lv_sub hl [0, 2, 3, 4, 5] rfl, hF, hP, hS⟩
        · replace hF := (if_neg c45).symm.trans hF
          refine lv_aload_n hx hb d_RM_putProduct_48 rfl (lv_at hl 3 rfl) ?_
          refine gf_RM_25 hx hb htb hown hK hP d_RM_putProduct_49 ?_
          refine lv_iload_n hx hb d_RM_putProduct_52 rfl (lv_at hl 2 rfl) ?_
          refine lv_iload hx hb d_RM_putProduct_53 (lv_at hl 1 rfl) ?_
          refine lv_isub hx hb d_RM_putProduct_55 ?_
          refine lv_iload hx hb d_RM_putProduct_56 (lv_at hl 0 rfl) ?_
          refine lv_isub hx hb d_RM_putProduct_58 ?_
          refine lv_aload_n hx hb d_RM_putProduct_59 rfl (lv_at hl 3 rfl) ?_
          refine gf_RM_25 hx hb htb hown hK hP d_RM_putProduct_60 ?_
          refine lv_iload_n hx hb d_RM_putProduct_63 rfl (lv_at hl 2 rfl) ?_
          refine lv_iload hx hb d_RM_putProduct_64 (lv_at hl 1 rfl) ?_
          refine lv_isub hx hb d_RM_putProduct_66 ?_
          refine lv_iload hx hb d_RM_putProduct_67 (lv_at hl 0 rfl) ?_
          refine lv_isub hx hb d_RM_putProduct_69 ?_
          obtain ⟨b70, hF⟩ := ob_if hF
          refine rm_ald hx hb hK hP (k := 6) (by decide) (by decide) (ob_vi b70) d_RM_putProduct_70 ?_
          refine lv_aload_n hx hb d_RM_putProduct_71 rfl (lv_at hl 3 rfl) ?_
          refine gf_RM_22 hx hb htb hown hK hP d_RM_putProduct_72 ?_
          refine lv_bipush (v := 93) hx hb d_RM_putProduct_75 (by decide) ?_
          refine lv_iload_n hx hb d_RM_putProduct_77 rfl (lv_at hl 4 rfl) ?_
          refine lv_imul hx hb d_RM_putProduct_78 ?_
          refine lv_iload hx hb d_RM_putProduct_79 (lv_at hl 1 rfl) ?_
          refine lv_iadd hx hb d_RM_putProduct_81 ?_
          obtain ⟨b82, hF⟩ := ob_if hF
          refine rm_ald hx hb hK hP (k := 5) (by decide) (by decide) (ob_vi b82) d_RM_putProduct_82 ?_
          refine lv_aload_n hx hb d_RM_putProduct_83 rfl (lv_at hl 3 rfl) ?_
          refine gf_RM_22 hx hb htb hown hK hP d_RM_putProduct_84 ?_
          refine lv_bipush (v := 93) hx hb d_RM_putProduct_87 (by decide) ?_
          refine lv_iload_n hx hb d_RM_putProduct_89 rfl (lv_at hl 5 rfl) ?_
          refine lv_imul hx hb d_RM_putProduct_90 ?_
          refine lv_iload hx hb d_RM_putProduct_91 (lv_at hl 0 rfl) ?_
          refine lv_iadd hx hb d_RM_putProduct_93 ?_
          obtain ⟨b94, hF⟩ := ob_if hF
          refine rm_ald hx hb hK hP (k := 5) (by decide) (by decide) (ob_vi b94) d_RM_putProduct_94 ?_
          refine lv_imul hx hb d_RM_putProduct_95 ?_
          refine lv_iadd hx hb d_RM_putProduct_96 ?_
          obtain ⟨b97, hF⟩ := ob_if hF
          refine rm_ast hx hb hK hP hS hi (k := 6) (by decide) (by decide) (ob_vi b97) d_RM_putProduct_97 (fun H locs hP hS => ?_)
          obtain ⟨t97, e97, hP⟩ := nm_st hP
          replace hF := (nm_eq e97).symm.trans hF
          obtain ⟨x98, e98⟩ := nm_ex (w37L5 + (1 : Int32))
          replace hF := (nm_eq e98).symm.trans hF
          refine lv_iinc (v := x98) (lv' := [(5, .int x98), (4, .int w23L4), (3, .int x19), (0, .ref (a 0)), (1, .int p0), (2, .int p1)]) hx hb d_RM_putProduct_98 hl (k := 0) rfl e98 (by decide) rfl (fun ls hl => ?_)
          refine lv_goto hx hb d_RM_putProduct_101 (tgt := 37) (by decide) ?_
          exact ih37 x98 t97 _ _ _ ⟨lv_sub hl [0, 1, 2, 3, 4, 5] rfl, hF, hP, hS⟩
theorem d_RM_compareRows_0 : decode prog_6_method_16_code 0 = .ok (.sipush 1023, 3) := by decide +kernel
theorem d_RM_compareRows_3 : decode prog_6_method_16_code 3 = .ok (.istore_n 1, 1) := by decide +kernel
theorem d_RM_compareRows_4 : decode prog_6_method_16_code 4 = .ok (.iload_n 1, 1) := by decide +kernel
theorem d_RM_compareRows_5 : decode prog_6_method_16_code 5 = .ok (.ifCond .lt 45, 3) := by decide +kernel
theorem d_RM_compareRows_8 : decode prog_6_method_16_code 8 = .ok (.aload_n 0, 1) := by decide +kernel
theorem d_RM_compareRows_9 : decode prog_6_method_16_code 9 = .ok (.getfield 25, 3) := by decide +kernel
theorem d_RM_compareRows_12 : decode prog_6_method_16_code 12 = .ok (.iload_n 1, 1) := by decide +kernel
theorem d_RM_compareRows_13 : decode prog_6_method_16_code 13 = .ok (.iaload, 1) := by decide +kernel
theorem d_RM_compareRows_14 : decode prog_6_method_16_code 14 = .ok (.aload_n 0, 1) := by decide +kernel
theorem d_RM_compareRows_15 : decode prog_6_method_16_code 15 = .ok (.getfield 28, 3) := by decide +kernel
theorem d_RM_compareRows_18 : decode prog_6_method_16_code 18 = .ok (.iload_n 1, 1) := by decide +kernel
theorem d_RM_compareRows_19 : decode prog_6_method_16_code 19 = .ok (.iaload, 1) := by decide +kernel
theorem d_RM_compareRows_20 : decode prog_6_method_16_code 20 = .ok (.if_icmp .eq 24, 3) := by decide +kernel
theorem d_RM_compareRows_23 : decode prog_6_method_16_code 23 = .ok (.aload_n 0, 1) := by decide +kernel
theorem d_RM_compareRows_24 : decode prog_6_method_16_code 24 = .ok (.getfield 25, 3) := by decide +kernel
theorem d_RM_compareRows_27 : decode prog_6_method_16_code 27 = .ok (.iload_n 1, 1) := by decide +kernel
theorem d_RM_compareRows_28 : decode prog_6_method_16_code 28 = .ok (.iaload, 1) := by decide +kernel
theorem d_RM_compareRows_29 : decode prog_6_method_16_code 29 = .ok (.aload_n 0, 1) := by decide +kernel
theorem d_RM_compareRows_30 : decode prog_6_method_16_code 30 = .ok (.getfield 28, 3) := by decide +kernel
theorem d_RM_compareRows_33 : decode prog_6_method_16_code 33 = .ok (.iload_n 1, 1) := by decide +kernel
theorem d_RM_compareRows_34 : decode prog_6_method_16_code 34 = .ok (.iaload, 1) := by decide +kernel
theorem d_RM_compareRows_35 : decode prog_6_method_16_code 35 = .ok (.if_icmp .le 7, 3) := by decide +kernel
theorem d_RM_compareRows_38 : decode prog_6_method_16_code 38 = .ok (.iconst 1, 1) := by decide +kernel
theorem d_RM_compareRows_39 : decode prog_6_method_16_code 39 = .ok (.goto 4, 3) := by decide +kernel
theorem d_RM_compareRows_42 : decode prog_6_method_16_code 42 = .ok (.iconst (-1), 1) := by decide +kernel
theorem d_RM_compareRows_43 : decode prog_6_method_16_code 43 = .ok (.ireturn, 1) := by decide +kernel
theorem d_RM_compareRows_44 : decode prog_6_method_16_code 44 = .ok (.iinc 1 (-1), 3) := by decide +kernel
theorem d_RM_compareRows_47 : decode prog_6_method_16_code 47 = .ok (.goto (-43), 3) := by decide +kernel
theorem d_RM_compareRows_50 : decode prog_6_method_16_code 50 = .ok (.iconst 0, 1) := by decide +kernel
theorem d_RM_compareRows_51 : decode prog_6_method_16_code 51 = .ok (.ireturn, 1) := by decide +kernel
def RM_compareRows_4 : Nat → Int32 → rm_S → Option (Int32)
  | 0, _, _ => none
  | n + 1, L1, st => (if L1 < 0 then some (0 : Int32) else (if ob_in L1 1024 = true then (if ob_in L1 1024 = true then (if (st 6 L1.toNatClampNeg) = (st 7 L1.toNatClampNeg) then nm (L1 + (-1 : Int32)) (fun x44 => (RM_compareRows_4 n) x44 st) else (if ob_in L1 1024 = true then (if ob_in L1 1024 = true then (if (st 6 L1.toNatClampNeg) ≤ (st 7 L1.toNatClampNeg) then some (-1 : Int32) else some (1 : Int32)) else none) else none)) else none) else none))
def RM_compareRows (st : rm_S) : Option (Int32) := RM_compareRows_4 (2000) (1023 : Int32) st
set_option maxHeartbeats 4000000 in
set_option maxRecDepth 100000 in
theorem c_RM_compareRows (l : Launch) {D : va_G} (a : Nat → Nat) (ci : ClassId) (hi : rm_inj a) (st : rm_S) (r0 : Int32) (hF : RM_compareRows st = some r0) : ct_i l ⟨"RoundedNumbersModel", "compareRows", "()I"⟩ (.code ⟨"RoundedNumbersModel", "compareRows", "()I"⟩ prog_6_method_16_code 2 (some .int) :: ct_T) { frames := 0, cells := 0, slots := 0, locals := 0 } D vwCl (rm_T ci) (rm_g a ci) (rm_X a) [.ref (a 0)] st r0 st := by
  refine ct_i.mk (cc := prog_6_method_16_code) (maxL := 2) (by decide) rfl (Nat.le_of_ble_eq_true rfl) ?_
  intro p e s m below meth c hx hb hr hml hown hts hlk hK hN hP hS ls hl
  have hown : s.vm.findClass "RoundedNumbersModel" = some m.cls := hown
  have hl : lv_has ls 2 [(0, .ref (a 0))] := hl
  have htb := fun w h => hts w (List.mem_cons_of_mem _ h)
  unfold RM_compareRows at hF
  refine lv_sipush (v := 1023) hx hb d_RM_compareRows_0 (by decide) ?_
  refine lv_istore_n (lv' := [(1, .int (1023 : Int32)), (0, .ref (a 0))]) hx hb d_RM_compareRows_3 rfl hl (by decide) rfl (fun ls hl => ?_)
  refine ct_loop1 (fun n (w4L1 : Int32) ls H locs => lv_has ls 2 [(1, .int w4L1), (0, .ref (a 0))] ∧ RM_compareRows_4 n w4L1 st = some r0 ∧ va_P D vwCl (rm_g a ci st) H ∧ va_S (ct_F (rm_X a) s.heap.size) s.heap H locs) 4 ?_ ?_ (2000) (1023 : Int32) ⟨lv_sub hl [0, 1] rfl, hF, hP, hS⟩
  · intro w4L1 ls H locs hq
    obtain ⟨hl, hF, hP, hS⟩ := hq
    rw [RM_compareRows_4] at hF
    cases hF
  · intro n4 ih4 w4L1 ls H locs hq
    obtain ⟨hl, hF, hP, hS⟩ := hq
    rw [RM_compareRows_4] at hF
    refine lv_iload_n hx hb d_RM_compareRows_4 rfl (lv_at hl 0 rfl) ?_
    refine lv_if_lt hx hb d_RM_compareRows_5 (tgt := 50) (by decide) (fun c5 => ?_) (fun c5 => ?_)
    · replace hF := (if_pos c5).symm.trans hF
      refine lv_iconst (v := 0) hx hb d_RM_compareRows_50 (by decide) ?_
      replace hF := Option.some.inj hF
      subst hF
      exact ct_iret hx hb hr hlk hP hS d_RM_compareRows_51
    · replace hF := (if_neg c5).symm.trans hF
      refine lv_aload_n hx hb d_RM_compareRows_8 rfl (lv_at hl 1 rfl) ?_
      refine gf_RM_25 hx hb htb hown hK hP d_RM_compareRows_9 ?_
      refine lv_iload_n hx hb d_RM_compareRows_12 rfl (lv_at hl 0 rfl) ?_
      obtain ⟨b13, hF⟩ := ob_if hF
      refine rm_ald hx hb hK hP (k := 6) (by decide) (by decide) (ob_vi b13) d_RM_compareRows_13 ?_
      refine lv_aload_n hx hb d_RM_compareRows_14 rfl (lv_at hl 1 rfl) ?_
      refine gf_RM_28 hx hb htb hown hK hP d_RM_compareRows_15 ?_
      refine lv_iload_n hx hb d_RM_compareRows_18 rfl (lv_at hl 0 rfl) ?_
      obtain ⟨b19, hF⟩ := ob_if hF
      refine rm_ald hx hb hK hP (k := 7) (by decide) (by decide) (ob_vi b19) d_RM_compareRows_19 ?_
      refine lv_icmp_eq hx hb d_RM_compareRows_20 (tgt := 44) (by decide) (fun c20 => ?_) (fun c20 => ?_)
      · replace hF := (if_pos c20).symm.trans hF
        obtain ⟨x44, e44⟩ := nm_ex (w4L1 + (-1 : Int32))
        replace hF := (nm_eq e44).symm.trans hF
        refine lv_iinc (v := x44) (lv' := [(1, .int x44), (0, .ref (a 0))]) hx hb d_RM_compareRows_44 hl (k := 0) rfl e44 (by decide) rfl (fun ls hl => ?_)
        refine lv_goto hx hb d_RM_compareRows_47 (tgt := 4) (by decide) ?_
        exact ih4 x44 _ _ _ ⟨lv_sub hl [0, 1] rfl, hF, hP, hS⟩
      · replace hF := (if_neg c20).symm.trans hF
        refine lv_aload_n hx hb d_RM_compareRows_23 rfl (lv_at hl 1 rfl) ?_
        refine gf_RM_25 hx hb htb hown hK hP d_RM_compareRows_24 ?_
        refine lv_iload_n hx hb d_RM_compareRows_27 rfl (lv_at hl 0 rfl) ?_
        obtain ⟨b28, hF⟩ := ob_if hF
        refine rm_ald hx hb hK hP (k := 6) (by decide) (by decide) (ob_vi b28) d_RM_compareRows_28 ?_
        refine lv_aload_n hx hb d_RM_compareRows_29 rfl (lv_at hl 1 rfl) ?_
        refine gf_RM_28 hx hb htb hown hK hP d_RM_compareRows_30 ?_
        refine lv_iload_n hx hb d_RM_compareRows_33 rfl (lv_at hl 0 rfl) ?_
        obtain ⟨b34, hF⟩ := ob_if hF
        refine rm_ald hx hb hK hP (k := 7) (by decide) (by decide) (ob_vi b34) d_RM_compareRows_34 ?_
        refine lv_icmp_le hx hb d_RM_compareRows_35 (tgt := 42) (by decide) (fun c35 => ?_) (fun c35 => ?_)
        · replace hF := (if_pos c35).symm.trans hF
          refine lv_iconst (v := -1) hx hb d_RM_compareRows_42 (by decide) ?_
          replace hF := Option.some.inj hF
          subst hF
          exact ct_iret hx hb hr hlk hP hS d_RM_compareRows_43
        · replace hF := (if_neg c35).symm.trans hF
          refine lv_iconst (v := 1) hx hb d_RM_compareRows_38 (by decide) ?_
          refine lv_goto hx hb d_RM_compareRows_39 (tgt := 43) (by decide) ?_
          replace hF := Option.some.inj hF
          subst hF
          exact ct_iret hx hb hr hlk hP hS d_RM_compareRows_43
