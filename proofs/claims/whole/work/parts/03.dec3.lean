theorem dX10_works_28 : decode cX10_works 28 = .ok (.iload_n 1, 1) := by decide +kernel
theorem dX10_works_29 : decode cX10_works 29 = .ok (.aload_n 0, 1) := by decide +kernel
theorem dX10_works_30 : decode cX10_works 30 = .ok (.getfield 9, 3) := by decide +kernel
theorem dX10_works_33 : decode cX10_works 33 = .ok (.bipush 25, 2) := by decide +kernel
theorem dX10_works_35 : decode cX10_works 35 = .ok (.iaload, 1) := by decide +kernel
theorem dX10_works_36 : decode cX10_works 36 = .ok (.if_icmp .ge 57, 3) := by decide +kernel
theorem dX10_works_39 : decode cX10_works 39 = .ok (.iconst 0, 1) := by decide +kernel
theorem dX10_works_40 : decode cX10_works 40 = .ok (.istore_n 2, 1) := by decide +kernel
theorem dX10_works_41 : decode cX10_works 41 = .ok (.iload_n 2, 1) := by decide +kernel
theorem dX10_works_42 : decode cX10_works 42 = .ok (.aload_n 0, 1) := by decide +kernel
theorem dX10_works_43 : decode cX10_works 43 = .ok (.iload_n 1, 1) := by decide +kernel
theorem dX10_works_44 : decode cX10_works 44 = .ok (.iconst 4, 1) := by decide +kernel
theorem dX10_works_45 : decode cX10_works 45 = .ok (.invokevirtual 126, 3) := by decide +kernel
theorem dX10_works_48 : decode cX10_works 48 = .ok (.if_icmp .ge 39, 3) := by decide +kernel
theorem dX10_works_51 : decode cX10_works 51 = .ok (.aload_n 0, 1) := by decide +kernel
theorem dX10_works_52 : decode cX10_works 52 = .ok (.getfield 34, 3) := by decide +kernel
theorem dX10_works_55 : decode cX10_works 55 = .ok (.sipush 600, 3) := by decide +kernel
theorem dX10_works_58 : decode cX10_works 58 = .ok (.aload_n 0, 1) := by decide +kernel
theorem dX10_works_59 : decode cX10_works 59 = .ok (.iload_n 1, 1) := by decide +kernel
theorem dX10_works_60 : decode cX10_works 60 = .ok (.iconst 0, 1) := by decide +kernel
theorem dX10_works_61 : decode cX10_works 61 = .ok (.invokevirtual 126, 3) := by decide +kernel
theorem dX10_works_64 : decode cX10_works 64 = .ok (.imul, 1) := by decide +kernel
theorem dX10_works_65 : decode cX10_works 65 = .ok (.aload_n 0, 1) := by decide +kernel
theorem dX10_works_66 : decode cX10_works 66 = .ok (.iload_n 1, 1) := by decide +kernel
theorem dX10_works_67 : decode cX10_works 67 = .ok (.iconst 1, 1) := by decide +kernel
theorem dX10_works_68 : decode cX10_works 68 = .ok (.invokevirtual 126, 3) := by decide +kernel
theorem dX10_works_71 : decode cX10_works 71 = .ok (.iadd, 1) := by decide +kernel
theorem dX10_works_72 : decode cX10_works 72 = .ok (.iload_n 2, 1) := by decide +kernel
theorem dX10_works_73 : decode cX10_works 73 = .ok (.iadd, 1) := by decide +kernel
theorem dX10_works_74 : decode cX10_works 74 = .ok (.aload_n 0, 1) := by decide +kernel
theorem dX10_works_75 : decode cX10_works 75 = .ok (.iload_n 1, 1) := by decide +kernel
theorem dX10_works_76 : decode cX10_works 76 = .ok (.iload_n 2, 1) := by decide +kernel
theorem dX10_works_77 : decode cX10_works 77 = .ok (.invokevirtual 146, 3) := by decide +kernel
theorem dX10_works_80 : decode cX10_works 80 = .ok (.iastore, 1) := by decide +kernel
theorem dX10_works_81 : decode cX10_works 81 = .ok (.iinc 2 1, 3) := by decide +kernel
theorem dX10_works_84 : decode cX10_works 84 = .ok (.goto (-43), 3) := by decide +kernel
theorem dX10_works_87 : decode cX10_works 87 = .ok (.iinc 1 1, 3) := by decide +kernel
theorem dX10_works_90 : decode cX10_works 90 = .ok (.goto (-62), 3) := by decide +kernel
theorem dX10_works_93 : decode cX10_works 93 = .ok (.iconst 0, 1) := by decide +kernel
theorem dX10_works_94 : decode cX10_works 94 = .ok (.istore_n 1, 1) := by decide +kernel
theorem dX10_works_95 : decode cX10_works 95 = .ok (.iload_n 1, 1) := by decide +kernel
theorem dX10_works_96 : decode cX10_works 96 = .ok (.iconst 4, 1) := by decide +kernel
theorem dX10_works_97 : decode cX10_works 97 = .ok (.if_icmp .ge 58, 3) := by decide +kernel
theorem dX10_works_100 : decode cX10_works 100 = .ok (.iconst 0, 1) := by decide +kernel
theorem dX10_works_101 : decode cX10_works 101 = .ok (.istore_n 2, 1) := by decide +kernel
theorem dX10_works_102 : decode cX10_works 102 = .ok (.iload_n 2, 1) := by decide +kernel
theorem dX10_works_103 : decode cX10_works 103 = .ok (.sipush 600, 3) := by decide +kernel
theorem dX10_works_106 : decode cX10_works 106 = .ok (.if_icmp .ge 43, 3) := by decide +kernel
theorem dX10_works_109 : decode cX10_works 109 = .ok (.aload_n 0, 1) := by decide +kernel
theorem dX10_works_110 : decode cX10_works 110 = .ok (.getfield 37, 3) := by decide +kernel
theorem dX10_works_113 : decode cX10_works 113 = .ok (.sipush 600, 3) := by decide +kernel
theorem dX10_works_116 : decode cX10_works 116 = .ok (.iload_n 1, 1) := by decide +kernel
theorem dX10_works_117 : decode cX10_works 117 = .ok (.imul, 1) := by decide +kernel
theorem dX10_works_118 : decode cX10_works 118 = .ok (.iload_n 2, 1) := by decide +kernel
theorem dX10_works_119 : decode cX10_works 119 = .ok (.iadd, 1) := by decide +kernel
theorem dX10_works_120 : decode cX10_works 120 = .ok (.aload_n 0, 1) := by decide +kernel
theorem dX10_works_121 : decode cX10_works 121 = .ok (.getfield 34, 3) := by decide +kernel
theorem dX10_works_124 : decode cX10_works 124 = .ok (.sipush 600, 3) := by decide +kernel
theorem dX10_works_127 : decode cX10_works 127 = .ok (.iload_n 1, 1) := by decide +kernel
theorem dX10_works_128 : decode cX10_works 128 = .ok (.imul, 1) := by decide +kernel
theorem dX10_works_129 : decode cX10_works 129 = .ok (.iload_n 2, 1) := by decide +kernel
theorem dX10_works_130 : decode cX10_works 130 = .ok (.iadd, 1) := by decide +kernel
theorem dX10_works_131 : decode cX10_works 131 = .ok (.iaload, 1) := by decide +kernel
theorem dX10_works_132 : decode cX10_works 132 = .ok (.aload_n 0, 1) := by decide +kernel
theorem dX10_works_133 : decode cX10_works 133 = .ok (.iload_n 1, 1) := by decide +kernel
theorem dX10_works_134 : decode cX10_works 134 = .ok (.iconst 0, 1) := by decide +kernel
theorem dX10_works_135 : decode cX10_works 135 = .ok (.invokevirtual 139, 3) := by decide +kernel
theorem dX10_works_138 : decode cX10_works 138 = .ok (.imul, 1) := by decide +kernel
theorem dX10_works_139 : decode cX10_works 139 = .ok (.bipush 100, 2) := by decide +kernel
theorem dX10_works_141 : decode cX10_works 141 = .ok (.idiv, 1) := by decide +kernel
theorem dX10_works_142 : decode cX10_works 142 = .ok (.iastore, 1) := by decide +kernel
theorem dX10_works_143 : decode cX10_works 143 = .ok (.iinc 2 1, 3) := by decide +kernel
theorem dX10_works_146 : decode cX10_works 146 = .ok (.goto (-44), 3) := by decide +kernel
theorem dX10_works_149 : decode cX10_works 149 = .ok (.iinc 1 1, 3) := by decide +kernel
theorem dX10_works_152 : decode cX10_works 152 = .ok (.goto (-57), 3) := by decide +kernel
theorem dX10_works_155 : decode cX10_works 155 = .ok (.iconst 0, 1) := by decide +kernel
theorem dX10_works_156 : decode cX10_works 156 = .ok (.istore_n 1, 1) := by decide +kernel
theorem dX10_works_157 : decode cX10_works 157 = .ok (.iload_n 1, 1) := by decide +kernel
theorem dX10_works_158 : decode cX10_works 158 = .ok (.iconst 4, 1) := by decide +kernel
theorem dX10_works_159 : decode cX10_works 159 = .ok (.if_icmp .ge 175, 3) := by decide +kernel
theorem dX10_works_162 : decode cX10_works 162 = .ok (.aload_n 0, 1) := by decide +kernel
theorem dX10_works_163 : decode cX10_works 163 = .ok (.iload_n 1, 1) := by decide +kernel
theorem dX10_works_164 : decode cX10_works 164 = .ok (.iconst 3, 1) := by decide +kernel
theorem dX10_works_165 : decode cX10_works 165 = .ok (.invokevirtual 139, 3) := by decide +kernel
theorem dX10_works_168 : decode cX10_works 168 = .ok (.istore_n 2, 1) := by decide +kernel
theorem dX10_works_169 : decode cX10_works 169 = .ok (.sipush 600, 3) := by decide +kernel
theorem dX10_works_172 : decode cX10_works 172 = .ok (.istore_n 3, 1) := by decide +kernel
theorem dX10_works_173 : decode cX10_works 173 = .ok (.iconst 0, 1) := by decide +kernel
theorem dX10_works_174 : decode cX10_works 174 = .ok (.istore 4, 2) := by decide +kernel
theorem dX10_works_176 : decode cX10_works 176 = .ok (.iload 4, 2) := by decide +kernel
theorem dX10_works_178 : decode cX10_works 178 = .ok (.sipush 600, 3) := by decide +kernel
theorem dX10_works_181 : decode cX10_works 181 = .ok (.if_icmp .ge 147, 3) := by decide +kernel
theorem dX10_works_184 : decode cX10_works 184 = .ok (.iload_n 2, 1) := by decide +kernel
theorem dX10_works_185 : decode cX10_works 185 = .ok (.ifCond .lt 29, 3) := by decide +kernel
theorem dX10_works_188 : decode cX10_works 188 = .ok (.aload_n 0, 1) := by decide +kernel
theorem dX10_works_189 : decode cX10_works 189 = .ok (.getfield 37, 3) := by decide +kernel
theorem dX10_works_192 : decode cX10_works 192 = .ok (.sipush 600, 3) := by decide +kernel
theorem dX10_works_195 : decode cX10_works 195 = .ok (.iload_n 2, 1) := by decide +kernel
theorem dX10_works_196 : decode cX10_works 196 = .ok (.imul, 1) := by decide +kernel
theorem dX10_works_197 : decode cX10_works 197 = .ok (.iload 4, 2) := by decide +kernel
theorem dX10_works_199 : decode cX10_works 199 = .ok (.iadd, 1) := by decide +kernel
theorem dX10_works_200 : decode cX10_works 200 = .ok (.iaload, 1) := by decide +kernel
theorem dX10_works_201 : decode cX10_works 201 = .ok (.aload_n 0, 1) := by decide +kernel
theorem dX10_works_202 : decode cX10_works 202 = .ok (.iload_n 1, 1) := by decide +kernel
theorem dX10_works_203 : decode cX10_works 203 = .ok (.iconst 4, 1) := by decide +kernel
theorem dX10_works_204 : decode cX10_works 204 = .ok (.invokevirtual 139, 3) := by decide +kernel
theorem dX10_works_207 : decode cX10_works 207 = .ok (.if_icmp .lt 7, 3) := by decide +kernel
theorem dX10_works_210 : decode cX10_works 210 = .ok (.iconst 0, 1) := by decide +kernel
theorem dX10_works_211 : decode cX10_works 211 = .ok (.goto 6, 3) := by decide +kernel
theorem dX10_works_214 : decode cX10_works 214 = .ok (.iload_n 3, 1) := by decide +kernel
theorem dX10_works_215 : decode cX10_works 215 = .ok (.iconst 1, 1) := by decide +kernel
theorem dX10_works_216 : decode cX10_works 216 = .ok (.iadd, 1) := by decide +kernel
theorem dX10_works_217 : decode cX10_works 217 = .ok (.istore_n 3, 1) := by decide +kernel
theorem dX10_works_218 : decode cX10_works 218 = .ok (.aload_n 0, 1) := by decide +kernel
theorem dX10_works_219 : decode cX10_works 219 = .ok (.getfield 46, 3) := by decide +kernel
theorem dX10_works_222 : decode cX10_works 222 = .ok (.sipush 600, 3) := by decide +kernel
theorem dX10_works_225 : decode cX10_works 225 = .ok (.iload_n 1, 1) := by decide +kernel
theorem dX10_works_226 : decode cX10_works 226 = .ok (.imul, 1) := by decide +kernel
theorem dX10_works_227 : decode cX10_works 227 = .ok (.iload 4, 2) := by decide +kernel
theorem dX10_works_229 : decode cX10_works 229 = .ok (.iadd, 1) := by decide +kernel
theorem dX10_works_230 : decode cX10_works 230 = .ok (.iload_n 2, 1) := by decide +kernel
theorem dX10_works_231 : decode cX10_works 231 = .ok (.ifCond .lt 18, 3) := by decide +kernel
theorem dX10_works_234 : decode cX10_works 234 = .ok (.iload_n 3, 1) := by decide +kernel
theorem dX10_works_235 : decode cX10_works 235 = .ok (.aload_n 0, 1) := by decide +kernel
theorem dX10_works_236 : decode cX10_works 236 = .ok (.iload_n 1, 1) := by decide +kernel
theorem dX10_works_237 : decode cX10_works 237 = .ok (.bipush 6, 2) := by decide +kernel
theorem dX10_works_239 : decode cX10_works 239 = .ok (.invokevirtual 139, 3) := by decide +kernel
theorem dX10_works_242 : decode cX10_works 242 = .ok (.if_icmp .gt 7, 3) := by decide +kernel
theorem dX10_works_245 : decode cX10_works 245 = .ok (.iconst 1, 1) := by decide +kernel
theorem dX10_works_246 : decode cX10_works 246 = .ok (.goto 4, 3) := by decide +kernel
theorem dX10_works_249 : decode cX10_works 249 = .ok (.iconst 0, 1) := by decide +kernel
theorem dX10_works_250 : decode cX10_works 250 = .ok (.bastore, 1) := by decide +kernel
theorem dX10_works_251 : decode cX10_works 251 = .ok (.aload_n 0, 1) := by decide +kernel
theorem dX10_works_252 : decode cX10_works 252 = .ok (.getfield 40, 3) := by decide +kernel
theorem dX10_works_255 : decode cX10_works 255 = .ok (.sipush 600, 3) := by decide +kernel
theorem dX10_works_258 : decode cX10_works 258 = .ok (.iload_n 1, 1) := by decide +kernel
theorem dX10_works_259 : decode cX10_works 259 = .ok (.imul, 1) := by decide +kernel
theorem dX10_works_260 : decode cX10_works 260 = .ok (.iload 4, 2) := by decide +kernel
theorem dX10_works_262 : decode cX10_works 262 = .ok (.iadd, 1) := by decide +kernel
theorem dX10_works_263 : decode cX10_works 263 = .ok (.aload_n 0, 1) := by decide +kernel
theorem dX10_works_264 : decode cX10_works 264 = .ok (.getfield 46, 3) := by decide +kernel
theorem dX10_works_267 : decode cX10_works 267 = .ok (.sipush 600, 3) := by decide +kernel
theorem dX10_works_270 : decode cX10_works 270 = .ok (.iload_n 1, 1) := by decide +kernel
theorem dX10_works_271 : decode cX10_works 271 = .ok (.imul, 1) := by decide +kernel
theorem dX10_works_272 : decode cX10_works 272 = .ok (.iload 4, 2) := by decide +kernel
theorem dX10_works_274 : decode cX10_works 274 = .ok (.iadd, 1) := by decide +kernel
theorem dX10_works_275 : decode cX10_works 275 = .ok (.baload, 1) := by decide +kernel
theorem dX10_works_276 : decode cX10_works 276 = .ok (.ifCond .eq 32, 3) := by decide +kernel
theorem dX10_works_279 : decode cX10_works 279 = .ok (.aload_n 0, 1) := by decide +kernel
theorem dX10_works_280 : decode cX10_works 280 = .ok (.getfield 37, 3) := by decide +kernel
theorem dX10_works_283 : decode cX10_works 283 = .ok (.sipush 600, 3) := by decide +kernel
theorem dX10_works_286 : decode cX10_works 286 = .ok (.iload_n 1, 1) := by decide +kernel
theorem dX10_works_287 : decode cX10_works 287 = .ok (.imul, 1) := by decide +kernel
theorem dX10_works_288 : decode cX10_works 288 = .ok (.iload 4, 2) := by decide +kernel
theorem dX10_works_290 : decode cX10_works 290 = .ok (.iadd, 1) := by decide +kernel
theorem dX10_works_291 : decode cX10_works 291 = .ok (.iaload, 1) := by decide +kernel
theorem dX10_works_292 : decode cX10_works 292 = .ok (.bipush 100, 2) := by decide +kernel
theorem dX10_works_294 : decode cX10_works 294 = .ok (.aload_n 0, 1) := by decide +kernel
theorem dX10_works_295 : decode cX10_works 295 = .ok (.iload_n 1, 1) := by decide +kernel
theorem dX10_works_296 : decode cX10_works 296 = .ok (.iconst 5, 1) := by decide +kernel
theorem dX10_works_297 : decode cX10_works 297 = .ok (.invokevirtual 139, 3) := by decide +kernel
theorem dX10_works_300 : decode cX10_works 300 = .ok (.isub, 1) := by decide +kernel
theorem dX10_works_301 : decode cX10_works 301 = .ok (.imul, 1) := by decide +kernel
theorem dX10_works_302 : decode cX10_works 302 = .ok (.bipush 100, 2) := by decide +kernel
theorem dX10_works_304 : decode cX10_works 304 = .ok (.idiv, 1) := by decide +kernel
theorem dX10_works_305 : decode cX10_works 305 = .ok (.goto 16, 3) := by decide +kernel
theorem dX10_works_308 : decode cX10_works 308 = .ok (.aload_n 0, 1) := by decide +kernel
theorem dX10_works_309 : decode cX10_works 309 = .ok (.getfield 37, 3) := by decide +kernel
theorem dX10_works_312 : decode cX10_works 312 = .ok (.sipush 600, 3) := by decide +kernel
theorem dX10_works_315 : decode cX10_works 315 = .ok (.iload_n 1, 1) := by decide +kernel
theorem dX10_works_316 : decode cX10_works 316 = .ok (.imul, 1) := by decide +kernel
theorem dX10_works_317 : decode cX10_works 317 = .ok (.iload 4, 2) := by decide +kernel
theorem dX10_works_319 : decode cX10_works 319 = .ok (.iadd, 1) := by decide +kernel
theorem dX10_works_320 : decode cX10_works 320 = .ok (.iaload, 1) := by decide +kernel
theorem dX10_works_321 : decode cX10_works 321 = .ok (.iastore, 1) := by decide +kernel
theorem dX10_works_322 : decode cX10_works 322 = .ok (.iinc 4 1, 3) := by decide +kernel
theorem dX10_works_325 : decode cX10_works 325 = .ok (.goto (-149), 3) := by decide +kernel
theorem dX10_works_328 : decode cX10_works 328 = .ok (.iinc 1 1, 3) := by decide +kernel
theorem dX10_works_331 : decode cX10_works 331 = .ok (.goto (-174), 3) := by decide +kernel
theorem dX10_works_334 : decode cX10_works 334 = .ok (.iconst 0, 1) := by decide +kernel
theorem dX10_works_335 : decode cX10_works 335 = .ok (.istore_n 1, 1) := by decide +kernel
theorem dX10_works_336 : decode cX10_works 336 = .ok (.iload_n 1, 1) := by decide +kernel
theorem dX10_works_337 : decode cX10_works 337 = .ok (.sipush 600, 3) := by decide +kernel
theorem dX10_works_340 : decode cX10_works 340 = .ok (.if_icmp .ge 62, 3) := by decide +kernel
theorem dX10_works_343 : decode cX10_works 343 = .ok (.aload_n 0, 1) := by decide +kernel
theorem dX10_works_344 : decode cX10_works 344 = .ok (.getfield 43, 3) := by decide +kernel
theorem dX10_works_347 : decode cX10_works 347 = .ok (.iload_n 1, 1) := by decide +kernel
theorem dX10_works_348 : decode cX10_works 348 = .ok (.iconst 0, 1) := by decide +kernel
theorem dX10_works_349 : decode cX10_works 349 = .ok (.iastore, 1) := by decide +kernel
theorem dX10_works_350 : decode cX10_works 350 = .ok (.iconst 0, 1) := by decide +kernel
theorem dX10_works_351 : decode cX10_works 351 = .ok (.istore_n 2, 1) := by decide +kernel
theorem dX10_works_352 : decode cX10_works 352 = .ok (.iload_n 2, 1) := by decide +kernel
theorem dX10_works_353 : decode cX10_works 353 = .ok (.iconst 4, 1) := by decide +kernel
theorem dX10_works_354 : decode cX10_works 354 = .ok (.if_icmp .ge 42, 3) := by decide +kernel
theorem dX10_works_357 : decode cX10_works 357 = .ok (.aload_n 0, 1) := by decide +kernel
theorem dX10_works_358 : decode cX10_works 358 = .ok (.getfield 43, 3) := by decide +kernel
theorem dX10_works_361 : decode cX10_works 361 = .ok (.iload_n 1, 1) := by decide +kernel
theorem dX10_works_362 : decode cX10_works 362 = .ok (.dup2, 1) := by decide +kernel
theorem dX10_works_363 : decode cX10_works 363 = .ok (.iaload, 1) := by decide +kernel
theorem dX10_works_364 : decode cX10_works 364 = .ok (.aload_n 0, 1) := by decide +kernel
theorem dX10_works_365 : decode cX10_works 365 = .ok (.iload_n 2, 1) := by decide +kernel
theorem dX10_works_366 : decode cX10_works 366 = .ok (.invokevirtual 149, 3) := by decide +kernel
theorem dX10_works_369 : decode cX10_works 369 = .ok (.ifCond .eq 18, 3) := by decide +kernel
theorem dX10_works_372 : decode cX10_works 372 = .ok (.aload_n 0, 1) := by decide +kernel
theorem dX10_works_373 : decode cX10_works 373 = .ok (.getfield 40, 3) := by decide +kernel
theorem dX10_works_376 : decode cX10_works 376 = .ok (.sipush 600, 3) := by decide +kernel
theorem dX10_works_379 : decode cX10_works 379 = .ok (.iload_n 2, 1) := by decide +kernel
theorem dX10_works_380 : decode cX10_works 380 = .ok (.imul, 1) := by decide +kernel
theorem dX10_works_381 : decode cX10_works 381 = .ok (.iload_n 1, 1) := by decide +kernel
theorem dX10_works_382 : decode cX10_works 382 = .ok (.iadd, 1) := by decide +kernel
theorem dX10_works_383 : decode cX10_works 383 = .ok (.iaload, 1) := by decide +kernel
theorem dX10_works_384 : decode cX10_works 384 = .ok (.goto 4, 3) := by decide +kernel
theorem dX10_works_387 : decode cX10_works 387 = .ok (.iconst 0, 1) := by decide +kernel
theorem dX10_works_388 : decode cX10_works 388 = .ok (.iadd, 1) := by decide +kernel
theorem dX10_works_389 : decode cX10_works 389 = .ok (.iastore, 1) := by decide +kernel
theorem dX10_works_390 : decode cX10_works 390 = .ok (.iinc 2 1, 3) := by decide +kernel
theorem dX10_works_393 : decode cX10_works 393 = .ok (.goto (-41), 3) := by decide +kernel
theorem dX10_works_396 : decode cX10_works 396 = .ok (.iinc 1 1, 3) := by decide +kernel
theorem dX10_works_399 : decode cX10_works 399 = .ok (.goto (-63), 3) := by decide +kernel
theorem dX10_works_402 : decode cX10_works 402 = .ok (.return_, 1) := by decide +kernel
theorem dX10_mixOf_0 : decode cX10_mixOf 0 = .ok (.aload_n 0, 1) := by decide +kernel
theorem dX10_mixOf_1 : decode cX10_mixOf 1 = .ok (.getfield 43, 3) := by decide +kernel
theorem dX10_mixOf_4 : decode cX10_mixOf 4 = .ok (.iload_n 1, 1) := by decide +kernel
theorem dX10_mixOf_5 : decode cX10_mixOf 5 = .ok (.iaload, 1) := by decide +kernel
theorem dX10_mixOf_6 : decode cX10_mixOf 6 = .ok (.iload_n 2, 1) := by decide +kernel
theorem dX10_mixOf_7 : decode cX10_mixOf 7 = .ok (.imul, 1) := by decide +kernel
theorem dX10_mixOf_8 : decode cX10_mixOf 8 = .ok (.bipush 100, 2) := by decide +kernel
theorem dX10_mixOf_10 : decode cX10_mixOf 10 = .ok (.idiv, 1) := by decide +kernel
theorem dX10_mixOf_11 : decode cX10_mixOf 11 = .ok (.istore_n 3, 1) := by decide +kernel
theorem dX10_mixOf_12 : decode cX10_mixOf 12 = .ok (.iload_n 3, 1) := by decide +kernel
theorem dX10_mixOf_13 : decode cX10_mixOf 13 = .ok (.sipush 999, 3) := by decide +kernel
theorem dX10_mixOf_16 : decode cX10_mixOf 16 = .ok (.if_icmp .le 9, 3) := by decide +kernel
theorem dX10_mixOf_19 : decode cX10_mixOf 19 = .ok (.sipush 999, 3) := by decide +kernel
theorem dX10_mixOf_22 : decode cX10_mixOf 22 = .ok (.goto 4, 3) := by decide +kernel
theorem dX10_mixOf_25 : decode cX10_mixOf 25 = .ok (.iload_n 3, 1) := by decide +kernel
theorem dX10_mixOf_26 : decode cX10_mixOf 26 = .ok (.ireturn, 1) := by decide +kernel
theorem dX10_last_0 : decode cX10_last 0 = .ok (.iconst 0, 1) := by decide +kernel
theorem dX10_last_1 : decode cX10_last 1 = .ok (.istore_n 1, 1) := by decide +kernel
theorem dX10_last_2 : decode cX10_last 2 = .ok (.iconst 0, 1) := by decide +kernel
theorem dX10_last_3 : decode cX10_last 3 = .ok (.istore_n 2, 1) := by decide +kernel
theorem dX10_last_4 : decode cX10_last 4 = .ok (.iload_n 2, 1) := by decide +kernel
theorem dX10_last_5 : decode cX10_last 5 = .ok (.aload_n 0, 1) := by decide +kernel
theorem dX10_last_6 : decode cX10_last 6 = .ok (.getfield 9, 3) := by decide +kernel
theorem dX10_last_9 : decode cX10_last 9 = .ok (.bipush 25, 2) := by decide +kernel
theorem dX10_last_11 : decode cX10_last 11 = .ok (.iaload, 1) := by decide +kernel
theorem dX10_last_12 : decode cX10_last 12 = .ok (.if_icmp .ge 44, 3) := by decide +kernel
theorem dX10_last_15 : decode cX10_last 15 = .ok (.aload_n 0, 1) := by decide +kernel
theorem dX10_last_16 : decode cX10_last 16 = .ok (.iload_n 2, 1) := by decide +kernel
theorem dX10_last_17 : decode cX10_last 17 = .ok (.iconst 1, 1) := by decide +kernel
theorem dX10_last_18 : decode cX10_last 18 = .ok (.invokevirtual 126, 3) := by decide +kernel
theorem dX10_last_21 : decode cX10_last 21 = .ok (.aload_n 0, 1) := by decide +kernel
theorem dX10_last_22 : decode cX10_last 22 = .ok (.iload_n 2, 1) := by decide +kernel
theorem dX10_last_23 : decode cX10_last 23 = .ok (.iconst 4, 1) := by decide +kernel
theorem dX10_last_24 : decode cX10_last 24 = .ok (.invokevirtual 126, 3) := by decide +kernel
theorem dX10_last_27 : decode cX10_last 27 = .ok (.iadd, 1) := by decide +kernel
theorem dX10_last_28 : decode cX10_last 28 = .ok (.iload_n 1, 1) := by decide +kernel
theorem dX10_last_29 : decode cX10_last 29 = .ok (.if_icmp .le 19, 3) := by decide +kernel
theorem dX10_last_32 : decode cX10_last 32 = .ok (.aload_n 0, 1) := by decide +kernel
theorem dX10_last_33 : decode cX10_last 33 = .ok (.iload_n 2, 1) := by decide +kernel
theorem dX10_last_34 : decode cX10_last 34 = .ok (.iconst 1, 1) := by decide +kernel
theorem dX10_last_35 : decode cX10_last 35 = .ok (.invokevirtual 126, 3) := by decide +kernel
theorem dX10_last_38 : decode cX10_last 38 = .ok (.aload_n 0, 1) := by decide +kernel
theorem dX10_last_39 : decode cX10_last 39 = .ok (.iload_n 2, 1) := by decide +kernel
theorem dX10_last_40 : decode cX10_last 40 = .ok (.iconst 4, 1) := by decide +kernel
theorem dX10_last_41 : decode cX10_last 41 = .ok (.invokevirtual 126, 3) := by decide +kernel
theorem dX10_last_44 : decode cX10_last 44 = .ok (.iadd, 1) := by decide +kernel
theorem dX10_last_45 : decode cX10_last 45 = .ok (.goto 4, 3) := by decide +kernel
theorem dX10_last_48 : decode cX10_last 48 = .ok (.iload_n 1, 1) := by decide +kernel
theorem dX10_last_49 : decode cX10_last 49 = .ok (.istore_n 1, 1) := by decide +kernel
theorem dX10_last_50 : decode cX10_last 50 = .ok (.iinc 2 1, 3) := by decide +kernel
theorem dX10_last_53 : decode cX10_last 53 = .ok (.goto (-49), 3) := by decide +kernel
theorem dX10_last_56 : decode cX10_last 56 = .ok (.iload_n 1, 1) := by decide +kernel
theorem dX10_last_57 : decode cX10_last 57 = .ok (.ireturn, 1) := by decide +kernel
theorem dX10_track_0 : decode cX10_track 0 = .ok (.iload_n 1, 1) := by decide +kernel
theorem dX10_track_1 : decode cX10_track 1 = .ok (.invokestatic 133, 3) := by decide +kernel
theorem dX10_track_4 : decode cX10_track 4 = .ok (.ifCond .ne 5, 3) := by decide +kernel
theorem dX10_track_7 : decode cX10_track 7 = .ok (.iconst (-1), 1) := by decide +kernel
theorem dX10_track_8 : decode cX10_track 8 = .ok (.ireturn, 1) := by decide +kernel
theorem dX10_track_9 : decode cX10_track 9 = .ok (.iload_n 2, 1) := by decide +kernel
theorem dX10_track_10 : decode cX10_track 10 = .ok (.iconst 0, 1) := by decide +kernel
theorem dX10_track_11 : decode cX10_track 11 = .ok (.bipush 11, 2) := by decide +kernel
theorem dX10_track_13 : decode cX10_track 13 = .ok (.invokestatic 103, 3) := by decide +kernel
theorem dX10_track_16 : decode cX10_track 16 = .ok (.ifCond .ne 6, 3) := by decide +kernel
theorem dX10_track_19 : decode cX10_track 19 = .ok (.bipush (-2), 2) := by decide +kernel
theorem dX10_track_21 : decode cX10_track 21 = .ok (.ireturn, 1) := by decide +kernel
theorem dX10_track_22 : decode cX10_track 22 = .ok (.iload_n 2, 1) := by decide +kernel
theorem dX10_track_23 : decode cX10_track 23 = .ok (.iconst 3, 1) := by decide +kernel
theorem dX10_track_24 : decode cX10_track 24 = .ok (.if_icmp .ne 16, 3) := by decide +kernel
theorem dX10_track_27 : decode cX10_track 27 = .ok (.aload_n 0, 1) := by decide +kernel
theorem dX10_track_28 : decode cX10_track 28 = .ok (.iload_n 1, 1) := by decide +kernel
theorem dX10_track_29 : decode cX10_track 29 = .ok (.iconst 3, 1) := by decide +kernel
theorem dX10_track_30 : decode cX10_track 30 = .ok (.invokevirtual 139, 3) := by decide +kernel
theorem dX10_track_33 : decode cX10_track 33 = .ok (.iconst (-1), 1) := by decide +kernel
theorem dX10_track_34 : decode cX10_track 34 = .ok (.if_icmp .ne 6, 3) := by decide +kernel
theorem dX10_track_37 : decode cX10_track 37 = .ok (.bipush (-6), 2) := by decide +kernel
theorem dX10_track_39 : decode cX10_track 39 = .ok (.ireturn, 1) := by decide +kernel
theorem dX10_track_40 : decode cX10_track 40 = .ok (.iload_n 2, 1) := by decide +kernel
theorem dX10_track_41 : decode cX10_track 41 = .ok (.bipush 7, 2) := by decide +kernel
theorem dX10_track_43 : decode cX10_track 43 = .ok (.if_icmp .ge 10, 3) := by decide +kernel
theorem dX10_track_46 : decode cX10_track 46 = .ok (.aload_n 0, 1) := by decide +kernel
theorem dX10_track_47 : decode cX10_track 47 = .ok (.iload_n 1, 1) := by decide +kernel
theorem dX10_track_48 : decode cX10_track 48 = .ok (.iload_n 2, 1) := by decide +kernel
theorem dX10_track_49 : decode cX10_track 49 = .ok (.invokevirtual 139, 3) := by decide +kernel
theorem dX10_track_52 : decode cX10_track 52 = .ok (.ireturn, 1) := by decide +kernel
theorem dX10_track_53 : decode cX10_track 53 = .ok (.iload_n 2, 1) := by decide +kernel
theorem dX10_track_54 : decode cX10_track 54 = .ok (.bipush 7, 2) := by decide +kernel
theorem dX10_track_56 : decode cX10_track 56 = .ok (.if_icmp .ne 17, 3) := by decide +kernel
theorem dX10_track_59 : decode cX10_track 59 = .ok (.aload_n 0, 1) := by decide +kernel
theorem dX10_track_60 : decode cX10_track 60 = .ok (.iload_n 1, 1) := by decide +kernel
theorem dX10_track_61 : decode cX10_track 61 = .ok (.invokevirtual 149, 3) := by decide +kernel
theorem dX10_track_64 : decode cX10_track 64 = .ok (.ifCond .eq 7, 3) := by decide +kernel
theorem dX10_track_67 : decode cX10_track 67 = .ok (.iconst 1, 1) := by decide +kernel
theorem dX10_track_68 : decode cX10_track 68 = .ok (.goto 4, 3) := by decide +kernel
theorem dX10_track_71 : decode cX10_track 71 = .ok (.iconst 0, 1) := by decide +kernel
theorem dX10_track_72 : decode cX10_track 72 = .ok (.ireturn, 1) := by decide +kernel
theorem dX10_track_73 : decode cX10_track 73 = .ok (.aload_n 0, 1) := by decide +kernel
theorem dX10_track_74 : decode cX10_track 74 = .ok (.invokevirtual 152, 3) := by decide +kernel
theorem dX10_track_77 : decode cX10_track 77 = .ok (.iconst 0, 1) := by decide +kernel
theorem dX10_track_78 : decode cX10_track 78 = .ok (.istore_n 3, 1) := by decide +kernel
theorem dX10_track_79 : decode cX10_track 79 = .ok (.iconst 0, 1) := by decide +kernel
theorem dX10_track_80 : decode cX10_track 80 = .ok (.istore 4, 2) := by decide +kernel
theorem dX10_track_82 : decode cX10_track 82 = .ok (.iload 4, 2) := by decide +kernel
theorem dX10_track_84 : decode cX10_track 84 = .ok (.aload_n 0, 1) := by decide +kernel
theorem dX10_track_85 : decode cX10_track 85 = .ok (.getfield 9, 3) := by decide +kernel
theorem dX10_track_88 : decode cX10_track 88 = .ok (.bipush 25, 2) := by decide +kernel
theorem dX10_track_90 : decode cX10_track 90 = .ok (.iaload, 1) := by decide +kernel
theorem dX10_track_91 : decode cX10_track 91 = .ok (.if_icmp .ge 50, 3) := by decide +kernel
theorem dX10_track_94 : decode cX10_track 94 = .ok (.iload_n 2, 1) := by decide +kernel
theorem dX10_track_95 : decode cX10_track 95 = .ok (.bipush 10, 2) := by decide +kernel
theorem dX10_track_97 : decode cX10_track 97 = .ok (.if_icmp .ge 44, 3) := by decide +kernel
theorem dX10_track_100 : decode cX10_track 100 = .ok (.iload_n 3, 1) := by decide +kernel
theorem dX10_track_101 : decode cX10_track 101 = .ok (.aload_n 0, 1) := by decide +kernel
theorem dX10_track_102 : decode cX10_track 102 = .ok (.iload 4, 2) := by decide +kernel
theorem dX10_track_104 : decode cX10_track 104 = .ok (.iconst 0, 1) := by decide +kernel
theorem dX10_track_105 : decode cX10_track 105 = .ok (.invokevirtual 126, 3) := by decide +kernel
theorem dX10_track_108 : decode cX10_track 108 = .ok (.iload_n 1, 1) := by decide +kernel
theorem dX10_track_109 : decode cX10_track 109 = .ok (.if_icmp .eq 7, 3) := by decide +kernel
theorem dX10_track_112 : decode cX10_track 112 = .ok (.iconst 0, 1) := by decide +kernel
theorem dX10_track_113 : decode cX10_track 113 = .ok (.goto 20, 3) := by decide +kernel
theorem dX10_track_116 : decode cX10_track 116 = .ok (.iload_n 2, 1) := by decide +kernel
theorem dX10_track_117 : decode cX10_track 117 = .ok (.bipush 8, 2) := by decide +kernel
theorem dX10_track_119 : decode cX10_track 119 = .ok (.if_icmp .ne 7, 3) := by decide +kernel
theorem dX10_track_122 : decode cX10_track 122 = .ok (.iconst 1, 1) := by decide +kernel
theorem dX10_track_123 : decode cX10_track 123 = .ok (.goto 10, 3) := by decide +kernel
theorem dX10_track_126 : decode cX10_track 126 = .ok (.aload_n 0, 1) := by decide +kernel
theorem dX10_track_127 : decode cX10_track 127 = .ok (.iload 4, 2) := by decide +kernel
theorem dX10_track_129 : decode cX10_track 129 = .ok (.iconst 4, 1) := by decide +kernel
theorem dX10_track_130 : decode cX10_track 130 = .ok (.invokevirtual 126, 3) := by decide +kernel
theorem dX10_track_133 : decode cX10_track 133 = .ok (.iadd, 1) := by decide +kernel
theorem dX10_track_134 : decode cX10_track 134 = .ok (.istore_n 3, 1) := by decide +kernel
theorem dX10_track_135 : decode cX10_track 135 = .ok (.iinc 4 1, 3) := by decide +kernel
theorem dX10_track_138 : decode cX10_track 138 = .ok (.goto (-56), 3) := by decide +kernel
theorem dX10_track_141 : decode cX10_track 141 = .ok (.iconst 0, 1) := by decide +kernel
theorem dX10_track_142 : decode cX10_track 142 = .ok (.istore 4, 2) := by decide +kernel
theorem dX10_track_144 : decode cX10_track 144 = .ok (.iload 4, 2) := by decide +kernel
theorem dX10_track_146 : decode cX10_track 146 = .ok (.sipush 600, 3) := by decide +kernel
theorem dX10_track_149 : decode cX10_track 149 = .ok (.if_icmp .ge 92, 3) := by decide +kernel
theorem dX10_track_152 : decode cX10_track 152 = .ok (.iload_n 2, 1) := by decide +kernel
theorem dX10_track_153 : decode cX10_track 153 = .ok (.bipush 9, 2) := by decide +kernel
theorem dX10_track_155 : decode cX10_track 155 = .ok (.if_icmp .le 86, 3) := by decide +kernel
theorem dX10_track_158 : decode cX10_track 158 = .ok (.iload_n 2, 1) := by decide +kernel
theorem dX10_track_159 : decode cX10_track 159 = .ok (.bipush 10, 2) := by decide +kernel
theorem dX10_track_161 : decode cX10_track 161 = .ok (.if_icmp .ne 39, 3) := by decide +kernel
theorem dX10_track_164 : decode cX10_track 164 = .ok (.iload_n 3, 1) := by decide +kernel
theorem dX10_track_165 : decode cX10_track 165 = .ok (.iload 4, 2) := by decide +kernel
theorem dX10_track_167 : decode cX10_track 167 = .ok (.aload_n 0, 1) := by decide +kernel
theorem dX10_track_168 : decode cX10_track 168 = .ok (.invokevirtual 155, 3) := by decide +kernel
theorem dX10_track_171 : decode cX10_track 171 = .ok (.if_icmp .ge 23, 3) := by decide +kernel
theorem dX10_track_174 : decode cX10_track 174 = .ok (.aload_n 0, 1) := by decide +kernel
theorem dX10_track_175 : decode cX10_track 175 = .ok (.getfield 46, 3) := by decide +kernel
theorem dX10_track_178 : decode cX10_track 178 = .ok (.sipush 600, 3) := by decide +kernel
theorem dX10_track_181 : decode cX10_track 181 = .ok (.iload_n 1, 1) := by decide +kernel
theorem dX10_track_182 : decode cX10_track 182 = .ok (.imul, 1) := by decide +kernel
theorem dX10_track_183 : decode cX10_track 183 = .ok (.iload 4, 2) := by decide +kernel
theorem dX10_track_185 : decode cX10_track 185 = .ok (.iadd, 1) := by decide +kernel
theorem dX10_track_186 : decode cX10_track 186 = .ok (.baload, 1) := by decide +kernel
theorem dX10_track_187 : decode cX10_track 187 = .ok (.ifCond .eq 7, 3) := by decide +kernel
theorem dX10_track_190 : decode cX10_track 190 = .ok (.iconst 1, 1) := by decide +kernel
theorem dX10_track_191 : decode cX10_track 191 = .ok (.goto 4, 3) := by decide +kernel
theorem dX10_track_194 : decode cX10_track 194 = .ok (.iconst 0, 1) := by decide +kernel
theorem dX10_track_195 : decode cX10_track 195 = .ok (.iadd, 1) := by decide +kernel
theorem dX10_track_196 : decode cX10_track 196 = .ok (.istore_n 3, 1) := by decide +kernel
theorem dX10_track_197 : decode cX10_track 197 = .ok (.goto 38, 3) := by decide +kernel
theorem dX10_track_200 : decode cX10_track 200 = .ok (.aload_n 0, 1) := by decide +kernel
theorem dX10_track_201 : decode cX10_track 201 = .ok (.getfield 40, 3) := by decide +kernel
theorem dX10_track_204 : decode cX10_track 204 = .ok (.sipush 600, 3) := by decide +kernel
theorem dX10_track_207 : decode cX10_track 207 = .ok (.iload_n 1, 1) := by decide +kernel
theorem dX10_track_208 : decode cX10_track 208 = .ok (.imul, 1) := by decide +kernel
theorem dX10_track_209 : decode cX10_track 209 = .ok (.iload 4, 2) := by decide +kernel
theorem dX10_track_211 : decode cX10_track 211 = .ok (.iadd, 1) := by decide +kernel
theorem dX10_track_212 : decode cX10_track 212 = .ok (.iaload, 1) := by decide +kernel
theorem dX10_track_213 : decode cX10_track 213 = .ok (.iload_n 3, 1) := by decide +kernel
theorem dX10_track_214 : decode cX10_track 214 = .ok (.if_icmp .le 19, 3) := by decide +kernel
theorem dX10_track_217 : decode cX10_track 217 = .ok (.aload_n 0, 1) := by decide +kernel
theorem dX10_track_218 : decode cX10_track 218 = .ok (.getfield 40, 3) := by decide +kernel
theorem dX10_track_221 : decode cX10_track 221 = .ok (.sipush 600, 3) := by decide +kernel
theorem dX10_track_224 : decode cX10_track 224 = .ok (.iload_n 1, 1) := by decide +kernel
theorem dX10_track_225 : decode cX10_track 225 = .ok (.imul, 1) := by decide +kernel
theorem dX10_track_226 : decode cX10_track 226 = .ok (.iload 4, 2) := by decide +kernel
theorem dX10_track_228 : decode cX10_track 228 = .ok (.iadd, 1) := by decide +kernel
theorem dX10_track_229 : decode cX10_track 229 = .ok (.iaload, 1) := by decide +kernel
theorem dX10_track_230 : decode cX10_track 230 = .ok (.goto 4, 3) := by decide +kernel
theorem dX10_track_233 : decode cX10_track 233 = .ok (.iload_n 3, 1) := by decide +kernel
theorem dX10_track_234 : decode cX10_track 234 = .ok (.istore_n 3, 1) := by decide +kernel
theorem dX10_track_235 : decode cX10_track 235 = .ok (.iinc 4 1, 3) := by decide +kernel
theorem dX10_track_238 : decode cX10_track 238 = .ok (.goto (-94), 3) := by decide +kernel
theorem dX10_track_241 : decode cX10_track 241 = .ok (.iload_n 3, 1) := by decide +kernel
theorem dX10_track_242 : decode cX10_track 242 = .ok (.ireturn, 1) := by decide +kernel
theorem dX10_of_0 : decode cX10_of 0 = .ok (.aload_n 0, 1) := by decide +kernel
theorem dX10_of_1 : decode cX10_of 1 = .ok (.getfield 9, 3) := by decide +kernel
theorem dX10_of_4 : decode cX10_of 4 = .ok (.bipush 26, 2) := by decide +kernel
theorem dX10_of_6 : decode cX10_of 6 = .ok (.bipush 8, 2) := by decide +kernel
theorem dX10_of_8 : decode cX10_of 8 = .ok (.iload_n 1, 1) := by decide +kernel
theorem dX10_of_9 : decode cX10_of 9 = .ok (.imul, 1) := by decide +kernel
theorem dX10_of_10 : decode cX10_of 10 = .ok (.iadd, 1) := by decide +kernel
theorem dX10_of_11 : decode cX10_of 11 = .ok (.iload_n 2, 1) := by decide +kernel
theorem dX10_of_12 : decode cX10_of 12 = .ok (.iadd, 1) := by decide +kernel
theorem dX10_of_13 : decode cX10_of 13 = .ok (.iaload, 1) := by decide +kernel
theorem dX10_of_14 : decode cX10_of 14 = .ok (.ireturn, 1) := by decide +kernel
theorem dX10_isClip_0 : decode cX10_isClip 0 = .ok (.iload_n 1, 1) := by decide +kernel
theorem dX10_isClip_1 : decode cX10_isClip 1 = .ok (.iconst 0, 1) := by decide +kernel
theorem dX10_isClip_2 : decode cX10_isClip 2 = .ok (.aload_n 0, 1) := by decide +kernel
theorem dX10_isClip_3 : decode cX10_isClip 3 = .ok (.getfield 9, 3) := by decide +kernel
theorem dX10_isClip_6 : decode cX10_isClip 6 = .ok (.bipush 25, 2) := by decide +kernel
theorem dX10_isClip_8 : decode cX10_isClip 8 = .ok (.iaload, 1) := by decide +kernel
theorem dX10_isClip_9 : decode cX10_isClip 9 = .ok (.iconst 1, 1) := by decide +kernel
theorem dX10_isClip_10 : decode cX10_isClip 10 = .ok (.isub, 1) := by decide +kernel
theorem dX10_isClip_11 : decode cX10_isClip 11 = .ok (.invokestatic 103, 3) := by decide +kernel
theorem dX10_isClip_14 : decode cX10_isClip 14 = .ok (.ireturn, 1) := by decide +kernel
theorem dX10_drops_0 : decode cX10_drops 0 = .ok (.aload_n 0, 1) := by decide +kernel
theorem dX10_drops_1 : decode cX10_drops 1 = .ok (.getfield 9, 3) := by decide +kernel
theorem dX10_drops_4 : decode cX10_drops 4 = .ok (.bipush 25, 2) := by decide +kernel
theorem dX10_drops_6 : decode cX10_drops 6 = .ok (.dup2, 1) := by decide +kernel
theorem dX10_drops_7 : decode cX10_drops 7 = .ok (.iaload, 1) := by decide +kernel
theorem dX10_drops_8 : decode cX10_drops 8 = .ok (.iconst 1, 1) := by decide +kernel
theorem dX10_drops_9 : decode cX10_drops 9 = .ok (.isub, 1) := by decide +kernel
theorem dX10_drops_10 : decode cX10_drops 10 = .ok (.iastore, 1) := by decide +kernel
theorem dX10_drops_11 : decode cX10_drops 11 = .ok (.bipush 26, 2) := by decide +kernel
theorem dX10_drops_13 : decode cX10_drops 13 = .ok (.bipush 8, 2) := by decide +kernel
theorem dX10_drops_15 : decode cX10_drops 15 = .ok (.iload_n 1, 1) := by decide +kernel
theorem dX10_drops_16 : decode cX10_drops 16 = .ok (.imul, 1) := by decide +kernel
theorem dX10_drops_17 : decode cX10_drops 17 = .ok (.iadd, 1) := by decide +kernel
theorem dX10_drops_18 : decode cX10_drops 18 = .ok (.istore_n 2, 1) := by decide +kernel
theorem dX10_drops_19 : decode cX10_drops 19 = .ok (.iload_n 2, 1) := by decide +kernel
theorem dX10_drops_20 : decode cX10_drops 20 = .ok (.bipush 26, 2) := by decide +kernel
theorem dX10_drops_22 : decode cX10_drops 22 = .ok (.bipush 8, 2) := by decide +kernel
theorem dX10_drops_24 : decode cX10_drops 24 = .ok (.aload_n 0, 1) := by decide +kernel
theorem dX10_drops_25 : decode cX10_drops 25 = .ok (.getfield 9, 3) := by decide +kernel
theorem dX10_drops_28 : decode cX10_drops 28 = .ok (.bipush 25, 2) := by decide +kernel
theorem dX10_drops_30 : decode cX10_drops 30 = .ok (.iaload, 1) := by decide +kernel
theorem dX10_drops_31 : decode cX10_drops 31 = .ok (.imul, 1) := by decide +kernel
theorem dX10_drops_32 : decode cX10_drops 32 = .ok (.iadd, 1) := by decide +kernel
theorem dX10_drops_33 : decode cX10_drops 33 = .ok (.if_icmp .ge 24, 3) := by decide +kernel
theorem dX10_drops_36 : decode cX10_drops 36 = .ok (.aload_n 0, 1) := by decide +kernel
theorem dX10_drops_37 : decode cX10_drops 37 = .ok (.getfield 9, 3) := by decide +kernel
theorem dX10_drops_40 : decode cX10_drops 40 = .ok (.iload_n 2, 1) := by decide +kernel
theorem dX10_drops_41 : decode cX10_drops 41 = .ok (.aload_n 0, 1) := by decide +kernel
theorem dX10_drops_42 : decode cX10_drops 42 = .ok (.getfield 9, 3) := by decide +kernel
theorem dX10_drops_45 : decode cX10_drops 45 = .ok (.iload_n 2, 1) := by decide +kernel
theorem dX10_drops_46 : decode cX10_drops 46 = .ok (.bipush 8, 2) := by decide +kernel
theorem dX10_drops_48 : decode cX10_drops 48 = .ok (.iadd, 1) := by decide +kernel
theorem dX10_drops_49 : decode cX10_drops 49 = .ok (.iaload, 1) := by decide +kernel
theorem dX10_drops_50 : decode cX10_drops 50 = .ok (.iastore, 1) := by decide +kernel
theorem dX10_drops_51 : decode cX10_drops 51 = .ok (.iinc 2 1, 3) := by decide +kernel
theorem dX10_drops_54 : decode cX10_drops 54 = .ok (.goto (-35), 3) := by decide +kernel
theorem dX10_drops_57 : decode cX10_drops 57 = .ok (.return_, 1) := by decide +kernel
theorem dX10_lays_0 : decode cX10_lays 0 = .ok (.iconst 0, 1) := by decide +kernel
theorem dX10_lays_1 : decode cX10_lays 1 = .ok (.istore_n 1, 1) := by decide +kernel
theorem dX10_lays_2 : decode cX10_lays 2 = .ok (.iload_n 1, 1) := by decide +kernel
theorem dX10_lays_3 : decode cX10_lays 3 = .ok (.aload_n 0, 1) := by decide +kernel
theorem dX10_lays_4 : decode cX10_lays 4 = .ok (.getfield 9, 3) := by decide +kernel
theorem dX10_lays_7 : decode cX10_lays 7 = .ok (.bipush 25, 2) := by decide +kernel
theorem dX10_lays_9 : decode cX10_lays 9 = .ok (.iaload, 1) := by decide +kernel
theorem dX10_lays_10 : decode cX10_lays 10 = .ok (.if_icmp .ge 54, 3) := by decide +kernel
theorem dX10_lays_13 : decode cX10_lays 13 = .ok (.aload_n 0, 1) := by decide +kernel
theorem dX10_lays_14 : decode cX10_lays 14 = .ok (.iload_n 1, 1) := by decide +kernel
theorem dX10_lays_15 : decode cX10_lays 15 = .ok (.iconst 0, 1) := by decide +kernel
theorem dX10_lays_16 : decode cX10_lays 16 = .ok (.invokevirtual 126, 3) := by decide +kernel
theorem dX10_lays_19 : decode cX10_lays 19 = .ok (.aload_n 0, 1) := by decide +kernel
theorem dX10_lays_20 : decode cX10_lays 20 = .ok (.getfield 50, 3) := by decide +kernel
theorem dX10_lays_23 : decode cX10_lays 23 = .ok (.iconst 0, 1) := by decide +kernel
theorem dX10_lays_24 : decode cX10_lays 24 = .ok (.iaload, 1) := by decide +kernel
theorem dX10_lays_25 : decode cX10_lays 25 = .ok (.if_icmp .lt 33, 3) := by decide +kernel
theorem dX10_lays_28 : decode cX10_lays 28 = .ok (.aload_n 0, 1) := by decide +kernel
theorem dX10_lays_29 : decode cX10_lays 29 = .ok (.iload_n 1, 1) := by decide +kernel
theorem dX10_lays_30 : decode cX10_lays 30 = .ok (.iconst 0, 1) := by decide +kernel
theorem dX10_lays_31 : decode cX10_lays 31 = .ok (.invokevirtual 126, 3) := by decide +kernel
theorem dX10_lays_34 : decode cX10_lays 34 = .ok (.aload_n 0, 1) := by decide +kernel
theorem dX10_lays_35 : decode cX10_lays 35 = .ok (.getfield 50, 3) := by decide +kernel
theorem dX10_lays_38 : decode cX10_lays 38 = .ok (.iconst 0, 1) := by decide +kernel
theorem dX10_lays_39 : decode cX10_lays 39 = .ok (.iaload, 1) := by decide +kernel
theorem dX10_lays_40 : decode cX10_lays 40 = .ok (.if_icmp .ne 24, 3) := by decide +kernel
theorem dX10_lays_43 : decode cX10_lays 43 = .ok (.aload_n 0, 1) := by decide +kernel
theorem dX10_lays_44 : decode cX10_lays 44 = .ok (.iload_n 1, 1) := by decide +kernel
theorem dX10_lays_45 : decode cX10_lays 45 = .ok (.iconst 1, 1) := by decide +kernel
theorem dX10_lays_46 : decode cX10_lays 46 = .ok (.invokevirtual 126, 3) := by decide +kernel
theorem dX10_lays_49 : decode cX10_lays 49 = .ok (.aload_n 0, 1) := by decide +kernel
theorem dX10_lays_50 : decode cX10_lays 50 = .ok (.getfield 50, 3) := by decide +kernel
theorem dX10_lays_53 : decode cX10_lays 53 = .ok (.iconst 1, 1) := by decide +kernel
theorem dX10_lays_54 : decode cX10_lays 54 = .ok (.iaload, 1) := by decide +kernel
theorem dX10_lays_55 : decode cX10_lays 55 = .ok (.if_icmp .ge 9, 3) := by decide +kernel
theorem dX10_lays_58 : decode cX10_lays 58 = .ok (.iinc 1 1, 3) := by decide +kernel
theorem dX10_lays_61 : decode cX10_lays 61 = .ok (.goto (-59), 3) := by decide +kernel
theorem dX10_lays_64 : decode cX10_lays 64 = .ok (.bipush 26, 2) := by decide +kernel
theorem dX10_lays_66 : decode cX10_lays 66 = .ok (.bipush 8, 2) := by decide +kernel
theorem dX10_lays_68 : decode cX10_lays 68 = .ok (.aload_n 0, 1) := by decide +kernel
theorem dX10_lays_69 : decode cX10_lays 69 = .ok (.getfield 9, 3) := by decide +kernel
theorem dX10_lays_72 : decode cX10_lays 72 = .ok (.bipush 25, 2) := by decide +kernel
theorem dX10_lays_74 : decode cX10_lays 74 = .ok (.iaload, 1) := by decide +kernel
theorem dX10_lays_75 : decode cX10_lays 75 = .ok (.iconst 1, 1) := by decide +kernel
theorem dX10_lays_76 : decode cX10_lays 76 = .ok (.iadd, 1) := by decide +kernel
theorem dX10_lays_77 : decode cX10_lays 77 = .ok (.imul, 1) := by decide +kernel
theorem dX10_lays_78 : decode cX10_lays 78 = .ok (.iadd, 1) := by decide +kernel
theorem dX10_lays_79 : decode cX10_lays 79 = .ok (.iconst 1, 1) := by decide +kernel
theorem dX10_lays_80 : decode cX10_lays 80 = .ok (.isub, 1) := by decide +kernel
theorem dX10_lays_81 : decode cX10_lays 81 = .ok (.istore_n 2, 1) := by decide +kernel
theorem dX10_lays_82 : decode cX10_lays 82 = .ok (.iload_n 2, 1) := by decide +kernel
theorem dX10_lays_83 : decode cX10_lays 83 = .ok (.bipush 26, 2) := by decide +kernel
theorem dX10_lays_85 : decode cX10_lays 85 = .ok (.bipush 8, 2) := by decide +kernel
theorem dX10_lays_87 : decode cX10_lays 87 = .ok (.iload_n 1, 1) := by decide +kernel
theorem dX10_lays_88 : decode cX10_lays 88 = .ok (.iconst 1, 1) := by decide +kernel
theorem dX10_lays_89 : decode cX10_lays 89 = .ok (.iadd, 1) := by decide +kernel
theorem dX10_lays_90 : decode cX10_lays 90 = .ok (.imul, 1) := by decide +kernel
theorem dX10_lays_91 : decode cX10_lays 91 = .ok (.iadd, 1) := by decide +kernel
theorem dX10_lays_92 : decode cX10_lays 92 = .ok (.if_icmp .lt 24, 3) := by decide +kernel
theorem dX10_lays_95 : decode cX10_lays 95 = .ok (.aload_n 0, 1) := by decide +kernel
theorem dX10_lays_96 : decode cX10_lays 96 = .ok (.getfield 9, 3) := by decide +kernel
theorem dX10_lays_99 : decode cX10_lays 99 = .ok (.iload_n 2, 1) := by decide +kernel
theorem dX10_lays_100 : decode cX10_lays 100 = .ok (.aload_n 0, 1) := by decide +kernel
theorem dX10_lays_101 : decode cX10_lays 101 = .ok (.getfield 9, 3) := by decide +kernel
theorem dX10_lays_104 : decode cX10_lays 104 = .ok (.iload_n 2, 1) := by decide +kernel
theorem dX10_lays_105 : decode cX10_lays 105 = .ok (.bipush 8, 2) := by decide +kernel
theorem dX10_lays_107 : decode cX10_lays 107 = .ok (.isub, 1) := by decide +kernel
theorem dX10_lays_108 : decode cX10_lays 108 = .ok (.iaload, 1) := by decide +kernel
theorem dX10_lays_109 : decode cX10_lays 109 = .ok (.iastore, 1) := by decide +kernel
theorem dX10_lays_110 : decode cX10_lays 110 = .ok (.iinc 2 (-1), 3) := by decide +kernel
theorem dX10_lays_113 : decode cX10_lays 113 = .ok (.goto (-31), 3) := by decide +kernel
theorem dX10_lays_116 : decode cX10_lays 116 = .ok (.iconst 0, 1) := by decide +kernel
theorem dX10_lays_117 : decode cX10_lays 117 = .ok (.istore_n 2, 1) := by decide +kernel
theorem dX10_lays_118 : decode cX10_lays 118 = .ok (.iload_n 2, 1) := by decide +kernel
theorem dX10_lays_119 : decode cX10_lays 119 = .ok (.bipush 8, 2) := by decide +kernel
theorem dX10_lays_121 : decode cX10_lays 121 = .ok (.if_icmp .ge 29, 3) := by decide +kernel
theorem dX10_lays_124 : decode cX10_lays 124 = .ok (.aload_n 0, 1) := by decide +kernel
theorem dX10_lays_125 : decode cX10_lays 125 = .ok (.getfield 9, 3) := by decide +kernel
theorem dX10_lays_128 : decode cX10_lays 128 = .ok (.bipush 26, 2) := by decide +kernel
theorem dX10_lays_130 : decode cX10_lays 130 = .ok (.bipush 8, 2) := by decide +kernel
theorem dX10_lays_132 : decode cX10_lays 132 = .ok (.iload_n 1, 1) := by decide +kernel
theorem dX10_lays_133 : decode cX10_lays 133 = .ok (.imul, 1) := by decide +kernel
theorem dX10_lays_134 : decode cX10_lays 134 = .ok (.iadd, 1) := by decide +kernel
theorem dX10_lays_135 : decode cX10_lays 135 = .ok (.iload_n 2, 1) := by decide +kernel
theorem dX10_lays_136 : decode cX10_lays 136 = .ok (.iadd, 1) := by decide +kernel
theorem dX10_lays_137 : decode cX10_lays 137 = .ok (.aload_n 0, 1) := by decide +kernel
theorem dX10_lays_138 : decode cX10_lays 138 = .ok (.getfield 50, 3) := by decide +kernel
theorem dX10_lays_141 : decode cX10_lays 141 = .ok (.iload_n 2, 1) := by decide +kernel
theorem dX10_lays_142 : decode cX10_lays 142 = .ok (.iaload, 1) := by decide +kernel
theorem dX10_lays_143 : decode cX10_lays 143 = .ok (.iastore, 1) := by decide +kernel
theorem dX10_lays_144 : decode cX10_lays 144 = .ok (.iinc 2 1, 3) := by decide +kernel
theorem dX10_lays_147 : decode cX10_lays 147 = .ok (.goto (-29), 3) := by decide +kernel
theorem dX10_lays_150 : decode cX10_lays 150 = .ok (.aload_n 0, 1) := by decide +kernel
theorem dX10_lays_151 : decode cX10_lays 151 = .ok (.getfield 9, 3) := by decide +kernel
theorem dX10_lays_154 : decode cX10_lays 154 = .ok (.bipush 25, 2) := by decide +kernel
theorem dX10_lays_156 : decode cX10_lays 156 = .ok (.dup2, 1) := by decide +kernel
theorem dX10_lays_157 : decode cX10_lays 157 = .ok (.iaload, 1) := by decide +kernel
theorem dX10_lays_158 : decode cX10_lays 158 = .ok (.iconst 1, 1) := by decide +kernel
theorem dX10_lays_159 : decode cX10_lays 159 = .ok (.iadd, 1) := by decide +kernel
theorem dX10_lays_160 : decode cX10_lays 160 = .ok (.iastore, 1) := by decide +kernel
theorem dX10_lays_161 : decode cX10_lays 161 = .ok (.iload_n 1, 1) := by decide +kernel
theorem dX10_lays_162 : decode cX10_lays 162 = .ok (.ireturn, 1) := by decide +kernel
theorem dX10_takes_0 : decode cX10_takes 0 = .ok (.iconst 0, 1) := by decide +kernel
theorem dX10_takes_1 : decode cX10_takes 1 = .ok (.istore_n 2, 1) := by decide +kernel
theorem dX10_takes_2 : decode cX10_takes 2 = .ok (.iload_n 2, 1) := by decide +kernel
theorem dX10_takes_3 : decode cX10_takes 3 = .ok (.bipush 8, 2) := by decide +kernel
theorem dX10_takes_5 : decode cX10_takes 5 = .ok (.if_icmp .ge 21, 3) := by decide +kernel
theorem dX10_takes_8 : decode cX10_takes 8 = .ok (.aload_n 0, 1) := by decide +kernel
theorem dX10_takes_9 : decode cX10_takes 9 = .ok (.getfield 50, 3) := by decide +kernel
theorem dX10_takes_12 : decode cX10_takes 12 = .ok (.iload_n 2, 1) := by decide +kernel
theorem dX10_takes_13 : decode cX10_takes 13 = .ok (.aload_n 0, 1) := by decide +kernel
theorem dX10_takes_14 : decode cX10_takes 14 = .ok (.iload_n 1, 1) := by decide +kernel
theorem dX10_takes_15 : decode cX10_takes 15 = .ok (.iload_n 2, 1) := by decide +kernel
theorem dX10_takes_16 : decode cX10_takes 16 = .ok (.invokevirtual 126, 3) := by decide +kernel
theorem dX10_takes_19 : decode cX10_takes 19 = .ok (.iastore, 1) := by decide +kernel
theorem dX10_takes_20 : decode cX10_takes 20 = .ok (.iinc 2 1, 3) := by decide +kernel
theorem dX10_takes_23 : decode cX10_takes 23 = .ok (.goto (-21), 3) := by decide +kernel
theorem dX10_takes_26 : decode cX10_takes 26 = .ok (.return_, 1) := by decide +kernel
theorem dX10_shortens_0 : decode cX10_shortens 0 = .ok (.aload_n 0, 1) := by decide +kernel
theorem dX10_shortens_1 : decode cX10_shortens 1 = .ok (.getfield 50, 3) := by decide +kernel
theorem dX10_shortens_4 : decode cX10_shortens 4 = .ok (.bipush 6, 2) := by decide +kernel
theorem dX10_shortens_6 : decode cX10_shortens 6 = .ok (.iaload, 1) := by decide +kernel
theorem dX10_shortens_7 : decode cX10_shortens 7 = .ok (.aload_n 0, 1) := by decide +kernel
theorem dX10_shortens_8 : decode cX10_shortens 8 = .ok (.getfield 50, 3) := by decide +kernel
theorem dX10_shortens_11 : decode cX10_shortens 11 = .ok (.bipush 7, 2) := by decide +kernel
theorem dX10_shortens_13 : decode cX10_shortens 13 = .ok (.iaload, 1) := by decide +kernel
theorem dX10_shortens_14 : decode cX10_shortens 14 = .ok (.iadd, 1) := by decide +kernel
theorem dX10_shortens_15 : decode cX10_shortens 15 = .ok (.aload_n 0, 1) := by decide +kernel
theorem dX10_shortens_16 : decode cX10_shortens 16 = .ok (.getfield 50, 3) := by decide +kernel
theorem dX10_shortens_19 : decode cX10_shortens 19 = .ok (.iconst 4, 1) := by decide +kernel
theorem dX10_shortens_20 : decode cX10_shortens 20 = .ok (.iaload, 1) := by decide +kernel
theorem dX10_shortens_21 : decode cX10_shortens 21 = .ok (.if_icmp .le 44, 3) := by decide +kernel
theorem dX10_shortens_24 : decode cX10_shortens 24 = .ok (.aload_n 0, 1) := by decide +kernel
theorem dX10_shortens_25 : decode cX10_shortens 25 = .ok (.getfield 50, 3) := by decide +kernel
theorem dX10_shortens_28 : decode cX10_shortens 28 = .ok (.bipush 7, 2) := by decide +kernel
theorem dX10_shortens_30 : decode cX10_shortens 30 = .ok (.aload_n 0, 1) := by decide +kernel
theorem dX10_shortens_31 : decode cX10_shortens 31 = .ok (.getfield 50, 3) := by decide +kernel
theorem dX10_shortens_34 : decode cX10_shortens 34 = .ok (.iconst 4, 1) := by decide +kernel
theorem dX10_shortens_35 : decode cX10_shortens 35 = .ok (.iaload, 1) := by decide +kernel
theorem dX10_shortens_36 : decode cX10_shortens 36 = .ok (.aload_n 0, 1) := by decide +kernel
theorem dX10_shortens_37 : decode cX10_shortens 37 = .ok (.getfield 50, 3) := by decide +kernel
theorem dX10_shortens_40 : decode cX10_shortens 40 = .ok (.bipush 6, 2) := by decide +kernel
theorem dX10_shortens_42 : decode cX10_shortens 42 = .ok (.iaload, 1) := by decide +kernel
theorem dX10_shortens_43 : decode cX10_shortens 43 = .ok (.if_icmp .le 20, 3) := by decide +kernel
theorem dX10_shortens_46 : decode cX10_shortens 46 = .ok (.aload_n 0, 1) := by decide +kernel
theorem dX10_shortens_47 : decode cX10_shortens 47 = .ok (.getfield 50, 3) := by decide +kernel
theorem dX10_shortens_50 : decode cX10_shortens 50 = .ok (.iconst 4, 1) := by decide +kernel
theorem dX10_shortens_51 : decode cX10_shortens 51 = .ok (.iaload, 1) := by decide +kernel
theorem dX10_shortens_52 : decode cX10_shortens 52 = .ok (.aload_n 0, 1) := by decide +kernel
theorem dX10_shortens_53 : decode cX10_shortens 53 = .ok (.getfield 50, 3) := by decide +kernel
theorem dX10_shortens_56 : decode cX10_shortens 56 = .ok (.bipush 6, 2) := by decide +kernel
theorem dX10_shortens_58 : decode cX10_shortens 58 = .ok (.iaload, 1) := by decide +kernel
theorem dX10_shortens_59 : decode cX10_shortens 59 = .ok (.isub, 1) := by decide +kernel
theorem dX10_shortens_60 : decode cX10_shortens 60 = .ok (.goto 4, 3) := by decide +kernel
theorem dX10_shortens_63 : decode cX10_shortens 63 = .ok (.iconst 0, 1) := by decide +kernel
theorem dX10_shortens_64 : decode cX10_shortens 64 = .ok (.iastore, 1) := by decide +kernel
theorem dX10_shortens_65 : decode cX10_shortens 65 = .ok (.aload_n 0, 1) := by decide +kernel
theorem dX10_shortens_66 : decode cX10_shortens 66 = .ok (.getfield 50, 3) := by decide +kernel
theorem dX10_shortens_69 : decode cX10_shortens 69 = .ok (.bipush 6, 2) := by decide +kernel
theorem dX10_shortens_71 : decode cX10_shortens 71 = .ok (.iaload, 1) := by decide +kernel
theorem dX10_shortens_72 : decode cX10_shortens 72 = .ok (.aload_n 0, 1) := by decide +kernel
theorem dX10_shortens_73 : decode cX10_shortens 73 = .ok (.getfield 50, 3) := by decide +kernel
theorem dX10_shortens_76 : decode cX10_shortens 76 = .ok (.iconst 4, 1) := by decide +kernel
theorem dX10_shortens_77 : decode cX10_shortens 77 = .ok (.iaload, 1) := by decide +kernel
theorem dX10_shortens_78 : decode cX10_shortens 78 = .ok (.if_icmp .le 16, 3) := by decide +kernel
theorem dX10_shortens_81 : decode cX10_shortens 81 = .ok (.aload_n 0, 1) := by decide +kernel
theorem dX10_shortens_82 : decode cX10_shortens 82 = .ok (.getfield 50, 3) := by decide +kernel
theorem dX10_shortens_85 : decode cX10_shortens 85 = .ok (.bipush 6, 2) := by decide +kernel
theorem dX10_shortens_87 : decode cX10_shortens 87 = .ok (.aload_n 0, 1) := by decide +kernel
theorem dX10_shortens_88 : decode cX10_shortens 88 = .ok (.getfield 50, 3) := by decide +kernel
theorem dX10_shortens_91 : decode cX10_shortens 91 = .ok (.iconst 4, 1) := by decide +kernel
theorem dX10_shortens_92 : decode cX10_shortens 92 = .ok (.iaload, 1) := by decide +kernel
theorem dX10_shortens_93 : decode cX10_shortens 93 = .ok (.iastore, 1) := by decide +kernel
theorem dX10_shortens_94 : decode cX10_shortens 94 = .ok (.return_, 1) := by decide +kernel
theorem dX10_isShared_0 : decode cX10_isShared 0 = .ok (.iconst 0, 1) := by decide +kernel
theorem dX10_isShared_1 : decode cX10_isShared 1 = .ok (.istore_n 2, 1) := by decide +kernel
theorem dX10_isShared_2 : decode cX10_isShared 2 = .ok (.iload_n 2, 1) := by decide +kernel
theorem dX10_isShared_3 : decode cX10_isShared 3 = .ok (.aload_n 0, 1) := by decide +kernel
theorem dX10_isShared_4 : decode cX10_isShared 4 = .ok (.getfield 9, 3) := by decide +kernel
theorem dX10_isShared_7 : decode cX10_isShared 7 = .ok (.bipush 25, 2) := by decide +kernel
theorem dX10_isShared_9 : decode cX10_isShared 9 = .ok (.iaload, 1) := by decide +kernel
theorem dX10_isShared_10 : decode cX10_isShared 10 = .ok (.if_icmp .ge 75, 3) := by decide +kernel
theorem dX10_isShared_13 : decode cX10_isShared 13 = .ok (.iload_n 2, 1) := by decide +kernel
theorem dX10_isShared_14 : decode cX10_isShared 14 = .ok (.iload_n 1, 1) := by decide +kernel
theorem dX10_isShared_15 : decode cX10_isShared 15 = .ok (.if_icmp .eq 64, 3) := by decide +kernel
theorem dX10_isShared_18 : decode cX10_isShared 18 = .ok (.aload_n 0, 1) := by decide +kernel
theorem dX10_isShared_19 : decode cX10_isShared 19 = .ok (.iload_n 2, 1) := by decide +kernel
theorem dX10_isShared_20 : decode cX10_isShared 20 = .ok (.iconst 0, 1) := by decide +kernel
theorem dX10_isShared_21 : decode cX10_isShared 21 = .ok (.invokevirtual 126, 3) := by decide +kernel
theorem dX10_isShared_24 : decode cX10_isShared 24 = .ok (.aload_n 0, 1) := by decide +kernel
theorem dX10_isShared_25 : decode cX10_isShared 25 = .ok (.getfield 50, 3) := by decide +kernel
theorem dX10_isShared_28 : decode cX10_isShared 28 = .ok (.iconst 0, 1) := by decide +kernel
theorem dX10_isShared_29 : decode cX10_isShared 29 = .ok (.iaload, 1) := by decide +kernel
theorem dX10_isShared_30 : decode cX10_isShared 30 = .ok (.if_icmp .ne 49, 3) := by decide +kernel
theorem dX10_isShared_33 : decode cX10_isShared 33 = .ok (.aload_n 0, 1) := by decide +kernel
theorem dX10_isShared_34 : decode cX10_isShared 34 = .ok (.iload_n 2, 1) := by decide +kernel
theorem dX10_isShared_35 : decode cX10_isShared 35 = .ok (.iconst 1, 1) := by decide +kernel
theorem dX10_isShared_36 : decode cX10_isShared 36 = .ok (.invokevirtual 126, 3) := by decide +kernel
theorem dX10_isShared_39 : decode cX10_isShared 39 = .ok (.aload_n 0, 1) := by decide +kernel
theorem dX10_isShared_40 : decode cX10_isShared 40 = .ok (.getfield 50, 3) := by decide +kernel
theorem dX10_isShared_43 : decode cX10_isShared 43 = .ok (.iconst 1, 1) := by decide +kernel
theorem dX10_isShared_44 : decode cX10_isShared 44 = .ok (.iaload, 1) := by decide +kernel
theorem dX10_isShared_45 : decode cX10_isShared 45 = .ok (.aload_n 0, 1) := by decide +kernel
theorem dX10_isShared_46 : decode cX10_isShared 46 = .ok (.getfield 50, 3) := by decide +kernel
theorem dX10_isShared_49 : decode cX10_isShared 49 = .ok (.iconst 4, 1) := by decide +kernel
theorem dX10_isShared_50 : decode cX10_isShared 50 = .ok (.iaload, 1) := by decide +kernel
theorem dX10_isShared_51 : decode cX10_isShared 51 = .ok (.iadd, 1) := by decide +kernel
theorem dX10_isShared_52 : decode cX10_isShared 52 = .ok (.if_icmp .ge 27, 3) := by decide +kernel
theorem dX10_isShared_55 : decode cX10_isShared 55 = .ok (.aload_n 0, 1) := by decide +kernel
theorem dX10_isShared_56 : decode cX10_isShared 56 = .ok (.getfield 50, 3) := by decide +kernel
theorem dX10_isShared_59 : decode cX10_isShared 59 = .ok (.iconst 1, 1) := by decide +kernel
theorem dX10_isShared_60 : decode cX10_isShared 60 = .ok (.iaload, 1) := by decide +kernel
theorem dX10_isShared_61 : decode cX10_isShared 61 = .ok (.aload_n 0, 1) := by decide +kernel
theorem dX10_isShared_62 : decode cX10_isShared 62 = .ok (.iload_n 2, 1) := by decide +kernel
theorem dX10_isShared_63 : decode cX10_isShared 63 = .ok (.iconst 1, 1) := by decide +kernel
theorem dX10_isShared_64 : decode cX10_isShared 64 = .ok (.invokevirtual 126, 3) := by decide +kernel
theorem dX10_isShared_67 : decode cX10_isShared 67 = .ok (.aload_n 0, 1) := by decide +kernel
theorem dX10_isShared_68 : decode cX10_isShared 68 = .ok (.iload_n 2, 1) := by decide +kernel
theorem dX10_isShared_69 : decode cX10_isShared 69 = .ok (.iconst 4, 1) := by decide +kernel
theorem dX10_isShared_70 : decode cX10_isShared 70 = .ok (.invokevirtual 126, 3) := by decide +kernel
theorem dX10_isShared_73 : decode cX10_isShared 73 = .ok (.iadd, 1) := by decide +kernel
theorem dX10_isShared_74 : decode cX10_isShared 74 = .ok (.if_icmp .ge 5, 3) := by decide +kernel
theorem dX10_isShared_77 : decode cX10_isShared 77 = .ok (.iconst 1, 1) := by decide +kernel
theorem dX10_isShared_78 : decode cX10_isShared 78 = .ok (.ireturn, 1) := by decide +kernel
theorem dX10_isShared_79 : decode cX10_isShared 79 = .ok (.iinc 2 1, 3) := by decide +kernel
theorem dX10_isShared_82 : decode cX10_isShared 82 = .ok (.goto (-80), 3) := by decide +kernel
theorem dX10_isShared_85 : decode cX10_isShared 85 = .ok (.iconst 0, 1) := by decide +kernel
theorem dX10_isShared_86 : decode cX10_isShared 86 = .ok (.ireturn, 1) := by decide +kernel
theorem dX10_addClip_0 : decode cX10_addClip 0 = .ok (.iload_n 1, 1) := by decide +kernel
theorem dX10_addClip_1 : decode cX10_addClip 1 = .ok (.invokestatic 133, 3) := by decide +kernel
theorem dX10_addClip_4 : decode cX10_addClip 4 = .ok (.ifCond .eq 11, 3) := by decide +kernel
theorem dX10_addClip_7 : decode cX10_addClip 7 = .ok (.aload_n 0, 1) := by decide +kernel
theorem dX10_addClip_8 : decode cX10_addClip 8 = .ok (.iload_n 3, 1) := by decide +kernel
theorem dX10_addClip_9 : decode cX10_addClip 9 = .ok (.invokevirtual 119, 3) := by decide +kernel
theorem dX10_addClip_12 : decode cX10_addClip 12 = .ok (.ifCond .ne 5, 3) := by decide +kernel
theorem dX10_addClip_15 : decode cX10_addClip 15 = .ok (.iconst (-1), 1) := by decide +kernel
theorem dX10_addClip_16 : decode cX10_addClip 16 = .ok (.ireturn, 1) := by decide +kernel
theorem dX10_addClip_17 : decode cX10_addClip 17 = .ok (.iload_n 2, 1) := by decide +kernel
theorem dX10_addClip_18 : decode cX10_addClip 18 = .ok (.iconst 0, 1) := by decide +kernel
theorem dX10_addClip_19 : decode cX10_addClip 19 = .ok (.sipush 599, 3) := by decide +kernel
theorem dX10_addClip_22 : decode cX10_addClip 22 = .ok (.invokestatic 103, 3) := by decide +kernel
theorem dX10_addClip_25 : decode cX10_addClip 25 = .ok (.ifCond .eq 32, 3) := by decide +kernel
theorem dX10_addClip_28 : decode cX10_addClip 28 = .ok (.iload 4, 2) := by decide +kernel
theorem dX10_addClip_30 : decode cX10_addClip 30 = .ok (.ifCond .lt 27, 3) := by decide +kernel
theorem dX10_addClip_33 : decode cX10_addClip 33 = .ok (.iload 5, 2) := by decide +kernel
theorem dX10_addClip_35 : decode cX10_addClip 35 = .ok (.iconst 1, 1) := by decide +kernel
theorem dX10_addClip_36 : decode cX10_addClip 36 = .ok (.sipush 200, 3) := by decide +kernel
theorem dX10_addClip_39 : decode cX10_addClip 39 = .ok (.invokestatic 103, 3) := by decide +kernel
theorem dX10_addClip_42 : decode cX10_addClip 42 = .ok (.ifCond .eq 15, 3) := by decide +kernel
theorem dX10_addClip_45 : decode cX10_addClip 45 = .ok (.iload 4, 2) := by decide +kernel
theorem dX10_addClip_47 : decode cX10_addClip 47 = .ok (.sipush 200, 3) := by decide +kernel
theorem dX10_addClip_50 : decode cX10_addClip 50 = .ok (.if_icmp .ge 7, 3) := by decide +kernel
theorem dX10_addClip_53 : decode cX10_addClip 53 = .ok (.iconst 1, 1) := by decide +kernel
theorem dX10_addClip_54 : decode cX10_addClip 54 = .ok (.goto 4, 3) := by decide +kernel
theorem dX10_addClip_57 : decode cX10_addClip 57 = .ok (.iconst 0, 1) := by decide +kernel
theorem dX10_addClip_58 : decode cX10_addClip 58 = .ok (.istore 6, 2) := by decide +kernel
theorem dX10_addClip_60 : decode cX10_addClip 60 = .ok (.iload 6, 2) := by decide +kernel
theorem dX10_addClip_62 : decode cX10_addClip 62 = .ok (.ifCond .eq 27, 3) := by decide +kernel
theorem dX10_addClip_65 : decode cX10_addClip 65 = .ok (.iload 4, 2) := by decide +kernel
theorem dX10_addClip_67 : decode cX10_addClip 67 = .ok (.iload 5, 2) := by decide +kernel
theorem dX10_addClip_69 : decode cX10_addClip 69 = .ok (.iadd, 1) := by decide +kernel
theorem dX10_addClip_70 : decode cX10_addClip 70 = .ok (.aload_n 0, 1) := by decide +kernel
theorem dX10_addClip_71 : decode cX10_addClip 71 = .ok (.iload_n 3, 1) := by decide +kernel
theorem dX10_addClip_72 : decode cX10_addClip 72 = .ok (.iconst 1, 1) := by decide +kernel
theorem dX10_addClip_73 : decode cX10_addClip 73 = .ok (.invokevirtual 114, 3) := by decide +kernel
theorem dX10_addClip_76 : decode cX10_addClip 76 = .ok (.if_icmp .gt 13, 3) := by decide +kernel
theorem dX10_addClip_79 : decode cX10_addClip 79 = .ok (.iload_n 2, 1) := by decide +kernel
theorem dX10_addClip_80 : decode cX10_addClip 80 = .ok (.iload 5, 2) := by decide +kernel
theorem dX10_addClip_82 : decode cX10_addClip 82 = .ok (.iadd, 1) := by decide +kernel
theorem dX10_addClip_83 : decode cX10_addClip 83 = .ok (.sipush 600, 3) := by decide +kernel
theorem dX10_addClip_86 : decode cX10_addClip 86 = .ok (.if_icmp .le 6, 3) := by decide +kernel
theorem dX10_addClip_89 : decode cX10_addClip 89 = .ok (.bipush (-2), 2) := by decide +kernel
theorem dX10_addClip_91 : decode cX10_addClip 91 = .ok (.ireturn, 1) := by decide +kernel
theorem dX10_addClip_92 : decode cX10_addClip 92 = .ok (.aload_n 0, 1) := by decide +kernel
theorem dX10_addClip_93 : decode cX10_addClip 93 = .ok (.getfield 9, 3) := by decide +kernel
theorem dX10_addClip_96 : decode cX10_addClip 96 = .ok (.bipush 25, 2) := by decide +kernel
theorem dX10_addClip_98 : decode cX10_addClip 98 = .ok (.iaload, 1) := by decide +kernel
theorem dX10_addClip_99 : decode cX10_addClip 99 = .ok (.bipush 24, 2) := by decide +kernel
theorem dX10_addClip_101 : decode cX10_addClip 101 = .ok (.if_icmp .ne 6, 3) := by decide +kernel
theorem dX10_addClip_104 : decode cX10_addClip 104 = .ok (.bipush (-3), 2) := by decide +kernel
theorem dX10_addClip_106 : decode cX10_addClip 106 = .ok (.ireturn, 1) := by decide +kernel
theorem dX10_addClip_107 : decode cX10_addClip 107 = .ok (.aload_n 0, 1) := by decide +kernel
theorem dX10_addClip_108 : decode cX10_addClip 108 = .ok (.getfield 50, 3) := by decide +kernel
theorem dX10_addClip_111 : decode cX10_addClip 111 = .ok (.iconst 0, 1) := by decide +kernel
theorem dX10_addClip_112 : decode cX10_addClip 112 = .ok (.iload_n 1, 1) := by decide +kernel
theorem dX10_addClip_113 : decode cX10_addClip 113 = .ok (.iastore, 1) := by decide +kernel
theorem dX10_addClip_114 : decode cX10_addClip 114 = .ok (.aload_n 0, 1) := by decide +kernel
theorem dX10_addClip_115 : decode cX10_addClip 115 = .ok (.getfield 50, 3) := by decide +kernel
theorem dX10_addClip_118 : decode cX10_addClip 118 = .ok (.iconst 1, 1) := by decide +kernel
theorem dX10_addClip_119 : decode cX10_addClip 119 = .ok (.iload_n 2, 1) := by decide +kernel
theorem dX10_addClip_120 : decode cX10_addClip 120 = .ok (.iastore, 1) := by decide +kernel
theorem dX10_addClip_121 : decode cX10_addClip 121 = .ok (.aload_n 0, 1) := by decide +kernel
theorem dX10_addClip_122 : decode cX10_addClip 122 = .ok (.getfield 50, 3) := by decide +kernel
theorem dX10_addClip_125 : decode cX10_addClip 125 = .ok (.iconst 2, 1) := by decide +kernel
theorem dX10_addClip_126 : decode cX10_addClip 126 = .ok (.iload_n 3, 1) := by decide +kernel
theorem dX10_addClip_127 : decode cX10_addClip 127 = .ok (.iastore, 1) := by decide +kernel
theorem dX10_addClip_128 : decode cX10_addClip 128 = .ok (.aload_n 0, 1) := by decide +kernel
theorem dX10_addClip_129 : decode cX10_addClip 129 = .ok (.getfield 50, 3) := by decide +kernel
theorem dX10_addClip_132 : decode cX10_addClip 132 = .ok (.iconst 3, 1) := by decide +kernel
theorem dX10_addClip_133 : decode cX10_addClip 133 = .ok (.iload 4, 2) := by decide +kernel
theorem dX10_addClip_135 : decode cX10_addClip 135 = .ok (.iastore, 1) := by decide +kernel
theorem dX10_addClip_136 : decode cX10_addClip 136 = .ok (.aload_n 0, 1) := by decide +kernel
theorem dX10_addClip_137 : decode cX10_addClip 137 = .ok (.getfield 50, 3) := by decide +kernel
theorem dX10_addClip_140 : decode cX10_addClip 140 = .ok (.iconst 4, 1) := by decide +kernel
theorem dX10_addClip_141 : decode cX10_addClip 141 = .ok (.iload 5, 2) := by decide +kernel
theorem dX10_addClip_143 : decode cX10_addClip 143 = .ok (.iastore, 1) := by decide +kernel
theorem dX10_addClip_144 : decode cX10_addClip 144 = .ok (.aload_n 0, 1) := by decide +kernel
theorem dX10_addClip_145 : decode cX10_addClip 145 = .ok (.getfield 50, 3) := by decide +kernel
theorem dX10_addClip_148 : decode cX10_addClip 148 = .ok (.iconst 5, 1) := by decide +kernel
theorem dX10_addClip_149 : decode cX10_addClip 149 = .ok (.bipush 100, 2) := by decide +kernel
theorem dX10_addClip_151 : decode cX10_addClip 151 = .ok (.iastore, 1) := by decide +kernel
theorem dX10_addClip_152 : decode cX10_addClip 152 = .ok (.aload_n 0, 1) := by decide +kernel
theorem dX10_addClip_153 : decode cX10_addClip 153 = .ok (.getfield 50, 3) := by decide +kernel
theorem dX10_addClip_156 : decode cX10_addClip 156 = .ok (.bipush 6, 2) := by decide +kernel
theorem dX10_addClip_158 : decode cX10_addClip 158 = .ok (.iconst 0, 1) := by decide +kernel
theorem dX10_addClip_159 : decode cX10_addClip 159 = .ok (.iastore, 1) := by decide +kernel
theorem dX10_addClip_160 : decode cX10_addClip 160 = .ok (.aload_n 0, 1) := by decide +kernel
theorem dX10_addClip_161 : decode cX10_addClip 161 = .ok (.getfield 50, 3) := by decide +kernel
theorem dX10_addClip_164 : decode cX10_addClip 164 = .ok (.bipush 7, 2) := by decide +kernel
theorem dX10_addClip_166 : decode cX10_addClip 166 = .ok (.iconst 0, 1) := by decide +kernel
theorem dX10_addClip_167 : decode cX10_addClip 167 = .ok (.iastore, 1) := by decide +kernel
theorem dX10_addClip_168 : decode cX10_addClip 168 = .ok (.aload_n 0, 1) := by decide +kernel
theorem dX10_addClip_169 : decode cX10_addClip 169 = .ok (.iconst (-1), 1) := by decide +kernel
theorem dX10_addClip_170 : decode cX10_addClip 170 = .ok (.invokevirtual 159, 3) := by decide +kernel
theorem dX10_addClip_173 : decode cX10_addClip 173 = .ok (.ifCond .eq 6, 3) := by decide +kernel
theorem dX10_addClip_176 : decode cX10_addClip 176 = .ok (.bipush (-4), 2) := by decide +kernel
theorem dX10_addClip_178 : decode cX10_addClip 178 = .ok (.ireturn, 1) := by decide +kernel
theorem dX10_addClip_179 : decode cX10_addClip 179 = .ok (.aload_n 0, 1) := by decide +kernel
theorem dX10_addClip_180 : decode cX10_addClip 180 = .ok (.invokevirtual 107, 3) := by decide +kernel
theorem dX10_addClip_183 : decode cX10_addClip 183 = .ok (.aload_n 0, 1) := by decide +kernel
theorem dX10_addClip_184 : decode cX10_addClip 184 = .ok (.aload_n 0, 1) := by decide +kernel
theorem dX10_addClip_185 : decode cX10_addClip 185 = .ok (.invokevirtual 162, 3) := by decide +kernel
theorem dX10_addClip_188 : decode cX10_addClip 188 = .ok (.invokevirtual 110, 3) := by decide +kernel
theorem dX10_addClip_191 : decode cX10_addClip 191 = .ok (.ireturn, 1) := by decide +kernel
theorem dX10_clip_0 : decode cX10_clip 0 = .ok (.aload_n 0, 1) := by decide +kernel
theorem dX10_clip_1 : decode cX10_clip 1 = .ok (.iload_n 1, 1) := by decide +kernel
theorem dX10_clip_2 : decode cX10_clip 2 = .ok (.invokevirtual 165, 3) := by decide +kernel
theorem dX10_clip_5 : decode cX10_clip 5 = .ok (.ifCond .ne 5, 3) := by decide +kernel
theorem dX10_clip_8 : decode cX10_clip 8 = .ok (.iconst (-1), 1) := by decide +kernel
theorem dX10_clip_9 : decode cX10_clip 9 = .ok (.ireturn, 1) := by decide +kernel
theorem dX10_clip_10 : decode cX10_clip 10 = .ok (.iload_n 2, 1) := by decide +kernel
theorem dX10_clip_11 : decode cX10_clip 11 = .ok (.iconst 0, 1) := by decide +kernel
theorem dX10_clip_12 : decode cX10_clip 12 = .ok (.bipush 9, 2) := by decide +kernel
theorem dX10_clip_14 : decode cX10_clip 14 = .ok (.invokestatic 103, 3) := by decide +kernel
theorem dX10_clip_17 : decode cX10_clip 17 = .ok (.ifCond .ne 6, 3) := by decide +kernel
theorem dX10_clip_20 : decode cX10_clip 20 = .ok (.bipush (-2), 2) := by decide +kernel
theorem dX10_clip_22 : decode cX10_clip 22 = .ok (.ireturn, 1) := by decide +kernel
theorem dX10_clip_23 : decode cX10_clip 23 = .ok (.iload_n 2, 1) := by decide +kernel
theorem dX10_clip_24 : decode cX10_clip 24 = .ok (.bipush 8, 2) := by decide +kernel
theorem dX10_clip_26 : decode cX10_clip 26 = .ok (.if_icmp .ge 10, 3) := by decide +kernel
theorem dX10_clip_29 : decode cX10_clip 29 = .ok (.aload_n 0, 1) := by decide +kernel
theorem dX10_clip_30 : decode cX10_clip 30 = .ok (.iload_n 1, 1) := by decide +kernel
theorem dX10_clip_31 : decode cX10_clip 31 = .ok (.iload_n 2, 1) := by decide +kernel
theorem dX10_clip_32 : decode cX10_clip 32 = .ok (.invokevirtual 126, 3) := by decide +kernel
theorem dX10_clip_35 : decode cX10_clip 35 = .ok (.ireturn, 1) := by decide +kernel
theorem dX10_clip_36 : decode cX10_clip 36 = .ok (.aload_n 0, 1) := by decide +kernel
theorem dX10_clip_37 : decode cX10_clip 37 = .ok (.invokevirtual 123, 3) := by decide +kernel
theorem dX10_clip_40 : decode cX10_clip 40 = .ok (.iconst 0, 1) := by decide +kernel
theorem dX10_clip_41 : decode cX10_clip 41 = .ok (.istore_n 3, 1) := by decide +kernel
theorem dX10_clip_42 : decode cX10_clip 42 = .ok (.iconst 0, 1) := by decide +kernel
theorem dX10_clip_43 : decode cX10_clip 43 = .ok (.istore 4, 2) := by decide +kernel
theorem dX10_clip_45 : decode cX10_clip 45 = .ok (.iload 4, 2) := by decide +kernel
theorem dX10_clip_47 : decode cX10_clip 47 = .ok (.aload_n 0, 1) := by decide +kernel
theorem dX10_clip_48 : decode cX10_clip 48 = .ok (.iload_n 1, 1) := by decide +kernel
theorem dX10_clip_49 : decode cX10_clip 49 = .ok (.iconst 4, 1) := by decide +kernel
theorem dX10_clip_50 : decode cX10_clip 50 = .ok (.invokevirtual 126, 3) := by decide +kernel
theorem dX10_clip_53 : decode cX10_clip 53 = .ok (.if_icmp .ge 44, 3) := by decide +kernel
theorem dX10_clip_56 : decode cX10_clip 56 = .ok (.aload_n 0, 1) := by decide +kernel
theorem dX10_clip_57 : decode cX10_clip 57 = .ok (.iload_n 1, 1) := by decide +kernel
theorem dX10_clip_58 : decode cX10_clip 58 = .ok (.iload 4, 2) := by decide +kernel
theorem dX10_clip_60 : decode cX10_clip 60 = .ok (.invokevirtual 146, 3) := by decide +kernel
theorem dX10_clip_63 : decode cX10_clip 63 = .ok (.istore 5, 2) := by decide +kernel
theorem dX10_clip_65 : decode cX10_clip 65 = .ok (.iload_n 2, 1) := by decide +kernel
theorem dX10_clip_66 : decode cX10_clip 66 = .ok (.bipush 9, 2) := by decide +kernel
theorem dX10_clip_68 : decode cX10_clip 68 = .ok (.if_icmp .ne 10, 3) := by decide +kernel
theorem dX10_clip_71 : decode cX10_clip 71 = .ok (.iload_n 3, 1) := by decide +kernel
theorem dX10_clip_72 : decode cX10_clip 72 = .ok (.iload 5, 2) := by decide +kernel
theorem dX10_clip_74 : decode cX10_clip 74 = .ok (.iadd, 1) := by decide +kernel
theorem dX10_clip_75 : decode cX10_clip 75 = .ok (.goto 15, 3) := by decide +kernel
theorem dX10_clip_78 : decode cX10_clip 78 = .ok (.iload 5, 2) := by decide +kernel
theorem dX10_clip_80 : decode cX10_clip 80 = .ok (.iload_n 3, 1) := by decide +kernel
theorem dX10_clip_81 : decode cX10_clip 81 = .ok (.if_icmp .le 8, 3) := by decide +kernel
theorem dX10_clip_84 : decode cX10_clip 84 = .ok (.iload 5, 2) := by decide +kernel
theorem dX10_clip_86 : decode cX10_clip 86 = .ok (.goto 4, 3) := by decide +kernel
theorem dX10_clip_89 : decode cX10_clip 89 = .ok (.iload_n 3, 1) := by decide +kernel
theorem dX10_clip_90 : decode cX10_clip 90 = .ok (.istore_n 3, 1) := by decide +kernel
theorem dX10_clip_91 : decode cX10_clip 91 = .ok (.iinc 4 1, 3) := by decide +kernel
theorem dX10_clip_94 : decode cX10_clip 94 = .ok (.goto (-49), 3) := by decide +kernel
theorem dX10_clip_97 : decode cX10_clip 97 = .ok (.iload_n 3, 1) := by decide +kernel
theorem dX10_clip_98 : decode cX10_clip 98 = .ok (.ireturn, 1) := by decide +kernel
theorem dX10_setClip_0 : decode cX10_setClip 0 = .ok (.aload_n 0, 1) := by decide +kernel
theorem dX10_setClip_1 : decode cX10_setClip 1 = .ok (.iload_n 1, 1) := by decide +kernel
theorem dX10_setClip_2 : decode cX10_setClip 2 = .ok (.invokevirtual 165, 3) := by decide +kernel
theorem dX10_setClip_5 : decode cX10_setClip 5 = .ok (.ifCond .ne 5, 3) := by decide +kernel
theorem dX10_setClip_8 : decode cX10_setClip 8 = .ok (.iconst (-1), 1) := by decide +kernel
theorem dX10_setClip_9 : decode cX10_setClip 9 = .ok (.ireturn, 1) := by decide +kernel
theorem dX10_setClip_10 : decode cX10_setClip 10 = .ok (.iload_n 2, 1) := by decide +kernel
theorem dX10_setClip_11 : decode cX10_setClip 11 = .ok (.iconst 0, 1) := by decide +kernel
theorem dX10_setClip_12 : decode cX10_setClip 12 = .ok (.iconst 2, 1) := by decide +kernel
theorem dX10_setClip_13 : decode cX10_setClip 13 = .ok (.invokestatic 103, 3) := by decide +kernel
theorem dX10_setClip_16 : decode cX10_setClip 16 = .ok (.ifCond .eq 18, 3) := by decide +kernel
theorem dX10_setClip_19 : decode cX10_setClip 19 = .ok (.iload_n 3, 1) := by decide +kernel
theorem dX10_setClip_20 : decode cX10_setClip 20 = .ok (.ifCond .lt 14, 3) := by decide +kernel
theorem dX10_setClip_23 : decode cX10_setClip 23 = .ok (.iload_n 2, 1) := by decide +kernel
theorem dX10_setClip_24 : decode cX10_setClip 24 = .ok (.ifCond .ne 13, 3) := by decide +kernel
theorem dX10_setClip_27 : decode cX10_setClip 27 = .ok (.iload_n 3, 1) := by decide +kernel
theorem dX10_setClip_28 : decode cX10_setClip 28 = .ok (.sipush 200, 3) := by decide +kernel
theorem dX10_setClip_31 : decode cX10_setClip 31 = .ok (.if_icmp .le 6, 3) := by decide +kernel
theorem dX10_setClip_34 : decode cX10_setClip 34 = .ok (.bipush (-2), 2) := by decide +kernel
theorem dX10_setClip_36 : decode cX10_setClip 36 = .ok (.ireturn, 1) := by decide +kernel
theorem dX10_setClip_37 : decode cX10_setClip 37 = .ok (.iload_n 2, 1) := by decide +kernel
theorem dX10_setClip_38 : decode cX10_setClip 38 = .ok (.ifCond .le 44, 3) := by decide +kernel
theorem dX10_setClip_41 : decode cX10_setClip 41 = .ok (.iload_n 3, 1) := by decide +kernel
theorem dX10_setClip_42 : decode cX10_setClip 42 = .ok (.aload_n 0, 1) := by decide +kernel
theorem dX10_setClip_43 : decode cX10_setClip 43 = .ok (.iload_n 1, 1) := by decide +kernel
theorem dX10_setClip_44 : decode cX10_setClip 44 = .ok (.iconst 4, 1) := by decide +kernel
theorem dX10_setClip_45 : decode cX10_setClip 45 = .ok (.invokevirtual 126, 3) := by decide +kernel
theorem dX10_setClip_48 : decode cX10_setClip 48 = .ok (.if_icmp .gt 31, 3) := by decide +kernel
theorem dX10_setClip_51 : decode cX10_setClip 51 = .ok (.iload_n 3, 1) := by decide +kernel
theorem dX10_setClip_52 : decode cX10_setClip 52 = .ok (.aload_n 0, 1) := by decide +kernel
theorem dX10_setClip_53 : decode cX10_setClip 53 = .ok (.iload_n 1, 1) := by decide +kernel
theorem dX10_setClip_54 : decode cX10_setClip 54 = .ok (.iload_n 2, 1) := by decide +kernel
theorem dX10_setClip_55 : decode cX10_setClip 55 = .ok (.iconst 1, 1) := by decide +kernel
theorem dX10_setClip_56 : decode cX10_setClip 56 = .ok (.if_icmp .ne 8, 3) := by decide +kernel
theorem dX10_setClip_59 : decode cX10_setClip 59 = .ok (.bipush 7, 2) := by decide +kernel
theorem dX10_setClip_61 : decode cX10_setClip 61 = .ok (.goto 5, 3) := by decide +kernel
theorem dX10_setClip_64 : decode cX10_setClip 64 = .ok (.bipush 6, 2) := by decide +kernel
theorem dX10_setClip_66 : decode cX10_setClip 66 = .ok (.invokevirtual 126, 3) := by decide +kernel
theorem dX10_setClip_69 : decode cX10_setClip 69 = .ok (.iadd, 1) := by decide +kernel
theorem dX10_setClip_70 : decode cX10_setClip 70 = .ok (.aload_n 0, 1) := by decide +kernel
theorem dX10_setClip_71 : decode cX10_setClip 71 = .ok (.iload_n 1, 1) := by decide +kernel
theorem dX10_setClip_72 : decode cX10_setClip 72 = .ok (.iconst 4, 1) := by decide +kernel
theorem dX10_setClip_73 : decode cX10_setClip 73 = .ok (.invokevirtual 126, 3) := by decide +kernel
theorem dX10_setClip_76 : decode cX10_setClip 76 = .ok (.if_icmp .le 6, 3) := by decide +kernel
theorem dX10_setClip_79 : decode cX10_setClip 79 = .ok (.bipush (-2), 2) := by decide +kernel
theorem dX10_setClip_81 : decode cX10_setClip 81 = .ok (.ireturn, 1) := by decide +kernel
theorem dX10_setClip_82 : decode cX10_setClip 82 = .ok (.aload_n 0, 1) := by decide +kernel
theorem dX10_setClip_83 : decode cX10_setClip 83 = .ok (.invokevirtual 107, 3) := by decide +kernel
theorem dX10_setClip_86 : decode cX10_setClip 86 = .ok (.aload_n 0, 1) := by decide +kernel
theorem dX10_setClip_87 : decode cX10_setClip 87 = .ok (.iload_n 1, 1) := by decide +kernel
theorem dX10_setClip_88 : decode cX10_setClip 88 = .ok (.iconst 5, 1) := by decide +kernel
theorem dX10_setClip_89 : decode cX10_setClip 89 = .ok (.iload_n 2, 1) := by decide +kernel
theorem dX10_setClip_90 : decode cX10_setClip 90 = .ok (.iadd, 1) := by decide +kernel
theorem dX10_setClip_91 : decode cX10_setClip 91 = .ok (.invokevirtual 126, 3) := by decide +kernel
theorem dX10_setClip_94 : decode cX10_setClip 94 = .ok (.istore 4, 2) := by decide +kernel
theorem dX10_setClip_96 : decode cX10_setClip 96 = .ok (.aload_n 0, 1) := by decide +kernel
theorem dX10_setClip_97 : decode cX10_setClip 97 = .ok (.getfield 9, 3) := by decide +kernel
theorem dX10_setClip_100 : decode cX10_setClip 100 = .ok (.bipush 26, 2) := by decide +kernel
theorem dX10_setClip_102 : decode cX10_setClip 102 = .ok (.bipush 8, 2) := by decide +kernel
theorem dX10_setClip_104 : decode cX10_setClip 104 = .ok (.iload_n 1, 1) := by decide +kernel
theorem dX10_setClip_105 : decode cX10_setClip 105 = .ok (.imul, 1) := by decide +kernel
theorem dX10_setClip_106 : decode cX10_setClip 106 = .ok (.iadd, 1) := by decide +kernel
theorem dX10_setClip_107 : decode cX10_setClip 107 = .ok (.iconst 5, 1) := by decide +kernel
theorem dX10_setClip_108 : decode cX10_setClip 108 = .ok (.iadd, 1) := by decide +kernel
theorem dX10_setClip_109 : decode cX10_setClip 109 = .ok (.iload_n 2, 1) := by decide +kernel
theorem dX10_setClip_110 : decode cX10_setClip 110 = .ok (.iadd, 1) := by decide +kernel
theorem dX10_setClip_111 : decode cX10_setClip 111 = .ok (.iload_n 3, 1) := by decide +kernel
theorem dX10_setClip_112 : decode cX10_setClip 112 = .ok (.iastore, 1) := by decide +kernel
theorem dX10_setClip_113 : decode cX10_setClip 113 = .ok (.aload_n 0, 1) := by decide +kernel
theorem dX10_setClip_114 : decode cX10_setClip 114 = .ok (.iload 4, 2) := by decide +kernel
theorem dX10_setClip_116 : decode cX10_setClip 116 = .ok (.invokevirtual 110, 3) := by decide +kernel
theorem dX10_setClip_119 : decode cX10_setClip 119 = .ok (.ireturn, 1) := by decide +kernel
theorem dX10_moveClip_0 : decode cX10_moveClip 0 = .ok (.aload_n 0, 1) := by decide +kernel
theorem dX10_moveClip_1 : decode cX10_moveClip 1 = .ok (.iload_n 1, 1) := by decide +kernel
theorem dX10_moveClip_2 : decode cX10_moveClip 2 = .ok (.invokevirtual 165, 3) := by decide +kernel
theorem dX10_moveClip_5 : decode cX10_moveClip 5 = .ok (.ifCond .eq 10, 3) := by decide +kernel
theorem dX10_moveClip_8 : decode cX10_moveClip 8 = .ok (.iload_n 2, 1) := by decide +kernel
theorem dX10_moveClip_9 : decode cX10_moveClip 9 = .ok (.invokestatic 133, 3) := by decide +kernel
theorem dX10_moveClip_12 : decode cX10_moveClip 12 = .ok (.ifCond .ne 5, 3) := by decide +kernel
theorem dX10_moveClip_15 : decode cX10_moveClip 15 = .ok (.iconst (-1), 1) := by decide +kernel
theorem dX10_moveClip_16 : decode cX10_moveClip 16 = .ok (.ireturn, 1) := by decide +kernel
theorem dX10_moveClip_17 : decode cX10_moveClip 17 = .ok (.iload_n 3, 1) := by decide +kernel
theorem dX10_moveClip_18 : decode cX10_moveClip 18 = .ok (.iconst 0, 1) := by decide +kernel
theorem dX10_moveClip_19 : decode cX10_moveClip 19 = .ok (.sipush 600, 3) := by decide +kernel
theorem dX10_moveClip_22 : decode cX10_moveClip 22 = .ok (.aload_n 0, 1) := by decide +kernel
theorem dX10_moveClip_23 : decode cX10_moveClip 23 = .ok (.iload_n 1, 1) := by decide +kernel
theorem dX10_moveClip_24 : decode cX10_moveClip 24 = .ok (.iconst 4, 1) := by decide +kernel
theorem dX10_moveClip_25 : decode cX10_moveClip 25 = .ok (.invokevirtual 126, 3) := by decide +kernel
theorem dX10_moveClip_28 : decode cX10_moveClip 28 = .ok (.isub, 1) := by decide +kernel
theorem dX10_moveClip_29 : decode cX10_moveClip 29 = .ok (.invokestatic 103, 3) := by decide +kernel
theorem dX10_moveClip_32 : decode cX10_moveClip 32 = .ok (.ifCond .ne 6, 3) := by decide +kernel
theorem dX10_moveClip_35 : decode cX10_moveClip 35 = .ok (.bipush (-2), 2) := by decide +kernel
theorem dX10_moveClip_37 : decode cX10_moveClip 37 = .ok (.ireturn, 1) := by decide +kernel
theorem dX10_moveClip_38 : decode cX10_moveClip 38 = .ok (.aload_n 0, 1) := by decide +kernel
theorem dX10_moveClip_39 : decode cX10_moveClip 39 = .ok (.iload_n 1, 1) := by decide +kernel
theorem dX10_moveClip_40 : decode cX10_moveClip 40 = .ok (.invokevirtual 168, 3) := by decide +kernel
theorem dX10_moveClip_43 : decode cX10_moveClip 43 = .ok (.aload_n 0, 1) := by decide +kernel
theorem dX10_moveClip_44 : decode cX10_moveClip 44 = .ok (.getfield 50, 3) := by decide +kernel
theorem dX10_moveClip_47 : decode cX10_moveClip 47 = .ok (.iconst 0, 1) := by decide +kernel
theorem dX10_moveClip_48 : decode cX10_moveClip 48 = .ok (.iload_n 2, 1) := by decide +kernel
theorem dX10_moveClip_49 : decode cX10_moveClip 49 = .ok (.iastore, 1) := by decide +kernel
theorem dX10_moveClip_50 : decode cX10_moveClip 50 = .ok (.aload_n 0, 1) := by decide +kernel
theorem dX10_moveClip_51 : decode cX10_moveClip 51 = .ok (.getfield 50, 3) := by decide +kernel
theorem dX10_moveClip_54 : decode cX10_moveClip 54 = .ok (.iconst 1, 1) := by decide +kernel
theorem dX10_moveClip_55 : decode cX10_moveClip 55 = .ok (.iload_n 3, 1) := by decide +kernel
theorem dX10_moveClip_56 : decode cX10_moveClip 56 = .ok (.iastore, 1) := by decide +kernel
theorem dX10_moveClip_57 : decode cX10_moveClip 57 = .ok (.aload_n 0, 1) := by decide +kernel
theorem dX10_moveClip_58 : decode cX10_moveClip 58 = .ok (.iload_n 1, 1) := by decide +kernel
theorem dX10_moveClip_59 : decode cX10_moveClip 59 = .ok (.invokevirtual 159, 3) := by decide +kernel
theorem dX10_moveClip_62 : decode cX10_moveClip 62 = .ok (.ifCond .eq 6, 3) := by decide +kernel
theorem dX10_moveClip_65 : decode cX10_moveClip 65 = .ok (.bipush (-4), 2) := by decide +kernel
theorem dX10_moveClip_67 : decode cX10_moveClip 67 = .ok (.ireturn, 1) := by decide +kernel
theorem dX10_moveClip_68 : decode cX10_moveClip 68 = .ok (.aload_n 0, 1) := by decide +kernel
theorem dX10_moveClip_69 : decode cX10_moveClip 69 = .ok (.invokevirtual 107, 3) := by decide +kernel
theorem dX10_moveClip_72 : decode cX10_moveClip 72 = .ok (.aload_n 0, 1) := by decide +kernel
theorem dX10_moveClip_73 : decode cX10_moveClip 73 = .ok (.iload_n 1, 1) := by decide +kernel
theorem dX10_moveClip_74 : decode cX10_moveClip 74 = .ok (.invokevirtual 172, 3) := by decide +kernel
theorem dX10_moveClip_77 : decode cX10_moveClip 77 = .ok (.aload_n 0, 1) := by decide +kernel
theorem dX10_moveClip_78 : decode cX10_moveClip 78 = .ok (.aload_n 0, 1) := by decide +kernel
theorem dX10_moveClip_79 : decode cX10_moveClip 79 = .ok (.invokevirtual 162, 3) := by decide +kernel
theorem dX10_moveClip_82 : decode cX10_moveClip 82 = .ok (.invokevirtual 110, 3) := by decide +kernel
theorem dX10_moveClip_85 : decode cX10_moveClip 85 = .ok (.ireturn, 1) := by decide +kernel
theorem dX10_copyClip_0 : decode cX10_copyClip 0 = .ok (.aload_n 0, 1) := by decide +kernel
theorem dX10_copyClip_1 : decode cX10_copyClip 1 = .ok (.iload_n 1, 1) := by decide +kernel
theorem dX10_copyClip_2 : decode cX10_copyClip 2 = .ok (.invokevirtual 165, 3) := by decide +kernel
theorem dX10_copyClip_5 : decode cX10_copyClip 5 = .ok (.ifCond .eq 10, 3) := by decide +kernel
theorem dX10_copyClip_8 : decode cX10_copyClip 8 = .ok (.iload_n 2, 1) := by decide +kernel
theorem dX10_copyClip_9 : decode cX10_copyClip 9 = .ok (.invokestatic 133, 3) := by decide +kernel
theorem dX10_copyClip_12 : decode cX10_copyClip 12 = .ok (.ifCond .ne 5, 3) := by decide +kernel
theorem dX10_copyClip_15 : decode cX10_copyClip 15 = .ok (.iconst (-1), 1) := by decide +kernel
theorem dX10_copyClip_16 : decode cX10_copyClip 16 = .ok (.ireturn, 1) := by decide +kernel
theorem dX10_copyClip_17 : decode cX10_copyClip 17 = .ok (.iload_n 3, 1) := by decide +kernel
theorem dX10_copyClip_18 : decode cX10_copyClip 18 = .ok (.iconst 0, 1) := by decide +kernel
theorem dX10_copyClip_19 : decode cX10_copyClip 19 = .ok (.sipush 600, 3) := by decide +kernel
theorem dX10_copyClip_22 : decode cX10_copyClip 22 = .ok (.aload_n 0, 1) := by decide +kernel
theorem dX10_copyClip_23 : decode cX10_copyClip 23 = .ok (.iload_n 1, 1) := by decide +kernel
theorem dX10_copyClip_24 : decode cX10_copyClip 24 = .ok (.iconst 4, 1) := by decide +kernel
theorem dX10_copyClip_25 : decode cX10_copyClip 25 = .ok (.invokevirtual 126, 3) := by decide +kernel
theorem dX10_copyClip_28 : decode cX10_copyClip 28 = .ok (.isub, 1) := by decide +kernel
theorem dX10_copyClip_29 : decode cX10_copyClip 29 = .ok (.invokestatic 103, 3) := by decide +kernel
theorem dX10_copyClip_32 : decode cX10_copyClip 32 = .ok (.ifCond .ne 6, 3) := by decide +kernel
theorem dX10_copyClip_35 : decode cX10_copyClip 35 = .ok (.bipush (-2), 2) := by decide +kernel
theorem dX10_copyClip_37 : decode cX10_copyClip 37 = .ok (.ireturn, 1) := by decide +kernel
theorem dX10_copyClip_38 : decode cX10_copyClip 38 = .ok (.aload_n 0, 1) := by decide +kernel
theorem dX10_copyClip_39 : decode cX10_copyClip 39 = .ok (.getfield 9, 3) := by decide +kernel
theorem dX10_copyClip_42 : decode cX10_copyClip 42 = .ok (.bipush 25, 2) := by decide +kernel
theorem dX10_copyClip_44 : decode cX10_copyClip 44 = .ok (.iaload, 1) := by decide +kernel
theorem dX10_copyClip_45 : decode cX10_copyClip 45 = .ok (.bipush 24, 2) := by decide +kernel
theorem dX10_copyClip_47 : decode cX10_copyClip 47 = .ok (.if_icmp .ne 6, 3) := by decide +kernel
theorem dX10_copyClip_50 : decode cX10_copyClip 50 = .ok (.bipush (-3), 2) := by decide +kernel
theorem dX10_copyClip_52 : decode cX10_copyClip 52 = .ok (.ireturn, 1) := by decide +kernel
theorem dX10_copyClip_53 : decode cX10_copyClip 53 = .ok (.aload_n 0, 1) := by decide +kernel
theorem dX10_copyClip_54 : decode cX10_copyClip 54 = .ok (.iload_n 1, 1) := by decide +kernel
theorem dX10_copyClip_55 : decode cX10_copyClip 55 = .ok (.invokevirtual 168, 3) := by decide +kernel
theorem dX10_copyClip_58 : decode cX10_copyClip 58 = .ok (.aload_n 0, 1) := by decide +kernel
theorem dX10_copyClip_59 : decode cX10_copyClip 59 = .ok (.getfield 50, 3) := by decide +kernel
theorem dX10_copyClip_62 : decode cX10_copyClip 62 = .ok (.iconst 0, 1) := by decide +kernel
theorem dX10_copyClip_63 : decode cX10_copyClip 63 = .ok (.iload_n 2, 1) := by decide +kernel
theorem dX10_copyClip_64 : decode cX10_copyClip 64 = .ok (.iastore, 1) := by decide +kernel
theorem dX10_copyClip_65 : decode cX10_copyClip 65 = .ok (.aload_n 0, 1) := by decide +kernel
theorem dX10_copyClip_66 : decode cX10_copyClip 66 = .ok (.getfield 50, 3) := by decide +kernel
theorem dX10_copyClip_69 : decode cX10_copyClip 69 = .ok (.iconst 1, 1) := by decide +kernel
theorem dX10_copyClip_70 : decode cX10_copyClip 70 = .ok (.iload_n 3, 1) := by decide +kernel
theorem dX10_copyClip_71 : decode cX10_copyClip 71 = .ok (.iastore, 1) := by decide +kernel
theorem dX10_copyClip_72 : decode cX10_copyClip 72 = .ok (.aload_n 0, 1) := by decide +kernel
theorem dX10_copyClip_73 : decode cX10_copyClip 73 = .ok (.iconst (-1), 1) := by decide +kernel
theorem dX10_copyClip_74 : decode cX10_copyClip 74 = .ok (.invokevirtual 159, 3) := by decide +kernel
theorem dX10_copyClip_77 : decode cX10_copyClip 77 = .ok (.ifCond .eq 6, 3) := by decide +kernel
theorem dX10_copyClip_80 : decode cX10_copyClip 80 = .ok (.bipush (-4), 2) := by decide +kernel
theorem dX10_copyClip_82 : decode cX10_copyClip 82 = .ok (.ireturn, 1) := by decide +kernel
theorem dX10_copyClip_83 : decode cX10_copyClip 83 = .ok (.aload_n 0, 1) := by decide +kernel
theorem dX10_copyClip_84 : decode cX10_copyClip 84 = .ok (.invokevirtual 107, 3) := by decide +kernel
theorem dX10_copyClip_87 : decode cX10_copyClip 87 = .ok (.aload_n 0, 1) := by decide +kernel
theorem dX10_copyClip_88 : decode cX10_copyClip 88 = .ok (.aload_n 0, 1) := by decide +kernel
theorem dX10_copyClip_89 : decode cX10_copyClip 89 = .ok (.invokevirtual 162, 3) := by decide +kernel
theorem dX10_copyClip_92 : decode cX10_copyClip 92 = .ok (.invokevirtual 110, 3) := by decide +kernel
theorem dX10_copyClip_95 : decode cX10_copyClip 95 = .ok (.ireturn, 1) := by decide +kernel
theorem dX10_clipOn_0 : decode cX10_clipOn 0 = .ok (.iconst 0, 1) := by decide +kernel
theorem dX10_clipOn_1 : decode cX10_clipOn 1 = .ok (.istore_n 3, 1) := by decide +kernel
theorem dX10_clipOn_2 : decode cX10_clipOn 2 = .ok (.iload_n 3, 1) := by decide +kernel
theorem dX10_clipOn_3 : decode cX10_clipOn 3 = .ok (.aload_n 0, 1) := by decide +kernel
theorem dX10_clipOn_4 : decode cX10_clipOn 4 = .ok (.getfield 9, 3) := by decide +kernel
theorem dX10_clipOn_7 : decode cX10_clipOn 7 = .ok (.bipush 25, 2) := by decide +kernel
theorem dX10_clipOn_9 : decode cX10_clipOn 9 = .ok (.iaload, 1) := by decide +kernel
theorem dX10_clipOn_10 : decode cX10_clipOn 10 = .ok (.if_icmp .ge 49, 3) := by decide +kernel
theorem dX10_clipOn_13 : decode cX10_clipOn 13 = .ok (.aload_n 0, 1) := by decide +kernel
theorem dX10_clipOn_14 : decode cX10_clipOn 14 = .ok (.iload_n 3, 1) := by decide +kernel
theorem dX10_clipOn_15 : decode cX10_clipOn 15 = .ok (.iconst 0, 1) := by decide +kernel
theorem dX10_clipOn_16 : decode cX10_clipOn 16 = .ok (.invokevirtual 126, 3) := by decide +kernel
theorem dX10_clipOn_19 : decode cX10_clipOn 19 = .ok (.iload_n 1, 1) := by decide +kernel
theorem dX10_clipOn_20 : decode cX10_clipOn 20 = .ok (.if_icmp .ne 33, 3) := by decide +kernel
theorem dX10_clipOn_23 : decode cX10_clipOn 23 = .ok (.iload_n 2, 1) := by decide +kernel
theorem dX10_clipOn_24 : decode cX10_clipOn 24 = .ok (.aload_n 0, 1) := by decide +kernel
theorem dX10_clipOn_25 : decode cX10_clipOn 25 = .ok (.iload_n 3, 1) := by decide +kernel
theorem dX10_clipOn_26 : decode cX10_clipOn 26 = .ok (.iconst 1, 1) := by decide +kernel
theorem dX10_clipOn_27 : decode cX10_clipOn 27 = .ok (.invokevirtual 126, 3) := by decide +kernel
theorem dX10_clipOn_30 : decode cX10_clipOn 30 = .ok (.aload_n 0, 1) := by decide +kernel
theorem dX10_clipOn_31 : decode cX10_clipOn 31 = .ok (.iload_n 3, 1) := by decide +kernel
theorem dX10_clipOn_32 : decode cX10_clipOn 32 = .ok (.iconst 1, 1) := by decide +kernel
theorem dX10_clipOn_33 : decode cX10_clipOn 33 = .ok (.invokevirtual 126, 3) := by decide +kernel
theorem dX10_clipOn_36 : decode cX10_clipOn 36 = .ok (.aload_n 0, 1) := by decide +kernel
theorem dX10_clipOn_37 : decode cX10_clipOn 37 = .ok (.iload_n 3, 1) := by decide +kernel
theorem dX10_clipOn_38 : decode cX10_clipOn 38 = .ok (.iconst 4, 1) := by decide +kernel
theorem dX10_clipOn_39 : decode cX10_clipOn 39 = .ok (.invokevirtual 126, 3) := by decide +kernel
theorem dX10_clipOn_42 : decode cX10_clipOn 42 = .ok (.iadd, 1) := by decide +kernel
theorem dX10_clipOn_43 : decode cX10_clipOn 43 = .ok (.iconst 1, 1) := by decide +kernel
theorem dX10_clipOn_44 : decode cX10_clipOn 44 = .ok (.isub, 1) := by decide +kernel
theorem dX10_clipOn_45 : decode cX10_clipOn 45 = .ok (.invokestatic 103, 3) := by decide +kernel
theorem dX10_clipOn_48 : decode cX10_clipOn 48 = .ok (.ifCond .eq 5, 3) := by decide +kernel
theorem dX10_clipOn_51 : decode cX10_clipOn 51 = .ok (.iload_n 3, 1) := by decide +kernel
theorem dX10_clipOn_52 : decode cX10_clipOn 52 = .ok (.ireturn, 1) := by decide +kernel
theorem dX10_clipOn_53 : decode cX10_clipOn 53 = .ok (.iinc 3 1, 3) := by decide +kernel
theorem dX10_clipOn_56 : decode cX10_clipOn 56 = .ok (.goto (-54), 3) := by decide +kernel
theorem dX10_clipOn_59 : decode cX10_clipOn 59 = .ok (.bipush (-6), 2) := by decide +kernel
theorem dX10_clipOn_61 : decode cX10_clipOn 61 = .ok (.ireturn, 1) := by decide +kernel
theorem dX10_clipAt_0 : decode cX10_clipAt 0 = .ok (.iload_n 1, 1) := by decide +kernel
theorem dX10_clipAt_1 : decode cX10_clipAt 1 = .ok (.invokestatic 133, 3) := by decide +kernel
theorem dX10_clipAt_4 : decode cX10_clipAt 4 = .ok (.ifCond .eq 19, 3) := by decide +kernel
theorem dX10_clipAt_7 : decode cX10_clipAt 7 = .ok (.iload_n 2, 1) := by decide +kernel
theorem dX10_clipAt_8 : decode cX10_clipAt 8 = .ok (.invokestatic 175, 3) := by decide +kernel
theorem dX10_clipAt_11 : decode cX10_clipAt 11 = .ok (.ifCond .eq 12, 3) := by decide +kernel
theorem dX10_clipAt_14 : decode cX10_clipAt 14 = .ok (.aload_n 0, 1) := by decide +kernel
theorem dX10_clipAt_15 : decode cX10_clipAt 15 = .ok (.iload_n 1, 1) := by decide +kernel
theorem dX10_clipAt_16 : decode cX10_clipAt 16 = .ok (.iload_n 2, 1) := by decide +kernel
theorem dX10_clipAt_17 : decode cX10_clipAt 17 = .ok (.invokevirtual 178, 3) := by decide +kernel
theorem dX10_clipAt_20 : decode cX10_clipAt 20 = .ok (.goto 4, 3) := by decide +kernel
theorem dX10_clipAt_23 : decode cX10_clipAt 23 = .ok (.iconst (-1), 1) := by decide +kernel
theorem dX10_clipAt_24 : decode cX10_clipAt 24 = .ok (.ireturn, 1) := by decide +kernel
theorem dX10_explain_0 : decode cX10_explain 0 = .ok (.iload_n 1, 1) := by decide +kernel
theorem dX10_explain_1 : decode cX10_explain 1 = .ok (.invokestatic 133, 3) := by decide +kernel
theorem dX10_explain_4 : decode cX10_explain 4 = .ok (.ifCond .eq 10, 3) := by decide +kernel
theorem dX10_explain_7 : decode cX10_explain 7 = .ok (.iload_n 2, 1) := by decide +kernel
theorem dX10_explain_8 : decode cX10_explain 8 = .ok (.invokestatic 175, 3) := by decide +kernel
theorem dX10_explain_11 : decode cX10_explain 11 = .ok (.ifCond .ne 5, 3) := by decide +kernel
theorem dX10_explain_14 : decode cX10_explain 14 = .ok (.iconst (-1), 1) := by decide +kernel
theorem dX10_explain_15 : decode cX10_explain 15 = .ok (.ireturn, 1) := by decide +kernel
theorem dX10_explain_16 : decode cX10_explain 16 = .ok (.aload_n 0, 1) := by decide +kernel
theorem dX10_explain_17 : decode cX10_explain 17 = .ok (.iload_n 1, 1) := by decide +kernel
theorem dX10_explain_18 : decode cX10_explain 18 = .ok (.iload_n 2, 1) := by decide +kernel
theorem dX10_explain_19 : decode cX10_explain 19 = .ok (.invokevirtual 178, 3) := by decide +kernel
theorem dX10_explain_22 : decode cX10_explain 22 = .ok (.istore_n 3, 1) := by decide +kernel
theorem dX10_explain_23 : decode cX10_explain 23 = .ok (.iload_n 3, 1) := by decide +kernel
theorem dX10_explain_24 : decode cX10_explain 24 = .ok (.ifCond .ge 5, 3) := by decide +kernel
theorem dX10_explain_27 : decode cX10_explain 27 = .ok (.iconst 1, 1) := by decide +kernel
theorem dX10_explain_28 : decode cX10_explain 28 = .ok (.ireturn, 1) := by decide +kernel
theorem dX10_explain_29 : decode cX10_explain 29 = .ok (.aload_n 0, 1) := by decide +kernel
theorem dX10_explain_30 : decode cX10_explain 30 = .ok (.iload_n 1, 1) := by decide +kernel
theorem dX10_explain_31 : decode cX10_explain 31 = .ok (.iconst 1, 1) := by decide +kernel
theorem dX10_explain_32 : decode cX10_explain 32 = .ok (.invokevirtual 139, 3) := by decide +kernel
theorem dX10_explain_35 : decode cX10_explain 35 = .ok (.iconst 1, 1) := by decide +kernel
theorem dX10_explain_36 : decode cX10_explain 36 = .ok (.if_icmp .ne 5, 3) := by decide +kernel
theorem dX10_explain_39 : decode cX10_explain 39 = .ok (.iconst 2, 1) := by decide +kernel
theorem dX10_explain_40 : decode cX10_explain 40 = .ok (.ireturn, 1) := by decide +kernel
theorem dX10_explain_41 : decode cX10_explain 41 = .ok (.aload_n 0, 1) := by decide +kernel
theorem dX10_explain_42 : decode cX10_explain 42 = .ok (.iload_n 1, 1) := by decide +kernel
theorem dX10_explain_43 : decode cX10_explain 43 = .ok (.invokevirtual 149, 3) := by decide +kernel
theorem dX10_explain_46 : decode cX10_explain 46 = .ok (.ifCond .ne 5, 3) := by decide +kernel
theorem dX10_explain_49 : decode cX10_explain 49 = .ok (.iconst 3, 1) := by decide +kernel
theorem dX10_explain_50 : decode cX10_explain 50 = .ok (.ireturn, 1) := by decide +kernel
theorem dX10_explain_51 : decode cX10_explain 51 = .ok (.aload_n 0, 1) := by decide +kernel
theorem dX10_explain_52 : decode cX10_explain 52 = .ok (.invokevirtual 152, 3) := by decide +kernel
theorem dX10_explain_55 : decode cX10_explain 55 = .ok (.aload_n 0, 1) := by decide +kernel
theorem dX10_explain_56 : decode cX10_explain 56 = .ok (.getfield 46, 3) := by decide +kernel
theorem dX10_explain_59 : decode cX10_explain 59 = .ok (.sipush 600, 3) := by decide +kernel
theorem dX10_explain_62 : decode cX10_explain 62 = .ok (.iload_n 1, 1) := by decide +kernel
theorem dX10_explain_63 : decode cX10_explain 63 = .ok (.imul, 1) := by decide +kernel
theorem dX10_explain_64 : decode cX10_explain 64 = .ok (.iload_n 2, 1) := by decide +kernel
theorem dX10_explain_65 : decode cX10_explain 65 = .ok (.iadd, 1) := by decide +kernel
theorem dX10_explain_66 : decode cX10_explain 66 = .ok (.baload, 1) := by decide +kernel
theorem dX10_explain_67 : decode cX10_explain 67 = .ok (.ifCond .eq 5, 3) := by decide +kernel
theorem dX10_explain_70 : decode cX10_explain 70 = .ok (.iconst 4, 1) := by decide +kernel
theorem dX10_explain_71 : decode cX10_explain 71 = .ok (.ireturn, 1) := by decide +kernel
theorem dX10_explain_72 : decode cX10_explain 72 = .ok (.iload_n 2, 1) := by decide +kernel
theorem dX10_explain_73 : decode cX10_explain 73 = .ok (.aload_n 0, 1) := by decide +kernel
theorem dX10_explain_74 : decode cX10_explain 74 = .ok (.iload_n 3, 1) := by decide +kernel
theorem dX10_explain_75 : decode cX10_explain 75 = .ok (.iconst 1, 1) := by decide +kernel
theorem dX10_explain_76 : decode cX10_explain 76 = .ok (.invokevirtual 126, 3) := by decide +kernel
theorem dX10_explain_79 : decode cX10_explain 79 = .ok (.isub, 1) := by decide +kernel
theorem dX10_explain_80 : decode cX10_explain 80 = .ok (.istore 4, 2) := by decide +kernel
theorem dX10_explain_82 : decode cX10_explain 82 = .ok (.iload 4, 2) := by decide +kernel
theorem dX10_explain_84 : decode cX10_explain 84 = .ok (.aload_n 0, 1) := by decide +kernel
theorem dX10_explain_85 : decode cX10_explain 85 = .ok (.iload_n 3, 1) := by decide +kernel
theorem dX10_explain_86 : decode cX10_explain 86 = .ok (.bipush 6, 2) := by decide +kernel
theorem dX10_explain_88 : decode cX10_explain 88 = .ok (.invokevirtual 126, 3) := by decide +kernel
theorem dX10_explain_91 : decode cX10_explain 91 = .ok (.if_icmp .lt 22, 3) := by decide +kernel
theorem dX10_explain_94 : decode cX10_explain 94 = .ok (.aload_n 0, 1) := by decide +kernel
theorem dX10_explain_95 : decode cX10_explain 95 = .ok (.iload_n 3, 1) := by decide +kernel
theorem dX10_explain_96 : decode cX10_explain 96 = .ok (.iconst 4, 1) := by decide +kernel
theorem dX10_explain_97 : decode cX10_explain 97 = .ok (.invokevirtual 126, 3) := by decide +kernel
theorem dX10_explain_100 : decode cX10_explain 100 = .ok (.iload 4, 2) := by decide +kernel
theorem dX10_explain_102 : decode cX10_explain 102 = .ok (.isub, 1) := by decide +kernel
theorem dX10_explain_103 : decode cX10_explain 103 = .ok (.aload_n 0, 1) := by decide +kernel
theorem dX10_explain_104 : decode cX10_explain 104 = .ok (.iload_n 3, 1) := by decide +kernel
theorem dX10_explain_105 : decode cX10_explain 105 = .ok (.bipush 7, 2) := by decide +kernel
theorem dX10_explain_107 : decode cX10_explain 107 = .ok (.invokevirtual 126, 3) := by decide +kernel
theorem dX10_explain_110 : decode cX10_explain 110 = .ok (.if_icmp .gt 7, 3) := by decide +kernel
theorem dX10_explain_113 : decode cX10_explain 113 = .ok (.iconst 5, 1) := by decide +kernel
theorem dX10_explain_114 : decode cX10_explain 114 = .ok (.goto 4, 3) := by decide +kernel
theorem dX10_explain_117 : decode cX10_explain 117 = .ok (.iconst 0, 1) := by decide +kernel
theorem dX10_explain_118 : decode cX10_explain 118 = .ok (.ireturn, 1) := by decide +kernel
theorem dX10_trim_0 : decode cX10_trim 0 = .ok (.aload_n 0, 1) := by decide +kernel
theorem dX10_trim_1 : decode cX10_trim 1 = .ok (.iload_n 1, 1) := by decide +kernel
theorem dX10_trim_2 : decode cX10_trim 2 = .ok (.invokevirtual 165, 3) := by decide +kernel
theorem dX10_trim_5 : decode cX10_trim 5 = .ok (.ifCond .ne 5, 3) := by decide +kernel
theorem dX10_trim_8 : decode cX10_trim 8 = .ok (.iconst (-1), 1) := by decide +kernel
theorem dX10_trim_9 : decode cX10_trim 9 = .ok (.ireturn, 1) := by decide +kernel
theorem dX10_trim_10 : decode cX10_trim 10 = .ok (.iload_n 2, 1) := by decide +kernel
theorem dX10_trim_11 : decode cX10_trim 11 = .ok (.iconst 0, 1) := by decide +kernel
theorem dX10_trim_12 : decode cX10_trim 12 = .ok (.iconst 1, 1) := by decide +kernel
theorem dX10_trim_13 : decode cX10_trim 13 = .ok (.invokestatic 103, 3) := by decide +kernel
theorem dX10_trim_16 : decode cX10_trim 16 = .ok (.ifCond .eq 16, 3) := by decide +kernel
theorem dX10_trim_19 : decode cX10_trim 19 = .ok (.iload_n 3, 1) := by decide +kernel
theorem dX10_trim_20 : decode cX10_trim 20 = .ok (.sipush (-600), 3) := by decide +kernel
theorem dX10_trim_23 : decode cX10_trim 23 = .ok (.sipush 600, 3) := by decide +kernel
theorem dX10_trim_26 : decode cX10_trim 26 = .ok (.invokestatic 103, 3) := by decide +kernel
theorem dX10_trim_29 : decode cX10_trim 29 = .ok (.ifCond .ne 6, 3) := by decide +kernel
theorem dX10_trim_32 : decode cX10_trim 32 = .ok (.bipush (-2), 2) := by decide +kernel
theorem dX10_trim_34 : decode cX10_trim 34 = .ok (.ireturn, 1) := by decide +kernel
theorem dX10_trim_35 : decode cX10_trim 35 = .ok (.aload_n 0, 1) := by decide +kernel
theorem dX10_trim_36 : decode cX10_trim 36 = .ok (.iload_n 1, 1) := by decide +kernel
theorem dX10_trim_37 : decode cX10_trim 37 = .ok (.invokevirtual 168, 3) := by decide +kernel
theorem dX10_trim_40 : decode cX10_trim 40 = .ok (.aload_n 0, 1) := by decide +kernel
theorem dX10_trim_41 : decode cX10_trim 41 = .ok (.getfield 50, 3) := by decide +kernel
theorem dX10_trim_44 : decode cX10_trim 44 = .ok (.iconst 1, 1) := by decide +kernel
theorem dX10_trim_45 : decode cX10_trim 45 = .ok (.dup2, 1) := by decide +kernel
theorem dX10_trim_46 : decode cX10_trim 46 = .ok (.iaload, 1) := by decide +kernel
theorem dX10_trim_47 : decode cX10_trim 47 = .ok (.iload_n 2, 1) := by decide +kernel
theorem dX10_trim_48 : decode cX10_trim 48 = .ok (.ifCond .ne 7, 3) := by decide +kernel
theorem dX10_trim_51 : decode cX10_trim 51 = .ok (.iload_n 3, 1) := by decide +kernel
theorem dX10_trim_52 : decode cX10_trim 52 = .ok (.goto 4, 3) := by decide +kernel
theorem dX10_trim_55 : decode cX10_trim 55 = .ok (.iconst 0, 1) := by decide +kernel
theorem dX10_trim_56 : decode cX10_trim 56 = .ok (.iadd, 1) := by decide +kernel
theorem dX10_trim_57 : decode cX10_trim 57 = .ok (.iastore, 1) := by decide +kernel
theorem dX10_trim_58 : decode cX10_trim 58 = .ok (.aload_n 0, 1) := by decide +kernel
theorem dX10_trim_59 : decode cX10_trim 59 = .ok (.getfield 50, 3) := by decide +kernel
theorem dX10_trim_62 : decode cX10_trim 62 = .ok (.iconst 3, 1) := by decide +kernel
theorem dX10_trim_63 : decode cX10_trim 63 = .ok (.dup2, 1) := by decide +kernel
theorem dX10_trim_64 : decode cX10_trim 64 = .ok (.iaload, 1) := by decide +kernel
theorem dX10_trim_65 : decode cX10_trim 65 = .ok (.iload_n 2, 1) := by decide +kernel
theorem dX10_trim_66 : decode cX10_trim 66 = .ok (.ifCond .ne 7, 3) := by decide +kernel
theorem dX10_trim_69 : decode cX10_trim 69 = .ok (.iload_n 3, 1) := by decide +kernel
theorem dX10_trim_70 : decode cX10_trim 70 = .ok (.goto 4, 3) := by decide +kernel
theorem dX10_trim_73 : decode cX10_trim 73 = .ok (.iconst 0, 1) := by decide +kernel
theorem dX10_trim_74 : decode cX10_trim 74 = .ok (.iadd, 1) := by decide +kernel
theorem dX10_trim_75 : decode cX10_trim 75 = .ok (.iastore, 1) := by decide +kernel
theorem dX10_trim_76 : decode cX10_trim 76 = .ok (.aload_n 0, 1) := by decide +kernel
theorem dX10_trim_77 : decode cX10_trim 77 = .ok (.getfield 50, 3) := by decide +kernel
theorem dX10_trim_80 : decode cX10_trim 80 = .ok (.iconst 4, 1) := by decide +kernel
theorem dX10_trim_81 : decode cX10_trim 81 = .ok (.dup2, 1) := by decide +kernel
theorem dX10_trim_82 : decode cX10_trim 82 = .ok (.iaload, 1) := by decide +kernel
theorem dX10_trim_83 : decode cX10_trim 83 = .ok (.iload_n 3, 1) := by decide +kernel
theorem dX10_trim_84 : decode cX10_trim 84 = .ok (.isub, 1) := by decide +kernel
theorem dX10_trim_85 : decode cX10_trim 85 = .ok (.iastore, 1) := by decide +kernel
theorem dX10_trim_86 : decode cX10_trim 86 = .ok (.aload_n 0, 1) := by decide +kernel
theorem dX10_trim_87 : decode cX10_trim 87 = .ok (.getfield 50, 3) := by decide +kernel
theorem dX10_trim_90 : decode cX10_trim 90 = .ok (.iconst 4, 1) := by decide +kernel
theorem dX10_trim_91 : decode cX10_trim 91 = .ok (.iaload, 1) := by decide +kernel
theorem dX10_trim_92 : decode cX10_trim 92 = .ok (.ifCond .le 35, 3) := by decide +kernel
theorem dX10_trim_95 : decode cX10_trim 95 = .ok (.aload_n 0, 1) := by decide +kernel
theorem dX10_trim_96 : decode cX10_trim 96 = .ok (.getfield 50, 3) := by decide +kernel
theorem dX10_trim_99 : decode cX10_trim 99 = .ok (.iconst 1, 1) := by decide +kernel
theorem dX10_trim_100 : decode cX10_trim 100 = .ok (.iaload, 1) := by decide +kernel
theorem dX10_trim_101 : decode cX10_trim 101 = .ok (.ifCond .lt 26, 3) := by decide +kernel
theorem dX10_trim_104 : decode cX10_trim 104 = .ok (.aload_n 0, 1) := by decide +kernel
theorem dX10_trim_105 : decode cX10_trim 105 = .ok (.getfield 50, 3) := by decide +kernel
theorem dX10_trim_108 : decode cX10_trim 108 = .ok (.iconst 1, 1) := by decide +kernel
theorem dX10_trim_109 : decode cX10_trim 109 = .ok (.iaload, 1) := by decide +kernel
theorem dX10_trim_110 : decode cX10_trim 110 = .ok (.aload_n 0, 1) := by decide +kernel
theorem dX10_trim_111 : decode cX10_trim 111 = .ok (.getfield 50, 3) := by decide +kernel
theorem dX10_trim_114 : decode cX10_trim 114 = .ok (.iconst 4, 1) := by decide +kernel
theorem dX10_trim_115 : decode cX10_trim 115 = .ok (.iaload, 1) := by decide +kernel
theorem dX10_trim_116 : decode cX10_trim 116 = .ok (.iadd, 1) := by decide +kernel
theorem dX10_trim_117 : decode cX10_trim 117 = .ok (.sipush 600, 3) := by decide +kernel
theorem dX10_trim_120 : decode cX10_trim 120 = .ok (.if_icmp .gt 7, 3) := by decide +kernel
theorem dX10_trim_123 : decode cX10_trim 123 = .ok (.iconst 1, 1) := by decide +kernel
theorem dX10_trim_124 : decode cX10_trim 124 = .ok (.goto 4, 3) := by decide +kernel
theorem dX10_trim_127 : decode cX10_trim 127 = .ok (.iconst 0, 1) := by decide +kernel
theorem dX10_trim_128 : decode cX10_trim 128 = .ok (.istore 4, 2) := by decide +kernel
theorem dX10_trim_130 : decode cX10_trim 130 = .ok (.iload 4, 2) := by decide +kernel
theorem dX10_trim_132 : decode cX10_trim 132 = .ok (.ifCond .eq 39, 3) := by decide +kernel
theorem dX10_trim_135 : decode cX10_trim 135 = .ok (.aload_n 0, 1) := by decide +kernel
theorem dX10_trim_136 : decode cX10_trim 136 = .ok (.getfield 50, 3) := by decide +kernel
theorem dX10_trim_139 : decode cX10_trim 139 = .ok (.iconst 3, 1) := by decide +kernel
theorem dX10_trim_140 : decode cX10_trim 140 = .ok (.iaload, 1) := by decide +kernel
theorem dX10_trim_141 : decode cX10_trim 141 = .ok (.ifCond .lt 30, 3) := by decide +kernel
theorem dX10_trim_144 : decode cX10_trim 144 = .ok (.aload_n 0, 1) := by decide +kernel
theorem dX10_trim_145 : decode cX10_trim 145 = .ok (.getfield 50, 3) := by decide +kernel
theorem dX10_trim_148 : decode cX10_trim 148 = .ok (.iconst 3, 1) := by decide +kernel
theorem dX10_trim_149 : decode cX10_trim 149 = .ok (.iaload, 1) := by decide +kernel
theorem dX10_trim_150 : decode cX10_trim 150 = .ok (.aload_n 0, 1) := by decide +kernel
theorem dX10_trim_151 : decode cX10_trim 151 = .ok (.getfield 50, 3) := by decide +kernel
theorem dX10_trim_154 : decode cX10_trim 154 = .ok (.iconst 4, 1) := by decide +kernel
theorem dX10_trim_155 : decode cX10_trim 155 = .ok (.iaload, 1) := by decide +kernel
theorem dX10_trim_156 : decode cX10_trim 156 = .ok (.iadd, 1) := by decide +kernel
theorem dX10_trim_157 : decode cX10_trim 157 = .ok (.aload_n 0, 1) := by decide +kernel
theorem dX10_trim_158 : decode cX10_trim 158 = .ok (.aload_n 0, 1) := by decide +kernel
theorem dX10_trim_159 : decode cX10_trim 159 = .ok (.getfield 50, 3) := by decide +kernel
theorem dX10_trim_162 : decode cX10_trim 162 = .ok (.iconst 2, 1) := by decide +kernel
theorem dX10_trim_163 : decode cX10_trim 163 = .ok (.iaload, 1) := by decide +kernel
theorem dX10_trim_164 : decode cX10_trim 164 = .ok (.iconst 1, 1) := by decide +kernel
theorem dX10_trim_165 : decode cX10_trim 165 = .ok (.invokevirtual 114, 3) := by decide +kernel
theorem dX10_trim_168 : decode cX10_trim 168 = .ok (.if_icmp .le 6, 3) := by decide +kernel
theorem dX10_trim_171 : decode cX10_trim 171 = .ok (.bipush (-2), 2) := by decide +kernel
theorem dX10_trim_173 : decode cX10_trim 173 = .ok (.ireturn, 1) := by decide +kernel
theorem dX10_trim_174 : decode cX10_trim 174 = .ok (.aload_n 0, 1) := by decide +kernel
theorem dX10_trim_175 : decode cX10_trim 175 = .ok (.iload_n 1, 1) := by decide +kernel
theorem dX10_trim_176 : decode cX10_trim 176 = .ok (.invokevirtual 159, 3) := by decide +kernel
theorem dX10_trim_179 : decode cX10_trim 179 = .ok (.ifCond .eq 6, 3) := by decide +kernel
theorem dX10_trim_182 : decode cX10_trim 182 = .ok (.bipush (-4), 2) := by decide +kernel
theorem dX10_trim_184 : decode cX10_trim 184 = .ok (.ireturn, 1) := by decide +kernel
theorem dX10_trim_185 : decode cX10_trim 185 = .ok (.aload_n 0, 1) := by decide +kernel
theorem dX10_trim_186 : decode cX10_trim 186 = .ok (.invokevirtual 107, 3) := by decide +kernel
theorem dX10_trim_189 : decode cX10_trim 189 = .ok (.aload_n 0, 1) := by decide +kernel
theorem dX10_trim_190 : decode cX10_trim 190 = .ok (.invokevirtual 181, 3) := by decide +kernel
theorem dX10_trim_193 : decode cX10_trim 193 = .ok (.aload_n 0, 1) := by decide +kernel
theorem dX10_trim_194 : decode cX10_trim 194 = .ok (.getfield 50, 3) := by decide +kernel
theorem dX10_trim_197 : decode cX10_trim 197 = .ok (.iconst 4, 1) := by decide +kernel
theorem dX10_trim_198 : decode cX10_trim 198 = .ok (.iaload, 1) := by decide +kernel
theorem dX10_trim_199 : decode cX10_trim 199 = .ok (.istore 5, 2) := by decide +kernel
theorem dX10_trim_201 : decode cX10_trim 201 = .ok (.aload_n 0, 1) := by decide +kernel
theorem dX10_trim_202 : decode cX10_trim 202 = .ok (.iload_n 1, 1) := by decide +kernel
theorem dX10_trim_203 : decode cX10_trim 203 = .ok (.invokevirtual 172, 3) := by decide +kernel
theorem dX10_trim_206 : decode cX10_trim 206 = .ok (.aload_n 0, 1) := by decide +kernel
theorem dX10_trim_207 : decode cX10_trim 207 = .ok (.invokevirtual 162, 3) := by decide +kernel
theorem dX10_trim_210 : decode cX10_trim 210 = .ok (.istore 6, 2) := by decide +kernel
theorem dX10_trim_212 : decode cX10_trim 212 = .ok (.aload_n 0, 1) := by decide +kernel
theorem dX10_trim_213 : decode cX10_trim 213 = .ok (.iload 5, 2) := by decide +kernel
theorem dX10_trim_215 : decode cX10_trim 215 = .ok (.invokevirtual 110, 3) := by decide +kernel
theorem dX10_trim_218 : decode cX10_trim 218 = .ok (.ireturn, 1) := by decide +kernel
theorem dX10_divides_0 : decode cX10_divides 0 = .ok (.aload_n 0, 1) := by decide +kernel
theorem dX10_divides_1 : decode cX10_divides 1 = .ok (.iload_n 1, 1) := by decide +kernel
theorem dX10_divides_2 : decode cX10_divides 2 = .ok (.invokevirtual 168, 3) := by decide +kernel
theorem dX10_divides_5 : decode cX10_divides 5 = .ok (.aload_n 0, 1) := by decide +kernel
theorem dX10_divides_6 : decode cX10_divides 6 = .ok (.getfield 50, 3) := by decide +kernel
theorem dX10_divides_9 : decode cX10_divides 9 = .ok (.iconst 4, 1) := by decide +kernel
theorem dX10_divides_10 : decode cX10_divides 10 = .ok (.iaload, 1) := by decide +kernel
theorem dX10_divides_11 : decode cX10_divides 11 = .ok (.istore_n 3, 1) := by decide +kernel
theorem dX10_divides_12 : decode cX10_divides 12 = .ok (.aload_n 0, 1) := by decide +kernel
theorem dX10_divides_13 : decode cX10_divides 13 = .ok (.getfield 50, 3) := by decide +kernel
theorem dX10_divides_16 : decode cX10_divides 16 = .ok (.bipush 7, 2) := by decide +kernel
theorem dX10_divides_18 : decode cX10_divides 18 = .ok (.iaload, 1) := by decide +kernel
theorem dX10_divides_19 : decode cX10_divides 19 = .ok (.istore 4, 2) := by decide +kernel
theorem dX10_divides_21 : decode cX10_divides 21 = .ok (.aload_n 0, 1) := by decide +kernel
theorem dX10_divides_22 : decode cX10_divides 22 = .ok (.getfield 50, 3) := by decide +kernel
theorem dX10_divides_25 : decode cX10_divides 25 = .ok (.iconst 4, 1) := by decide +kernel
theorem dX10_divides_26 : decode cX10_divides 26 = .ok (.iload_n 2, 1) := by decide +kernel
theorem dX10_divides_27 : decode cX10_divides 27 = .ok (.iastore, 1) := by decide +kernel
theorem dX10_divides_28 : decode cX10_divides 28 = .ok (.aload_n 0, 1) := by decide +kernel
theorem dX10_divides_29 : decode cX10_divides 29 = .ok (.getfield 50, 3) := by decide +kernel
theorem dX10_divides_32 : decode cX10_divides 32 = .ok (.bipush 7, 2) := by decide +kernel
theorem dX10_divides_34 : decode cX10_divides 34 = .ok (.iconst 0, 1) := by decide +kernel
theorem dX10_divides_35 : decode cX10_divides 35 = .ok (.iastore, 1) := by decide +kernel
theorem dX10_divides_36 : decode cX10_divides 36 = .ok (.aload_n 0, 1) := by decide +kernel
theorem dX10_divides_37 : decode cX10_divides 37 = .ok (.invokevirtual 181, 3) := by decide +kernel
theorem dX10_divides_40 : decode cX10_divides 40 = .ok (.iconst 0, 1) := by decide +kernel
theorem dX10_divides_41 : decode cX10_divides 41 = .ok (.istore 5, 2) := by decide +kernel
theorem dX10_divides_43 : decode cX10_divides 43 = .ok (.iload 5, 2) := by decide +kernel
theorem dX10_divides_45 : decode cX10_divides 45 = .ok (.bipush 8, 2) := by decide +kernel
theorem dX10_divides_47 : decode cX10_divides 47 = .ok (.if_icmp .ge 31, 3) := by decide +kernel
theorem dX10_divides_50 : decode cX10_divides 50 = .ok (.aload_n 0, 1) := by decide +kernel
theorem dX10_divides_51 : decode cX10_divides 51 = .ok (.getfield 9, 3) := by decide +kernel
theorem dX10_divides_54 : decode cX10_divides 54 = .ok (.bipush 26, 2) := by decide +kernel
theorem dX10_divides_56 : decode cX10_divides 56 = .ok (.bipush 8, 2) := by decide +kernel
theorem dX10_divides_58 : decode cX10_divides 58 = .ok (.iload_n 1, 1) := by decide +kernel
theorem dX10_divides_59 : decode cX10_divides 59 = .ok (.imul, 1) := by decide +kernel
theorem dX10_divides_60 : decode cX10_divides 60 = .ok (.iadd, 1) := by decide +kernel
theorem dX10_divides_61 : decode cX10_divides 61 = .ok (.iload 5, 2) := by decide +kernel
theorem dX10_divides_63 : decode cX10_divides 63 = .ok (.iadd, 1) := by decide +kernel
theorem dX10_divides_64 : decode cX10_divides 64 = .ok (.aload_n 0, 1) := by decide +kernel
theorem dX10_divides_65 : decode cX10_divides 65 = .ok (.getfield 50, 3) := by decide +kernel
theorem dX10_divides_68 : decode cX10_divides 68 = .ok (.iload 5, 2) := by decide +kernel
theorem dX10_divides_70 : decode cX10_divides 70 = .ok (.iaload, 1) := by decide +kernel
theorem dX10_divides_71 : decode cX10_divides 71 = .ok (.iastore, 1) := by decide +kernel
theorem dX10_divides_72 : decode cX10_divides 72 = .ok (.iinc 5 1, 3) := by decide +kernel
theorem dX10_divides_75 : decode cX10_divides 75 = .ok (.goto (-32), 3) := by decide +kernel
theorem dX10_divides_78 : decode cX10_divides 78 = .ok (.aload_n 0, 1) := by decide +kernel
theorem dX10_divides_79 : decode cX10_divides 79 = .ok (.getfield 50, 3) := by decide +kernel
theorem dX10_divides_82 : decode cX10_divides 82 = .ok (.iconst 1, 1) := by decide +kernel
theorem dX10_divides_83 : decode cX10_divides 83 = .ok (.dup2, 1) := by decide +kernel
theorem dX10_divides_84 : decode cX10_divides 84 = .ok (.iaload, 1) := by decide +kernel
theorem dX10_divides_85 : decode cX10_divides 85 = .ok (.iload_n 2, 1) := by decide +kernel
theorem dX10_divides_86 : decode cX10_divides 86 = .ok (.iadd, 1) := by decide +kernel
theorem dX10_divides_87 : decode cX10_divides 87 = .ok (.iastore, 1) := by decide +kernel
theorem dX10_divides_88 : decode cX10_divides 88 = .ok (.aload_n 0, 1) := by decide +kernel
theorem dX10_divides_89 : decode cX10_divides 89 = .ok (.getfield 50, 3) := by decide +kernel
theorem dX10_divides_92 : decode cX10_divides 92 = .ok (.iconst 3, 1) := by decide +kernel
theorem dX10_divides_93 : decode cX10_divides 93 = .ok (.dup2, 1) := by decide +kernel
theorem dX10_divides_94 : decode cX10_divides 94 = .ok (.iaload, 1) := by decide +kernel
theorem dX10_divides_95 : decode cX10_divides 95 = .ok (.iload_n 2, 1) := by decide +kernel
theorem dX10_divides_96 : decode cX10_divides 96 = .ok (.iadd, 1) := by decide +kernel
theorem dX10_divides_97 : decode cX10_divides 97 = .ok (.iastore, 1) := by decide +kernel
theorem dX10_divides_98 : decode cX10_divides 98 = .ok (.aload_n 0, 1) := by decide +kernel
theorem dX10_divides_99 : decode cX10_divides 99 = .ok (.getfield 50, 3) := by decide +kernel
theorem dX10_divides_102 : decode cX10_divides 102 = .ok (.iconst 4, 1) := by decide +kernel
theorem dX10_divides_103 : decode cX10_divides 103 = .ok (.iload_n 3, 1) := by decide +kernel
theorem dX10_divides_104 : decode cX10_divides 104 = .ok (.iload_n 2, 1) := by decide +kernel
theorem dX10_divides_105 : decode cX10_divides 105 = .ok (.isub, 1) := by decide +kernel
theorem dX10_divides_106 : decode cX10_divides 106 = .ok (.iastore, 1) := by decide +kernel
theorem dX10_divides_107 : decode cX10_divides 107 = .ok (.aload_n 0, 1) := by decide +kernel
theorem dX10_divides_108 : decode cX10_divides 108 = .ok (.getfield 50, 3) := by decide +kernel
theorem dX10_divides_111 : decode cX10_divides 111 = .ok (.bipush 6, 2) := by decide +kernel
theorem dX10_divides_113 : decode cX10_divides 113 = .ok (.iconst 0, 1) := by decide +kernel
theorem dX10_divides_114 : decode cX10_divides 114 = .ok (.iastore, 1) := by decide +kernel
theorem dX10_divides_115 : decode cX10_divides 115 = .ok (.aload_n 0, 1) := by decide +kernel
theorem dX10_divides_116 : decode cX10_divides 116 = .ok (.getfield 50, 3) := by decide +kernel
theorem dX10_divides_119 : decode cX10_divides 119 = .ok (.bipush 7, 2) := by decide +kernel
theorem dX10_divides_121 : decode cX10_divides 121 = .ok (.iload 4, 2) := by decide +kernel
theorem dX10_divides_123 : decode cX10_divides 123 = .ok (.iastore, 1) := by decide +kernel
theorem dX10_divides_124 : decode cX10_divides 124 = .ok (.aload_n 0, 1) := by decide +kernel
theorem dX10_divides_125 : decode cX10_divides 125 = .ok (.invokevirtual 181, 3) := by decide +kernel
theorem dX10_divides_128 : decode cX10_divides 128 = .ok (.aload_n 0, 1) := by decide +kernel
theorem dX10_divides_129 : decode cX10_divides 129 = .ok (.invokevirtual 162, 3) := by decide +kernel
theorem dX10_divides_132 : decode cX10_divides 132 = .ok (.ireturn, 1) := by decide +kernel
theorem dX10_divide_0 : decode cX10_divide 0 = .ok (.aload_n 0, 1) := by decide +kernel
theorem dX10_divide_1 : decode cX10_divide 1 = .ok (.iload_n 1, 1) := by decide +kernel
theorem dX10_divide_2 : decode cX10_divide 2 = .ok (.invokevirtual 165, 3) := by decide +kernel
theorem dX10_divide_5 : decode cX10_divide 5 = .ok (.ifCond .ne 5, 3) := by decide +kernel
theorem dX10_divide_8 : decode cX10_divide 8 = .ok (.iconst (-1), 1) := by decide +kernel
theorem dX10_divide_9 : decode cX10_divide 9 = .ok (.ireturn, 1) := by decide +kernel
theorem dX10_divide_10 : decode cX10_divide 10 = .ok (.iload_n 2, 1) := by decide +kernel
theorem dX10_divide_11 : decode cX10_divide 11 = .ok (.iconst 1, 1) := by decide +kernel
theorem dX10_divide_12 : decode cX10_divide 12 = .ok (.aload_n 0, 1) := by decide +kernel
theorem dX10_divide_13 : decode cX10_divide 13 = .ok (.iload_n 1, 1) := by decide +kernel
theorem dX10_divide_14 : decode cX10_divide 14 = .ok (.iconst 4, 1) := by decide +kernel
theorem dX10_divide_15 : decode cX10_divide 15 = .ok (.invokevirtual 126, 3) := by decide +kernel
theorem dX10_divide_18 : decode cX10_divide 18 = .ok (.iconst 1, 1) := by decide +kernel
theorem dX10_divide_19 : decode cX10_divide 19 = .ok (.isub, 1) := by decide +kernel
theorem dX10_divide_20 : decode cX10_divide 20 = .ok (.invokestatic 103, 3) := by decide +kernel
theorem dX10_divide_23 : decode cX10_divide 23 = .ok (.ifCond .ne 6, 3) := by decide +kernel
theorem dX10_divide_26 : decode cX10_divide 26 = .ok (.bipush (-2), 2) := by decide +kernel
theorem dX10_divide_28 : decode cX10_divide 28 = .ok (.ireturn, 1) := by decide +kernel
theorem dX10_divide_29 : decode cX10_divide 29 = .ok (.aload_n 0, 1) := by decide +kernel
theorem dX10_divide_30 : decode cX10_divide 30 = .ok (.getfield 9, 3) := by decide +kernel
theorem dX10_divide_33 : decode cX10_divide 33 = .ok (.bipush 25, 2) := by decide +kernel
theorem dX10_divide_35 : decode cX10_divide 35 = .ok (.iaload, 1) := by decide +kernel
theorem dX10_divide_36 : decode cX10_divide 36 = .ok (.bipush 24, 2) := by decide +kernel
theorem dX10_divide_38 : decode cX10_divide 38 = .ok (.if_icmp .ne 6, 3) := by decide +kernel
theorem dX10_divide_41 : decode cX10_divide 41 = .ok (.bipush (-3), 2) := by decide +kernel
theorem dX10_divide_43 : decode cX10_divide 43 = .ok (.ireturn, 1) := by decide +kernel
theorem dX10_divide_44 : decode cX10_divide 44 = .ok (.aload_n 0, 1) := by decide +kernel
theorem dX10_divide_45 : decode cX10_divide 45 = .ok (.invokevirtual 107, 3) := by decide +kernel
theorem dX10_divide_48 : decode cX10_divide 48 = .ok (.aload_n 0, 1) := by decide +kernel
theorem dX10_divide_49 : decode cX10_divide 49 = .ok (.aload_n 0, 1) := by decide +kernel
theorem dX10_divide_50 : decode cX10_divide 50 = .ok (.iload_n 1, 1) := by decide +kernel
theorem dX10_divide_51 : decode cX10_divide 51 = .ok (.iload_n 2, 1) := by decide +kernel
theorem dX10_divide_52 : decode cX10_divide 52 = .ok (.invokevirtual 184, 3) := by decide +kernel
theorem dX10_divide_55 : decode cX10_divide 55 = .ok (.invokevirtual 110, 3) := by decide +kernel
theorem dX10_divide_58 : decode cX10_divide 58 = .ok (.ireturn, 1) := by decide +kernel
theorem dX10_remove_0 : decode cX10_remove 0 = .ok (.aload_n 0, 1) := by decide +kernel
theorem dX10_remove_1 : decode cX10_remove 1 = .ok (.iload_n 1, 1) := by decide +kernel
theorem dX10_remove_2 : decode cX10_remove 2 = .ok (.invokevirtual 165, 3) := by decide +kernel
theorem dX10_remove_5 : decode cX10_remove 5 = .ok (.ifCond .ne 5, 3) := by decide +kernel
theorem dX10_remove_8 : decode cX10_remove 8 = .ok (.iconst (-1), 1) := by decide +kernel
theorem dX10_remove_9 : decode cX10_remove 9 = .ok (.ireturn, 1) := by decide +kernel
theorem dX10_remove_10 : decode cX10_remove 10 = .ok (.aload_n 0, 1) := by decide +kernel
theorem dX10_remove_11 : decode cX10_remove 11 = .ok (.invokevirtual 107, 3) := by decide +kernel
theorem dX10_remove_14 : decode cX10_remove 14 = .ok (.aload_n 0, 1) := by decide +kernel
theorem dX10_remove_15 : decode cX10_remove 15 = .ok (.iload_n 1, 1) := by decide +kernel
theorem dX10_remove_16 : decode cX10_remove 16 = .ok (.invokevirtual 172, 3) := by decide +kernel
theorem dX10_remove_19 : decode cX10_remove 19 = .ok (.aload_n 0, 1) := by decide +kernel
theorem dX10_remove_20 : decode cX10_remove 20 = .ok (.aload_n 0, 1) := by decide +kernel
theorem dX10_remove_21 : decode cX10_remove 21 = .ok (.getfield 9, 3) := by decide +kernel
theorem dX10_remove_24 : decode cX10_remove 24 = .ok (.bipush 25, 2) := by decide +kernel
theorem dX10_remove_26 : decode cX10_remove 26 = .ok (.iaload, 1) := by decide +kernel
theorem dX10_remove_27 : decode cX10_remove 27 = .ok (.invokevirtual 110, 3) := by decide +kernel
theorem dX10_remove_30 : decode cX10_remove 30 = .ok (.ireturn, 1) := by decide +kernel
theorem dX10_room_0 : decode cX10_room 0 = .ok (.iload_n 1, 1) := by decide +kernel
theorem dX10_room_1 : decode cX10_room 1 = .ok (.invokestatic 133, 3) := by decide +kernel
theorem dX10_room_4 : decode cX10_room 4 = .ok (.ifCond .ne 5, 3) := by decide +kernel
theorem dX10_room_7 : decode cX10_room 7 = .ok (.iconst (-1), 1) := by decide +kernel
theorem dX10_room_8 : decode cX10_room 8 = .ok (.ireturn, 1) := by decide +kernel
theorem dX10_room_9 : decode cX10_room 9 = .ok (.iload_n 2, 1) := by decide +kernel
theorem dX10_room_10 : decode cX10_room 10 = .ok (.iconst 0, 1) := by decide +kernel
theorem dX10_room_11 : decode cX10_room 11 = .ok (.sipush 599, 3) := by decide +kernel
theorem dX10_room_14 : decode cX10_room 14 = .ok (.invokestatic 103, 3) := by decide +kernel
theorem dX10_room_17 : decode cX10_room 17 = .ok (.ifCond .eq 14, 3) := by decide +kernel
theorem dX10_room_20 : decode cX10_room 20 = .ok (.iload_n 3, 1) := by decide +kernel
theorem dX10_room_21 : decode cX10_room 21 = .ok (.iconst 1, 1) := by decide +kernel
theorem dX10_room_22 : decode cX10_room 22 = .ok (.sipush 600, 3) := by decide +kernel
theorem dX10_room_25 : decode cX10_room 25 = .ok (.invokestatic 103, 3) := by decide +kernel
theorem dX10_room_28 : decode cX10_room 28 = .ok (.ifCond .ne 6, 3) := by decide +kernel
theorem dX10_room_31 : decode cX10_room 31 = .ok (.bipush (-2), 2) := by decide +kernel
theorem dX10_room_33 : decode cX10_room 33 = .ok (.ireturn, 1) := by decide +kernel
theorem dX10_room_34 : decode cX10_room 34 = .ok (.aload_n 0, 1) := by decide +kernel
theorem dX10_room_35 : decode cX10_room 35 = .ok (.getfield 50, 3) := by decide +kernel
theorem dX10_room_38 : decode cX10_room 38 = .ok (.iconst 0, 1) := by decide +kernel
theorem dX10_room_39 : decode cX10_room 39 = .ok (.iload_n 1, 1) := by decide +kernel
theorem dX10_room_40 : decode cX10_room 40 = .ok (.iastore, 1) := by decide +kernel
theorem dX10_room_41 : decode cX10_room 41 = .ok (.aload_n 0, 1) := by decide +kernel
theorem dX10_room_42 : decode cX10_room 42 = .ok (.getfield 50, 3) := by decide +kernel
theorem dX10_room_45 : decode cX10_room 45 = .ok (.iconst 4, 1) := by decide +kernel
theorem dX10_room_46 : decode cX10_room 46 = .ok (.iload_n 3, 1) := by decide +kernel
theorem dX10_room_47 : decode cX10_room 47 = .ok (.iastore, 1) := by decide +kernel
theorem dX10_room_48 : decode cX10_room 48 = .ok (.iload_n 2, 1) := by decide +kernel
theorem dX10_room_49 : decode cX10_room 49 = .ok (.istore 4, 2) := by decide +kernel
theorem dX10_room_51 : decode cX10_room 51 = .ok (.iload 4, 2) := by decide +kernel
theorem dX10_room_53 : decode cX10_room 53 = .ok (.iload_n 3, 1) := by decide +kernel
theorem dX10_room_54 : decode cX10_room 54 = .ok (.iadd, 1) := by decide +kernel
theorem dX10_room_55 : decode cX10_room 55 = .ok (.sipush 600, 3) := by decide +kernel
theorem dX10_room_58 : decode cX10_room 58 = .ok (.if_icmp .gt 28, 3) := by decide +kernel
theorem dX10_room_61 : decode cX10_room 61 = .ok (.aload_n 0, 1) := by decide +kernel
theorem dX10_room_62 : decode cX10_room 62 = .ok (.getfield 50, 3) := by decide +kernel
theorem dX10_room_65 : decode cX10_room 65 = .ok (.iconst 1, 1) := by decide +kernel
theorem dX10_room_66 : decode cX10_room 66 = .ok (.iload 4, 2) := by decide +kernel
theorem dX10_room_68 : decode cX10_room 68 = .ok (.iastore, 1) := by decide +kernel
theorem dX10_room_69 : decode cX10_room 69 = .ok (.aload_n 0, 1) := by decide +kernel
theorem dX10_room_70 : decode cX10_room 70 = .ok (.iconst (-1), 1) := by decide +kernel
theorem dX10_room_71 : decode cX10_room 71 = .ok (.invokevirtual 159, 3) := by decide +kernel
theorem dX10_room_74 : decode cX10_room 74 = .ok (.ifCond .ne 6, 3) := by decide +kernel
theorem dX10_room_77 : decode cX10_room 77 = .ok (.iload 4, 2) := by decide +kernel
theorem dX10_room_79 : decode cX10_room 79 = .ok (.ireturn, 1) := by decide +kernel
theorem dX10_room_80 : decode cX10_room 80 = .ok (.iinc 4 1, 3) := by decide +kernel
theorem dX10_room_83 : decode cX10_room 83 = .ok (.goto (-32), 3) := by decide +kernel
theorem dX10_room_86 : decode cX10_room 86 = .ok (.bipush (-6), 2) := by decide +kernel
theorem dX10_room_88 : decode cX10_room 88 = .ok (.ireturn, 1) := by decide +kernel
theorem dX10_dividesAll_0 : decode cX10_dividesAll 0 = .ok (.iconst 0, 1) := by decide +kernel
theorem dX10_dividesAll_1 : decode cX10_dividesAll 1 = .ok (.istore_n 2, 1) := by decide +kernel
theorem dX10_dividesAll_2 : decode cX10_dividesAll 2 = .ok (.iconst 0, 1) := by decide +kernel
theorem dX10_dividesAll_3 : decode cX10_dividesAll 3 = .ok (.istore_n 3, 1) := by decide +kernel
theorem dX10_dividesAll_4 : decode cX10_dividesAll 4 = .ok (.iload_n 3, 1) := by decide +kernel
theorem dX10_dividesAll_5 : decode cX10_dividesAll 5 = .ok (.aload_n 0, 1) := by decide +kernel
theorem dX10_dividesAll_6 : decode cX10_dividesAll 6 = .ok (.getfield 9, 3) := by decide +kernel
theorem dX10_dividesAll_9 : decode cX10_dividesAll 9 = .ok (.bipush 25, 2) := by decide +kernel
theorem dX10_dividesAll_11 : decode cX10_dividesAll 11 = .ok (.iaload, 1) := by decide +kernel
theorem dX10_dividesAll_12 : decode cX10_dividesAll 12 = .ok (.if_icmp .ge 50, 3) := by decide +kernel
theorem dX10_dividesAll_15 : decode cX10_dividesAll 15 = .ok (.aload_n 0, 1) := by decide +kernel
theorem dX10_dividesAll_16 : decode cX10_dividesAll 16 = .ok (.iload_n 3, 1) := by decide +kernel
theorem dX10_dividesAll_17 : decode cX10_dividesAll 17 = .ok (.iconst 1, 1) := by decide +kernel
theorem dX10_dividesAll_18 : decode cX10_dividesAll 18 = .ok (.invokevirtual 126, 3) := by decide +kernel
theorem dX10_dividesAll_21 : decode cX10_dividesAll 21 = .ok (.iload_n 1, 1) := by decide +kernel
theorem dX10_dividesAll_22 : decode cX10_dividesAll 22 = .ok (.if_icmp .ge 34, 3) := by decide +kernel
theorem dX10_dividesAll_25 : decode cX10_dividesAll 25 = .ok (.aload_n 0, 1) := by decide +kernel
theorem dX10_dividesAll_26 : decode cX10_dividesAll 26 = .ok (.iload_n 3, 1) := by decide +kernel
theorem dX10_dividesAll_27 : decode cX10_dividesAll 27 = .ok (.iconst 1, 1) := by decide +kernel
theorem dX10_dividesAll_28 : decode cX10_dividesAll 28 = .ok (.invokevirtual 126, 3) := by decide +kernel
theorem dX10_dividesAll_31 : decode cX10_dividesAll 31 = .ok (.aload_n 0, 1) := by decide +kernel
theorem dX10_dividesAll_32 : decode cX10_dividesAll 32 = .ok (.iload_n 3, 1) := by decide +kernel
theorem dX10_dividesAll_33 : decode cX10_dividesAll 33 = .ok (.iconst 4, 1) := by decide +kernel
theorem dX10_dividesAll_34 : decode cX10_dividesAll 34 = .ok (.invokevirtual 126, 3) := by decide +kernel
theorem dX10_dividesAll_37 : decode cX10_dividesAll 37 = .ok (.iadd, 1) := by decide +kernel
theorem dX10_dividesAll_38 : decode cX10_dividesAll 38 = .ok (.iload_n 1, 1) := by decide +kernel
theorem dX10_dividesAll_39 : decode cX10_dividesAll 39 = .ok (.if_icmp .le 17, 3) := by decide +kernel
theorem dX10_dividesAll_42 : decode cX10_dividesAll 42 = .ok (.aload_n 0, 1) := by decide +kernel
theorem dX10_dividesAll_43 : decode cX10_dividesAll 43 = .ok (.iload_n 3, 1) := by decide +kernel
theorem dX10_dividesAll_44 : decode cX10_dividesAll 44 = .ok (.iload_n 1, 1) := by decide +kernel
theorem dX10_dividesAll_45 : decode cX10_dividesAll 45 = .ok (.aload_n 0, 1) := by decide +kernel
theorem dX10_dividesAll_46 : decode cX10_dividesAll 46 = .ok (.iload_n 3, 1) := by decide +kernel
theorem dX10_dividesAll_47 : decode cX10_dividesAll 47 = .ok (.iconst 1, 1) := by decide +kernel
theorem dX10_dividesAll_48 : decode cX10_dividesAll 48 = .ok (.invokevirtual 126, 3) := by decide +kernel
theorem dX10_dividesAll_51 : decode cX10_dividesAll 51 = .ok (.isub, 1) := by decide +kernel
theorem dX10_dividesAll_52 : decode cX10_dividesAll 52 = .ok (.invokevirtual 184, 3) := by decide +kernel
theorem dX10_dividesAll_55 : decode cX10_dividesAll 55 = .ok (.istore_n 2, 1) := by decide +kernel
theorem dX10_dividesAll_56 : decode cX10_dividesAll 56 = .ok (.iinc 3 1, 3) := by decide +kernel
theorem dX10_dividesAll_59 : decode cX10_dividesAll 59 = .ok (.goto (-55), 3) := by decide +kernel
theorem dX10_dividesAll_62 : decode cX10_dividesAll 62 = .ok (.return_, 1) := by decide +kernel
theorem dX10_crossing_0 : decode cX10_crossing 0 = .ok (.iconst 0, 1) := by decide +kernel
theorem dX10_crossing_1 : decode cX10_crossing 1 = .ok (.istore_n 2, 1) := by decide +kernel
theorem dX10_crossing_2 : decode cX10_crossing 2 = .ok (.iconst 0, 1) := by decide +kernel
theorem dX10_crossing_3 : decode cX10_crossing 3 = .ok (.istore_n 3, 1) := by decide +kernel
theorem dX10_crossing_4 : decode cX10_crossing 4 = .ok (.iload_n 3, 1) := by decide +kernel
theorem dX10_crossing_5 : decode cX10_crossing 5 = .ok (.aload_n 0, 1) := by decide +kernel
theorem dX10_crossing_6 : decode cX10_crossing 6 = .ok (.getfield 9, 3) := by decide +kernel
theorem dX10_crossing_9 : decode cX10_crossing 9 = .ok (.bipush 25, 2) := by decide +kernel
theorem dX10_crossing_11 : decode cX10_crossing 11 = .ok (.iaload, 1) := by decide +kernel
theorem dX10_crossing_12 : decode cX10_crossing 12 = .ok (.if_icmp .ge 44, 3) := by decide +kernel
theorem dX10_crossing_15 : decode cX10_crossing 15 = .ok (.iload_n 2, 1) := by decide +kernel
theorem dX10_crossing_16 : decode cX10_crossing 16 = .ok (.aload_n 0, 1) := by decide +kernel
theorem dX10_crossing_17 : decode cX10_crossing 17 = .ok (.iload_n 3, 1) := by decide +kernel
theorem dX10_crossing_18 : decode cX10_crossing 18 = .ok (.iconst 1, 1) := by decide +kernel
theorem dX10_crossing_19 : decode cX10_crossing 19 = .ok (.invokevirtual 126, 3) := by decide +kernel
theorem dX10_crossing_22 : decode cX10_crossing 22 = .ok (.iload_n 1, 1) := by decide +kernel
theorem dX10_crossing_23 : decode cX10_crossing 23 = .ok (.if_icmp .ge 24, 3) := by decide +kernel
theorem dX10_crossing_26 : decode cX10_crossing 26 = .ok (.aload_n 0, 1) := by decide +kernel
theorem dX10_crossing_27 : decode cX10_crossing 27 = .ok (.iload_n 3, 1) := by decide +kernel
theorem dX10_crossing_28 : decode cX10_crossing 28 = .ok (.iconst 1, 1) := by decide +kernel
theorem dX10_crossing_29 : decode cX10_crossing 29 = .ok (.invokevirtual 126, 3) := by decide +kernel
theorem dX10_crossing_32 : decode cX10_crossing 32 = .ok (.aload_n 0, 1) := by decide +kernel
theorem dX10_crossing_33 : decode cX10_crossing 33 = .ok (.iload_n 3, 1) := by decide +kernel
theorem dX10_crossing_34 : decode cX10_crossing 34 = .ok (.iconst 4, 1) := by decide +kernel
theorem dX10_crossing_35 : decode cX10_crossing 35 = .ok (.invokevirtual 126, 3) := by decide +kernel
theorem dX10_crossing_38 : decode cX10_crossing 38 = .ok (.iadd, 1) := by decide +kernel
theorem dX10_crossing_39 : decode cX10_crossing 39 = .ok (.iload_n 1, 1) := by decide +kernel
theorem dX10_crossing_40 : decode cX10_crossing 40 = .ok (.if_icmp .le 7, 3) := by decide +kernel
theorem dX10_crossing_43 : decode cX10_crossing 43 = .ok (.iconst 1, 1) := by decide +kernel
theorem dX10_crossing_44 : decode cX10_crossing 44 = .ok (.goto 4, 3) := by decide +kernel
theorem dX10_crossing_47 : decode cX10_crossing 47 = .ok (.iconst 0, 1) := by decide +kernel
theorem dX10_crossing_48 : decode cX10_crossing 48 = .ok (.iadd, 1) := by decide +kernel
theorem dX10_crossing_49 : decode cX10_crossing 49 = .ok (.istore_n 2, 1) := by decide +kernel
theorem dX10_crossing_50 : decode cX10_crossing 50 = .ok (.iinc 3 1, 3) := by decide +kernel
theorem dX10_crossing_53 : decode cX10_crossing 53 = .ok (.goto (-49), 3) := by decide +kernel
theorem dX10_crossing_56 : decode cX10_crossing 56 = .ok (.iload_n 2, 1) := by decide +kernel
theorem dX10_crossing_57 : decode cX10_crossing 57 = .ok (.ireturn, 1) := by decide +kernel
theorem dX10_dropsChapter_0 : decode cX10_dropsChapter 0 = .ok (.aload_n 0, 1) := by decide +kernel
theorem dX10_dropsChapter_1 : decode cX10_dropsChapter 1 = .ok (.getfield 9, 3) := by decide +kernel
theorem dX10_dropsChapter_4 : decode cX10_dropsChapter 4 = .ok (.sipush 438, 3) := by decide +kernel
theorem dX10_dropsChapter_7 : decode cX10_dropsChapter 7 = .ok (.dup2, 1) := by decide +kernel
theorem dX10_dropsChapter_8 : decode cX10_dropsChapter 8 = .ok (.iaload, 1) := by decide +kernel
theorem dX10_dropsChapter_9 : decode cX10_dropsChapter 9 = .ok (.iconst 1, 1) := by decide +kernel
theorem dX10_dropsChapter_10 : decode cX10_dropsChapter 10 = .ok (.isub, 1) := by decide +kernel
theorem dX10_dropsChapter_11 : decode cX10_dropsChapter 11 = .ok (.iastore, 1) := by decide +kernel
theorem dX10_dropsChapter_12 : decode cX10_dropsChapter 12 = .ok (.iload_n 1, 1) := by decide +kernel
theorem dX10_dropsChapter_13 : decode cX10_dropsChapter 13 = .ok (.istore_n 2, 1) := by decide +kernel
theorem dX10_dropsChapter_14 : decode cX10_dropsChapter 14 = .ok (.iload_n 2, 1) := by decide +kernel
theorem dX10_dropsChapter_15 : decode cX10_dropsChapter 15 = .ok (.aload_n 0, 1) := by decide +kernel
theorem dX10_dropsChapter_16 : decode cX10_dropsChapter 16 = .ok (.getfield 9, 3) := by decide +kernel
theorem dX10_dropsChapter_19 : decode cX10_dropsChapter 19 = .ok (.sipush 438, 3) := by decide +kernel
theorem dX10_dropsChapter_22 : decode cX10_dropsChapter 22 = .ok (.iaload, 1) := by decide +kernel
theorem dX10_dropsChapter_23 : decode cX10_dropsChapter 23 = .ok (.if_icmp .ge 63, 3) := by decide +kernel
theorem dX10_dropsChapter_26 : decode cX10_dropsChapter 26 = .ok (.aload_n 0, 1) := by decide +kernel
theorem dX10_dropsChapter_27 : decode cX10_dropsChapter 27 = .ok (.getfield 9, 3) := by decide +kernel
theorem dX10_dropsChapter_30 : decode cX10_dropsChapter 30 = .ok (.sipush 439, 3) := by decide +kernel
theorem dX10_dropsChapter_33 : decode cX10_dropsChapter 33 = .ok (.iconst 2, 1) := by decide +kernel
theorem dX10_dropsChapter_34 : decode cX10_dropsChapter 34 = .ok (.iload_n 2, 1) := by decide +kernel
theorem dX10_dropsChapter_35 : decode cX10_dropsChapter 35 = .ok (.imul, 1) := by decide +kernel
theorem dX10_dropsChapter_36 : decode cX10_dropsChapter 36 = .ok (.iadd, 1) := by decide +kernel
theorem dX10_dropsChapter_37 : decode cX10_dropsChapter 37 = .ok (.aload_n 0, 1) := by decide +kernel
theorem dX10_dropsChapter_38 : decode cX10_dropsChapter 38 = .ok (.getfield 9, 3) := by decide +kernel
theorem dX10_dropsChapter_41 : decode cX10_dropsChapter 41 = .ok (.sipush 439, 3) := by decide +kernel
theorem dX10_dropsChapter_44 : decode cX10_dropsChapter 44 = .ok (.iconst 2, 1) := by decide +kernel
theorem dX10_dropsChapter_45 : decode cX10_dropsChapter 45 = .ok (.iload_n 2, 1) := by decide +kernel
theorem dX10_dropsChapter_46 : decode cX10_dropsChapter 46 = .ok (.imul, 1) := by decide +kernel
theorem dX10_dropsChapter_47 : decode cX10_dropsChapter 47 = .ok (.iadd, 1) := by decide +kernel
theorem dX10_dropsChapter_48 : decode cX10_dropsChapter 48 = .ok (.iconst 2, 1) := by decide +kernel
theorem dX10_dropsChapter_49 : decode cX10_dropsChapter 49 = .ok (.iadd, 1) := by decide +kernel
theorem dX10_dropsChapter_50 : decode cX10_dropsChapter 50 = .ok (.iaload, 1) := by decide +kernel
theorem dX10_dropsChapter_51 : decode cX10_dropsChapter 51 = .ok (.iastore, 1) := by decide +kernel
theorem dX10_dropsChapter_52 : decode cX10_dropsChapter 52 = .ok (.aload_n 0, 1) := by decide +kernel
theorem dX10_dropsChapter_53 : decode cX10_dropsChapter 53 = .ok (.getfield 9, 3) := by decide +kernel
theorem dX10_dropsChapter_56 : decode cX10_dropsChapter 56 = .ok (.sipush 439, 3) := by decide +kernel
theorem dX10_dropsChapter_59 : decode cX10_dropsChapter 59 = .ok (.iconst 2, 1) := by decide +kernel
theorem dX10_dropsChapter_60 : decode cX10_dropsChapter 60 = .ok (.iload_n 2, 1) := by decide +kernel
theorem dX10_dropsChapter_61 : decode cX10_dropsChapter 61 = .ok (.imul, 1) := by decide +kernel
theorem dX10_dropsChapter_62 : decode cX10_dropsChapter 62 = .ok (.iadd, 1) := by decide +kernel
theorem dX10_dropsChapter_63 : decode cX10_dropsChapter 63 = .ok (.iconst 1, 1) := by decide +kernel
theorem dX10_dropsChapter_64 : decode cX10_dropsChapter 64 = .ok (.iadd, 1) := by decide +kernel
theorem dX10_dropsChapter_65 : decode cX10_dropsChapter 65 = .ok (.aload_n 0, 1) := by decide +kernel
theorem dX10_dropsChapter_66 : decode cX10_dropsChapter 66 = .ok (.getfield 9, 3) := by decide +kernel
theorem dX10_dropsChapter_69 : decode cX10_dropsChapter 69 = .ok (.sipush 439, 3) := by decide +kernel
theorem dX10_dropsChapter_72 : decode cX10_dropsChapter 72 = .ok (.iconst 2, 1) := by decide +kernel
theorem dX10_dropsChapter_73 : decode cX10_dropsChapter 73 = .ok (.iload_n 2, 1) := by decide +kernel
theorem dX10_dropsChapter_74 : decode cX10_dropsChapter 74 = .ok (.imul, 1) := by decide +kernel
theorem dX10_dropsChapter_75 : decode cX10_dropsChapter 75 = .ok (.iadd, 1) := by decide +kernel
theorem dX10_dropsChapter_76 : decode cX10_dropsChapter 76 = .ok (.iconst 3, 1) := by decide +kernel
theorem dX10_dropsChapter_77 : decode cX10_dropsChapter 77 = .ok (.iadd, 1) := by decide +kernel
theorem dX10_dropsChapter_78 : decode cX10_dropsChapter 78 = .ok (.iaload, 1) := by decide +kernel
theorem dX10_dropsChapter_79 : decode cX10_dropsChapter 79 = .ok (.iastore, 1) := by decide +kernel
theorem dX10_dropsChapter_80 : decode cX10_dropsChapter 80 = .ok (.iinc 2 1, 3) := by decide +kernel
theorem dX10_dropsChapter_83 : decode cX10_dropsChapter 83 = .ok (.goto (-69), 3) := by decide +kernel
theorem dX10_dropsChapter_86 : decode cX10_dropsChapter 86 = .ok (.return_, 1) := by decide +kernel
theorem dX10_cuts_0 : decode cX10_cuts 0 = .ok (.iload_n 1, 1) := by decide +kernel
theorem dX10_cuts_1 : decode cX10_cuts 1 = .ok (.ifCond .lt 15, 3) := by decide +kernel
theorem dX10_cuts_4 : decode cX10_cuts 4 = .ok (.iload_n 1, 1) := by decide +kernel
theorem dX10_cuts_5 : decode cX10_cuts 5 = .ok (.iload_n 2, 1) := by decide +kernel
theorem dX10_cuts_6 : decode cX10_cuts 6 = .ok (.if_icmp .ge 10, 3) := by decide +kernel
theorem dX10_cuts_9 : decode cX10_cuts 9 = .ok (.iload_n 2, 1) := by decide +kernel
theorem dX10_cuts_10 : decode cX10_cuts 10 = .ok (.sipush 600, 3) := by decide +kernel
theorem dX10_cuts_13 : decode cX10_cuts 13 = .ok (.if_icmp .le 6, 3) := by decide +kernel
theorem dX10_cuts_16 : decode cX10_cuts 16 = .ok (.bipush (-2), 2) := by decide +kernel
theorem dX10_cuts_18 : decode cX10_cuts 18 = .ok (.ireturn, 1) := by decide +kernel
theorem dX10_cuts_19 : decode cX10_cuts 19 = .ok (.iconst 0, 1) := by decide +kernel
theorem dX10_cuts_20 : decode cX10_cuts 20 = .ok (.istore_n 3, 1) := by decide +kernel
theorem dX10_cuts_21 : decode cX10_cuts 21 = .ok (.iconst 0, 1) := by decide +kernel
theorem dX10_cuts_22 : decode cX10_cuts 22 = .ok (.istore 4, 2) := by decide +kernel
theorem dX10_cuts_24 : decode cX10_cuts 24 = .ok (.iconst 0, 1) := by decide +kernel
theorem dX10_cuts_25 : decode cX10_cuts 25 = .ok (.istore 5, 2) := by decide +kernel
theorem dX10_cuts_27 : decode cX10_cuts 27 = .ok (.iload 5, 2) := by decide +kernel
theorem dX10_cuts_29 : decode cX10_cuts 29 = .ok (.aload_n 0, 1) := by decide +kernel
theorem dX10_cuts_30 : decode cX10_cuts 30 = .ok (.getfield 9, 3) := by decide +kernel
theorem dX10_cuts_33 : decode cX10_cuts 33 = .ok (.bipush 25, 2) := by decide +kernel
theorem dX10_cuts_35 : decode cX10_cuts 35 = .ok (.iaload, 1) := by decide +kernel
theorem dX10_cuts_36 : decode cX10_cuts 36 = .ok (.if_icmp .ge 115, 3) := by decide +kernel
theorem dX10_cuts_39 : decode cX10_cuts 39 = .ok (.aload_n 0, 1) := by decide +kernel
theorem dX10_cuts_40 : decode cX10_cuts 40 = .ok (.iload 5, 2) := by decide +kernel
theorem dX10_cuts_42 : decode cX10_cuts 42 = .ok (.iconst 1, 1) := by decide +kernel
theorem dX10_cuts_43 : decode cX10_cuts 43 = .ok (.invokevirtual 126, 3) := by decide +kernel
theorem dX10_cuts_46 : decode cX10_cuts 46 = .ok (.istore 6, 2) := by decide +kernel
theorem dX10_cuts_48 : decode cX10_cuts 48 = .ok (.iload 6, 2) := by decide +kernel
theorem dX10_cuts_50 : decode cX10_cuts 50 = .ok (.aload_n 0, 1) := by decide +kernel
theorem dX10_cuts_51 : decode cX10_cuts 51 = .ok (.iload 5, 2) := by decide +kernel
theorem dX10_cuts_53 : decode cX10_cuts 53 = .ok (.iconst 4, 1) := by decide +kernel
theorem dX10_cuts_54 : decode cX10_cuts 54 = .ok (.invokevirtual 126, 3) := by decide +kernel
theorem dX10_cuts_57 : decode cX10_cuts 57 = .ok (.iadd, 1) := by decide +kernel
theorem dX10_cuts_58 : decode cX10_cuts 58 = .ok (.istore 7, 2) := by decide +kernel
theorem dX10_cuts_60 : decode cX10_cuts 60 = .ok (.iload_n 3, 1) := by decide +kernel
theorem dX10_cuts_61 : decode cX10_cuts 61 = .ok (.iload 6, 2) := by decide +kernel
theorem dX10_cuts_63 : decode cX10_cuts 63 = .ok (.iload_n 1, 1) := by decide +kernel
theorem dX10_cuts_64 : decode cX10_cuts 64 = .ok (.if_icmp .ge 13, 3) := by decide +kernel
theorem dX10_cuts_67 : decode cX10_cuts 67 = .ok (.iload 7, 2) := by decide +kernel
theorem dX10_cuts_69 : decode cX10_cuts 69 = .ok (.iload_n 2, 1) := by decide +kernel
theorem dX10_cuts_70 : decode cX10_cuts 70 = .ok (.if_icmp .le 7, 3) := by decide +kernel
theorem dX10_cuts_73 : decode cX10_cuts 73 = .ok (.iconst 1, 1) := by decide +kernel
theorem dX10_cuts_74 : decode cX10_cuts 74 = .ok (.goto 20, 3) := by decide +kernel
theorem dX10_cuts_77 : decode cX10_cuts 77 = .ok (.iload 6, 2) := by decide +kernel
theorem dX10_cuts_79 : decode cX10_cuts 79 = .ok (.iload_n 1, 1) := by decide +kernel
theorem dX10_cuts_80 : decode cX10_cuts 80 = .ok (.if_icmp .lt 13, 3) := by decide +kernel
theorem dX10_cuts_83 : decode cX10_cuts 83 = .ok (.iload 7, 2) := by decide +kernel
theorem dX10_cuts_85 : decode cX10_cuts 85 = .ok (.iload_n 2, 1) := by decide +kernel
theorem dX10_cuts_86 : decode cX10_cuts 86 = .ok (.if_icmp .gt 7, 3) := by decide +kernel
theorem dX10_cuts_89 : decode cX10_cuts 89 = .ok (.iconst (-1), 1) := by decide +kernel
theorem dX10_cuts_90 : decode cX10_cuts 90 = .ok (.goto 4, 3) := by decide +kernel
theorem dX10_cuts_93 : decode cX10_cuts 93 = .ok (.iconst 0, 1) := by decide +kernel
theorem dX10_cuts_94 : decode cX10_cuts 94 = .ok (.iadd, 1) := by decide +kernel
theorem dX10_cuts_95 : decode cX10_cuts 95 = .ok (.istore_n 3, 1) := by decide +kernel
theorem dX10_cuts_96 : decode cX10_cuts 96 = .ok (.iload 6, 2) := by decide +kernel
theorem dX10_cuts_98 : decode cX10_cuts 98 = .ok (.iload_n 1, 1) := by decide +kernel
theorem dX10_cuts_99 : decode cX10_cuts 99 = .ok (.if_icmp .le 8, 3) := by decide +kernel
theorem dX10_cuts_102 : decode cX10_cuts 102 = .ok (.iload 6, 2) := by decide +kernel
theorem dX10_cuts_104 : decode cX10_cuts 104 = .ok (.goto 4, 3) := by decide +kernel
theorem dX10_cuts_107 : decode cX10_cuts 107 = .ok (.iload_n 1, 1) := by decide +kernel
theorem dX10_cuts_108 : decode cX10_cuts 108 = .ok (.istore 8, 2) := by decide +kernel
theorem dX10_cuts_110 : decode cX10_cuts 110 = .ok (.iload 7, 2) := by decide +kernel
theorem dX10_cuts_112 : decode cX10_cuts 112 = .ok (.iload_n 2, 1) := by decide +kernel
theorem dX10_cuts_113 : decode cX10_cuts 113 = .ok (.if_icmp .ge 8, 3) := by decide +kernel
theorem dX10_cuts_116 : decode cX10_cuts 116 = .ok (.iload 7, 2) := by decide +kernel
theorem dX10_cuts_118 : decode cX10_cuts 118 = .ok (.goto 4, 3) := by decide +kernel
theorem dX10_cuts_121 : decode cX10_cuts 121 = .ok (.iload_n 2, 1) := by decide +kernel
theorem dX10_cuts_122 : decode cX10_cuts 122 = .ok (.istore 9, 2) := by decide +kernel
theorem dX10_cuts_124 : decode cX10_cuts 124 = .ok (.iload 4, 2) := by decide +kernel
theorem dX10_cuts_126 : decode cX10_cuts 126 = .ok (.iload 9, 2) := by decide +kernel
theorem dX10_cuts_128 : decode cX10_cuts 128 = .ok (.iload 8, 2) := by decide +kernel
theorem dX10_cuts_130 : decode cX10_cuts 130 = .ok (.if_icmp .le 11, 3) := by decide +kernel
theorem dX10_cuts_133 : decode cX10_cuts 133 = .ok (.iload 9, 2) := by decide +kernel
theorem dX10_cuts_135 : decode cX10_cuts 135 = .ok (.iload 8, 2) := by decide +kernel
theorem dX10_cuts_137 : decode cX10_cuts 137 = .ok (.isub, 1) := by decide +kernel
theorem dX10_cuts_138 : decode cX10_cuts 138 = .ok (.goto 4, 3) := by decide +kernel
theorem dX10_cuts_141 : decode cX10_cuts 141 = .ok (.iconst 0, 1) := by decide +kernel
theorem dX10_cuts_142 : decode cX10_cuts 142 = .ok (.iadd, 1) := by decide +kernel
theorem dX10_cuts_143 : decode cX10_cuts 143 = .ok (.istore 4, 2) := by decide +kernel
theorem dX10_cuts_145 : decode cX10_cuts 145 = .ok (.iinc 5 1, 3) := by decide +kernel
theorem dX10_cuts_148 : decode cX10_cuts 148 = .ok (.goto (-121), 3) := by decide +kernel
theorem dX10_cuts_151 : decode cX10_cuts 151 = .ok (.aload_n 0, 1) := by decide +kernel
theorem dX10_cuts_152 : decode cX10_cuts 152 = .ok (.getfield 9, 3) := by decide +kernel
theorem dX10_cuts_155 : decode cX10_cuts 155 = .ok (.bipush 25, 2) := by decide +kernel
theorem dX10_cuts_157 : decode cX10_cuts 157 = .ok (.iaload, 1) := by decide +kernel
theorem dX10_cuts_158 : decode cX10_cuts 158 = .ok (.iload_n 3, 1) := by decide +kernel
theorem dX10_cuts_159 : decode cX10_cuts 159 = .ok (.iadd, 1) := by decide +kernel
theorem dX10_cuts_160 : decode cX10_cuts 160 = .ok (.bipush 24, 2) := by decide +kernel
theorem dX10_cuts_162 : decode cX10_cuts 162 = .ok (.if_icmp .le 6, 3) := by decide +kernel
theorem dX10_cuts_165 : decode cX10_cuts 165 = .ok (.bipush (-3), 2) := by decide +kernel
theorem dX10_cuts_167 : decode cX10_cuts 167 = .ok (.ireturn, 1) := by decide +kernel
theorem dX10_cuts_168 : decode cX10_cuts 168 = .ok (.iload_n 2, 1) := by decide +kernel
theorem dX10_cuts_169 : decode cX10_cuts 169 = .ok (.iload_n 1, 1) := by decide +kernel
theorem dX10_cuts_170 : decode cX10_cuts 170 = .ok (.isub, 1) := by decide +kernel
theorem dX10_cuts_171 : decode cX10_cuts 171 = .ok (.istore 5, 2) := by decide +kernel
theorem dX10_cuts_173 : decode cX10_cuts 173 = .ok (.aload_n 0, 1) := by decide +kernel
theorem dX10_cuts_174 : decode cX10_cuts 174 = .ok (.getfield 9, 3) := by decide +kernel
theorem dX10_cuts_177 : decode cX10_cuts 177 = .ok (.bipush 25, 2) := by decide +kernel
theorem dX10_cuts_179 : decode cX10_cuts 179 = .ok (.iaload, 1) := by decide +kernel
theorem dX10_cuts_180 : decode cX10_cuts 180 = .ok (.iconst 1, 1) := by decide +kernel
theorem dX10_cuts_181 : decode cX10_cuts 181 = .ok (.isub, 1) := by decide +kernel
theorem dX10_cuts_182 : decode cX10_cuts 182 = .ok (.istore 6, 2) := by decide +kernel
theorem dX10_cuts_184 : decode cX10_cuts 184 = .ok (.iload 6, 2) := by decide +kernel
theorem dX10_cuts_186 : decode cX10_cuts 186 = .ok (.ifCond .lt 338, 3) := by decide +kernel
theorem dX10_cuts_189 : decode cX10_cuts 189 = .ok (.aload_n 0, 1) := by decide +kernel
theorem dX10_cuts_190 : decode cX10_cuts 190 = .ok (.iload 6, 2) := by decide +kernel
theorem dX10_cuts_192 : decode cX10_cuts 192 = .ok (.iconst 1, 1) := by decide +kernel
theorem dX10_cuts_193 : decode cX10_cuts 193 = .ok (.invokevirtual 126, 3) := by decide +kernel
theorem dX10_cuts_196 : decode cX10_cuts 196 = .ok (.istore 7, 2) := by decide +kernel
theorem dX10_cuts_198 : decode cX10_cuts 198 = .ok (.iload 7, 2) := by decide +kernel
theorem dX10_cuts_200 : decode cX10_cuts 200 = .ok (.aload_n 0, 1) := by decide +kernel
theorem dX10_cuts_201 : decode cX10_cuts 201 = .ok (.iload 6, 2) := by decide +kernel
theorem dX10_cuts_203 : decode cX10_cuts 203 = .ok (.iconst 4, 1) := by decide +kernel
theorem dX10_cuts_204 : decode cX10_cuts 204 = .ok (.invokevirtual 126, 3) := by decide +kernel
theorem dX10_cuts_207 : decode cX10_cuts 207 = .ok (.iadd, 1) := by decide +kernel
theorem dX10_cuts_208 : decode cX10_cuts 208 = .ok (.istore 8, 2) := by decide +kernel
theorem dX10_cuts_210 : decode cX10_cuts 210 = .ok (.iload 8, 2) := by decide +kernel
theorem dX10_cuts_212 : decode cX10_cuts 212 = .ok (.iload_n 1, 1) := by decide +kernel
theorem dX10_cuts_213 : decode cX10_cuts 213 = .ok (.if_icmp .gt 6, 3) := by decide +kernel
theorem dX10_cuts_216 : decode cX10_cuts 216 = .ok (.goto 302, 3) := by decide +kernel
theorem dX10_cuts_219 : decode cX10_cuts 219 = .ok (.iload 7, 2) := by decide +kernel
theorem dX10_cuts_221 : decode cX10_cuts 221 = .ok (.iload_n 1, 1) := by decide +kernel
theorem dX10_cuts_222 : decode cX10_cuts 222 = .ok (.if_icmp .lt 18, 3) := by decide +kernel
theorem dX10_cuts_225 : decode cX10_cuts 225 = .ok (.iload 8, 2) := by decide +kernel
theorem dX10_cuts_227 : decode cX10_cuts 227 = .ok (.iload_n 2, 1) := by decide +kernel
theorem dX10_cuts_228 : decode cX10_cuts 228 = .ok (.if_icmp .gt 12, 3) := by decide +kernel
theorem dX10_cuts_231 : decode cX10_cuts 231 = .ok (.aload_n 0, 1) := by decide +kernel
theorem dX10_cuts_232 : decode cX10_cuts 232 = .ok (.iload 6, 2) := by decide +kernel
theorem dX10_cuts_234 : decode cX10_cuts 234 = .ok (.invokevirtual 172, 3) := by decide +kernel
theorem dX10_cuts_237 : decode cX10_cuts 237 = .ok (.goto 281, 3) := by decide +kernel
theorem dX10_cuts_240 : decode cX10_cuts 240 = .ok (.iload 7, 2) := by decide +kernel
theorem dX10_cuts_242 : decode cX10_cuts 242 = .ok (.iload_n 2, 1) := by decide +kernel
theorem dX10_cuts_243 : decode cX10_cuts 243 = .ok (.if_icmp .lt 26, 3) := by decide +kernel
theorem dX10_cuts_246 : decode cX10_cuts 246 = .ok (.aload_n 0, 1) := by decide +kernel
theorem dX10_cuts_247 : decode cX10_cuts 247 = .ok (.getfield 9, 3) := by decide +kernel
theorem dX10_cuts_250 : decode cX10_cuts 250 = .ok (.bipush 26, 2) := by decide +kernel
theorem dX10_cuts_252 : decode cX10_cuts 252 = .ok (.bipush 8, 2) := by decide +kernel
theorem dX10_cuts_254 : decode cX10_cuts 254 = .ok (.iload 6, 2) := by decide +kernel
theorem dX10_cuts_256 : decode cX10_cuts 256 = .ok (.imul, 1) := by decide +kernel
theorem dX10_cuts_257 : decode cX10_cuts 257 = .ok (.iadd, 1) := by decide +kernel
theorem dX10_cuts_258 : decode cX10_cuts 258 = .ok (.iconst 1, 1) := by decide +kernel
theorem dX10_cuts_259 : decode cX10_cuts 259 = .ok (.iadd, 1) := by decide +kernel
theorem dX10_cuts_260 : decode cX10_cuts 260 = .ok (.dup2, 1) := by decide +kernel
theorem dX10_cuts_261 : decode cX10_cuts 261 = .ok (.iaload, 1) := by decide +kernel
theorem dX10_cuts_262 : decode cX10_cuts 262 = .ok (.iload 5, 2) := by decide +kernel
theorem dX10_cuts_264 : decode cX10_cuts 264 = .ok (.isub, 1) := by decide +kernel
theorem dX10_cuts_265 : decode cX10_cuts 265 = .ok (.iastore, 1) := by decide +kernel
theorem dX10_cuts_266 : decode cX10_cuts 266 = .ok (.goto 252, 3) := by decide +kernel
theorem dX10_cuts_269 : decode cX10_cuts 269 = .ok (.iload 7, 2) := by decide +kernel
theorem dX10_cuts_271 : decode cX10_cuts 271 = .ok (.iload_n 1, 1) := by decide +kernel
theorem dX10_cuts_272 : decode cX10_cuts 272 = .ok (.if_icmp .ge 13, 3) := by decide +kernel
theorem dX10_cuts_275 : decode cX10_cuts 275 = .ok (.iload 8, 2) := by decide +kernel
theorem dX10_cuts_277 : decode cX10_cuts 277 = .ok (.iload_n 2, 1) := by decide +kernel
theorem dX10_cuts_278 : decode cX10_cuts 278 = .ok (.if_icmp .le 7, 3) := by decide +kernel
theorem dX10_cuts_281 : decode cX10_cuts 281 = .ok (.iconst 1, 1) := by decide +kernel
theorem dX10_cuts_282 : decode cX10_cuts 282 = .ok (.goto 4, 3) := by decide +kernel
theorem dX10_cuts_285 : decode cX10_cuts 285 = .ok (.iconst 0, 1) := by decide +kernel
theorem dX10_cuts_286 : decode cX10_cuts 286 = .ok (.istore 9, 2) := by decide +kernel
theorem dX10_cuts_288 : decode cX10_cuts 288 = .ok (.aload_n 0, 1) := by decide +kernel
theorem dX10_cuts_289 : decode cX10_cuts 289 = .ok (.iload 6, 2) := by decide +kernel
theorem dX10_cuts_291 : decode cX10_cuts 291 = .ok (.invokevirtual 168, 3) := by decide +kernel
theorem dX10_cuts_294 : decode cX10_cuts 294 = .ok (.aload_n 0, 1) := by decide +kernel
theorem dX10_cuts_295 : decode cX10_cuts 295 = .ok (.getfield 50, 3) := by decide +kernel
theorem dX10_cuts_298 : decode cX10_cuts 298 = .ok (.bipush 7, 2) := by decide +kernel
theorem dX10_cuts_300 : decode cX10_cuts 300 = .ok (.iaload, 1) := by decide +kernel
theorem dX10_cuts_301 : decode cX10_cuts 301 = .ok (.istore 10, 2) := by decide +kernel
theorem dX10_cuts_303 : decode cX10_cuts 303 = .ok (.aload_n 0, 1) := by decide +kernel
theorem dX10_cuts_304 : decode cX10_cuts 304 = .ok (.getfield 50, 3) := by decide +kernel
theorem dX10_cuts_307 : decode cX10_cuts 307 = .ok (.iconst 4, 1) := by decide +kernel
theorem dX10_cuts_308 : decode cX10_cuts 308 = .ok (.iload 7, 2) := by decide +kernel
theorem dX10_cuts_310 : decode cX10_cuts 310 = .ok (.iload_n 1, 1) := by decide +kernel
theorem dX10_cuts_311 : decode cX10_cuts 311 = .ok (.if_icmp .ge 10, 3) := by decide +kernel
theorem dX10_cuts_314 : decode cX10_cuts 314 = .ok (.iload_n 1, 1) := by decide +kernel
theorem dX10_cuts_315 : decode cX10_cuts 315 = .ok (.iload 7, 2) := by decide +kernel
theorem dX10_cuts_317 : decode cX10_cuts 317 = .ok (.isub, 1) := by decide +kernel
theorem dX10_cuts_318 : decode cX10_cuts 318 = .ok (.goto 7, 3) := by decide +kernel
theorem dX10_cuts_321 : decode cX10_cuts 321 = .ok (.iload 8, 2) := by decide +kernel
theorem dX10_cuts_323 : decode cX10_cuts 323 = .ok (.iload_n 2, 1) := by decide +kernel
theorem dX10_cuts_324 : decode cX10_cuts 324 = .ok (.isub, 1) := by decide +kernel
theorem dX10_cuts_325 : decode cX10_cuts 325 = .ok (.iastore, 1) := by decide +kernel
theorem dX10_cuts_326 : decode cX10_cuts 326 = .ok (.aload_n 0, 1) := by decide +kernel
theorem dX10_cuts_327 : decode cX10_cuts 327 = .ok (.getfield 50, 3) := by decide +kernel
theorem dX10_cuts_330 : decode cX10_cuts 330 = .ok (.iconst 1, 1) := by decide +kernel
theorem dX10_cuts_331 : decode cX10_cuts 331 = .ok (.iload 7, 2) := by decide +kernel
theorem dX10_cuts_333 : decode cX10_cuts 333 = .ok (.iload_n 1, 1) := by decide +kernel
theorem dX10_cuts_334 : decode cX10_cuts 334 = .ok (.if_icmp .ge 8, 3) := by decide +kernel
theorem dX10_cuts_337 : decode cX10_cuts 337 = .ok (.iload 7, 2) := by decide +kernel
theorem dX10_cuts_339 : decode cX10_cuts 339 = .ok (.goto 4, 3) := by decide +kernel
theorem dX10_cuts_342 : decode cX10_cuts 342 = .ok (.iload_n 1, 1) := by decide +kernel
theorem dX10_cuts_343 : decode cX10_cuts 343 = .ok (.iastore, 1) := by decide +kernel
theorem dX10_cuts_344 : decode cX10_cuts 344 = .ok (.aload_n 0, 1) := by decide +kernel
theorem dX10_cuts_345 : decode cX10_cuts 345 = .ok (.getfield 50, 3) := by decide +kernel
theorem dX10_cuts_348 : decode cX10_cuts 348 = .ok (.iconst 3, 1) := by decide +kernel
theorem dX10_cuts_349 : decode cX10_cuts 349 = .ok (.dup2, 1) := by decide +kernel
theorem dX10_cuts_350 : decode cX10_cuts 350 = .ok (.iaload, 1) := by decide +kernel
theorem dX10_cuts_351 : decode cX10_cuts 351 = .ok (.iload 7, 2) := by decide +kernel
theorem dX10_cuts_353 : decode cX10_cuts 353 = .ok (.iload_n 1, 1) := by decide +kernel
theorem dX10_cuts_354 : decode cX10_cuts 354 = .ok (.if_icmp .ge 7, 3) := by decide +kernel
theorem dX10_cuts_357 : decode cX10_cuts 357 = .ok (.iconst 0, 1) := by decide +kernel
theorem dX10_cuts_358 : decode cX10_cuts 358 = .ok (.goto 7, 3) := by decide +kernel
theorem dX10_cuts_361 : decode cX10_cuts 361 = .ok (.iload_n 2, 1) := by decide +kernel
theorem dX10_cuts_362 : decode cX10_cuts 362 = .ok (.iload 7, 2) := by decide +kernel
theorem dX10_cuts_364 : decode cX10_cuts 364 = .ok (.isub, 1) := by decide +kernel
theorem dX10_cuts_365 : decode cX10_cuts 365 = .ok (.iadd, 1) := by decide +kernel
theorem dX10_cuts_366 : decode cX10_cuts 366 = .ok (.iastore, 1) := by decide +kernel
theorem dX10_cuts_367 : decode cX10_cuts 367 = .ok (.aload_n 0, 1) := by decide +kernel
theorem dX10_cuts_368 : decode cX10_cuts 368 = .ok (.getfield 50, 3) := by decide +kernel
theorem dX10_cuts_371 : decode cX10_cuts 371 = .ok (.bipush 6, 2) := by decide +kernel
theorem dX10_cuts_373 : decode cX10_cuts 373 = .ok (.iload 7, 2) := by decide +kernel
theorem dX10_cuts_375 : decode cX10_cuts 375 = .ok (.iload_n 1, 1) := by decide +kernel
theorem dX10_cuts_376 : decode cX10_cuts 376 = .ok (.if_icmp .ge 13, 3) := by decide +kernel
theorem dX10_cuts_379 : decode cX10_cuts 379 = .ok (.aload_n 0, 1) := by decide +kernel
theorem dX10_cuts_380 : decode cX10_cuts 380 = .ok (.getfield 50, 3) := by decide +kernel
theorem dX10_cuts_383 : decode cX10_cuts 383 = .ok (.bipush 6, 2) := by decide +kernel
theorem dX10_cuts_385 : decode cX10_cuts 385 = .ok (.iaload, 1) := by decide +kernel
theorem dX10_cuts_386 : decode cX10_cuts 386 = .ok (.goto 4, 3) := by decide +kernel
theorem dX10_cuts_389 : decode cX10_cuts 389 = .ok (.iconst 0, 1) := by decide +kernel
theorem dX10_cuts_390 : decode cX10_cuts 390 = .ok (.iastore, 1) := by decide +kernel
theorem dX10_cuts_391 : decode cX10_cuts 391 = .ok (.aload_n 0, 1) := by decide +kernel
theorem dX10_cuts_392 : decode cX10_cuts 392 = .ok (.getfield 50, 3) := by decide +kernel
theorem dX10_cuts_395 : decode cX10_cuts 395 = .ok (.bipush 7, 2) := by decide +kernel
theorem dX10_cuts_397 : decode cX10_cuts 397 = .ok (.iload 7, 2) := by decide +kernel
theorem dX10_cuts_399 : decode cX10_cuts 399 = .ok (.iload_n 1, 1) := by decide +kernel
theorem dX10_cuts_400 : decode cX10_cuts 400 = .ok (.if_icmp .ge 7, 3) := by decide +kernel
theorem dX10_cuts_403 : decode cX10_cuts 403 = .ok (.iconst 0, 1) := by decide +kernel
theorem dX10_cuts_404 : decode cX10_cuts 404 = .ok (.goto 5, 3) := by decide +kernel
theorem dX10_cuts_407 : decode cX10_cuts 407 = .ok (.iload 10, 2) := by decide +kernel
theorem dX10_cuts_409 : decode cX10_cuts 409 = .ok (.iastore, 1) := by decide +kernel
theorem dX10_cuts_410 : decode cX10_cuts 410 = .ok (.aload_n 0, 1) := by decide +kernel
theorem dX10_cuts_411 : decode cX10_cuts 411 = .ok (.invokevirtual 181, 3) := by decide +kernel
theorem dX10_cuts_414 : decode cX10_cuts 414 = .ok (.iconst 0, 1) := by decide +kernel
theorem dX10_cuts_415 : decode cX10_cuts 415 = .ok (.istore 11, 2) := by decide +kernel
theorem dX10_cuts_417 : decode cX10_cuts 417 = .ok (.iload 11, 2) := by decide +kernel
theorem dX10_cuts_419 : decode cX10_cuts 419 = .ok (.bipush 8, 2) := by decide +kernel
theorem dX10_cuts_421 : decode cX10_cuts 421 = .ok (.if_icmp .ge 32, 3) := by decide +kernel
theorem dX10_cuts_424 : decode cX10_cuts 424 = .ok (.aload_n 0, 1) := by decide +kernel
theorem dX10_cuts_425 : decode cX10_cuts 425 = .ok (.getfield 9, 3) := by decide +kernel
theorem dX10_cuts_428 : decode cX10_cuts 428 = .ok (.bipush 26, 2) := by decide +kernel
theorem dX10_cuts_430 : decode cX10_cuts 430 = .ok (.bipush 8, 2) := by decide +kernel
theorem dX10_cuts_432 : decode cX10_cuts 432 = .ok (.iload 6, 2) := by decide +kernel
theorem dX10_cuts_434 : decode cX10_cuts 434 = .ok (.imul, 1) := by decide +kernel
theorem dX10_cuts_435 : decode cX10_cuts 435 = .ok (.iadd, 1) := by decide +kernel
theorem dX10_cuts_436 : decode cX10_cuts 436 = .ok (.iload 11, 2) := by decide +kernel
theorem dX10_cuts_438 : decode cX10_cuts 438 = .ok (.iadd, 1) := by decide +kernel
theorem dX10_cuts_439 : decode cX10_cuts 439 = .ok (.aload_n 0, 1) := by decide +kernel
theorem dX10_cuts_440 : decode cX10_cuts 440 = .ok (.getfield 50, 3) := by decide +kernel
theorem dX10_cuts_443 : decode cX10_cuts 443 = .ok (.iload 11, 2) := by decide +kernel
theorem dX10_cuts_445 : decode cX10_cuts 445 = .ok (.iaload, 1) := by decide +kernel
theorem dX10_cuts_446 : decode cX10_cuts 446 = .ok (.iastore, 1) := by decide +kernel
theorem dX10_cuts_447 : decode cX10_cuts 447 = .ok (.iinc 11 1, 3) := by decide +kernel
theorem dX10_cuts_450 : decode cX10_cuts 450 = .ok (.goto (-33), 3) := by decide +kernel
theorem dX10_cuts_453 : decode cX10_cuts 453 = .ok (.iload 9, 2) := by decide +kernel
theorem dX10_cuts_455 : decode cX10_cuts 455 = .ok (.ifCond .ne 6, 3) := by decide +kernel
theorem dX10_cuts_458 : decode cX10_cuts 458 = .ok (.goto 60, 3) := by decide +kernel
theorem dX10_cuts_461 : decode cX10_cuts 461 = .ok (.aload_n 0, 1) := by decide +kernel
theorem dX10_cuts_462 : decode cX10_cuts 462 = .ok (.getfield 50, 3) := by decide +kernel
theorem dX10_cuts_465 : decode cX10_cuts 465 = .ok (.iconst 1, 1) := by decide +kernel
theorem dX10_cuts_466 : decode cX10_cuts 466 = .ok (.iload_n 1, 1) := by decide +kernel
theorem dX10_cuts_467 : decode cX10_cuts 467 = .ok (.iastore, 1) := by decide +kernel
theorem dX10_cuts_468 : decode cX10_cuts 468 = .ok (.aload_n 0, 1) := by decide +kernel
theorem dX10_cuts_469 : decode cX10_cuts 469 = .ok (.getfield 50, 3) := by decide +kernel
theorem dX10_cuts_472 : decode cX10_cuts 472 = .ok (.iconst 3, 1) := by decide +kernel
theorem dX10_cuts_473 : decode cX10_cuts 473 = .ok (.dup2, 1) := by decide +kernel
theorem dX10_cuts_474 : decode cX10_cuts 474 = .ok (.iaload, 1) := by decide +kernel
theorem dX10_cuts_475 : decode cX10_cuts 475 = .ok (.iload_n 2, 1) := by decide +kernel
theorem dX10_cuts_476 : decode cX10_cuts 476 = .ok (.iload 7, 2) := by decide +kernel
theorem dX10_cuts_478 : decode cX10_cuts 478 = .ok (.isub, 1) := by decide +kernel
theorem dX10_cuts_479 : decode cX10_cuts 479 = .ok (.iadd, 1) := by decide +kernel
theorem dX10_cuts_480 : decode cX10_cuts 480 = .ok (.iastore, 1) := by decide +kernel
theorem dX10_cuts_481 : decode cX10_cuts 481 = .ok (.aload_n 0, 1) := by decide +kernel
theorem dX10_cuts_482 : decode cX10_cuts 482 = .ok (.getfield 50, 3) := by decide +kernel
theorem dX10_cuts_485 : decode cX10_cuts 485 = .ok (.iconst 4, 1) := by decide +kernel
theorem dX10_cuts_486 : decode cX10_cuts 486 = .ok (.iload 8, 2) := by decide +kernel
theorem dX10_cuts_488 : decode cX10_cuts 488 = .ok (.iload_n 2, 1) := by decide +kernel
theorem dX10_cuts_489 : decode cX10_cuts 489 = .ok (.isub, 1) := by decide +kernel
theorem dX10_cuts_490 : decode cX10_cuts 490 = .ok (.iastore, 1) := by decide +kernel
theorem dX10_cuts_491 : decode cX10_cuts 491 = .ok (.aload_n 0, 1) := by decide +kernel
theorem dX10_cuts_492 : decode cX10_cuts 492 = .ok (.getfield 50, 3) := by decide +kernel
theorem dX10_cuts_495 : decode cX10_cuts 495 = .ok (.bipush 6, 2) := by decide +kernel
theorem dX10_cuts_497 : decode cX10_cuts 497 = .ok (.iconst 0, 1) := by decide +kernel
theorem dX10_cuts_498 : decode cX10_cuts 498 = .ok (.iastore, 1) := by decide +kernel
theorem dX10_cuts_499 : decode cX10_cuts 499 = .ok (.aload_n 0, 1) := by decide +kernel
theorem dX10_cuts_500 : decode cX10_cuts 500 = .ok (.getfield 50, 3) := by decide +kernel
theorem dX10_cuts_503 : decode cX10_cuts 503 = .ok (.bipush 7, 2) := by decide +kernel
theorem dX10_cuts_505 : decode cX10_cuts 505 = .ok (.iload 10, 2) := by decide +kernel
theorem dX10_cuts_507 : decode cX10_cuts 507 = .ok (.iastore, 1) := by decide +kernel
theorem dX10_cuts_508 : decode cX10_cuts 508 = .ok (.aload_n 0, 1) := by decide +kernel
theorem dX10_cuts_509 : decode cX10_cuts 509 = .ok (.invokevirtual 181, 3) := by decide +kernel
theorem dX10_cuts_512 : decode cX10_cuts 512 = .ok (.aload_n 0, 1) := by decide +kernel
theorem dX10_cuts_513 : decode cX10_cuts 513 = .ok (.invokevirtual 162, 3) := by decide +kernel
theorem dX10_cuts_516 : decode cX10_cuts 516 = .ok (.istore 11, 2) := by decide +kernel
theorem dX10_cuts_518 : decode cX10_cuts 518 = .ok (.iinc 6 (-1), 3) := by decide +kernel
theorem dX10_cuts_521 : decode cX10_cuts 521 = .ok (.goto (-337), 3) := by decide +kernel
theorem dX10_cuts_524 : decode cX10_cuts 524 = .ok (.iconst 0, 1) := by decide +kernel
theorem dX10_cuts_525 : decode cX10_cuts 525 = .ok (.istore 6, 2) := by decide +kernel
theorem dX10_cuts_527 : decode cX10_cuts 527 = .ok (.iload 6, 2) := by decide +kernel
theorem dX10_cuts_529 : decode cX10_cuts 529 = .ok (.aload_n 0, 1) := by decide +kernel
theorem dX10_cuts_530 : decode cX10_cuts 530 = .ok (.getfield 9, 3) := by decide +kernel
theorem dX10_cuts_533 : decode cX10_cuts 533 = .ok (.sipush 438, 3) := by decide +kernel
theorem dX10_cuts_536 : decode cX10_cuts 536 = .ok (.iaload, 1) := by decide +kernel
theorem dX10_cuts_537 : decode cX10_cuts 537 = .ok (.if_icmp .ge 63, 3) := by decide +kernel
theorem dX10_cuts_540 : decode cX10_cuts 540 = .ok (.aload_n 0, 1) := by decide +kernel
theorem dX10_cuts_541 : decode cX10_cuts 541 = .ok (.getfield 9, 3) := by decide +kernel
theorem dX10_cuts_544 : decode cX10_cuts 544 = .ok (.sipush 439, 3) := by decide +kernel
theorem dX10_cuts_547 : decode cX10_cuts 547 = .ok (.iconst 2, 1) := by decide +kernel
theorem dX10_cuts_548 : decode cX10_cuts 548 = .ok (.iload 6, 2) := by decide +kernel
theorem dX10_cuts_550 : decode cX10_cuts 550 = .ok (.imul, 1) := by decide +kernel
theorem dX10_cuts_551 : decode cX10_cuts 551 = .ok (.iadd, 1) := by decide +kernel
theorem dX10_cuts_552 : decode cX10_cuts 552 = .ok (.iaload, 1) := by decide +kernel
theorem dX10_cuts_553 : decode cX10_cuts 553 = .ok (.istore 7, 2) := by decide +kernel
theorem dX10_cuts_555 : decode cX10_cuts 555 = .ok (.aload_n 0, 1) := by decide +kernel
theorem dX10_cuts_556 : decode cX10_cuts 556 = .ok (.getfield 9, 3) := by decide +kernel
theorem dX10_cuts_559 : decode cX10_cuts 559 = .ok (.sipush 439, 3) := by decide +kernel
theorem dX10_cuts_562 : decode cX10_cuts 562 = .ok (.iconst 2, 1) := by decide +kernel
theorem dX10_cuts_563 : decode cX10_cuts 563 = .ok (.iload 6, 2) := by decide +kernel
theorem dX10_cuts_565 : decode cX10_cuts 565 = .ok (.imul, 1) := by decide +kernel
theorem dX10_cuts_566 : decode cX10_cuts 566 = .ok (.iadd, 1) := by decide +kernel
theorem dX10_cuts_567 : decode cX10_cuts 567 = .ok (.iload 7, 2) := by decide +kernel
theorem dX10_cuts_569 : decode cX10_cuts 569 = .ok (.iload_n 2, 1) := by decide +kernel
theorem dX10_cuts_570 : decode cX10_cuts 570 = .ok (.if_icmp .lt 11, 3) := by decide +kernel
theorem dX10_cuts_573 : decode cX10_cuts 573 = .ok (.iload 7, 2) := by decide +kernel
theorem dX10_cuts_575 : decode cX10_cuts 575 = .ok (.iload 5, 2) := by decide +kernel
theorem dX10_cuts_577 : decode cX10_cuts 577 = .ok (.isub, 1) := by decide +kernel
theorem dX10_cuts_578 : decode cX10_cuts 578 = .ok (.goto 15, 3) := by decide +kernel
theorem dX10_cuts_581 : decode cX10_cuts 581 = .ok (.iload 7, 2) := by decide +kernel
theorem dX10_cuts_583 : decode cX10_cuts 583 = .ok (.iload_n 1, 1) := by decide +kernel
theorem dX10_cuts_584 : decode cX10_cuts 584 = .ok (.if_icmp .le 7, 3) := by decide +kernel
theorem dX10_cuts_587 : decode cX10_cuts 587 = .ok (.iload_n 1, 1) := by decide +kernel
theorem dX10_cuts_588 : decode cX10_cuts 588 = .ok (.goto 5, 3) := by decide +kernel
theorem dX10_cuts_591 : decode cX10_cuts 591 = .ok (.iload 7, 2) := by decide +kernel
theorem dX10_cuts_593 : decode cX10_cuts 593 = .ok (.iastore, 1) := by decide +kernel
theorem dX10_cuts_594 : decode cX10_cuts 594 = .ok (.iinc 6 1, 3) := by decide +kernel
theorem dX10_cuts_597 : decode cX10_cuts 597 = .ok (.goto (-70), 3) := by decide +kernel
theorem dX10_cuts_600 : decode cX10_cuts 600 = .ok (.aload_n 0, 1) := by decide +kernel
theorem dX10_cuts_601 : decode cX10_cuts 601 = .ok (.getfield 9, 3) := by decide +kernel
theorem dX10_cuts_604 : decode cX10_cuts 604 = .ok (.sipush 438, 3) := by decide +kernel
theorem dX10_cuts_607 : decode cX10_cuts 607 = .ok (.iaload, 1) := by decide +kernel
theorem dX10_cuts_608 : decode cX10_cuts 608 = .ok (.iconst 1, 1) := by decide +kernel
theorem dX10_cuts_609 : decode cX10_cuts 609 = .ok (.isub, 1) := by decide +kernel
theorem dX10_cuts_610 : decode cX10_cuts 610 = .ok (.istore 6, 2) := by decide +kernel
theorem dX10_cuts_612 : decode cX10_cuts 612 = .ok (.iload 6, 2) := by decide +kernel
theorem dX10_cuts_614 : decode cX10_cuts 614 = .ok (.ifCond .le 46, 3) := by decide +kernel
theorem dX10_cuts_617 : decode cX10_cuts 617 = .ok (.aload_n 0, 1) := by decide +kernel
theorem dX10_cuts_618 : decode cX10_cuts 618 = .ok (.getfield 9, 3) := by decide +kernel
theorem dX10_cuts_621 : decode cX10_cuts 621 = .ok (.sipush 439, 3) := by decide +kernel
theorem dX10_cuts_624 : decode cX10_cuts 624 = .ok (.iconst 2, 1) := by decide +kernel
theorem dX10_cuts_625 : decode cX10_cuts 625 = .ok (.iload 6, 2) := by decide +kernel
theorem dX10_cuts_627 : decode cX10_cuts 627 = .ok (.imul, 1) := by decide +kernel
theorem dX10_cuts_628 : decode cX10_cuts 628 = .ok (.iadd, 1) := by decide +kernel
theorem dX10_cuts_629 : decode cX10_cuts 629 = .ok (.iaload, 1) := by decide +kernel
theorem dX10_cuts_630 : decode cX10_cuts 630 = .ok (.aload_n 0, 1) := by decide +kernel
theorem dX10_cuts_631 : decode cX10_cuts 631 = .ok (.getfield 9, 3) := by decide +kernel
theorem dX10_cuts_634 : decode cX10_cuts 634 = .ok (.sipush 439, 3) := by decide +kernel
theorem dX10_cuts_637 : decode cX10_cuts 637 = .ok (.iconst 2, 1) := by decide +kernel
theorem dX10_cuts_638 : decode cX10_cuts 638 = .ok (.iload 6, 2) := by decide +kernel
theorem dX10_cuts_640 : decode cX10_cuts 640 = .ok (.imul, 1) := by decide +kernel
theorem dX10_cuts_641 : decode cX10_cuts 641 = .ok (.iadd, 1) := by decide +kernel
theorem dX10_cuts_642 : decode cX10_cuts 642 = .ok (.iconst 2, 1) := by decide +kernel
theorem dX10_cuts_643 : decode cX10_cuts 643 = .ok (.isub, 1) := by decide +kernel
theorem dX10_cuts_644 : decode cX10_cuts 644 = .ok (.iaload, 1) := by decide +kernel
theorem dX10_cuts_645 : decode cX10_cuts 645 = .ok (.if_icmp .ne 9, 3) := by decide +kernel
theorem dX10_cuts_648 : decode cX10_cuts 648 = .ok (.aload_n 0, 1) := by decide +kernel
theorem dX10_cuts_649 : decode cX10_cuts 649 = .ok (.iload 6, 2) := by decide +kernel
theorem dX10_cuts_651 : decode cX10_cuts 651 = .ok (.invokevirtual 187, 3) := by decide +kernel
theorem dX10_cuts_654 : decode cX10_cuts 654 = .ok (.iinc 6 (-1), 3) := by decide +kernel
theorem dX10_cuts_657 : decode cX10_cuts 657 = .ok (.goto (-45), 3) := by decide +kernel
theorem dX10_cuts_660 : decode cX10_cuts 660 = .ok (.iload 4, 2) := by decide +kernel
theorem dX10_cuts_662 : decode cX10_cuts 662 = .ok (.ireturn, 1) := by decide +kernel
theorem dX10_cut_0 : decode cX10_cut 0 = .ok (.aload_n 0, 1) := by decide +kernel
theorem dX10_cut_1 : decode cX10_cut 1 = .ok (.invokevirtual 107, 3) := by decide +kernel
theorem dX10_cut_4 : decode cX10_cut 4 = .ok (.aload_n 0, 1) := by decide +kernel
theorem dX10_cut_5 : decode cX10_cut 5 = .ok (.iload_n 1, 1) := by decide +kernel
theorem dX10_cut_6 : decode cX10_cut 6 = .ok (.iload_n 2, 1) := by decide +kernel
theorem dX10_cut_7 : decode cX10_cut 7 = .ok (.invokevirtual 190, 3) := by decide +kernel
theorem dX10_cut_10 : decode cX10_cut 10 = .ok (.istore_n 3, 1) := by decide +kernel
theorem dX10_cut_11 : decode cX10_cut 11 = .ok (.iload_n 3, 1) := by decide +kernel
theorem dX10_cut_12 : decode cX10_cut 12 = .ok (.ifCond .ge 7, 3) := by decide +kernel
theorem dX10_cut_15 : decode cX10_cut 15 = .ok (.iload_n 3, 1) := by decide +kernel
theorem dX10_cut_16 : decode cX10_cut 16 = .ok (.goto 8, 3) := by decide +kernel
theorem dX10_cut_19 : decode cX10_cut 19 = .ok (.aload_n 0, 1) := by decide +kernel
theorem dX10_cut_20 : decode cX10_cut 20 = .ok (.iload_n 3, 1) := by decide +kernel
theorem dX10_cut_21 : decode cX10_cut 21 = .ok (.invokevirtual 110, 3) := by decide +kernel
theorem dX10_cut_24 : decode cX10_cut 24 = .ok (.ireturn, 1) := by decide +kernel
theorem dX10_findsHushes_0 : decode cX10_findsHushes 0 = .ok (.aload_n 0, 1) := by decide +kernel
theorem dX10_findsHushes_1 : decode cX10_findsHushes 1 = .ok (.invokevirtual 152, 3) := by decide +kernel
theorem dX10_findsHushes_4 : decode cX10_findsHushes 4 = .ok (.aload_n 0, 1) := by decide +kernel
theorem dX10_findsHushes_5 : decode cX10_findsHushes 5 = .ok (.iconst 0, 1) := by decide +kernel
theorem dX10_findsHushes_6 : decode cX10_findsHushes 6 = .ok (.putfield 193, 3) := by decide +kernel
theorem dX10_findsHushes_9 : decode cX10_findsHushes 9 = .ok (.iconst 0, 1) := by decide +kernel
theorem dX10_findsHushes_10 : decode cX10_findsHushes 10 = .ok (.istore_n 3, 1) := by decide +kernel
theorem dX10_findsHushes_11 : decode cX10_findsHushes 11 = .ok (.aload_n 0, 1) := by decide +kernel
theorem dX10_findsHushes_12 : decode cX10_findsHushes 12 = .ok (.invokevirtual 155, 3) := by decide +kernel
theorem dX10_findsHushes_15 : decode cX10_findsHushes 15 = .ok (.istore 4, 2) := by decide +kernel
theorem dX10_findsHushes_17 : decode cX10_findsHushes 17 = .ok (.iconst 0, 1) := by decide +kernel
theorem dX10_findsHushes_18 : decode cX10_findsHushes 18 = .ok (.istore 5, 2) := by decide +kernel
theorem dX10_findsHushes_20 : decode cX10_findsHushes 20 = .ok (.iload 5, 2) := by decide +kernel
theorem dX10_findsHushes_22 : decode cX10_findsHushes 22 = .ok (.iload 4, 2) := by decide +kernel
theorem dX10_findsHushes_24 : decode cX10_findsHushes 24 = .ok (.if_icmp .gt 103, 3) := by decide +kernel
theorem dX10_findsHushes_27 : decode cX10_findsHushes 27 = .ok (.iload 5, 2) := by decide +kernel
theorem dX10_findsHushes_29 : decode cX10_findsHushes 29 = .ok (.iload 4, 2) := by decide +kernel
theorem dX10_findsHushes_31 : decode cX10_findsHushes 31 = .ok (.if_icmp .ge 25, 3) := by decide +kernel
theorem dX10_findsHushes_34 : decode cX10_findsHushes 34 = .ok (.aload_n 0, 1) := by decide +kernel
theorem dX10_findsHushes_35 : decode cX10_findsHushes 35 = .ok (.iload 5, 2) := by decide +kernel
theorem dX10_findsHushes_37 : decode cX10_findsHushes 37 = .ok (.aload_n 0, 1) := by decide +kernel
theorem dX10_findsHushes_38 : decode cX10_findsHushes 38 = .ok (.getfield 9, 3) := by decide +kernel
theorem dX10_findsHushes_41 : decode cX10_findsHushes 41 = .ok (.sipush 465, 3) := by decide +kernel
theorem dX10_findsHushes_44 : decode cX10_findsHushes 44 = .ok (.iaload, 1) := by decide +kernel
theorem dX10_findsHushes_45 : decode cX10_findsHushes 45 = .ok (.invokevirtual 196, 3) := by decide +kernel
theorem dX10_findsHushes_48 : decode cX10_findsHushes 48 = .ok (.iload_n 1, 1) := by decide +kernel
theorem dX10_findsHushes_49 : decode cX10_findsHushes 49 = .ok (.if_icmp .ge 7, 3) := by decide +kernel
theorem dX10_findsHushes_52 : decode cX10_findsHushes 52 = .ok (.iconst 1, 1) := by decide +kernel
theorem dX10_findsHushes_53 : decode cX10_findsHushes 53 = .ok (.goto 4, 3) := by decide +kernel
theorem dX10_findsHushes_56 : decode cX10_findsHushes 56 = .ok (.iconst 0, 1) := by decide +kernel
theorem dX10_findsHushes_57 : decode cX10_findsHushes 57 = .ok (.istore 6, 2) := by decide +kernel
theorem dX10_findsHushes_59 : decode cX10_findsHushes 59 = .ok (.iload 6, 2) := by decide +kernel
theorem dX10_findsHushes_61 : decode cX10_findsHushes 61 = .ok (.ifCond .ne 47, 3) := by decide +kernel
theorem dX10_findsHushes_64 : decode cX10_findsHushes 64 = .ok (.iload_n 3, 1) := by decide +kernel
theorem dX10_findsHushes_65 : decode cX10_findsHushes 65 = .ok (.iload_n 2, 1) := by decide +kernel
theorem dX10_findsHushes_66 : decode cX10_findsHushes 66 = .ok (.if_icmp .lt 42, 3) := by decide +kernel
theorem dX10_findsHushes_69 : decode cX10_findsHushes 69 = .ok (.aload_n 0, 1) := by decide +kernel
theorem dX10_findsHushes_70 : decode cX10_findsHushes 70 = .ok (.getfield 53, 3) := by decide +kernel
theorem dX10_findsHushes_73 : decode cX10_findsHushes 73 = .ok (.iconst 2, 1) := by decide +kernel
theorem dX10_findsHushes_74 : decode cX10_findsHushes 74 = .ok (.aload_n 0, 1) := by decide +kernel
theorem dX10_findsHushes_75 : decode cX10_findsHushes 75 = .ok (.getfield 193, 3) := by decide +kernel
theorem dX10_findsHushes_78 : decode cX10_findsHushes 78 = .ok (.imul, 1) := by decide +kernel
theorem dX10_findsHushes_79 : decode cX10_findsHushes 79 = .ok (.iload 5, 2) := by decide +kernel
theorem dX10_findsHushes_81 : decode cX10_findsHushes 81 = .ok (.iload_n 3, 1) := by decide +kernel
theorem dX10_findsHushes_82 : decode cX10_findsHushes 82 = .ok (.isub, 1) := by decide +kernel
theorem dX10_findsHushes_83 : decode cX10_findsHushes 83 = .ok (.iastore, 1) := by decide +kernel
theorem dX10_findsHushes_84 : decode cX10_findsHushes 84 = .ok (.aload_n 0, 1) := by decide +kernel
theorem dX10_findsHushes_85 : decode cX10_findsHushes 85 = .ok (.getfield 53, 3) := by decide +kernel
theorem dX10_findsHushes_88 : decode cX10_findsHushes 88 = .ok (.iconst 2, 1) := by decide +kernel
theorem dX10_findsHushes_89 : decode cX10_findsHushes 89 = .ok (.aload_n 0, 1) := by decide +kernel
theorem dX10_findsHushes_90 : decode cX10_findsHushes 90 = .ok (.getfield 193, 3) := by decide +kernel
theorem dX10_findsHushes_93 : decode cX10_findsHushes 93 = .ok (.imul, 1) := by decide +kernel
theorem dX10_findsHushes_94 : decode cX10_findsHushes 94 = .ok (.iconst 1, 1) := by decide +kernel
theorem dX10_findsHushes_95 : decode cX10_findsHushes 95 = .ok (.iadd, 1) := by decide +kernel
theorem dX10_findsHushes_96 : decode cX10_findsHushes 96 = .ok (.iload_n 3, 1) := by decide +kernel
theorem dX10_findsHushes_97 : decode cX10_findsHushes 97 = .ok (.iastore, 1) := by decide +kernel
theorem dX10_findsHushes_98 : decode cX10_findsHushes 98 = .ok (.aload_n 0, 1) := by decide +kernel
theorem dX10_findsHushes_99 : decode cX10_findsHushes 99 = .ok (.dup, 1) := by decide +kernel
theorem dX10_findsHushes_100 : decode cX10_findsHushes 100 = .ok (.getfield 193, 3) := by decide +kernel
theorem dX10_findsHushes_103 : decode cX10_findsHushes 103 = .ok (.iconst 1, 1) := by decide +kernel
theorem dX10_findsHushes_104 : decode cX10_findsHushes 104 = .ok (.iadd, 1) := by decide +kernel
theorem dX10_findsHushes_105 : decode cX10_findsHushes 105 = .ok (.putfield 193, 3) := by decide +kernel
theorem dX10_findsHushes_108 : decode cX10_findsHushes 108 = .ok (.iload 6, 2) := by decide +kernel
theorem dX10_findsHushes_110 : decode cX10_findsHushes 110 = .ok (.ifCond .eq 9, 3) := by decide +kernel
theorem dX10_findsHushes_113 : decode cX10_findsHushes 113 = .ok (.iload_n 3, 1) := by decide +kernel
theorem dX10_findsHushes_114 : decode cX10_findsHushes 114 = .ok (.iconst 1, 1) := by decide +kernel
theorem dX10_findsHushes_115 : decode cX10_findsHushes 115 = .ok (.iadd, 1) := by decide +kernel
theorem dX10_findsHushes_116 : decode cX10_findsHushes 116 = .ok (.goto 4, 3) := by decide +kernel
theorem dX10_findsHushes_119 : decode cX10_findsHushes 119 = .ok (.iconst 0, 1) := by decide +kernel
theorem dX10_findsHushes_120 : decode cX10_findsHushes 120 = .ok (.istore_n 3, 1) := by decide +kernel
theorem dX10_findsHushes_121 : decode cX10_findsHushes 121 = .ok (.iinc 5 1, 3) := by decide +kernel
theorem dX10_findsHushes_124 : decode cX10_findsHushes 124 = .ok (.goto (-104), 3) := by decide +kernel
theorem dX10_findsHushes_127 : decode cX10_findsHushes 127 = .ok (.return_, 1) := by decide +kernel
theorem dX10_isHush_0 : decode cX10_isHush 0 = .ok (.iload_n 0, 1) := by decide +kernel
theorem dX10_isHush_1 : decode cX10_isHush 1 = .ok (.iconst 1, 1) := by decide +kernel
theorem dX10_isHush_2 : decode cX10_isHush 2 = .ok (.sipush 999, 3) := by decide +kernel
theorem dX10_isHush_5 : decode cX10_isHush 5 = .ok (.invokestatic 103, 3) := by decide +kernel
theorem dX10_isHush_8 : decode cX10_isHush 8 = .ok (.ifCond .eq 18, 3) := by decide +kernel
theorem dX10_isHush_11 : decode cX10_isHush 11 = .ok (.iload_n 1, 1) := by decide +kernel
theorem dX10_isHush_12 : decode cX10_isHush 12 = .ok (.iconst 1, 1) := by decide +kernel
theorem dX10_isHush_13 : decode cX10_isHush 13 = .ok (.sipush 600, 3) := by decide +kernel
theorem dX10_isHush_16 : decode cX10_isHush 16 = .ok (.invokestatic 103, 3) := by decide +kernel
theorem dX10_isHush_19 : decode cX10_isHush 19 = .ok (.ifCond .eq 7, 3) := by decide +kernel
theorem dX10_isHush_22 : decode cX10_isHush 22 = .ok (.iconst 1, 1) := by decide +kernel
theorem dX10_isHush_23 : decode cX10_isHush 23 = .ok (.goto 4, 3) := by decide +kernel
theorem dX10_isHush_26 : decode cX10_isHush 26 = .ok (.iconst 0, 1) := by decide +kernel
theorem dX10_isHush_27 : decode cX10_isHush 27 = .ok (.ireturn, 1) := by decide +kernel
theorem dX10_silence_0 : decode cX10_silence 0 = .ok (.iload_n 1, 1) := by decide +kernel
theorem dX10_silence_1 : decode cX10_silence 1 = .ok (.iload_n 2, 1) := by decide +kernel
theorem dX10_silence_2 : decode cX10_silence 2 = .ok (.invokestatic 199, 3) := by decide +kernel
theorem dX10_silence_5 : decode cX10_silence 5 = .ok (.ifCond .ne 6, 3) := by decide +kernel
theorem dX10_silence_8 : decode cX10_silence 8 = .ok (.bipush (-2), 2) := by decide +kernel
theorem dX10_silence_10 : decode cX10_silence 10 = .ok (.ireturn, 1) := by decide +kernel
theorem dX10_silence_11 : decode cX10_silence 11 = .ok (.aload_n 0, 1) := by decide +kernel
theorem dX10_silence_12 : decode cX10_silence 12 = .ok (.iload_n 1, 1) := by decide +kernel
theorem dX10_silence_13 : decode cX10_silence 13 = .ok (.iload_n 2, 1) := by decide +kernel
theorem dX10_silence_14 : decode cX10_silence 14 = .ok (.invokevirtual 202, 3) := by decide +kernel
theorem dX10_silence_17 : decode cX10_silence 17 = .ok (.iload_n 3, 1) := by decide +kernel
theorem dX10_silence_18 : decode cX10_silence 18 = .ok (.iconst (-1), 1) := by decide +kernel
theorem dX10_silence_19 : decode cX10_silence 19 = .ok (.if_icmp .ne 8, 3) := by decide +kernel
theorem dX10_silence_22 : decode cX10_silence 22 = .ok (.aload_n 0, 1) := by decide +kernel
theorem dX10_silence_23 : decode cX10_silence 23 = .ok (.getfield 193, 3) := by decide +kernel
theorem dX10_silence_26 : decode cX10_silence 26 = .ok (.ireturn, 1) := by decide +kernel
theorem dX10_silence_27 : decode cX10_silence 27 = .ok (.iload_n 3, 1) := by decide +kernel
theorem dX10_silence_28 : decode cX10_silence 28 = .ok (.iconst 0, 1) := by decide +kernel
theorem dX10_silence_29 : decode cX10_silence 29 = .ok (.aload_n 0, 1) := by decide +kernel
theorem dX10_silence_30 : decode cX10_silence 30 = .ok (.getfield 193, 3) := by decide +kernel
theorem dX10_silence_33 : decode cX10_silence 33 = .ok (.iconst 1, 1) := by decide +kernel
theorem dX10_silence_34 : decode cX10_silence 34 = .ok (.isub, 1) := by decide +kernel
theorem dX10_silence_35 : decode cX10_silence 35 = .ok (.invokestatic 103, 3) := by decide +kernel
theorem dX10_silence_38 : decode cX10_silence 38 = .ok (.ifCond .ne 5, 3) := by decide +kernel
theorem dX10_silence_41 : decode cX10_silence 41 = .ok (.iconst (-1), 1) := by decide +kernel
theorem dX10_silence_42 : decode cX10_silence 42 = .ok (.ireturn, 1) := by decide +kernel
theorem dX10_silence_43 : decode cX10_silence 43 = .ok (.iload 4, 2) := by decide +kernel
theorem dX10_silence_45 : decode cX10_silence 45 = .ok (.iconst 0, 1) := by decide +kernel
theorem dX10_silence_46 : decode cX10_silence 46 = .ok (.iconst 1, 1) := by decide +kernel
theorem dX10_silence_47 : decode cX10_silence 47 = .ok (.invokestatic 103, 3) := by decide +kernel
theorem dX10_silence_50 : decode cX10_silence 50 = .ok (.ifCond .eq 17, 3) := by decide +kernel
theorem dX10_silence_53 : decode cX10_silence 53 = .ok (.aload_n 0, 1) := by decide +kernel
theorem dX10_silence_54 : decode cX10_silence 54 = .ok (.getfield 53, 3) := by decide +kernel
theorem dX10_silence_57 : decode cX10_silence 57 = .ok (.iconst 2, 1) := by decide +kernel
theorem dX10_silence_58 : decode cX10_silence 58 = .ok (.iload_n 3, 1) := by decide +kernel
theorem dX10_silence_59 : decode cX10_silence 59 = .ok (.imul, 1) := by decide +kernel
theorem dX10_silence_60 : decode cX10_silence 60 = .ok (.iload 4, 2) := by decide +kernel
theorem dX10_silence_62 : decode cX10_silence 62 = .ok (.iadd, 1) := by decide +kernel
theorem dX10_silence_63 : decode cX10_silence 63 = .ok (.iaload, 1) := by decide +kernel
theorem dX10_silence_64 : decode cX10_silence 64 = .ok (.goto 5, 3) := by decide +kernel
theorem dX10_silence_67 : decode cX10_silence 67 = .ok (.bipush (-2), 2) := by decide +kernel
theorem dX10_silence_69 : decode cX10_silence 69 = .ok (.ireturn, 1) := by decide +kernel
theorem dX10_tighten_0 : decode cX10_tighten 0 = .ok (.iload_n 1, 1) := by decide +kernel
theorem dX10_tighten_1 : decode cX10_tighten 1 = .ok (.iload_n 2, 1) := by decide +kernel
theorem dX10_tighten_2 : decode cX10_tighten 2 = .ok (.invokestatic 199, 3) := by decide +kernel
theorem dX10_tighten_5 : decode cX10_tighten 5 = .ok (.ifCond .ne 6, 3) := by decide +kernel
theorem dX10_tighten_8 : decode cX10_tighten 8 = .ok (.bipush (-2), 2) := by decide +kernel
theorem dX10_tighten_10 : decode cX10_tighten 10 = .ok (.ireturn, 1) := by decide +kernel
theorem dX10_tighten_11 : decode cX10_tighten 11 = .ok (.aload_n 0, 1) := by decide +kernel
theorem dX10_tighten_12 : decode cX10_tighten 12 = .ok (.invokevirtual 107, 3) := by decide +kernel
theorem dX10_tighten_15 : decode cX10_tighten 15 = .ok (.aload_n 0, 1) := by decide +kernel
theorem dX10_tighten_16 : decode cX10_tighten 16 = .ok (.iload_n 1, 1) := by decide +kernel
theorem dX10_tighten_17 : decode cX10_tighten 17 = .ok (.iload_n 2, 1) := by decide +kernel
theorem dX10_tighten_18 : decode cX10_tighten 18 = .ok (.invokevirtual 202, 3) := by decide +kernel
theorem dX10_tighten_21 : decode cX10_tighten 21 = .ok (.aload_n 0, 1) := by decide +kernel
theorem dX10_tighten_22 : decode cX10_tighten 22 = .ok (.getfield 9, 3) := by decide +kernel
theorem dX10_tighten_25 : decode cX10_tighten 25 = .ok (.aload_n 0, 1) := by decide +kernel
theorem dX10_tighten_26 : decode cX10_tighten 26 = .ok (.getfield 28, 3) := by decide +kernel
theorem dX10_tighten_29 : decode cX10_tighten 29 = .ok (.invokestatic 78, 3) := by decide +kernel
theorem dX10_tighten_32 : decode cX10_tighten 32 = .ok (.iconst 0, 1) := by decide +kernel
theorem dX10_tighten_33 : decode cX10_tighten 33 = .ok (.istore_n 3, 1) := by decide +kernel
theorem dX10_tighten_34 : decode cX10_tighten 34 = .ok (.aload_n 0, 1) := by decide +kernel
theorem dX10_tighten_35 : decode cX10_tighten 35 = .ok (.getfield 193, 3) := by decide +kernel
theorem dX10_tighten_38 : decode cX10_tighten 38 = .ok (.iconst 1, 1) := by decide +kernel
theorem dX10_tighten_39 : decode cX10_tighten 39 = .ok (.isub, 1) := by decide +kernel
theorem dX10_tighten_40 : decode cX10_tighten 40 = .ok (.istore 4, 2) := by decide +kernel
theorem dX10_tighten_42 : decode cX10_tighten 42 = .ok (.iload 4, 2) := by decide +kernel
theorem dX10_tighten_44 : decode cX10_tighten 44 = .ok (.ifCond .lt 99, 3) := by decide +kernel
theorem dX10_tighten_47 : decode cX10_tighten 47 = .ok (.aload_n 0, 1) := by decide +kernel
theorem dX10_tighten_48 : decode cX10_tighten 48 = .ok (.getfield 53, 3) := by decide +kernel
theorem dX10_tighten_51 : decode cX10_tighten 51 = .ok (.iconst 2, 1) := by decide +kernel
theorem dX10_tighten_52 : decode cX10_tighten 52 = .ok (.iload 4, 2) := by decide +kernel
theorem dX10_tighten_54 : decode cX10_tighten 54 = .ok (.imul, 1) := by decide +kernel
theorem dX10_tighten_55 : decode cX10_tighten 55 = .ok (.iconst 1, 1) := by decide +kernel
theorem dX10_tighten_56 : decode cX10_tighten 56 = .ok (.iadd, 1) := by decide +kernel
theorem dX10_tighten_57 : decode cX10_tighten 57 = .ok (.iaload, 1) := by decide +kernel
theorem dX10_tighten_58 : decode cX10_tighten 58 = .ok (.iload_n 2, 1) := by decide +kernel
theorem dX10_tighten_59 : decode cX10_tighten 59 = .ok (.if_icmp .ne 6, 3) := by decide +kernel
theorem dX10_tighten_62 : decode cX10_tighten 62 = .ok (.goto 75, 3) := by decide +kernel
theorem dX10_tighten_65 : decode cX10_tighten 65 = .ok (.iload_n 3, 1) := by decide +kernel
theorem dX10_tighten_66 : decode cX10_tighten 66 = .ok (.aload_n 0, 1) := by decide +kernel
theorem dX10_tighten_67 : decode cX10_tighten 67 = .ok (.getfield 53, 3) := by decide +kernel
theorem dX10_tighten_70 : decode cX10_tighten 70 = .ok (.iconst 2, 1) := by decide +kernel
theorem dX10_tighten_71 : decode cX10_tighten 71 = .ok (.iload 4, 2) := by decide +kernel
theorem dX10_tighten_73 : decode cX10_tighten 73 = .ok (.imul, 1) := by decide +kernel
theorem dX10_tighten_74 : decode cX10_tighten 74 = .ok (.iconst 1, 1) := by decide +kernel
theorem dX10_tighten_75 : decode cX10_tighten 75 = .ok (.iadd, 1) := by decide +kernel
theorem dX10_tighten_76 : decode cX10_tighten 76 = .ok (.iaload, 1) := by decide +kernel
theorem dX10_tighten_77 : decode cX10_tighten 77 = .ok (.iload_n 2, 1) := by decide +kernel
theorem dX10_tighten_78 : decode cX10_tighten 78 = .ok (.isub, 1) := by decide +kernel
theorem dX10_tighten_79 : decode cX10_tighten 79 = .ok (.iadd, 1) := by decide +kernel
theorem dX10_tighten_80 : decode cX10_tighten 80 = .ok (.istore_n 3, 1) := by decide +kernel
theorem dX10_tighten_81 : decode cX10_tighten 81 = .ok (.aload_n 0, 1) := by decide +kernel
theorem dX10_tighten_82 : decode cX10_tighten 82 = .ok (.aload_n 0, 1) := by decide +kernel
theorem dX10_tighten_83 : decode cX10_tighten 83 = .ok (.getfield 53, 3) := by decide +kernel
theorem dX10_tighten_86 : decode cX10_tighten 86 = .ok (.iconst 2, 1) := by decide +kernel
theorem dX10_tighten_87 : decode cX10_tighten 87 = .ok (.iload 4, 2) := by decide +kernel
theorem dX10_tighten_89 : decode cX10_tighten 89 = .ok (.imul, 1) := by decide +kernel
theorem dX10_tighten_90 : decode cX10_tighten 90 = .ok (.iaload, 1) := by decide +kernel
theorem dX10_tighten_91 : decode cX10_tighten 91 = .ok (.iload_n 2, 1) := by decide +kernel
theorem dX10_tighten_92 : decode cX10_tighten 92 = .ok (.iadd, 1) := by decide +kernel
theorem dX10_tighten_93 : decode cX10_tighten 93 = .ok (.aload_n 0, 1) := by decide +kernel
theorem dX10_tighten_94 : decode cX10_tighten 94 = .ok (.getfield 53, 3) := by decide +kernel
theorem dX10_tighten_97 : decode cX10_tighten 97 = .ok (.iconst 2, 1) := by decide +kernel
theorem dX10_tighten_98 : decode cX10_tighten 98 = .ok (.iload 4, 2) := by decide +kernel
theorem dX10_tighten_100 : decode cX10_tighten 100 = .ok (.imul, 1) := by decide +kernel
theorem dX10_tighten_101 : decode cX10_tighten 101 = .ok (.iaload, 1) := by decide +kernel
theorem dX10_tighten_102 : decode cX10_tighten 102 = .ok (.aload_n 0, 1) := by decide +kernel
theorem dX10_tighten_103 : decode cX10_tighten 103 = .ok (.getfield 53, 3) := by decide +kernel
theorem dX10_tighten_106 : decode cX10_tighten 106 = .ok (.iconst 2, 1) := by decide +kernel
theorem dX10_tighten_107 : decode cX10_tighten 107 = .ok (.iload 4, 2) := by decide +kernel
theorem dX10_tighten_109 : decode cX10_tighten 109 = .ok (.imul, 1) := by decide +kernel
theorem dX10_tighten_110 : decode cX10_tighten 110 = .ok (.iconst 1, 1) := by decide +kernel
theorem dX10_tighten_111 : decode cX10_tighten 111 = .ok (.iadd, 1) := by decide +kernel
theorem dX10_tighten_112 : decode cX10_tighten 112 = .ok (.iaload, 1) := by decide +kernel
theorem dX10_tighten_113 : decode cX10_tighten 113 = .ok (.iadd, 1) := by decide +kernel
theorem dX10_tighten_114 : decode cX10_tighten 114 = .ok (.invokevirtual 190, 3) := by decide +kernel
theorem dX10_tighten_117 : decode cX10_tighten 117 = .ok (.ifCond .lt 6, 3) := by decide +kernel
theorem dX10_tighten_120 : decode cX10_tighten 120 = .ok (.goto 17, 3) := by decide +kernel
theorem dX10_tighten_123 : decode cX10_tighten 123 = .ok (.aload_n 0, 1) := by decide +kernel
theorem dX10_tighten_124 : decode cX10_tighten 124 = .ok (.getfield 28, 3) := by decide +kernel
theorem dX10_tighten_127 : decode cX10_tighten 127 = .ok (.aload_n 0, 1) := by decide +kernel
theorem dX10_tighten_128 : decode cX10_tighten 128 = .ok (.getfield 9, 3) := by decide +kernel
theorem dX10_tighten_131 : decode cX10_tighten 131 = .ok (.invokestatic 78, 3) := by decide +kernel
theorem dX10_tighten_134 : decode cX10_tighten 134 = .ok (.bipush (-3), 2) := by decide +kernel
theorem dX10_tighten_136 : decode cX10_tighten 136 = .ok (.ireturn, 1) := by decide +kernel
theorem dX10_tighten_137 : decode cX10_tighten 137 = .ok (.iinc 4 (-1), 3) := by decide +kernel
theorem dX10_tighten_140 : decode cX10_tighten 140 = .ok (.goto (-98), 3) := by decide +kernel
theorem dX10_tighten_143 : decode cX10_tighten 143 = .ok (.aload_n 0, 1) := by decide +kernel
theorem dX10_tighten_144 : decode cX10_tighten 144 = .ok (.iload_n 3, 1) := by decide +kernel
theorem dX10_tighten_145 : decode cX10_tighten 145 = .ok (.invokevirtual 110, 3) := by decide +kernel
theorem dX10_tighten_148 : decode cX10_tighten 148 = .ok (.ireturn, 1) := by decide +kernel
theorem dX10_ifCut_0 : decode cX10_ifCut 0 = .ok (.iload_n 3, 1) := by decide +kernel
theorem dX10_ifCut_1 : decode cX10_ifCut 1 = .ok (.iconst 0, 1) := by decide +kernel
theorem dX10_ifCut_2 : decode cX10_ifCut 2 = .ok (.iconst 3, 1) := by decide +kernel
theorem dX10_ifCut_3 : decode cX10_ifCut 3 = .ok (.invokestatic 103, 3) := by decide +kernel
theorem dX10_ifCut_6 : decode cX10_ifCut 6 = .ok (.ifCond .ne 6, 3) := by decide +kernel
theorem dX10_ifCut_9 : decode cX10_ifCut 9 = .ok (.bipush (-2), 2) := by decide +kernel
theorem dX10_ifCut_11 : decode cX10_ifCut 11 = .ok (.ireturn, 1) := by decide +kernel
theorem dX10_ifCut_12 : decode cX10_ifCut 12 = .ok (.aload_n 0, 1) := by decide +kernel
theorem dX10_ifCut_13 : decode cX10_ifCut 13 = .ok (.getfield 9, 3) := by decide +kernel
theorem dX10_ifCut_16 : decode cX10_ifCut 16 = .ok (.aload_n 0, 1) := by decide +kernel
theorem dX10_ifCut_17 : decode cX10_ifCut 17 = .ok (.getfield 28, 3) := by decide +kernel
theorem dX10_ifCut_20 : decode cX10_ifCut 20 = .ok (.invokestatic 78, 3) := by decide +kernel
theorem dX10_ifCut_23 : decode cX10_ifCut 23 = .ok (.aload_n 0, 1) := by decide +kernel
theorem dX10_ifCut_24 : decode cX10_ifCut 24 = .ok (.iload_n 1, 1) := by decide +kernel
theorem dX10_ifCut_25 : decode cX10_ifCut 25 = .ok (.iload_n 2, 1) := by decide +kernel
theorem dX10_ifCut_26 : decode cX10_ifCut 26 = .ok (.invokevirtual 190, 3) := by decide +kernel
theorem dX10_ifCut_29 : decode cX10_ifCut 29 = .ok (.istore 4, 2) := by decide +kernel
theorem dX10_ifCut_31 : decode cX10_ifCut 31 = .ok (.iload 4, 2) := by decide +kernel
theorem dX10_ifCut_33 : decode cX10_ifCut 33 = .ok (.ifCond .lt 64, 3) := by decide +kernel
theorem dX10_ifCut_36 : decode cX10_ifCut 36 = .ok (.aload_n 0, 1) := by decide +kernel
theorem dX10_ifCut_37 : decode cX10_ifCut 37 = .ok (.invokevirtual 152, 3) := by decide +kernel
theorem dX10_ifCut_40 : decode cX10_ifCut 40 = .ok (.iload_n 3, 1) := by decide +kernel
theorem dX10_ifCut_41 : decode cX10_ifCut 41 = .ok (.ifCond .ne 10, 3) := by decide +kernel
theorem dX10_ifCut_44 : decode cX10_ifCut 44 = .ok (.aload_n 0, 1) := by decide +kernel
theorem dX10_ifCut_45 : decode cX10_ifCut 45 = .ok (.invokevirtual 155, 3) := by decide +kernel
theorem dX10_ifCut_48 : decode cX10_ifCut 48 = .ok (.goto 47, 3) := by decide +kernel
theorem dX10_ifCut_51 : decode cX10_ifCut 51 = .ok (.iload_n 3, 1) := by decide +kernel
theorem dX10_ifCut_52 : decode cX10_ifCut 52 = .ok (.iconst 1, 1) := by decide +kernel
theorem dX10_ifCut_53 : decode cX10_ifCut 53 = .ok (.if_icmp .ne 19, 3) := by decide +kernel
theorem dX10_ifCut_56 : decode cX10_ifCut 56 = .ok (.aload_n 0, 1) := by decide +kernel
theorem dX10_ifCut_57 : decode cX10_ifCut 57 = .ok (.iconst 4, 1) := by decide +kernel
theorem dX10_ifCut_58 : decode cX10_ifCut 58 = .ok (.aload_n 0, 1) := by decide +kernel
theorem dX10_ifCut_59 : decode cX10_ifCut 59 = .ok (.getfield 9, 3) := by decide +kernel
theorem dX10_ifCut_62 : decode cX10_ifCut 62 = .ok (.sipush 465, 3) := by decide +kernel
theorem dX10_ifCut_65 : decode cX10_ifCut 65 = .ok (.iaload, 1) := by decide +kernel
theorem dX10_ifCut_66 : decode cX10_ifCut 66 = .ok (.invokevirtual 206, 3) := by decide +kernel
theorem dX10_ifCut_69 : decode cX10_ifCut 69 = .ok (.goto 26, 3) := by decide +kernel
theorem dX10_ifCut_72 : decode cX10_ifCut 72 = .ok (.iload_n 3, 1) := by decide +kernel
theorem dX10_ifCut_73 : decode cX10_ifCut 73 = .ok (.iconst 2, 1) := by decide +kernel
theorem dX10_ifCut_74 : decode cX10_ifCut 74 = .ok (.if_icmp .ne 13, 3) := by decide +kernel
theorem dX10_ifCut_77 : decode cX10_ifCut 77 = .ok (.aload_n 0, 1) := by decide +kernel
theorem dX10_ifCut_78 : decode cX10_ifCut 78 = .ok (.getfield 9, 3) := by decide +kernel
theorem dX10_ifCut_81 : decode cX10_ifCut 81 = .ok (.bipush 25, 2) := by decide +kernel
theorem dX10_ifCut_83 : decode cX10_ifCut 83 = .ok (.iaload, 1) := by decide +kernel
theorem dX10_ifCut_84 : decode cX10_ifCut 84 = .ok (.goto 11, 3) := by decide +kernel
theorem dX10_ifCut_87 : decode cX10_ifCut 87 = .ok (.aload_n 0, 1) := by decide +kernel
theorem dX10_ifCut_88 : decode cX10_ifCut 88 = .ok (.getfield 9, 3) := by decide +kernel
theorem dX10_ifCut_91 : decode cX10_ifCut 91 = .ok (.sipush 438, 3) := by decide +kernel
theorem dX10_ifCut_94 : decode cX10_ifCut 94 = .ok (.iaload, 1) := by decide +kernel
theorem dX10_ifCut_95 : decode cX10_ifCut 95 = .ok (.istore 4, 2) := by decide +kernel
theorem dX10_ifCut_97 : decode cX10_ifCut 97 = .ok (.aload_n 0, 1) := by decide +kernel
theorem dX10_ifCut_98 : decode cX10_ifCut 98 = .ok (.getfield 28, 3) := by decide +kernel
theorem dX10_ifCut_101 : decode cX10_ifCut 101 = .ok (.aload_n 0, 1) := by decide +kernel
theorem dX10_ifCut_102 : decode cX10_ifCut 102 = .ok (.getfield 9, 3) := by decide +kernel
theorem dX10_ifCut_105 : decode cX10_ifCut 105 = .ok (.invokestatic 78, 3) := by decide +kernel
theorem dX10_ifCut_108 : decode cX10_ifCut 108 = .ok (.iload 4, 2) := by decide +kernel
theorem dX10_ifCut_110 : decode cX10_ifCut 110 = .ok (.ireturn, 1) := by decide +kernel
theorem dX10_inserts_0 : decode cX10_inserts 0 = .ok (.iload_n 1, 1) := by decide +kernel
theorem dX10_inserts_1 : decode cX10_inserts 1 = .ok (.iconst 0, 1) := by decide +kernel
theorem dX10_inserts_2 : decode cX10_inserts 2 = .ok (.sipush 599, 3) := by decide +kernel
theorem dX10_inserts_5 : decode cX10_inserts 5 = .ok (.invokestatic 103, 3) := by decide +kernel
theorem dX10_inserts_8 : decode cX10_inserts 8 = .ok (.ifCond .eq 14, 3) := by decide +kernel
theorem dX10_inserts_11 : decode cX10_inserts 11 = .ok (.iload_n 2, 1) := by decide +kernel
theorem dX10_inserts_12 : decode cX10_inserts 12 = .ok (.iconst 1, 1) := by decide +kernel
theorem dX10_inserts_13 : decode cX10_inserts 13 = .ok (.sipush 600, 3) := by decide +kernel
theorem dX10_inserts_16 : decode cX10_inserts 16 = .ok (.invokestatic 103, 3) := by decide +kernel
theorem dX10_inserts_19 : decode cX10_inserts 19 = .ok (.ifCond .ne 6, 3) := by decide +kernel
theorem dX10_inserts_22 : decode cX10_inserts 22 = .ok (.bipush (-2), 2) := by decide +kernel
theorem dX10_inserts_24 : decode cX10_inserts 24 = .ok (.ireturn, 1) := by decide +kernel
theorem dX10_inserts_25 : decode cX10_inserts 25 = .ok (.iconst 0, 1) := by decide +kernel
theorem dX10_inserts_26 : decode cX10_inserts 26 = .ok (.istore_n 3, 1) := by decide +kernel
theorem dX10_inserts_27 : decode cX10_inserts 27 = .ok (.iload_n 3, 1) := by decide +kernel
theorem dX10_inserts_28 : decode cX10_inserts 28 = .ok (.aload_n 0, 1) := by decide +kernel
theorem dX10_inserts_29 : decode cX10_inserts 29 = .ok (.getfield 9, 3) := by decide +kernel
theorem dX10_inserts_32 : decode cX10_inserts 32 = .ok (.bipush 25, 2) := by decide +kernel
theorem dX10_inserts_34 : decode cX10_inserts 34 = .ok (.iaload, 1) := by decide +kernel
theorem dX10_inserts_35 : decode cX10_inserts 35 = .ok (.if_icmp .ge 50, 3) := by decide +kernel
theorem dX10_inserts_38 : decode cX10_inserts 38 = .ok (.aload_n 0, 1) := by decide +kernel
theorem dX10_inserts_39 : decode cX10_inserts 39 = .ok (.iload_n 3, 1) := by decide +kernel
theorem dX10_inserts_40 : decode cX10_inserts 40 = .ok (.iconst 1, 1) := by decide +kernel
theorem dX10_inserts_41 : decode cX10_inserts 41 = .ok (.invokevirtual 126, 3) := by decide +kernel
theorem dX10_inserts_44 : decode cX10_inserts 44 = .ok (.aload_n 0, 1) := by decide +kernel
theorem dX10_inserts_45 : decode cX10_inserts 45 = .ok (.iload_n 3, 1) := by decide +kernel
theorem dX10_inserts_46 : decode cX10_inserts 46 = .ok (.iconst 4, 1) := by decide +kernel
theorem dX10_inserts_47 : decode cX10_inserts 47 = .ok (.invokevirtual 126, 3) := by decide +kernel
theorem dX10_inserts_50 : decode cX10_inserts 50 = .ok (.iadd, 1) := by decide +kernel
theorem dX10_inserts_51 : decode cX10_inserts 51 = .ok (.iload_n 1, 1) := by decide +kernel
theorem dX10_inserts_52 : decode cX10_inserts 52 = .ok (.if_icmp .le 27, 3) := by decide +kernel
theorem dX10_inserts_55 : decode cX10_inserts 55 = .ok (.aload_n 0, 1) := by decide +kernel
theorem dX10_inserts_56 : decode cX10_inserts 56 = .ok (.iload_n 3, 1) := by decide +kernel
theorem dX10_inserts_57 : decode cX10_inserts 57 = .ok (.iconst 1, 1) := by decide +kernel
theorem dX10_inserts_58 : decode cX10_inserts 58 = .ok (.invokevirtual 126, 3) := by decide +kernel
theorem dX10_inserts_61 : decode cX10_inserts 61 = .ok (.aload_n 0, 1) := by decide +kernel
theorem dX10_inserts_62 : decode cX10_inserts 62 = .ok (.iload_n 3, 1) := by decide +kernel
theorem dX10_inserts_63 : decode cX10_inserts 63 = .ok (.iconst 4, 1) := by decide +kernel
theorem dX10_inserts_64 : decode cX10_inserts 64 = .ok (.invokevirtual 126, 3) := by decide +kernel
theorem dX10_inserts_67 : decode cX10_inserts 67 = .ok (.iadd, 1) := by decide +kernel
theorem dX10_inserts_68 : decode cX10_inserts 68 = .ok (.iload_n 2, 1) := by decide +kernel
theorem dX10_inserts_69 : decode cX10_inserts 69 = .ok (.iadd, 1) := by decide +kernel
theorem dX10_inserts_70 : decode cX10_inserts 70 = .ok (.sipush 600, 3) := by decide +kernel
theorem dX10_inserts_73 : decode cX10_inserts 73 = .ok (.if_icmp .le 6, 3) := by decide +kernel
theorem dX10_inserts_76 : decode cX10_inserts 76 = .ok (.bipush (-2), 2) := by decide +kernel
theorem dX10_inserts_78 : decode cX10_inserts 78 = .ok (.ireturn, 1) := by decide +kernel
theorem dX10_inserts_79 : decode cX10_inserts 79 = .ok (.iinc 3 1, 3) := by decide +kernel
theorem dX10_inserts_82 : decode cX10_inserts 82 = .ok (.goto (-55), 3) := by decide +kernel
theorem dX10_inserts_85 : decode cX10_inserts 85 = .ok (.iconst 0, 1) := by decide +kernel
theorem dX10_inserts_86 : decode cX10_inserts 86 = .ok (.istore_n 3, 1) := by decide +kernel
theorem dX10_inserts_87 : decode cX10_inserts 87 = .ok (.iload_n 3, 1) := by decide +kernel
theorem dX10_inserts_88 : decode cX10_inserts 88 = .ok (.aload_n 0, 1) := by decide +kernel
theorem dX10_inserts_89 : decode cX10_inserts 89 = .ok (.getfield 9, 3) := by decide +kernel
theorem dX10_inserts_92 : decode cX10_inserts 92 = .ok (.sipush 438, 3) := by decide +kernel
theorem dX10_inserts_95 : decode cX10_inserts 95 = .ok (.iaload, 1) := by decide +kernel
theorem dX10_inserts_96 : decode cX10_inserts 96 = .ok (.if_icmp .ge 48, 3) := by decide +kernel
theorem dX10_inserts_99 : decode cX10_inserts 99 = .ok (.aload_n 0, 1) := by decide +kernel
theorem dX10_inserts_100 : decode cX10_inserts 100 = .ok (.getfield 9, 3) := by decide +kernel
theorem dX10_inserts_103 : decode cX10_inserts 103 = .ok (.sipush 439, 3) := by decide +kernel
theorem dX10_inserts_106 : decode cX10_inserts 106 = .ok (.iconst 2, 1) := by decide +kernel
theorem dX10_inserts_107 : decode cX10_inserts 107 = .ok (.iload_n 3, 1) := by decide +kernel
theorem dX10_inserts_108 : decode cX10_inserts 108 = .ok (.imul, 1) := by decide +kernel
theorem dX10_inserts_109 : decode cX10_inserts 109 = .ok (.iadd, 1) := by decide +kernel
theorem dX10_inserts_110 : decode cX10_inserts 110 = .ok (.iaload, 1) := by decide +kernel
theorem dX10_inserts_111 : decode cX10_inserts 111 = .ok (.iload_n 1, 1) := by decide +kernel
theorem dX10_inserts_112 : decode cX10_inserts 112 = .ok (.if_icmp .lt 26, 3) := by decide +kernel
theorem dX10_inserts_115 : decode cX10_inserts 115 = .ok (.aload_n 0, 1) := by decide +kernel
theorem dX10_inserts_116 : decode cX10_inserts 116 = .ok (.getfield 9, 3) := by decide +kernel
theorem dX10_inserts_119 : decode cX10_inserts 119 = .ok (.sipush 439, 3) := by decide +kernel
theorem dX10_inserts_122 : decode cX10_inserts 122 = .ok (.iconst 2, 1) := by decide +kernel
theorem dX10_inserts_123 : decode cX10_inserts 123 = .ok (.iload_n 3, 1) := by decide +kernel
theorem dX10_inserts_124 : decode cX10_inserts 124 = .ok (.imul, 1) := by decide +kernel
theorem dX10_inserts_125 : decode cX10_inserts 125 = .ok (.iadd, 1) := by decide +kernel
theorem dX10_inserts_126 : decode cX10_inserts 126 = .ok (.iaload, 1) := by decide +kernel
theorem dX10_inserts_127 : decode cX10_inserts 127 = .ok (.iload_n 2, 1) := by decide +kernel
theorem dX10_inserts_128 : decode cX10_inserts 128 = .ok (.iadd, 1) := by decide +kernel
theorem dX10_inserts_129 : decode cX10_inserts 129 = .ok (.sipush 600, 3) := by decide +kernel
theorem dX10_inserts_132 : decode cX10_inserts 132 = .ok (.if_icmp .lt 6, 3) := by decide +kernel
theorem dX10_inserts_135 : decode cX10_inserts 135 = .ok (.bipush (-2), 2) := by decide +kernel
theorem dX10_inserts_137 : decode cX10_inserts 137 = .ok (.ireturn, 1) := by decide +kernel
theorem dX10_inserts_138 : decode cX10_inserts 138 = .ok (.iinc 3 1, 3) := by decide +kernel
theorem dX10_inserts_141 : decode cX10_inserts 141 = .ok (.goto (-54), 3) := by decide +kernel
theorem dX10_inserts_144 : decode cX10_inserts 144 = .ok (.aload_n 0, 1) := by decide +kernel
theorem dX10_inserts_145 : decode cX10_inserts 145 = .ok (.getfield 9, 3) := by decide +kernel
theorem dX10_inserts_148 : decode cX10_inserts 148 = .ok (.bipush 25, 2) := by decide +kernel
theorem dX10_inserts_150 : decode cX10_inserts 150 = .ok (.iaload, 1) := by decide +kernel
theorem dX10_inserts_151 : decode cX10_inserts 151 = .ok (.aload_n 0, 1) := by decide +kernel
theorem dX10_inserts_152 : decode cX10_inserts 152 = .ok (.iload_n 1, 1) := by decide +kernel
theorem dX10_inserts_153 : decode cX10_inserts 153 = .ok (.invokevirtual 209, 3) := by decide +kernel
theorem dX10_inserts_156 : decode cX10_inserts 156 = .ok (.iadd, 1) := by decide +kernel
theorem dX10_inserts_157 : decode cX10_inserts 157 = .ok (.bipush 24, 2) := by decide +kernel
theorem dX10_inserts_159 : decode cX10_inserts 159 = .ok (.if_icmp .le 6, 3) := by decide +kernel
theorem dX10_inserts_162 : decode cX10_inserts 162 = .ok (.bipush (-3), 2) := by decide +kernel
theorem dX10_inserts_164 : decode cX10_inserts 164 = .ok (.ireturn, 1) := by decide +kernel
theorem dX10_inserts_165 : decode cX10_inserts 165 = .ok (.aload_n 0, 1) := by decide +kernel
theorem dX10_inserts_166 : decode cX10_inserts 166 = .ok (.iload_n 1, 1) := by decide +kernel
theorem dX10_inserts_167 : decode cX10_inserts 167 = .ok (.invokevirtual 212, 3) := by decide +kernel
theorem dX10_inserts_170 : decode cX10_inserts 170 = .ok (.iconst 0, 1) := by decide +kernel
theorem dX10_inserts_171 : decode cX10_inserts 171 = .ok (.istore_n 3, 1) := by decide +kernel
theorem dX10_inserts_172 : decode cX10_inserts 172 = .ok (.iload_n 3, 1) := by decide +kernel
theorem dX10_inserts_173 : decode cX10_inserts 173 = .ok (.aload_n 0, 1) := by decide +kernel
theorem dX10_inserts_174 : decode cX10_inserts 174 = .ok (.getfield 9, 3) := by decide +kernel
theorem dX10_inserts_177 : decode cX10_inserts 177 = .ok (.bipush 25, 2) := by decide +kernel
theorem dX10_inserts_179 : decode cX10_inserts 179 = .ok (.iaload, 1) := by decide +kernel
theorem dX10_inserts_180 : decode cX10_inserts 180 = .ok (.if_icmp .ge 41, 3) := by decide +kernel
theorem dX10_inserts_183 : decode cX10_inserts 183 = .ok (.aload_n 0, 1) := by decide +kernel
theorem dX10_inserts_184 : decode cX10_inserts 184 = .ok (.getfield 9, 3) := by decide +kernel
theorem dX10_inserts_187 : decode cX10_inserts 187 = .ok (.bipush 26, 2) := by decide +kernel
theorem dX10_inserts_189 : decode cX10_inserts 189 = .ok (.bipush 8, 2) := by decide +kernel
theorem dX10_inserts_191 : decode cX10_inserts 191 = .ok (.iload_n 3, 1) := by decide +kernel
theorem dX10_inserts_192 : decode cX10_inserts 192 = .ok (.imul, 1) := by decide +kernel
theorem dX10_inserts_193 : decode cX10_inserts 193 = .ok (.iadd, 1) := by decide +kernel
theorem dX10_inserts_194 : decode cX10_inserts 194 = .ok (.iconst 1, 1) := by decide +kernel
theorem dX10_inserts_195 : decode cX10_inserts 195 = .ok (.iadd, 1) := by decide +kernel
theorem dX10_inserts_196 : decode cX10_inserts 196 = .ok (.dup2, 1) := by decide +kernel
theorem dX10_inserts_197 : decode cX10_inserts 197 = .ok (.iaload, 1) := by decide +kernel
theorem dX10_inserts_198 : decode cX10_inserts 198 = .ok (.aload_n 0, 1) := by decide +kernel
theorem dX10_inserts_199 : decode cX10_inserts 199 = .ok (.iload_n 3, 1) := by decide +kernel
theorem dX10_inserts_200 : decode cX10_inserts 200 = .ok (.iconst 1, 1) := by decide +kernel
theorem dX10_inserts_201 : decode cX10_inserts 201 = .ok (.invokevirtual 126, 3) := by decide +kernel
theorem dX10_inserts_204 : decode cX10_inserts 204 = .ok (.iload_n 1, 1) := by decide +kernel
theorem dX10_inserts_205 : decode cX10_inserts 205 = .ok (.if_icmp .lt 7, 3) := by decide +kernel
theorem dX10_inserts_208 : decode cX10_inserts 208 = .ok (.iload_n 2, 1) := by decide +kernel
theorem dX10_inserts_209 : decode cX10_inserts 209 = .ok (.goto 4, 3) := by decide +kernel
theorem dX10_inserts_212 : decode cX10_inserts 212 = .ok (.iconst 0, 1) := by decide +kernel
theorem dX10_inserts_213 : decode cX10_inserts 213 = .ok (.iadd, 1) := by decide +kernel
theorem dX10_inserts_214 : decode cX10_inserts 214 = .ok (.iastore, 1) := by decide +kernel
theorem dX10_inserts_215 : decode cX10_inserts 215 = .ok (.iinc 3 1, 3) := by decide +kernel
theorem dX10_inserts_218 : decode cX10_inserts 218 = .ok (.goto (-46), 3) := by decide +kernel
theorem dX10_inserts_221 : decode cX10_inserts 221 = .ok (.iconst 0, 1) := by decide +kernel
theorem dX10_inserts_222 : decode cX10_inserts 222 = .ok (.istore_n 3, 1) := by decide +kernel
theorem dX10_inserts_223 : decode cX10_inserts 223 = .ok (.iload_n 3, 1) := by decide +kernel
theorem dX10_inserts_224 : decode cX10_inserts 224 = .ok (.aload_n 0, 1) := by decide +kernel
theorem dX10_inserts_225 : decode cX10_inserts 225 = .ok (.getfield 9, 3) := by decide +kernel
theorem dX10_inserts_228 : decode cX10_inserts 228 = .ok (.sipush 438, 3) := by decide +kernel
theorem dX10_inserts_231 : decode cX10_inserts 231 = .ok (.iaload, 1) := by decide +kernel
theorem dX10_inserts_232 : decode cX10_inserts 232 = .ok (.if_icmp .ge 45, 3) := by decide +kernel
theorem dX10_inserts_235 : decode cX10_inserts 235 = .ok (.aload_n 0, 1) := by decide +kernel
theorem dX10_inserts_236 : decode cX10_inserts 236 = .ok (.getfield 9, 3) := by decide +kernel
theorem dX10_inserts_239 : decode cX10_inserts 239 = .ok (.sipush 439, 3) := by decide +kernel
theorem dX10_inserts_242 : decode cX10_inserts 242 = .ok (.iconst 2, 1) := by decide +kernel
theorem dX10_inserts_243 : decode cX10_inserts 243 = .ok (.iload_n 3, 1) := by decide +kernel
theorem dX10_inserts_244 : decode cX10_inserts 244 = .ok (.imul, 1) := by decide +kernel
theorem dX10_inserts_245 : decode cX10_inserts 245 = .ok (.iadd, 1) := by decide +kernel
theorem dX10_inserts_246 : decode cX10_inserts 246 = .ok (.dup2, 1) := by decide +kernel
theorem dX10_inserts_247 : decode cX10_inserts 247 = .ok (.iaload, 1) := by decide +kernel
theorem dX10_inserts_248 : decode cX10_inserts 248 = .ok (.aload_n 0, 1) := by decide +kernel
theorem dX10_inserts_249 : decode cX10_inserts 249 = .ok (.getfield 9, 3) := by decide +kernel
theorem dX10_inserts_252 : decode cX10_inserts 252 = .ok (.sipush 439, 3) := by decide +kernel
theorem dX10_inserts_255 : decode cX10_inserts 255 = .ok (.iconst 2, 1) := by decide +kernel
theorem dX10_inserts_256 : decode cX10_inserts 256 = .ok (.iload_n 3, 1) := by decide +kernel
theorem dX10_inserts_257 : decode cX10_inserts 257 = .ok (.imul, 1) := by decide +kernel
theorem dX10_inserts_258 : decode cX10_inserts 258 = .ok (.iadd, 1) := by decide +kernel
theorem dX10_inserts_259 : decode cX10_inserts 259 = .ok (.iaload, 1) := by decide +kernel
theorem dX10_inserts_260 : decode cX10_inserts 260 = .ok (.iload_n 1, 1) := by decide +kernel
theorem dX10_inserts_261 : decode cX10_inserts 261 = .ok (.if_icmp .lt 7, 3) := by decide +kernel
theorem dX10_inserts_264 : decode cX10_inserts 264 = .ok (.iload_n 2, 1) := by decide +kernel
theorem dX10_inserts_265 : decode cX10_inserts 265 = .ok (.goto 4, 3) := by decide +kernel
theorem dX10_inserts_268 : decode cX10_inserts 268 = .ok (.iconst 0, 1) := by decide +kernel
theorem dX10_inserts_269 : decode cX10_inserts 269 = .ok (.iadd, 1) := by decide +kernel
theorem dX10_inserts_270 : decode cX10_inserts 270 = .ok (.iastore, 1) := by decide +kernel
theorem dX10_inserts_271 : decode cX10_inserts 271 = .ok (.iinc 3 1, 3) := by decide +kernel
theorem dX10_inserts_274 : decode cX10_inserts 274 = .ok (.goto (-51), 3) := by decide +kernel
theorem dX10_inserts_277 : decode cX10_inserts 277 = .ok (.aload_n 0, 1) := by decide +kernel
theorem dX10_inserts_278 : decode cX10_inserts 278 = .ok (.getfield 9, 3) := by decide +kernel
theorem dX10_inserts_281 : decode cX10_inserts 281 = .ok (.bipush 25, 2) := by decide +kernel
theorem dX10_inserts_283 : decode cX10_inserts 283 = .ok (.iaload, 1) := by decide +kernel
theorem dX10_inserts_284 : decode cX10_inserts 284 = .ok (.ireturn, 1) := by decide +kernel
theorem dX10_insert_0 : decode cX10_insert 0 = .ok (.aload_n 0, 1) := by decide +kernel
theorem dX10_insert_1 : decode cX10_insert 1 = .ok (.invokevirtual 107, 3) := by decide +kernel
theorem dX10_insert_4 : decode cX10_insert 4 = .ok (.aload_n 0, 1) := by decide +kernel
theorem dX10_insert_5 : decode cX10_insert 5 = .ok (.iload_n 1, 1) := by decide +kernel
theorem dX10_insert_6 : decode cX10_insert 6 = .ok (.iload_n 2, 1) := by decide +kernel
theorem dX10_insert_7 : decode cX10_insert 7 = .ok (.invokevirtual 215, 3) := by decide +kernel
theorem dX10_insert_10 : decode cX10_insert 10 = .ok (.istore_n 3, 1) := by decide +kernel
theorem dX10_insert_11 : decode cX10_insert 11 = .ok (.iload_n 3, 1) := by decide +kernel
theorem dX10_insert_12 : decode cX10_insert 12 = .ok (.ifCond .ge 7, 3) := by decide +kernel
theorem dX10_insert_15 : decode cX10_insert 15 = .ok (.iload_n 3, 1) := by decide +kernel
theorem dX10_insert_16 : decode cX10_insert 16 = .ok (.goto 8, 3) := by decide +kernel
theorem dX10_insert_19 : decode cX10_insert 19 = .ok (.aload_n 0, 1) := by decide +kernel
theorem dX10_insert_20 : decode cX10_insert 20 = .ok (.iload_n 3, 1) := by decide +kernel
theorem dX10_insert_21 : decode cX10_insert 21 = .ok (.invokevirtual 110, 3) := by decide +kernel
theorem dX10_insert_24 : decode cX10_insert 24 = .ok (.ireturn, 1) := by decide +kernel
theorem dX10_laysChapter_0 : decode cX10_laysChapter 0 = .ok (.iload_n 1, 1) := by decide +kernel
theorem dX10_laysChapter_1 : decode cX10_laysChapter 1 = .ok (.iconst 0, 1) := by decide +kernel
theorem dX10_laysChapter_2 : decode cX10_laysChapter 2 = .ok (.sipush 599, 3) := by decide +kernel
theorem dX10_laysChapter_5 : decode cX10_laysChapter 5 = .ok (.invokestatic 103, 3) := by decide +kernel
theorem dX10_laysChapter_8 : decode cX10_laysChapter 8 = .ok (.ifCond .eq 13, 3) := by decide +kernel
theorem dX10_laysChapter_11 : decode cX10_laysChapter 11 = .ok (.iload_n 2, 1) := by decide +kernel
theorem dX10_laysChapter_12 : decode cX10_laysChapter 12 = .ok (.iconst 0, 1) := by decide +kernel
theorem dX10_laysChapter_13 : decode cX10_laysChapter 13 = .ok (.bipush 99, 2) := by decide +kernel
theorem dX10_laysChapter_15 : decode cX10_laysChapter 15 = .ok (.invokestatic 103, 3) := by decide +kernel
theorem dX10_laysChapter_18 : decode cX10_laysChapter 18 = .ok (.ifCond .ne 6, 3) := by decide +kernel
theorem dX10_laysChapter_21 : decode cX10_laysChapter 21 = .ok (.bipush (-2), 2) := by decide +kernel
theorem dX10_laysChapter_23 : decode cX10_laysChapter 23 = .ok (.ireturn, 1) := by decide +kernel
theorem dX10_laysChapter_24 : decode cX10_laysChapter 24 = .ok (.iconst 0, 1) := by decide +kernel
theorem dX10_laysChapter_25 : decode cX10_laysChapter 25 = .ok (.istore_n 3, 1) := by decide +kernel
theorem dX10_laysChapter_26 : decode cX10_laysChapter 26 = .ok (.iload_n 3, 1) := by decide +kernel
theorem dX10_laysChapter_27 : decode cX10_laysChapter 27 = .ok (.aload_n 0, 1) := by decide +kernel
theorem dX10_laysChapter_28 : decode cX10_laysChapter 28 = .ok (.getfield 9, 3) := by decide +kernel
theorem dX10_laysChapter_31 : decode cX10_laysChapter 31 = .ok (.sipush 438, 3) := by decide +kernel
theorem dX10_laysChapter_34 : decode cX10_laysChapter 34 = .ok (.iaload, 1) := by decide +kernel
theorem dX10_laysChapter_35 : decode cX10_laysChapter 35 = .ok (.if_icmp .ge 25, 3) := by decide +kernel
theorem dX10_laysChapter_38 : decode cX10_laysChapter 38 = .ok (.aload_n 0, 1) := by decide +kernel
theorem dX10_laysChapter_39 : decode cX10_laysChapter 39 = .ok (.getfield 9, 3) := by decide +kernel
theorem dX10_laysChapter_42 : decode cX10_laysChapter 42 = .ok (.sipush 439, 3) := by decide +kernel
theorem dX10_laysChapter_45 : decode cX10_laysChapter 45 = .ok (.iconst 2, 1) := by decide +kernel
theorem dX10_laysChapter_46 : decode cX10_laysChapter 46 = .ok (.iload_n 3, 1) := by decide +kernel
theorem dX10_laysChapter_47 : decode cX10_laysChapter 47 = .ok (.imul, 1) := by decide +kernel
theorem dX10_laysChapter_48 : decode cX10_laysChapter 48 = .ok (.iadd, 1) := by decide +kernel
theorem dX10_laysChapter_49 : decode cX10_laysChapter 49 = .ok (.iaload, 1) := by decide +kernel
theorem dX10_laysChapter_50 : decode cX10_laysChapter 50 = .ok (.iload_n 1, 1) := by decide +kernel
theorem dX10_laysChapter_51 : decode cX10_laysChapter 51 = .ok (.if_icmp .ge 9, 3) := by decide +kernel
theorem dX10_laysChapter_54 : decode cX10_laysChapter 54 = .ok (.iinc 3 1, 3) := by decide +kernel
theorem dX10_laysChapter_57 : decode cX10_laysChapter 57 = .ok (.goto (-31), 3) := by decide +kernel
theorem dX10_laysChapter_60 : decode cX10_laysChapter 60 = .ok (.iload_n 3, 1) := by decide +kernel
theorem dX10_laysChapter_61 : decode cX10_laysChapter 61 = .ok (.aload_n 0, 1) := by decide +kernel
theorem dX10_laysChapter_62 : decode cX10_laysChapter 62 = .ok (.getfield 9, 3) := by decide +kernel
theorem dX10_laysChapter_65 : decode cX10_laysChapter 65 = .ok (.sipush 438, 3) := by decide +kernel
theorem dX10_laysChapter_68 : decode cX10_laysChapter 68 = .ok (.iaload, 1) := by decide +kernel
theorem dX10_laysChapter_69 : decode cX10_laysChapter 69 = .ok (.if_icmp .ge 23, 3) := by decide +kernel
theorem dX10_laysChapter_72 : decode cX10_laysChapter 72 = .ok (.aload_n 0, 1) := by decide +kernel
theorem dX10_laysChapter_73 : decode cX10_laysChapter 73 = .ok (.getfield 9, 3) := by decide +kernel
theorem dX10_laysChapter_76 : decode cX10_laysChapter 76 = .ok (.sipush 439, 3) := by decide +kernel
theorem dX10_laysChapter_79 : decode cX10_laysChapter 79 = .ok (.iconst 2, 1) := by decide +kernel
theorem dX10_laysChapter_80 : decode cX10_laysChapter 80 = .ok (.iload_n 3, 1) := by decide +kernel
theorem dX10_laysChapter_81 : decode cX10_laysChapter 81 = .ok (.imul, 1) := by decide +kernel
theorem dX10_laysChapter_82 : decode cX10_laysChapter 82 = .ok (.iadd, 1) := by decide +kernel
theorem dX10_laysChapter_83 : decode cX10_laysChapter 83 = .ok (.iaload, 1) := by decide +kernel
theorem dX10_laysChapter_84 : decode cX10_laysChapter 84 = .ok (.iload_n 1, 1) := by decide +kernel
theorem dX10_laysChapter_85 : decode cX10_laysChapter 85 = .ok (.if_icmp .ne 7, 3) := by decide +kernel
theorem dX10_laysChapter_88 : decode cX10_laysChapter 88 = .ok (.iconst 1, 1) := by decide +kernel
theorem dX10_laysChapter_89 : decode cX10_laysChapter 89 = .ok (.goto 4, 3) := by decide +kernel
theorem dX10_laysChapter_92 : decode cX10_laysChapter 92 = .ok (.iconst 0, 1) := by decide +kernel
theorem dX10_laysChapter_93 : decode cX10_laysChapter 93 = .ok (.istore 4, 2) := by decide +kernel
theorem dX10_laysChapter_95 : decode cX10_laysChapter 95 = .ok (.iload 4, 2) := by decide +kernel
theorem dX10_laysChapter_97 : decode cX10_laysChapter 97 = .ok (.ifCond .ne 19, 3) := by decide +kernel
theorem dX10_laysChapter_100 : decode cX10_laysChapter 100 = .ok (.aload_n 0, 1) := by decide +kernel
theorem dX10_laysChapter_101 : decode cX10_laysChapter 101 = .ok (.getfield 9, 3) := by decide +kernel
theorem dX10_laysChapter_104 : decode cX10_laysChapter 104 = .ok (.sipush 438, 3) := by decide +kernel
theorem dX10_laysChapter_107 : decode cX10_laysChapter 107 = .ok (.iaload, 1) := by decide +kernel
theorem dX10_laysChapter_108 : decode cX10_laysChapter 108 = .ok (.bipush 12, 2) := by decide +kernel
theorem dX10_laysChapter_110 : decode cX10_laysChapter 110 = .ok (.if_icmp .ne 6, 3) := by decide +kernel
theorem dX10_laysChapter_113 : decode cX10_laysChapter 113 = .ok (.bipush (-3), 2) := by decide +kernel
theorem dX10_laysChapter_115 : decode cX10_laysChapter 115 = .ok (.ireturn, 1) := by decide +kernel
theorem dX10_laysChapter_116 : decode cX10_laysChapter 116 = .ok (.iload 4, 2) := by decide +kernel
theorem dX10_laysChapter_118 : decode cX10_laysChapter 118 = .ok (.ifCond .ne 108, 3) := by decide +kernel
theorem dX10_laysChapter_121 : decode cX10_laysChapter 121 = .ok (.aload_n 0, 1) := by decide +kernel
theorem dX10_laysChapter_122 : decode cX10_laysChapter 122 = .ok (.getfield 9, 3) := by decide +kernel
theorem dX10_laysChapter_125 : decode cX10_laysChapter 125 = .ok (.sipush 438, 3) := by decide +kernel
theorem dX10_laysChapter_128 : decode cX10_laysChapter 128 = .ok (.iaload, 1) := by decide +kernel
theorem dX10_laysChapter_129 : decode cX10_laysChapter 129 = .ok (.istore 5, 2) := by decide +kernel
theorem dX10_laysChapter_131 : decode cX10_laysChapter 131 = .ok (.iload 5, 2) := by decide +kernel
theorem dX10_laysChapter_133 : decode cX10_laysChapter 133 = .ok (.iload_n 3, 1) := by decide +kernel
theorem dX10_laysChapter_134 : decode cX10_laysChapter 134 = .ok (.if_icmp .le 67, 3) := by decide +kernel
theorem dX10_laysChapter_137 : decode cX10_laysChapter 137 = .ok (.aload_n 0, 1) := by decide +kernel
theorem dX10_laysChapter_138 : decode cX10_laysChapter 138 = .ok (.getfield 9, 3) := by decide +kernel
theorem dX10_laysChapter_141 : decode cX10_laysChapter 141 = .ok (.sipush 439, 3) := by decide +kernel
theorem dX10_laysChapter_144 : decode cX10_laysChapter 144 = .ok (.iconst 2, 1) := by decide +kernel
theorem dX10_laysChapter_145 : decode cX10_laysChapter 145 = .ok (.iload 5, 2) := by decide +kernel
theorem dX10_laysChapter_147 : decode cX10_laysChapter 147 = .ok (.imul, 1) := by decide +kernel
theorem dX10_laysChapter_148 : decode cX10_laysChapter 148 = .ok (.iadd, 1) := by decide +kernel
theorem dX10_laysChapter_149 : decode cX10_laysChapter 149 = .ok (.aload_n 0, 1) := by decide +kernel
theorem dX10_laysChapter_150 : decode cX10_laysChapter 150 = .ok (.getfield 9, 3) := by decide +kernel
theorem dX10_laysChapter_153 : decode cX10_laysChapter 153 = .ok (.sipush 439, 3) := by decide +kernel
theorem dX10_laysChapter_156 : decode cX10_laysChapter 156 = .ok (.iconst 2, 1) := by decide +kernel
theorem dX10_laysChapter_157 : decode cX10_laysChapter 157 = .ok (.iload 5, 2) := by decide +kernel
theorem dX10_laysChapter_159 : decode cX10_laysChapter 159 = .ok (.imul, 1) := by decide +kernel
theorem dX10_laysChapter_160 : decode cX10_laysChapter 160 = .ok (.iadd, 1) := by decide +kernel
theorem dX10_laysChapter_161 : decode cX10_laysChapter 161 = .ok (.iconst 2, 1) := by decide +kernel
theorem dX10_laysChapter_162 : decode cX10_laysChapter 162 = .ok (.isub, 1) := by decide +kernel
theorem dX10_laysChapter_163 : decode cX10_laysChapter 163 = .ok (.iaload, 1) := by decide +kernel
theorem dX10_laysChapter_164 : decode cX10_laysChapter 164 = .ok (.iastore, 1) := by decide +kernel
theorem dX10_laysChapter_165 : decode cX10_laysChapter 165 = .ok (.aload_n 0, 1) := by decide +kernel
theorem dX10_laysChapter_166 : decode cX10_laysChapter 166 = .ok (.getfield 9, 3) := by decide +kernel
theorem dX10_laysChapter_169 : decode cX10_laysChapter 169 = .ok (.sipush 439, 3) := by decide +kernel
theorem dX10_laysChapter_172 : decode cX10_laysChapter 172 = .ok (.iconst 2, 1) := by decide +kernel
theorem dX10_laysChapter_173 : decode cX10_laysChapter 173 = .ok (.iload 5, 2) := by decide +kernel
theorem dX10_laysChapter_175 : decode cX10_laysChapter 175 = .ok (.imul, 1) := by decide +kernel
theorem dX10_laysChapter_176 : decode cX10_laysChapter 176 = .ok (.iadd, 1) := by decide +kernel
theorem dX10_laysChapter_177 : decode cX10_laysChapter 177 = .ok (.iconst 1, 1) := by decide +kernel
theorem dX10_laysChapter_178 : decode cX10_laysChapter 178 = .ok (.iadd, 1) := by decide +kernel
theorem dX10_laysChapter_179 : decode cX10_laysChapter 179 = .ok (.aload_n 0, 1) := by decide +kernel
theorem dX10_laysChapter_180 : decode cX10_laysChapter 180 = .ok (.getfield 9, 3) := by decide +kernel
theorem dX10_laysChapter_183 : decode cX10_laysChapter 183 = .ok (.sipush 439, 3) := by decide +kernel
theorem dX10_laysChapter_186 : decode cX10_laysChapter 186 = .ok (.iconst 2, 1) := by decide +kernel
theorem dX10_laysChapter_187 : decode cX10_laysChapter 187 = .ok (.iload 5, 2) := by decide +kernel
theorem dX10_laysChapter_189 : decode cX10_laysChapter 189 = .ok (.imul, 1) := by decide +kernel
theorem dX10_laysChapter_190 : decode cX10_laysChapter 190 = .ok (.iadd, 1) := by decide +kernel
theorem dX10_laysChapter_191 : decode cX10_laysChapter 191 = .ok (.iconst 1, 1) := by decide +kernel
theorem dX10_laysChapter_192 : decode cX10_laysChapter 192 = .ok (.isub, 1) := by decide +kernel
theorem dX10_laysChapter_193 : decode cX10_laysChapter 193 = .ok (.iaload, 1) := by decide +kernel
theorem dX10_laysChapter_194 : decode cX10_laysChapter 194 = .ok (.iastore, 1) := by decide +kernel
theorem dX10_laysChapter_195 : decode cX10_laysChapter 195 = .ok (.iinc 5 (-1), 3) := by decide +kernel
theorem dX10_laysChapter_198 : decode cX10_laysChapter 198 = .ok (.goto (-67), 3) := by decide +kernel
theorem dX10_laysChapter_201 : decode cX10_laysChapter 201 = .ok (.aload_n 0, 1) := by decide +kernel
theorem dX10_laysChapter_202 : decode cX10_laysChapter 202 = .ok (.getfield 9, 3) := by decide +kernel
theorem dX10_laysChapter_205 : decode cX10_laysChapter 205 = .ok (.sipush 438, 3) := by decide +kernel
theorem dX10_laysChapter_208 : decode cX10_laysChapter 208 = .ok (.dup2, 1) := by decide +kernel
theorem dX10_laysChapter_209 : decode cX10_laysChapter 209 = .ok (.iaload, 1) := by decide +kernel
theorem dX10_laysChapter_210 : decode cX10_laysChapter 210 = .ok (.iconst 1, 1) := by decide +kernel
theorem dX10_laysChapter_211 : decode cX10_laysChapter 211 = .ok (.iadd, 1) := by decide +kernel
theorem dX10_laysChapter_212 : decode cX10_laysChapter 212 = .ok (.iastore, 1) := by decide +kernel
theorem dX10_laysChapter_213 : decode cX10_laysChapter 213 = .ok (.aload_n 0, 1) := by decide +kernel
theorem dX10_laysChapter_214 : decode cX10_laysChapter 214 = .ok (.getfield 9, 3) := by decide +kernel
theorem dX10_laysChapter_217 : decode cX10_laysChapter 217 = .ok (.sipush 439, 3) := by decide +kernel
theorem dX10_laysChapter_220 : decode cX10_laysChapter 220 = .ok (.iconst 2, 1) := by decide +kernel
theorem dX10_laysChapter_221 : decode cX10_laysChapter 221 = .ok (.iload_n 3, 1) := by decide +kernel
theorem dX10_laysChapter_222 : decode cX10_laysChapter 222 = .ok (.imul, 1) := by decide +kernel
theorem dX10_laysChapter_223 : decode cX10_laysChapter 223 = .ok (.iadd, 1) := by decide +kernel
theorem dX10_laysChapter_224 : decode cX10_laysChapter 224 = .ok (.iload_n 1, 1) := by decide +kernel
theorem dX10_laysChapter_225 : decode cX10_laysChapter 225 = .ok (.iastore, 1) := by decide +kernel
theorem dX10_laysChapter_226 : decode cX10_laysChapter 226 = .ok (.aload_n 0, 1) := by decide +kernel
theorem dX10_laysChapter_227 : decode cX10_laysChapter 227 = .ok (.getfield 9, 3) := by decide +kernel
theorem dX10_laysChapter_230 : decode cX10_laysChapter 230 = .ok (.sipush 439, 3) := by decide +kernel
theorem dX10_laysChapter_233 : decode cX10_laysChapter 233 = .ok (.iconst 2, 1) := by decide +kernel
theorem dX10_laysChapter_234 : decode cX10_laysChapter 234 = .ok (.iload_n 3, 1) := by decide +kernel
theorem dX10_laysChapter_235 : decode cX10_laysChapter 235 = .ok (.imul, 1) := by decide +kernel
theorem dX10_laysChapter_236 : decode cX10_laysChapter 236 = .ok (.iadd, 1) := by decide +kernel
theorem dX10_laysChapter_237 : decode cX10_laysChapter 237 = .ok (.iconst 1, 1) := by decide +kernel
theorem dX10_laysChapter_238 : decode cX10_laysChapter 238 = .ok (.iadd, 1) := by decide +kernel
theorem dX10_laysChapter_239 : decode cX10_laysChapter 239 = .ok (.iload_n 2, 1) := by decide +kernel
theorem dX10_laysChapter_240 : decode cX10_laysChapter 240 = .ok (.iastore, 1) := by decide +kernel
theorem dX10_laysChapter_241 : decode cX10_laysChapter 241 = .ok (.iload_n 3, 1) := by decide +kernel
theorem dX10_laysChapter_242 : decode cX10_laysChapter 242 = .ok (.ireturn, 1) := by decide +kernel
theorem dX10_chapter_0 : decode cX10_chapter 0 = .ok (.aload_n 0, 1) := by decide +kernel
theorem dX10_chapter_1 : decode cX10_chapter 1 = .ok (.invokevirtual 107, 3) := by decide +kernel
theorem dX10_chapter_4 : decode cX10_chapter 4 = .ok (.aload_n 0, 1) := by decide +kernel
theorem dX10_chapter_5 : decode cX10_chapter 5 = .ok (.iload_n 1, 1) := by decide +kernel
theorem dX10_chapter_6 : decode cX10_chapter 6 = .ok (.iload_n 2, 1) := by decide +kernel
theorem dX10_chapter_7 : decode cX10_chapter 7 = .ok (.invokevirtual 218, 3) := by decide +kernel
theorem dX10_chapter_10 : decode cX10_chapter 10 = .ok (.istore_n 3, 1) := by decide +kernel
theorem dX10_chapter_11 : decode cX10_chapter 11 = .ok (.iload_n 3, 1) := by decide +kernel
theorem dX10_chapter_12 : decode cX10_chapter 12 = .ok (.ifCond .ge 7, 3) := by decide +kernel
theorem dX10_chapter_15 : decode cX10_chapter 15 = .ok (.iload_n 3, 1) := by decide +kernel
theorem dX10_chapter_16 : decode cX10_chapter 16 = .ok (.goto 8, 3) := by decide +kernel
theorem dX10_chapter_19 : decode cX10_chapter 19 = .ok (.aload_n 0, 1) := by decide +kernel
theorem dX10_chapter_20 : decode cX10_chapter 20 = .ok (.iload_n 3, 1) := by decide +kernel
theorem dX10_chapter_21 : decode cX10_chapter 21 = .ok (.invokevirtual 110, 3) := by decide +kernel
theorem dX10_chapter_24 : decode cX10_chapter 24 = .ok (.ireturn, 1) := by decide +kernel
theorem dX10_isChapter_0 : decode cX10_isChapter 0 = .ok (.iload_n 1, 1) := by decide +kernel
theorem dX10_isChapter_1 : decode cX10_isChapter 1 = .ok (.iconst 0, 1) := by decide +kernel
theorem dX10_isChapter_2 : decode cX10_isChapter 2 = .ok (.aload_n 0, 1) := by decide +kernel
theorem dX10_isChapter_3 : decode cX10_isChapter 3 = .ok (.getfield 9, 3) := by decide +kernel
theorem dX10_isChapter_6 : decode cX10_isChapter 6 = .ok (.sipush 438, 3) := by decide +kernel
theorem dX10_isChapter_9 : decode cX10_isChapter 9 = .ok (.iaload, 1) := by decide +kernel
theorem dX10_isChapter_10 : decode cX10_isChapter 10 = .ok (.iconst 1, 1) := by decide +kernel
theorem dX10_isChapter_11 : decode cX10_isChapter 11 = .ok (.isub, 1) := by decide +kernel
theorem dX10_isChapter_12 : decode cX10_isChapter 12 = .ok (.invokestatic 103, 3) := by decide +kernel
theorem dX10_isChapter_15 : decode cX10_isChapter 15 = .ok (.ireturn, 1) := by decide +kernel
theorem dX10_dropChapter_0 : decode cX10_dropChapter 0 = .ok (.aload_n 0, 1) := by decide +kernel
theorem dX10_dropChapter_1 : decode cX10_dropChapter 1 = .ok (.iload_n 1, 1) := by decide +kernel
theorem dX10_dropChapter_2 : decode cX10_dropChapter 2 = .ok (.invokevirtual 221, 3) := by decide +kernel
theorem dX10_dropChapter_5 : decode cX10_dropChapter 5 = .ok (.ifCond .ne 5, 3) := by decide +kernel
theorem dX10_dropChapter_8 : decode cX10_dropChapter 8 = .ok (.iconst (-1), 1) := by decide +kernel
theorem dX10_dropChapter_9 : decode cX10_dropChapter 9 = .ok (.ireturn, 1) := by decide +kernel
theorem dX10_dropChapter_10 : decode cX10_dropChapter 10 = .ok (.aload_n 0, 1) := by decide +kernel
theorem dX10_dropChapter_11 : decode cX10_dropChapter 11 = .ok (.invokevirtual 107, 3) := by decide +kernel
theorem dX10_dropChapter_14 : decode cX10_dropChapter 14 = .ok (.aload_n 0, 1) := by decide +kernel
theorem dX10_dropChapter_15 : decode cX10_dropChapter 15 = .ok (.iload_n 1, 1) := by decide +kernel
theorem dX10_dropChapter_16 : decode cX10_dropChapter 16 = .ok (.invokevirtual 187, 3) := by decide +kernel
theorem dX10_dropChapter_19 : decode cX10_dropChapter 19 = .ok (.aload_n 0, 1) := by decide +kernel
theorem dX10_dropChapter_20 : decode cX10_dropChapter 20 = .ok (.aload_n 0, 1) := by decide +kernel
theorem dX10_dropChapter_21 : decode cX10_dropChapter 21 = .ok (.getfield 9, 3) := by decide +kernel
theorem dX10_dropChapter_24 : decode cX10_dropChapter 24 = .ok (.sipush 438, 3) := by decide +kernel
theorem dX10_dropChapter_27 : decode cX10_dropChapter 27 = .ok (.iaload, 1) := by decide +kernel
theorem dX10_dropChapter_28 : decode cX10_dropChapter 28 = .ok (.invokevirtual 110, 3) := by decide +kernel
theorem dX10_dropChapter_31 : decode cX10_dropChapter 31 = .ok (.ireturn, 1) := by decide +kernel
theorem dX10_ofChapter_0 : decode cX10_ofChapter 0 = .ok (.aload_n 0, 1) := by decide +kernel
theorem dX10_ofChapter_1 : decode cX10_ofChapter 1 = .ok (.iload_n 1, 1) := by decide +kernel
theorem dX10_ofChapter_2 : decode cX10_ofChapter 2 = .ok (.invokevirtual 221, 3) := by decide +kernel
theorem dX10_ofChapter_5 : decode cX10_ofChapter 5 = .ok (.ifCond .ne 5, 3) := by decide +kernel
theorem dX10_ofChapter_8 : decode cX10_ofChapter 8 = .ok (.iconst (-1), 1) := by decide +kernel
theorem dX10_ofChapter_9 : decode cX10_ofChapter 9 = .ok (.ireturn, 1) := by decide +kernel
theorem dX10_ofChapter_10 : decode cX10_ofChapter 10 = .ok (.iload_n 2, 1) := by decide +kernel
theorem dX10_ofChapter_11 : decode cX10_ofChapter 11 = .ok (.iconst 0, 1) := by decide +kernel
theorem dX10_ofChapter_12 : decode cX10_ofChapter 12 = .ok (.iconst 3, 1) := by decide +kernel
theorem dX10_ofChapter_13 : decode cX10_ofChapter 13 = .ok (.invokestatic 103, 3) := by decide +kernel
theorem dX10_ofChapter_16 : decode cX10_ofChapter 16 = .ok (.ifCond .ne 6, 3) := by decide +kernel
theorem dX10_ofChapter_19 : decode cX10_ofChapter 19 = .ok (.bipush (-2), 2) := by decide +kernel
theorem dX10_ofChapter_21 : decode cX10_ofChapter 21 = .ok (.ireturn, 1) := by decide +kernel
theorem dX10_ofChapter_22 : decode cX10_ofChapter 22 = .ok (.aload_n 0, 1) := by decide +kernel
theorem dX10_ofChapter_23 : decode cX10_ofChapter 23 = .ok (.getfield 9, 3) := by decide +kernel
theorem dX10_ofChapter_26 : decode cX10_ofChapter 26 = .ok (.sipush 439, 3) := by decide +kernel
theorem dX10_ofChapter_29 : decode cX10_ofChapter 29 = .ok (.iconst 2, 1) := by decide +kernel
theorem dX10_ofChapter_30 : decode cX10_ofChapter 30 = .ok (.iload_n 1, 1) := by decide +kernel
theorem dX10_ofChapter_31 : decode cX10_ofChapter 31 = .ok (.imul, 1) := by decide +kernel
theorem dX10_ofChapter_32 : decode cX10_ofChapter 32 = .ok (.iadd, 1) := by decide +kernel
theorem dX10_ofChapter_33 : decode cX10_ofChapter 33 = .ok (.iaload, 1) := by decide +kernel
theorem dX10_ofChapter_34 : decode cX10_ofChapter 34 = .ok (.istore_n 3, 1) := by decide +kernel
theorem dX10_ofChapter_35 : decode cX10_ofChapter 35 = .ok (.iload_n 2, 1) := by decide +kernel
theorem dX10_ofChapter_36 : decode cX10_ofChapter 36 = .ok (.iconst 2, 1) := by decide +kernel
theorem dX10_ofChapter_37 : decode cX10_ofChapter 37 = .ok (.if_icmp .ge 18, 3) := by decide +kernel
theorem dX10_ofChapter_40 : decode cX10_ofChapter 40 = .ok (.aload_n 0, 1) := by decide +kernel
theorem dX10_ofChapter_41 : decode cX10_ofChapter 41 = .ok (.getfield 9, 3) := by decide +kernel
theorem dX10_ofChapter_44 : decode cX10_ofChapter 44 = .ok (.sipush 439, 3) := by decide +kernel
theorem dX10_ofChapter_47 : decode cX10_ofChapter 47 = .ok (.iconst 2, 1) := by decide +kernel
theorem dX10_ofChapter_48 : decode cX10_ofChapter 48 = .ok (.iload_n 1, 1) := by decide +kernel
theorem dX10_ofChapter_49 : decode cX10_ofChapter 49 = .ok (.imul, 1) := by decide +kernel
theorem dX10_ofChapter_50 : decode cX10_ofChapter 50 = .ok (.iadd, 1) := by decide +kernel
theorem dX10_ofChapter_51 : decode cX10_ofChapter 51 = .ok (.iload_n 2, 1) := by decide +kernel
theorem dX10_ofChapter_52 : decode cX10_ofChapter 52 = .ok (.iadd, 1) := by decide +kernel
theorem dX10_ofChapter_53 : decode cX10_ofChapter 53 = .ok (.iaload, 1) := by decide +kernel
theorem dX10_ofChapter_54 : decode cX10_ofChapter 54 = .ok (.ireturn, 1) := by decide +kernel
theorem dX10_ofChapter_55 : decode cX10_ofChapter 55 = .ok (.iload_n 1, 1) := by decide +kernel
theorem dX10_ofChapter_56 : decode cX10_ofChapter 56 = .ok (.iconst 1, 1) := by decide +kernel
theorem dX10_ofChapter_57 : decode cX10_ofChapter 57 = .ok (.iadd, 1) := by decide +kernel
theorem dX10_ofChapter_58 : decode cX10_ofChapter 58 = .ok (.aload_n 0, 1) := by decide +kernel
theorem dX10_ofChapter_59 : decode cX10_ofChapter 59 = .ok (.getfield 9, 3) := by decide +kernel
theorem dX10_ofChapter_62 : decode cX10_ofChapter 62 = .ok (.sipush 438, 3) := by decide +kernel
theorem dX10_ofChapter_65 : decode cX10_ofChapter 65 = .ok (.iaload, 1) := by decide +kernel
theorem dX10_ofChapter_66 : decode cX10_ofChapter 66 = .ok (.if_icmp .ge 20, 3) := by decide +kernel
theorem dX10_ofChapter_69 : decode cX10_ofChapter 69 = .ok (.aload_n 0, 1) := by decide +kernel
theorem dX10_ofChapter_70 : decode cX10_ofChapter 70 = .ok (.getfield 9, 3) := by decide +kernel
theorem dX10_ofChapter_73 : decode cX10_ofChapter 73 = .ok (.sipush 439, 3) := by decide +kernel
theorem dX10_ofChapter_76 : decode cX10_ofChapter 76 = .ok (.iconst 2, 1) := by decide +kernel
theorem dX10_ofChapter_77 : decode cX10_ofChapter 77 = .ok (.iload_n 1, 1) := by decide +kernel
theorem dX10_ofChapter_78 : decode cX10_ofChapter 78 = .ok (.imul, 1) := by decide +kernel
theorem dX10_ofChapter_79 : decode cX10_ofChapter 79 = .ok (.iadd, 1) := by decide +kernel
theorem dX10_ofChapter_80 : decode cX10_ofChapter 80 = .ok (.iconst 2, 1) := by decide +kernel
theorem dX10_ofChapter_81 : decode cX10_ofChapter 81 = .ok (.iadd, 1) := by decide +kernel
theorem dX10_ofChapter_82 : decode cX10_ofChapter 82 = .ok (.iaload, 1) := by decide +kernel
theorem dX10_ofChapter_83 : decode cX10_ofChapter 83 = .ok (.goto 7, 3) := by decide +kernel
theorem dX10_ofChapter_86 : decode cX10_ofChapter 86 = .ok (.aload_n 0, 1) := by decide +kernel
theorem dX10_ofChapter_87 : decode cX10_ofChapter 87 = .ok (.invokevirtual 155, 3) := by decide +kernel
theorem dX10_ofChapter_90 : decode cX10_ofChapter 90 = .ok (.istore 4, 2) := by decide +kernel
theorem dX10_ofChapter_92 : decode cX10_ofChapter 92 = .ok (.iload_n 2, 1) := by decide +kernel
theorem dX10_ofChapter_93 : decode cX10_ofChapter 93 = .ok (.iconst 2, 1) := by decide +kernel
theorem dX10_ofChapter_94 : decode cX10_ofChapter 94 = .ok (.if_icmp .ne 18, 3) := by decide +kernel
theorem dX10_ofChapter_97 : decode cX10_ofChapter 97 = .ok (.iload 4, 2) := by decide +kernel
theorem dX10_ofChapter_99 : decode cX10_ofChapter 99 = .ok (.iload_n 3, 1) := by decide +kernel
theorem dX10_ofChapter_100 : decode cX10_ofChapter 100 = .ok (.if_icmp .le 10, 3) := by decide +kernel
theorem dX10_ofChapter_103 : decode cX10_ofChapter 103 = .ok (.iload 4, 2) := by decide +kernel
theorem dX10_ofChapter_105 : decode cX10_ofChapter 105 = .ok (.iload_n 3, 1) := by decide +kernel
theorem dX10_ofChapter_106 : decode cX10_ofChapter 106 = .ok (.isub, 1) := by decide +kernel
theorem dX10_ofChapter_107 : decode cX10_ofChapter 107 = .ok (.goto 4, 3) := by decide +kernel
theorem dX10_ofChapter_110 : decode cX10_ofChapter 110 = .ok (.iconst 0, 1) := by decide +kernel
theorem dX10_ofChapter_111 : decode cX10_ofChapter 111 = .ok (.ireturn, 1) := by decide +kernel
theorem dX10_ofChapter_112 : decode cX10_ofChapter 112 = .ok (.aload_n 0, 1) := by decide +kernel
theorem dX10_ofChapter_113 : decode cX10_ofChapter 113 = .ok (.invokevirtual 152, 3) := by decide +kernel
theorem dX10_ofChapter_116 : decode cX10_ofChapter 116 = .ok (.iconst 0, 1) := by decide +kernel
theorem dX10_ofChapter_117 : decode cX10_ofChapter 117 = .ok (.istore 5, 2) := by decide +kernel
theorem dX10_ofChapter_119 : decode cX10_ofChapter 119 = .ok (.iload_n 3, 1) := by decide +kernel
theorem dX10_ofChapter_120 : decode cX10_ofChapter 120 = .ok (.istore 6, 2) := by decide +kernel
theorem dX10_ofChapter_122 : decode cX10_ofChapter 122 = .ok (.iload 6, 2) := by decide +kernel
theorem dX10_ofChapter_124 : decode cX10_ofChapter 124 = .ok (.iload 4, 2) := by decide +kernel
theorem dX10_ofChapter_126 : decode cX10_ofChapter 126 = .ok (.if_icmp .ge 49, 3) := by decide +kernel
theorem dX10_ofChapter_129 : decode cX10_ofChapter 129 = .ok (.aload_n 0, 1) := by decide +kernel
theorem dX10_ofChapter_130 : decode cX10_ofChapter 130 = .ok (.iload 6, 2) := by decide +kernel
theorem dX10_ofChapter_132 : decode cX10_ofChapter 132 = .ok (.aload_n 0, 1) := by decide +kernel
theorem dX10_ofChapter_133 : decode cX10_ofChapter 133 = .ok (.getfield 9, 3) := by decide +kernel
theorem dX10_ofChapter_136 : decode cX10_ofChapter 136 = .ok (.sipush 465, 3) := by decide +kernel
theorem dX10_ofChapter_139 : decode cX10_ofChapter 139 = .ok (.iaload, 1) := by decide +kernel
theorem dX10_ofChapter_140 : decode cX10_ofChapter 140 = .ok (.invokevirtual 196, 3) := by decide +kernel
theorem dX10_ofChapter_143 : decode cX10_ofChapter 143 = .ok (.iload 5, 2) := by decide +kernel
theorem dX10_ofChapter_145 : decode cX10_ofChapter 145 = .ok (.if_icmp .le 20, 3) := by decide +kernel
theorem dX10_ofChapter_148 : decode cX10_ofChapter 148 = .ok (.aload_n 0, 1) := by decide +kernel
theorem dX10_ofChapter_149 : decode cX10_ofChapter 149 = .ok (.iload 6, 2) := by decide +kernel
theorem dX10_ofChapter_151 : decode cX10_ofChapter 151 = .ok (.aload_n 0, 1) := by decide +kernel
theorem dX10_ofChapter_152 : decode cX10_ofChapter 152 = .ok (.getfield 9, 3) := by decide +kernel
theorem dX10_ofChapter_155 : decode cX10_ofChapter 155 = .ok (.sipush 465, 3) := by decide +kernel
theorem dX10_ofChapter_158 : decode cX10_ofChapter 158 = .ok (.iaload, 1) := by decide +kernel
theorem dX10_ofChapter_159 : decode cX10_ofChapter 159 = .ok (.invokevirtual 196, 3) := by decide +kernel
theorem dX10_ofChapter_162 : decode cX10_ofChapter 162 = .ok (.goto 5, 3) := by decide +kernel
theorem dX10_ofChapter_165 : decode cX10_ofChapter 165 = .ok (.iload 5, 2) := by decide +kernel
theorem dX10_ofChapter_167 : decode cX10_ofChapter 167 = .ok (.istore 5, 2) := by decide +kernel
theorem dX10_ofChapter_169 : decode cX10_ofChapter 169 = .ok (.iinc 6 1, 3) := by decide +kernel
theorem dX10_ofChapter_172 : decode cX10_ofChapter 172 = .ok (.goto (-50), 3) := by decide +kernel
theorem dX10_ofChapter_175 : decode cX10_ofChapter 175 = .ok (.iload 5, 2) := by decide +kernel
theorem dX10_ofChapter_177 : decode cX10_ofChapter 177 = .ok (.ireturn, 1) := by decide +kernel
theorem dX10_isFrame_0 : decode cX10_isFrame 0 = .ok (.iload_n 0, 1) := by decide +kernel
theorem dX10_isFrame_1 : decode cX10_isFrame 1 = .ok (.iconst 0, 1) := by decide +kernel
theorem dX10_isFrame_2 : decode cX10_isFrame 2 = .ok (.sipush 599, 3) := by decide +kernel
theorem dX10_isFrame_5 : decode cX10_isFrame 5 = .ok (.invokestatic 103, 3) := by decide +kernel
theorem dX10_isFrame_8 : decode cX10_isFrame 8 = .ok (.ireturn, 1) := by decide +kernel
theorem dX10_chapterAt_0 : decode cX10_chapterAt 0 = .ok (.iload_n 1, 1) := by decide +kernel
theorem dX10_chapterAt_1 : decode cX10_chapterAt 1 = .ok (.invokestatic 175, 3) := by decide +kernel
theorem dX10_chapterAt_4 : decode cX10_chapterAt 4 = .ok (.ifCond .ne 5, 3) := by decide +kernel
theorem dX10_chapterAt_7 : decode cX10_chapterAt 7 = .ok (.iconst (-1), 1) := by decide +kernel
theorem dX10_chapterAt_8 : decode cX10_chapterAt 8 = .ok (.ireturn, 1) := by decide +kernel
theorem dX10_chapterAt_9 : decode cX10_chapterAt 9 = .ok (.iconst 0, 1) := by decide +kernel
theorem dX10_chapterAt_10 : decode cX10_chapterAt 10 = .ok (.istore_n 2, 1) := by decide +kernel
theorem dX10_chapterAt_11 : decode cX10_chapterAt 11 = .ok (.iload_n 2, 1) := by decide +kernel
theorem dX10_chapterAt_12 : decode cX10_chapterAt 12 = .ok (.aload_n 0, 1) := by decide +kernel
theorem dX10_chapterAt_13 : decode cX10_chapterAt 13 = .ok (.getfield 9, 3) := by decide +kernel
theorem dX10_chapterAt_16 : decode cX10_chapterAt 16 = .ok (.sipush 438, 3) := by decide +kernel
theorem dX10_chapterAt_19 : decode cX10_chapterAt 19 = .ok (.iaload, 1) := by decide +kernel
theorem dX10_chapterAt_20 : decode cX10_chapterAt 20 = .ok (.if_icmp .ge 25, 3) := by decide +kernel
theorem dX10_chapterAt_23 : decode cX10_chapterAt 23 = .ok (.aload_n 0, 1) := by decide +kernel
theorem dX10_chapterAt_24 : decode cX10_chapterAt 24 = .ok (.getfield 9, 3) := by decide +kernel
theorem dX10_chapterAt_27 : decode cX10_chapterAt 27 = .ok (.sipush 439, 3) := by decide +kernel
theorem dX10_chapterAt_30 : decode cX10_chapterAt 30 = .ok (.iconst 2, 1) := by decide +kernel
theorem dX10_chapterAt_31 : decode cX10_chapterAt 31 = .ok (.iload_n 2, 1) := by decide +kernel
theorem dX10_chapterAt_32 : decode cX10_chapterAt 32 = .ok (.imul, 1) := by decide +kernel
theorem dX10_chapterAt_33 : decode cX10_chapterAt 33 = .ok (.iadd, 1) := by decide +kernel
theorem dX10_chapterAt_34 : decode cX10_chapterAt 34 = .ok (.iaload, 1) := by decide +kernel
theorem dX10_chapterAt_35 : decode cX10_chapterAt 35 = .ok (.iload_n 1, 1) := by decide +kernel
theorem dX10_chapterAt_36 : decode cX10_chapterAt 36 = .ok (.if_icmp .gt 9, 3) := by decide +kernel
theorem dX10_chapterAt_39 : decode cX10_chapterAt 39 = .ok (.iinc 2 1, 3) := by decide +kernel
theorem dX10_chapterAt_42 : decode cX10_chapterAt 42 = .ok (.goto (-31), 3) := by decide +kernel
theorem dX10_chapterAt_45 : decode cX10_chapterAt 45 = .ok (.iload_n 2, 1) := by decide +kernel
theorem dX10_chapterAt_46 : decode cX10_chapterAt 46 = .ok (.ifCond .ne 8, 3) := by decide +kernel
theorem dX10_chapterAt_49 : decode cX10_chapterAt 49 = .ok (.bipush (-6), 2) := by decide +kernel
theorem dX10_chapterAt_51 : decode cX10_chapterAt 51 = .ok (.goto 6, 3) := by decide +kernel
theorem dX10_chapterAt_54 : decode cX10_chapterAt 54 = .ok (.iload_n 2, 1) := by decide +kernel
theorem dX10_chapterAt_55 : decode cX10_chapterAt 55 = .ok (.iconst 1, 1) := by decide +kernel
theorem dX10_chapterAt_56 : decode cX10_chapterAt 56 = .ok (.isub, 1) := by decide +kernel
theorem dX10_chapterAt_57 : decode cX10_chapterAt 57 = .ok (.ireturn, 1) := by decide +kernel
theorem dX10_value_0 : decode cX10_value 0 = .ok (.iload_n 1, 1) := by decide +kernel
theorem dX10_value_1 : decode cX10_value 1 = .ok (.invokestatic 133, 3) := by decide +kernel
theorem dX10_value_4 : decode cX10_value 4 = .ok (.ifCond .eq 10, 3) := by decide +kernel
theorem dX10_value_7 : decode cX10_value 7 = .ok (.iload_n 2, 1) := by decide +kernel
theorem dX10_value_8 : decode cX10_value 8 = .ok (.invokestatic 175, 3) := by decide +kernel
theorem dX10_value_11 : decode cX10_value 11 = .ok (.ifCond .ne 5, 3) := by decide +kernel
theorem dX10_value_14 : decode cX10_value 14 = .ok (.iconst (-1), 1) := by decide +kernel
theorem dX10_value_15 : decode cX10_value 15 = .ok (.ireturn, 1) := by decide +kernel
theorem dX10_value_16 : decode cX10_value 16 = .ok (.iload_n 3, 1) := by decide +kernel
theorem dX10_value_17 : decode cX10_value 17 = .ok (.iconst 0, 1) := by decide +kernel
theorem dX10_value_18 : decode cX10_value 18 = .ok (.iconst 3, 1) := by decide +kernel
theorem dX10_value_19 : decode cX10_value 19 = .ok (.invokestatic 103, 3) := by decide +kernel
theorem dX10_value_22 : decode cX10_value 22 = .ok (.ifCond .ne 6, 3) := by decide +kernel
theorem dX10_value_25 : decode cX10_value 25 = .ok (.bipush (-2), 2) := by decide +kernel
theorem dX10_value_27 : decode cX10_value 27 = .ok (.ireturn, 1) := by decide +kernel
theorem dX10_value_28 : decode cX10_value 28 = .ok (.aload_n 0, 1) := by decide +kernel
theorem dX10_value_29 : decode cX10_value 29 = .ok (.invokevirtual 152, 3) := by decide +kernel
theorem dX10_value_32 : decode cX10_value 32 = .ok (.sipush 600, 3) := by decide +kernel
theorem dX10_value_35 : decode cX10_value 35 = .ok (.iload_n 1, 1) := by decide +kernel
theorem dX10_value_36 : decode cX10_value 36 = .ok (.imul, 1) := by decide +kernel
theorem dX10_value_37 : decode cX10_value 37 = .ok (.iload_n 2, 1) := by decide +kernel
theorem dX10_value_38 : decode cX10_value 38 = .ok (.iadd, 1) := by decide +kernel
theorem dX10_value_39 : decode cX10_value 39 = .ok (.istore 4, 2) := by decide +kernel
theorem dX10_value_41 : decode cX10_value 41 = .ok (.iload_n 3, 1) := by decide +kernel
theorem dX10_value_42 : decode cX10_value 42 = .ok (.ifCond .ne 13, 3) := by decide +kernel
theorem dX10_value_45 : decode cX10_value 45 = .ok (.aload_n 0, 1) := by decide +kernel
theorem dX10_value_46 : decode cX10_value 46 = .ok (.getfield 34, 3) := by decide +kernel
theorem dX10_value_49 : decode cX10_value 49 = .ok (.iload 4, 2) := by decide +kernel
theorem dX10_value_51 : decode cX10_value 51 = .ok (.iaload, 1) := by decide +kernel
theorem dX10_value_52 : decode cX10_value 52 = .ok (.goto 48, 3) := by decide +kernel
theorem dX10_value_55 : decode cX10_value 55 = .ok (.iload_n 3, 1) := by decide +kernel
theorem dX10_value_56 : decode cX10_value 56 = .ok (.iconst 1, 1) := by decide +kernel
theorem dX10_value_57 : decode cX10_value 57 = .ok (.if_icmp .ne 13, 3) := by decide +kernel
theorem dX10_value_60 : decode cX10_value 60 = .ok (.aload_n 0, 1) := by decide +kernel
theorem dX10_value_61 : decode cX10_value 61 = .ok (.getfield 37, 3) := by decide +kernel
theorem dX10_value_64 : decode cX10_value 64 = .ok (.iload 4, 2) := by decide +kernel
theorem dX10_value_66 : decode cX10_value 66 = .ok (.iaload, 1) := by decide +kernel
theorem dX10_value_67 : decode cX10_value 67 = .ok (.goto 33, 3) := by decide +kernel
theorem dX10_value_70 : decode cX10_value 70 = .ok (.iload_n 3, 1) := by decide +kernel
theorem dX10_value_71 : decode cX10_value 71 = .ok (.iconst 2, 1) := by decide +kernel
theorem dX10_value_72 : decode cX10_value 72 = .ok (.if_icmp .ne 13, 3) := by decide +kernel
theorem dX10_value_75 : decode cX10_value 75 = .ok (.aload_n 0, 1) := by decide +kernel
theorem dX10_value_76 : decode cX10_value 76 = .ok (.getfield 40, 3) := by decide +kernel
theorem dX10_value_79 : decode cX10_value 79 = .ok (.iload 4, 2) := by decide +kernel
theorem dX10_value_81 : decode cX10_value 81 = .ok (.iaload, 1) := by decide +kernel
theorem dX10_value_82 : decode cX10_value 82 = .ok (.goto 18, 3) := by decide +kernel
theorem dX10_value_85 : decode cX10_value 85 = .ok (.aload_n 0, 1) := by decide +kernel
theorem dX10_value_86 : decode cX10_value 86 = .ok (.getfield 46, 3) := by decide +kernel
theorem dX10_value_89 : decode cX10_value 89 = .ok (.iload 4, 2) := by decide +kernel
theorem dX10_value_91 : decode cX10_value 91 = .ok (.baload, 1) := by decide +kernel
theorem dX10_value_92 : decode cX10_value 92 = .ok (.ifCond .eq 7, 3) := by decide +kernel
theorem dX10_value_95 : decode cX10_value 95 = .ok (.iconst 1, 1) := by decide +kernel
theorem dX10_value_96 : decode cX10_value 96 = .ok (.goto 4, 3) := by decide +kernel
theorem dX10_value_99 : decode cX10_value 99 = .ok (.iconst 0, 1) := by decide +kernel
theorem dX10_value_100 : decode cX10_value 100 = .ok (.ireturn, 1) := by decide +kernel
theorem dX10_mix_0 : decode cX10_mix 0 = .ok (.iload_n 1, 1) := by decide +kernel
theorem dX10_mix_1 : decode cX10_mix 1 = .ok (.invokestatic 175, 3) := by decide +kernel
theorem dX10_mix_4 : decode cX10_mix 4 = .ok (.ifCond .ne 5, 3) := by decide +kernel
theorem dX10_mix_7 : decode cX10_mix 7 = .ok (.iconst (-1), 1) := by decide +kernel
theorem dX10_mix_8 : decode cX10_mix 8 = .ok (.ireturn, 1) := by decide +kernel
theorem dX10_mix_9 : decode cX10_mix 9 = .ok (.aload_n 0, 1) := by decide +kernel
theorem dX10_mix_10 : decode cX10_mix 10 = .ok (.invokevirtual 152, 3) := by decide +kernel
theorem dX10_mix_13 : decode cX10_mix 13 = .ok (.aload_n 0, 1) := by decide +kernel
theorem dX10_mix_14 : decode cX10_mix 14 = .ok (.iload_n 1, 1) := by decide +kernel
theorem dX10_mix_15 : decode cX10_mix 15 = .ok (.aload_n 0, 1) := by decide +kernel
theorem dX10_mix_16 : decode cX10_mix 16 = .ok (.getfield 9, 3) := by decide +kernel
theorem dX10_mix_19 : decode cX10_mix 19 = .ok (.sipush 465, 3) := by decide +kernel
theorem dX10_mix_22 : decode cX10_mix 22 = .ok (.iaload, 1) := by decide +kernel
theorem dX10_mix_23 : decode cX10_mix 23 = .ok (.invokevirtual 196, 3) := by decide +kernel
theorem dX10_mix_26 : decode cX10_mix 26 = .ok (.ireturn, 1) := by decide +kernel
theorem dX10_peak_0 : decode cX10_peak 0 = .ok (.iload_n 1, 1) := by decide +kernel
theorem dX10_peak_1 : decode cX10_peak 1 = .ok (.iconst 0, 1) := by decide +kernel
theorem dX10_peak_2 : decode cX10_peak 2 = .ok (.iconst 4, 1) := by decide +kernel
theorem dX10_peak_3 : decode cX10_peak 3 = .ok (.invokestatic 103, 3) := by decide +kernel
theorem dX10_peak_6 : decode cX10_peak 6 = .ok (.ifCond .ne 6, 3) := by decide +kernel
theorem dX10_peak_9 : decode cX10_peak 9 = .ok (.bipush (-2), 2) := by decide +kernel
theorem dX10_peak_11 : decode cX10_peak 11 = .ok (.ireturn, 1) := by decide +kernel
theorem dX10_peak_12 : decode cX10_peak 12 = .ok (.iload_n 1, 1) := by decide +kernel
theorem dX10_peak_13 : decode cX10_peak 13 = .ok (.ifCond .ne 8, 3) := by decide +kernel
theorem dX10_peak_16 : decode cX10_peak 16 = .ok (.aload_n 0, 1) := by decide +kernel
theorem dX10_peak_17 : decode cX10_peak 17 = .ok (.invokevirtual 155, 3) := by decide +kernel
theorem dX10_peak_20 : decode cX10_peak 20 = .ok (.ireturn, 1) := by decide +kernel
theorem dX10_peak_21 : decode cX10_peak 21 = .ok (.aload_n 0, 1) := by decide +kernel
theorem dX10_peak_22 : decode cX10_peak 22 = .ok (.invokevirtual 152, 3) := by decide +kernel
theorem dX10_peak_25 : decode cX10_peak 25 = .ok (.iconst 0, 1) := by decide +kernel
theorem dX10_peak_26 : decode cX10_peak 26 = .ok (.istore_n 2, 1) := by decide +kernel
theorem dX10_peak_27 : decode cX10_peak 27 = .ok (.iconst 0, 1) := by decide +kernel
theorem dX10_peak_28 : decode cX10_peak 28 = .ok (.istore_n 3, 1) := by decide +kernel
theorem dX10_peak_29 : decode cX10_peak 29 = .ok (.iconst 0, 1) := by decide +kernel
theorem dX10_peak_30 : decode cX10_peak 30 = .ok (.istore 4, 2) := by decide +kernel
theorem dX10_peak_32 : decode cX10_peak 32 = .ok (.iconst 0, 1) := by decide +kernel
theorem dX10_peak_33 : decode cX10_peak 33 = .ok (.istore 5, 2) := by decide +kernel
theorem dX10_peak_35 : decode cX10_peak 35 = .ok (.iconst 0, 1) := by decide +kernel
theorem dX10_peak_36 : decode cX10_peak 36 = .ok (.istore 6, 2) := by decide +kernel
theorem dX10_peak_38 : decode cX10_peak 38 = .ok (.iload 6, 2) := by decide +kernel
theorem dX10_peak_40 : decode cX10_peak 40 = .ok (.sipush 600, 3) := by decide +kernel
theorem dX10_peak_43 : decode cX10_peak 43 = .ok (.if_icmp .ge 93, 3) := by decide +kernel
theorem dX10_peak_46 : decode cX10_peak 46 = .ok (.aload_n 0, 1) := by decide +kernel
theorem dX10_peak_47 : decode cX10_peak 47 = .ok (.iload 6, 2) := by decide +kernel
theorem dX10_peak_49 : decode cX10_peak 49 = .ok (.aload_n 0, 1) := by decide +kernel
theorem dX10_peak_50 : decode cX10_peak 50 = .ok (.getfield 9, 3) := by decide +kernel
theorem dX10_peak_53 : decode cX10_peak 53 = .ok (.sipush 465, 3) := by decide +kernel
theorem dX10_peak_56 : decode cX10_peak 56 = .ok (.iaload, 1) := by decide +kernel
theorem dX10_peak_57 : decode cX10_peak 57 = .ok (.invokevirtual 196, 3) := by decide +kernel
theorem dX10_peak_60 : decode cX10_peak 60 = .ok (.istore 7, 2) := by decide +kernel
theorem dX10_peak_62 : decode cX10_peak 62 = .ok (.iload 7, 2) := by decide +kernel
theorem dX10_peak_64 : decode cX10_peak 64 = .ok (.iload_n 2, 1) := by decide +kernel
theorem dX10_peak_65 : decode cX10_peak 65 = .ok (.if_icmp .le 8, 3) := by decide +kernel
theorem dX10_peak_68 : decode cX10_peak 68 = .ok (.iload 6, 2) := by decide +kernel
theorem dX10_peak_70 : decode cX10_peak 70 = .ok (.goto 4, 3) := by decide +kernel
theorem dX10_peak_73 : decode cX10_peak 73 = .ok (.iload_n 3, 1) := by decide +kernel
theorem dX10_peak_74 : decode cX10_peak 74 = .ok (.istore_n 3, 1) := by decide +kernel
theorem dX10_peak_75 : decode cX10_peak 75 = .ok (.iload 7, 2) := by decide +kernel
theorem dX10_peak_77 : decode cX10_peak 77 = .ok (.iload_n 2, 1) := by decide +kernel
theorem dX10_peak_78 : decode cX10_peak 78 = .ok (.if_icmp .le 8, 3) := by decide +kernel
theorem dX10_peak_81 : decode cX10_peak 81 = .ok (.iload 7, 2) := by decide +kernel
theorem dX10_peak_83 : decode cX10_peak 83 = .ok (.goto 4, 3) := by decide +kernel
theorem dX10_peak_86 : decode cX10_peak 86 = .ok (.iload_n 2, 1) := by decide +kernel
theorem dX10_peak_87 : decode cX10_peak 87 = .ok (.istore_n 2, 1) := by decide +kernel
theorem dX10_peak_88 : decode cX10_peak 88 = .ok (.iload 4, 2) := by decide +kernel
theorem dX10_peak_90 : decode cX10_peak 90 = .ok (.aload_n 0, 1) := by decide +kernel
theorem dX10_peak_91 : decode cX10_peak 91 = .ok (.getfield 43, 3) := by decide +kernel
theorem dX10_peak_94 : decode cX10_peak 94 = .ok (.iload 6, 2) := by decide +kernel
theorem dX10_peak_96 : decode cX10_peak 96 = .ok (.iaload, 1) := by decide +kernel
theorem dX10_peak_97 : decode cX10_peak 97 = .ok (.aload_n 0, 1) := by decide +kernel
theorem dX10_peak_98 : decode cX10_peak 98 = .ok (.getfield 9, 3) := by decide +kernel
theorem dX10_peak_101 : decode cX10_peak 101 = .ok (.sipush 465, 3) := by decide +kernel
theorem dX10_peak_104 : decode cX10_peak 104 = .ok (.iaload, 1) := by decide +kernel
theorem dX10_peak_105 : decode cX10_peak 105 = .ok (.imul, 1) := by decide +kernel
theorem dX10_peak_106 : decode cX10_peak 106 = .ok (.bipush 100, 2) := by decide +kernel
theorem dX10_peak_108 : decode cX10_peak 108 = .ok (.idiv, 1) := by decide +kernel
theorem dX10_peak_109 : decode cX10_peak 109 = .ok (.sipush 999, 3) := by decide +kernel
theorem dX10_peak_112 : decode cX10_peak 112 = .ok (.if_icmp .le 7, 3) := by decide +kernel
theorem dX10_peak_115 : decode cX10_peak 115 = .ok (.iconst 1, 1) := by decide +kernel
theorem dX10_peak_116 : decode cX10_peak 116 = .ok (.goto 4, 3) := by decide +kernel
theorem dX10_peak_119 : decode cX10_peak 119 = .ok (.iconst 0, 1) := by decide +kernel
theorem dX10_peak_120 : decode cX10_peak 120 = .ok (.iadd, 1) := by decide +kernel
theorem dX10_peak_121 : decode cX10_peak 121 = .ok (.istore 4, 2) := by decide +kernel
theorem dX10_peak_123 : decode cX10_peak 123 = .ok (.iload 5, 2) := by decide +kernel
theorem dX10_peak_125 : decode cX10_peak 125 = .ok (.iload 7, 2) := by decide +kernel
theorem dX10_peak_127 : decode cX10_peak 127 = .ok (.iadd, 1) := by decide +kernel
theorem dX10_peak_128 : decode cX10_peak 128 = .ok (.istore 5, 2) := by decide +kernel
theorem dX10_peak_130 : decode cX10_peak 130 = .ok (.iinc 6 1, 3) := by decide +kernel
theorem dX10_peak_133 : decode cX10_peak 133 = .ok (.goto (-95), 3) := by decide +kernel
theorem dX10_peak_136 : decode cX10_peak 136 = .ok (.iload_n 1, 1) := by decide +kernel
theorem dX10_peak_137 : decode cX10_peak 137 = .ok (.iconst 1, 1) := by decide +kernel
theorem dX10_peak_138 : decode cX10_peak 138 = .ok (.if_icmp .ne 7, 3) := by decide +kernel
theorem dX10_peak_141 : decode cX10_peak 141 = .ok (.iload_n 2, 1) := by decide +kernel
theorem dX10_peak_142 : decode cX10_peak 142 = .ok (.goto 24, 3) := by decide +kernel
theorem dX10_peak_145 : decode cX10_peak 145 = .ok (.iload_n 1, 1) := by decide +kernel
theorem dX10_peak_146 : decode cX10_peak 146 = .ok (.iconst 2, 1) := by decide +kernel
theorem dX10_peak_147 : decode cX10_peak 147 = .ok (.if_icmp .ne 7, 3) := by decide +kernel
theorem dX10_peak_150 : decode cX10_peak 150 = .ok (.iload_n 3, 1) := by decide +kernel
theorem dX10_peak_151 : decode cX10_peak 151 = .ok (.goto 15, 3) := by decide +kernel
theorem dX10_peak_154 : decode cX10_peak 154 = .ok (.iload_n 1, 1) := by decide +kernel
theorem dX10_peak_155 : decode cX10_peak 155 = .ok (.iconst 3, 1) := by decide +kernel
theorem dX10_peak_156 : decode cX10_peak 156 = .ok (.if_icmp .ne 8, 3) := by decide +kernel
theorem dX10_peak_159 : decode cX10_peak 159 = .ok (.iload 4, 2) := by decide +kernel
theorem dX10_peak_161 : decode cX10_peak 161 = .ok (.goto 5, 3) := by decide +kernel
theorem dX10_peak_164 : decode cX10_peak 164 = .ok (.iload 5, 2) := by decide +kernel
theorem dX10_peak_166 : decode cX10_peak 166 = .ok (.ireturn, 1) := by decide +kernel
theorem dX10_windows_0 : decode cX10_windows 0 = .ok (.aload_n 0, 1) := by decide +kernel
theorem dX10_windows_1 : decode cX10_windows 1 = .ok (.invokevirtual 155, 3) := by decide +kernel
theorem dX10_windows_4 : decode cX10_windows 4 = .ok (.aload_n 0, 1) := by decide +kernel
theorem dX10_windows_5 : decode cX10_windows 5 = .ok (.getfield 9, 3) := by decide +kernel
theorem dX10_windows_8 : decode cX10_windows 8 = .ok (.sipush 466, 3) := by decide +kernel
theorem dX10_windows_11 : decode cX10_windows 11 = .ok (.iaload, 1) := by decide +kernel
theorem dX10_windows_12 : decode cX10_windows 12 = .ok (.iadd, 1) := by decide +kernel
theorem dX10_windows_13 : decode cX10_windows 13 = .ok (.iconst 1, 1) := by decide +kernel
theorem dX10_windows_14 : decode cX10_windows 14 = .ok (.isub, 1) := by decide +kernel
theorem dX10_windows_15 : decode cX10_windows 15 = .ok (.aload_n 0, 1) := by decide +kernel
theorem dX10_windows_16 : decode cX10_windows 16 = .ok (.getfield 9, 3) := by decide +kernel
theorem dX10_windows_19 : decode cX10_windows 19 = .ok (.sipush 466, 3) := by decide +kernel
theorem dX10_windows_22 : decode cX10_windows 22 = .ok (.iaload, 1) := by decide +kernel
theorem dX10_windows_23 : decode cX10_windows 23 = .ok (.idiv, 1) := by decide +kernel
theorem dX10_windows_24 : decode cX10_windows 24 = .ok (.ireturn, 1) := by decide +kernel
theorem dX10_levelOf_0 : decode cX10_levelOf 0 = .ok (.aload_n 0, 1) := by decide +kernel
theorem dX10_levelOf_1 : decode cX10_levelOf 1 = .ok (.getfield 9, 3) := by decide +kernel
theorem dX10_levelOf_4 : decode cX10_levelOf 4 = .ok (.sipush 466, 3) := by decide +kernel
theorem dX10_levelOf_7 : decode cX10_levelOf 7 = .ok (.iaload, 1) := by decide +kernel
theorem dX10_levelOf_8 : decode cX10_levelOf 8 = .ok (.istore_n 3, 1) := by decide +kernel
theorem dX10_levelOf_9 : decode cX10_levelOf 9 = .ok (.iconst 0, 1) := by decide +kernel
theorem dX10_levelOf_10 : decode cX10_levelOf 10 = .ok (.istore 4, 2) := by decide +kernel
theorem dX10_levelOf_12 : decode cX10_levelOf 12 = .ok (.iload_n 3, 1) := by decide +kernel
theorem dX10_levelOf_13 : decode cX10_levelOf 13 = .ok (.iload_n 1, 1) := by decide +kernel
theorem dX10_levelOf_14 : decode cX10_levelOf 14 = .ok (.imul, 1) := by decide +kernel
theorem dX10_levelOf_15 : decode cX10_levelOf 15 = .ok (.istore 5, 2) := by decide +kernel
theorem dX10_levelOf_17 : decode cX10_levelOf 17 = .ok (.iload 5, 2) := by decide +kernel
theorem dX10_levelOf_19 : decode cX10_levelOf 19 = .ok (.iload_n 3, 1) := by decide +kernel
theorem dX10_levelOf_20 : decode cX10_levelOf 20 = .ok (.iload_n 1, 1) := by decide +kernel
theorem dX10_levelOf_21 : decode cX10_levelOf 21 = .ok (.imul, 1) := by decide +kernel
theorem dX10_levelOf_22 : decode cX10_levelOf 22 = .ok (.iload_n 3, 1) := by decide +kernel
theorem dX10_levelOf_23 : decode cX10_levelOf 23 = .ok (.iadd, 1) := by decide +kernel
theorem dX10_levelOf_24 : decode cX10_levelOf 24 = .ok (.if_icmp .ge 37, 3) := by decide +kernel
theorem dX10_levelOf_27 : decode cX10_levelOf 27 = .ok (.iload 5, 2) := by decide +kernel
theorem dX10_levelOf_29 : decode cX10_levelOf 29 = .ok (.sipush 600, 3) := by decide +kernel
theorem dX10_levelOf_32 : decode cX10_levelOf 32 = .ok (.if_icmp .ge 29, 3) := by decide +kernel
theorem dX10_levelOf_35 : decode cX10_levelOf 35 = .ok (.iload 4, 2) := by decide +kernel
theorem dX10_levelOf_37 : decode cX10_levelOf 37 = .ok (.aload_n 0, 1) := by decide +kernel
theorem dX10_levelOf_38 : decode cX10_levelOf 38 = .ok (.iload 5, 2) := by decide +kernel
theorem dX10_levelOf_40 : decode cX10_levelOf 40 = .ok (.iload_n 2, 1) := by decide +kernel
theorem dX10_levelOf_41 : decode cX10_levelOf 41 = .ok (.invokevirtual 196, 3) := by decide +kernel
theorem dX10_levelOf_44 : decode cX10_levelOf 44 = .ok (.aload_n 0, 1) := by decide +kernel
theorem dX10_levelOf_45 : decode cX10_levelOf 45 = .ok (.iload 5, 2) := by decide +kernel
theorem dX10_levelOf_47 : decode cX10_levelOf 47 = .ok (.iload_n 2, 1) := by decide +kernel
theorem dX10_levelOf_48 : decode cX10_levelOf 48 = .ok (.invokevirtual 196, 3) := by decide +kernel
theorem dX10_levelOf_51 : decode cX10_levelOf 51 = .ok (.imul, 1) := by decide +kernel
theorem dX10_levelOf_52 : decode cX10_levelOf 52 = .ok (.iadd, 1) := by decide +kernel
theorem dX10_levelOf_53 : decode cX10_levelOf 53 = .ok (.istore 4, 2) := by decide +kernel
theorem dX10_levelOf_55 : decode cX10_levelOf 55 = .ok (.iinc 5 1, 3) := by decide +kernel
theorem dX10_levelOf_58 : decode cX10_levelOf 58 = .ok (.goto (-41), 3) := by decide +kernel
theorem dX10_levelOf_61 : decode cX10_levelOf 61 = .ok (.iload 4, 2) := by decide +kernel
theorem dX10_levelOf_63 : decode cX10_levelOf 63 = .ok (.iload_n 3, 1) := by decide +kernel
theorem dX10_levelOf_64 : decode cX10_levelOf 64 = .ok (.idiv, 1) := by decide +kernel
theorem dX10_levelOf_65 : decode cX10_levelOf 65 = .ok (.ireturn, 1) := by decide +kernel
theorem dX10_level_0 : decode cX10_level 0 = .ok (.iload_n 1, 1) := by decide +kernel
theorem dX10_level_1 : decode cX10_level 1 = .ok (.iconst 0, 1) := by decide +kernel
theorem dX10_level_2 : decode cX10_level 2 = .ok (.aload_n 0, 1) := by decide +kernel
theorem dX10_level_3 : decode cX10_level 3 = .ok (.invokevirtual 224, 3) := by decide +kernel
theorem dX10_level_6 : decode cX10_level 6 = .ok (.iconst 1, 1) := by decide +kernel
theorem dX10_level_7 : decode cX10_level 7 = .ok (.isub, 1) := by decide +kernel
theorem dX10_level_8 : decode cX10_level 8 = .ok (.invokestatic 103, 3) := by decide +kernel
theorem dX10_level_11 : decode cX10_level 11 = .ok (.ifCond .ne 5, 3) := by decide +kernel
theorem dX10_level_14 : decode cX10_level 14 = .ok (.iconst (-1), 1) := by decide +kernel
theorem dX10_level_15 : decode cX10_level 15 = .ok (.ireturn, 1) := by decide +kernel
theorem dX10_level_16 : decode cX10_level 16 = .ok (.aload_n 0, 1) := by decide +kernel
theorem dX10_level_17 : decode cX10_level 17 = .ok (.invokevirtual 152, 3) := by decide +kernel
theorem dX10_level_20 : decode cX10_level 20 = .ok (.aload_n 0, 1) := by decide +kernel
