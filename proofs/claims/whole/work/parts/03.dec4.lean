theorem dX10_level_21 : decode cX10_level 21 = .ok (.iload_n 1, 1) := by decide +kernel
theorem dX10_level_22 : decode cX10_level 22 = .ok (.aload_n 0, 1) := by decide +kernel
theorem dX10_level_23 : decode cX10_level 23 = .ok (.getfield 9, 3) := by decide +kernel
theorem dX10_level_26 : decode cX10_level 26 = .ok (.sipush 465, 3) := by decide +kernel
theorem dX10_level_29 : decode cX10_level 29 = .ok (.iaload, 1) := by decide +kernel
theorem dX10_level_30 : decode cX10_level 30 = .ok (.invokevirtual 227, 3) := by decide +kernel
theorem dX10_level_33 : decode cX10_level 33 = .ok (.ireturn, 1) := by decide +kernel
theorem dX10_loudnessOf_0 : decode cX10_loudnessOf 0 = .ok (.aload_n 0, 1) := by decide +kernel
theorem dX10_loudnessOf_1 : decode cX10_loudnessOf 1 = .ok (.invokevirtual 224, 3) := by decide +kernel
theorem dX10_loudnessOf_4 : decode cX10_loudnessOf 4 = .ok (.istore_n 3, 1) := by decide +kernel
theorem dX10_loudnessOf_5 : decode cX10_loudnessOf 5 = .ok (.aload_n 0, 1) := by decide +kernel
theorem dX10_loudnessOf_6 : decode cX10_loudnessOf 6 = .ok (.getfield 9, 3) := by decide +kernel
theorem dX10_loudnessOf_9 : decode cX10_loudnessOf 9 = .ok (.sipush 467, 3) := by decide +kernel
theorem dX10_loudnessOf_12 : decode cX10_loudnessOf 12 = .ok (.iaload, 1) := by decide +kernel
theorem dX10_loudnessOf_13 : decode cX10_loudnessOf 13 = .ok (.aload_n 0, 1) := by decide +kernel
theorem dX10_loudnessOf_14 : decode cX10_loudnessOf 14 = .ok (.getfield 9, 3) := by decide +kernel
theorem dX10_loudnessOf_17 : decode cX10_loudnessOf 17 = .ok (.sipush 467, 3) := by decide +kernel
theorem dX10_loudnessOf_20 : decode cX10_loudnessOf 20 = .ok (.iaload, 1) := by decide +kernel
theorem dX10_loudnessOf_21 : decode cX10_loudnessOf 21 = .ok (.imul, 1) := by decide +kernel
theorem dX10_loudnessOf_22 : decode cX10_loudnessOf 22 = .ok (.istore 4, 2) := by decide +kernel
theorem dX10_loudnessOf_24 : decode cX10_loudnessOf 24 = .ok (.iconst 0, 1) := by decide +kernel
theorem dX10_loudnessOf_25 : decode cX10_loudnessOf 25 = .ok (.istore 5, 2) := by decide +kernel
theorem dX10_loudnessOf_27 : decode cX10_loudnessOf 27 = .ok (.iconst 0, 1) := by decide +kernel
theorem dX10_loudnessOf_28 : decode cX10_loudnessOf 28 = .ok (.istore 6, 2) := by decide +kernel
theorem dX10_loudnessOf_30 : decode cX10_loudnessOf 30 = .ok (.iconst 0, 1) := by decide +kernel
theorem dX10_loudnessOf_31 : decode cX10_loudnessOf 31 = .ok (.istore 7, 2) := by decide +kernel
theorem dX10_loudnessOf_33 : decode cX10_loudnessOf 33 = .ok (.iload 7, 2) := by decide +kernel
theorem dX10_loudnessOf_35 : decode cX10_loudnessOf 35 = .ok (.iload_n 3, 1) := by decide +kernel
theorem dX10_loudnessOf_36 : decode cX10_loudnessOf 36 = .ok (.if_icmp .ge 73, 3) := by decide +kernel
theorem dX10_loudnessOf_39 : decode cX10_loudnessOf 39 = .ok (.aload_n 0, 1) := by decide +kernel
theorem dX10_loudnessOf_40 : decode cX10_loudnessOf 40 = .ok (.getfield 56, 3) := by decide +kernel
theorem dX10_loudnessOf_43 : decode cX10_loudnessOf 43 = .ok (.iload 7, 2) := by decide +kernel
theorem dX10_loudnessOf_45 : decode cX10_loudnessOf 45 = .ok (.aload_n 0, 1) := by decide +kernel
theorem dX10_loudnessOf_46 : decode cX10_loudnessOf 46 = .ok (.iload 7, 2) := by decide +kernel
theorem dX10_loudnessOf_48 : decode cX10_loudnessOf 48 = .ok (.iload_n 2, 1) := by decide +kernel
theorem dX10_loudnessOf_49 : decode cX10_loudnessOf 49 = .ok (.invokevirtual 227, 3) := by decide +kernel
theorem dX10_loudnessOf_52 : decode cX10_loudnessOf 52 = .ok (.iastore, 1) := by decide +kernel
theorem dX10_loudnessOf_53 : decode cX10_loudnessOf 53 = .ok (.iload 5, 2) := by decide +kernel
theorem dX10_loudnessOf_55 : decode cX10_loudnessOf 55 = .ok (.aload_n 0, 1) := by decide +kernel
theorem dX10_loudnessOf_56 : decode cX10_loudnessOf 56 = .ok (.getfield 56, 3) := by decide +kernel
theorem dX10_loudnessOf_59 : decode cX10_loudnessOf 59 = .ok (.iload 7, 2) := by decide +kernel
theorem dX10_loudnessOf_61 : decode cX10_loudnessOf 61 = .ok (.iaload, 1) := by decide +kernel
theorem dX10_loudnessOf_62 : decode cX10_loudnessOf 62 = .ok (.iload 4, 2) := by decide +kernel
theorem dX10_loudnessOf_64 : decode cX10_loudnessOf 64 = .ok (.if_icmp .ge 7, 3) := by decide +kernel
theorem dX10_loudnessOf_67 : decode cX10_loudnessOf 67 = .ok (.iconst 1, 1) := by decide +kernel
theorem dX10_loudnessOf_68 : decode cX10_loudnessOf 68 = .ok (.goto 4, 3) := by decide +kernel
theorem dX10_loudnessOf_71 : decode cX10_loudnessOf 71 = .ok (.iconst 0, 1) := by decide +kernel
theorem dX10_loudnessOf_72 : decode cX10_loudnessOf 72 = .ok (.iadd, 1) := by decide +kernel
theorem dX10_loudnessOf_73 : decode cX10_loudnessOf 73 = .ok (.istore 5, 2) := by decide +kernel
theorem dX10_loudnessOf_75 : decode cX10_loudnessOf 75 = .ok (.iload 6, 2) := by decide +kernel
theorem dX10_loudnessOf_77 : decode cX10_loudnessOf 77 = .ok (.aload_n 0, 1) := by decide +kernel
theorem dX10_loudnessOf_78 : decode cX10_loudnessOf 78 = .ok (.getfield 56, 3) := by decide +kernel
theorem dX10_loudnessOf_81 : decode cX10_loudnessOf 81 = .ok (.iload 7, 2) := by decide +kernel
theorem dX10_loudnessOf_83 : decode cX10_loudnessOf 83 = .ok (.iaload, 1) := by decide +kernel
theorem dX10_loudnessOf_84 : decode cX10_loudnessOf 84 = .ok (.iload 4, 2) := by decide +kernel
theorem dX10_loudnessOf_86 : decode cX10_loudnessOf 86 = .ok (.if_icmp .ge 7, 3) := by decide +kernel
theorem dX10_loudnessOf_89 : decode cX10_loudnessOf 89 = .ok (.iconst 0, 1) := by decide +kernel
theorem dX10_loudnessOf_90 : decode cX10_loudnessOf 90 = .ok (.goto 10, 3) := by decide +kernel
theorem dX10_loudnessOf_93 : decode cX10_loudnessOf 93 = .ok (.aload_n 0, 1) := by decide +kernel
theorem dX10_loudnessOf_94 : decode cX10_loudnessOf 94 = .ok (.getfield 56, 3) := by decide +kernel
theorem dX10_loudnessOf_97 : decode cX10_loudnessOf 97 = .ok (.iload 7, 2) := by decide +kernel
theorem dX10_loudnessOf_99 : decode cX10_loudnessOf 99 = .ok (.iaload, 1) := by decide +kernel
theorem dX10_loudnessOf_100 : decode cX10_loudnessOf 100 = .ok (.iadd, 1) := by decide +kernel
theorem dX10_loudnessOf_101 : decode cX10_loudnessOf 101 = .ok (.istore 6, 2) := by decide +kernel
theorem dX10_loudnessOf_103 : decode cX10_loudnessOf 103 = .ok (.iinc 7 1, 3) := by decide +kernel
theorem dX10_loudnessOf_106 : decode cX10_loudnessOf 106 = .ok (.goto (-73), 3) := by decide +kernel
theorem dX10_loudnessOf_109 : decode cX10_loudnessOf 109 = .ok (.iload 5, 2) := by decide +kernel
theorem dX10_loudnessOf_111 : decode cX10_loudnessOf 111 = .ok (.iload_n 3, 1) := by decide +kernel
theorem dX10_loudnessOf_112 : decode cX10_loudnessOf 112 = .ok (.if_icmp .ne 7, 3) := by decide +kernel
theorem dX10_loudnessOf_115 : decode cX10_loudnessOf 115 = .ok (.iconst 0, 1) := by decide +kernel
theorem dX10_loudnessOf_116 : decode cX10_loudnessOf 116 = .ok (.goto 10, 3) := by decide +kernel
theorem dX10_loudnessOf_119 : decode cX10_loudnessOf 119 = .ok (.iload 6, 2) := by decide +kernel
theorem dX10_loudnessOf_121 : decode cX10_loudnessOf 121 = .ok (.iload_n 3, 1) := by decide +kernel
theorem dX10_loudnessOf_122 : decode cX10_loudnessOf 122 = .ok (.iload 5, 2) := by decide +kernel
theorem dX10_loudnessOf_124 : decode cX10_loudnessOf 124 = .ok (.isub, 1) := by decide +kernel
theorem dX10_loudnessOf_125 : decode cX10_loudnessOf 125 = .ok (.idiv, 1) := by decide +kernel
theorem dX10_loudnessOf_126 : decode cX10_loudnessOf 126 = .ok (.istore 7, 2) := by decide +kernel
theorem dX10_loudnessOf_128 : decode cX10_loudnessOf 128 = .ok (.iconst 0, 1) := by decide +kernel
theorem dX10_loudnessOf_129 : decode cX10_loudnessOf 129 = .ok (.istore 8, 2) := by decide +kernel
theorem dX10_loudnessOf_131 : decode cX10_loudnessOf 131 = .ok (.iconst 0, 1) := by decide +kernel
theorem dX10_loudnessOf_132 : decode cX10_loudnessOf 132 = .ok (.istore 9, 2) := by decide +kernel
theorem dX10_loudnessOf_134 : decode cX10_loudnessOf 134 = .ok (.iconst 0, 1) := by decide +kernel
theorem dX10_loudnessOf_135 : decode cX10_loudnessOf 135 = .ok (.istore 10, 2) := by decide +kernel
theorem dX10_loudnessOf_137 : decode cX10_loudnessOf 137 = .ok (.iload 10, 2) := by decide +kernel
theorem dX10_loudnessOf_139 : decode cX10_loudnessOf 139 = .ok (.iload_n 3, 1) := by decide +kernel
theorem dX10_loudnessOf_140 : decode cX10_loudnessOf 140 = .ok (.if_icmp .ge 91, 3) := by decide +kernel
theorem dX10_loudnessOf_143 : decode cX10_loudnessOf 143 = .ok (.aload_n 0, 1) := by decide +kernel
theorem dX10_loudnessOf_144 : decode cX10_loudnessOf 144 = .ok (.getfield 56, 3) := by decide +kernel
theorem dX10_loudnessOf_147 : decode cX10_loudnessOf 147 = .ok (.iload 10, 2) := by decide +kernel
theorem dX10_loudnessOf_149 : decode cX10_loudnessOf 149 = .ok (.iaload, 1) := by decide +kernel
theorem dX10_loudnessOf_150 : decode cX10_loudnessOf 150 = .ok (.iload 4, 2) := by decide +kernel
theorem dX10_loudnessOf_152 : decode cX10_loudnessOf 152 = .ok (.if_icmp .ge 6, 3) := by decide +kernel
theorem dX10_loudnessOf_155 : decode cX10_loudnessOf 155 = .ok (.goto 70, 3) := by decide +kernel
theorem dX10_loudnessOf_158 : decode cX10_loudnessOf 158 = .ok (.bipush 100, 2) := by decide +kernel
theorem dX10_loudnessOf_160 : decode cX10_loudnessOf 160 = .ok (.aload_n 0, 1) := by decide +kernel
theorem dX10_loudnessOf_161 : decode cX10_loudnessOf 161 = .ok (.getfield 56, 3) := by decide +kernel
theorem dX10_loudnessOf_164 : decode cX10_loudnessOf 164 = .ok (.iload 10, 2) := by decide +kernel
theorem dX10_loudnessOf_166 : decode cX10_loudnessOf 166 = .ok (.iaload, 1) := by decide +kernel
theorem dX10_loudnessOf_167 : decode cX10_loudnessOf 167 = .ok (.imul, 1) := by decide +kernel
theorem dX10_loudnessOf_168 : decode cX10_loudnessOf 168 = .ok (.iload 7, 2) := by decide +kernel
theorem dX10_loudnessOf_170 : decode cX10_loudnessOf 170 = .ok (.aload_n 0, 1) := by decide +kernel
theorem dX10_loudnessOf_171 : decode cX10_loudnessOf 171 = .ok (.getfield 9, 3) := by decide +kernel
theorem dX10_loudnessOf_174 : decode cX10_loudnessOf 174 = .ok (.sipush 468, 3) := by decide +kernel
theorem dX10_loudnessOf_177 : decode cX10_loudnessOf 177 = .ok (.iaload, 1) := by decide +kernel
theorem dX10_loudnessOf_178 : decode cX10_loudnessOf 178 = .ok (.imul, 1) := by decide +kernel
theorem dX10_loudnessOf_179 : decode cX10_loudnessOf 179 = .ok (.if_icmp .ge 7, 3) := by decide +kernel
theorem dX10_loudnessOf_182 : decode cX10_loudnessOf 182 = .ok (.iconst 1, 1) := by decide +kernel
theorem dX10_loudnessOf_183 : decode cX10_loudnessOf 183 = .ok (.goto 4, 3) := by decide +kernel
theorem dX10_loudnessOf_186 : decode cX10_loudnessOf 186 = .ok (.iconst 0, 1) := by decide +kernel
theorem dX10_loudnessOf_187 : decode cX10_loudnessOf 187 = .ok (.istore 11, 2) := by decide +kernel
theorem dX10_loudnessOf_189 : decode cX10_loudnessOf 189 = .ok (.iload 8, 2) := by decide +kernel
theorem dX10_loudnessOf_191 : decode cX10_loudnessOf 191 = .ok (.iload 11, 2) := by decide +kernel
theorem dX10_loudnessOf_193 : decode cX10_loudnessOf 193 = .ok (.ifCond .eq 7, 3) := by decide +kernel
theorem dX10_loudnessOf_196 : decode cX10_loudnessOf 196 = .ok (.iconst 1, 1) := by decide +kernel
theorem dX10_loudnessOf_197 : decode cX10_loudnessOf 197 = .ok (.goto 4, 3) := by decide +kernel
theorem dX10_loudnessOf_200 : decode cX10_loudnessOf 200 = .ok (.iconst 0, 1) := by decide +kernel
theorem dX10_loudnessOf_201 : decode cX10_loudnessOf 201 = .ok (.iadd, 1) := by decide +kernel
theorem dX10_loudnessOf_202 : decode cX10_loudnessOf 202 = .ok (.istore 8, 2) := by decide +kernel
theorem dX10_loudnessOf_204 : decode cX10_loudnessOf 204 = .ok (.iload 9, 2) := by decide +kernel
theorem dX10_loudnessOf_206 : decode cX10_loudnessOf 206 = .ok (.iload 11, 2) := by decide +kernel
theorem dX10_loudnessOf_208 : decode cX10_loudnessOf 208 = .ok (.ifCond .eq 7, 3) := by decide +kernel
theorem dX10_loudnessOf_211 : decode cX10_loudnessOf 211 = .ok (.iconst 0, 1) := by decide +kernel
theorem dX10_loudnessOf_212 : decode cX10_loudnessOf 212 = .ok (.goto 10, 3) := by decide +kernel
theorem dX10_loudnessOf_215 : decode cX10_loudnessOf 215 = .ok (.aload_n 0, 1) := by decide +kernel
theorem dX10_loudnessOf_216 : decode cX10_loudnessOf 216 = .ok (.getfield 56, 3) := by decide +kernel
theorem dX10_loudnessOf_219 : decode cX10_loudnessOf 219 = .ok (.iload 10, 2) := by decide +kernel
theorem dX10_loudnessOf_221 : decode cX10_loudnessOf 221 = .ok (.iaload, 1) := by decide +kernel
theorem dX10_loudnessOf_222 : decode cX10_loudnessOf 222 = .ok (.iadd, 1) := by decide +kernel
theorem dX10_loudnessOf_223 : decode cX10_loudnessOf 223 = .ok (.istore 9, 2) := by decide +kernel
theorem dX10_loudnessOf_225 : decode cX10_loudnessOf 225 = .ok (.iinc 10 1, 3) := by decide +kernel
theorem dX10_loudnessOf_228 : decode cX10_loudnessOf 228 = .ok (.goto (-91), 3) := by decide +kernel
theorem dX10_loudnessOf_231 : decode cX10_loudnessOf 231 = .ok (.iload_n 1, 1) := by decide +kernel
theorem dX10_loudnessOf_232 : decode cX10_loudnessOf 232 = .ok (.ifCond .ne 7, 3) := by decide +kernel
theorem dX10_loudnessOf_235 : decode cX10_loudnessOf 235 = .ok (.iload_n 3, 1) := by decide +kernel
theorem dX10_loudnessOf_236 : decode cX10_loudnessOf 236 = .ok (.goto 56, 3) := by decide +kernel
theorem dX10_loudnessOf_239 : decode cX10_loudnessOf 239 = .ok (.iload_n 1, 1) := by decide +kernel
theorem dX10_loudnessOf_240 : decode cX10_loudnessOf 240 = .ok (.iconst 1, 1) := by decide +kernel
theorem dX10_loudnessOf_241 : decode cX10_loudnessOf 241 = .ok (.if_icmp .ne 8, 3) := by decide +kernel
theorem dX10_loudnessOf_244 : decode cX10_loudnessOf 244 = .ok (.iload 5, 2) := by decide +kernel
theorem dX10_loudnessOf_246 : decode cX10_loudnessOf 246 = .ok (.goto 46, 3) := by decide +kernel
theorem dX10_loudnessOf_249 : decode cX10_loudnessOf 249 = .ok (.iload_n 1, 1) := by decide +kernel
theorem dX10_loudnessOf_250 : decode cX10_loudnessOf 250 = .ok (.iconst 2, 1) := by decide +kernel
theorem dX10_loudnessOf_251 : decode cX10_loudnessOf 251 = .ok (.if_icmp .ne 8, 3) := by decide +kernel
theorem dX10_loudnessOf_254 : decode cX10_loudnessOf 254 = .ok (.iload 8, 2) := by decide +kernel
theorem dX10_loudnessOf_256 : decode cX10_loudnessOf 256 = .ok (.goto 36, 3) := by decide +kernel
theorem dX10_loudnessOf_259 : decode cX10_loudnessOf 259 = .ok (.iload_n 1, 1) := by decide +kernel
theorem dX10_loudnessOf_260 : decode cX10_loudnessOf 260 = .ok (.iconst 3, 1) := by decide +kernel
theorem dX10_loudnessOf_261 : decode cX10_loudnessOf 261 = .ok (.if_icmp .ne 8, 3) := by decide +kernel
theorem dX10_loudnessOf_264 : decode cX10_loudnessOf 264 = .ok (.iload 7, 2) := by decide +kernel
theorem dX10_loudnessOf_266 : decode cX10_loudnessOf 266 = .ok (.goto 26, 3) := by decide +kernel
theorem dX10_loudnessOf_269 : decode cX10_loudnessOf 269 = .ok (.iload 5, 2) := by decide +kernel
theorem dX10_loudnessOf_271 : decode cX10_loudnessOf 271 = .ok (.iload 8, 2) := by decide +kernel
theorem dX10_loudnessOf_273 : decode cX10_loudnessOf 273 = .ok (.iadd, 1) := by decide +kernel
theorem dX10_loudnessOf_274 : decode cX10_loudnessOf 274 = .ok (.iload_n 3, 1) := by decide +kernel
theorem dX10_loudnessOf_275 : decode cX10_loudnessOf 275 = .ok (.if_icmp .ne 7, 3) := by decide +kernel
theorem dX10_loudnessOf_278 : decode cX10_loudnessOf 278 = .ok (.iconst 0, 1) := by decide +kernel
theorem dX10_loudnessOf_279 : decode cX10_loudnessOf 279 = .ok (.goto 13, 3) := by decide +kernel
theorem dX10_loudnessOf_282 : decode cX10_loudnessOf 282 = .ok (.iload 9, 2) := by decide +kernel
theorem dX10_loudnessOf_284 : decode cX10_loudnessOf 284 = .ok (.iload_n 3, 1) := by decide +kernel
theorem dX10_loudnessOf_285 : decode cX10_loudnessOf 285 = .ok (.iload 5, 2) := by decide +kernel
theorem dX10_loudnessOf_287 : decode cX10_loudnessOf 287 = .ok (.isub, 1) := by decide +kernel
theorem dX10_loudnessOf_288 : decode cX10_loudnessOf 288 = .ok (.iload 8, 2) := by decide +kernel
theorem dX10_loudnessOf_290 : decode cX10_loudnessOf 290 = .ok (.isub, 1) := by decide +kernel
theorem dX10_loudnessOf_291 : decode cX10_loudnessOf 291 = .ok (.idiv, 1) := by decide +kernel
theorem dX10_loudnessOf_292 : decode cX10_loudnessOf 292 = .ok (.ireturn, 1) := by decide +kernel
theorem dX10_loudness_0 : decode cX10_loudness 0 = .ok (.iload_n 1, 1) := by decide +kernel
theorem dX10_loudness_1 : decode cX10_loudness 1 = .ok (.iconst 0, 1) := by decide +kernel
theorem dX10_loudness_2 : decode cX10_loudness 2 = .ok (.iconst 4, 1) := by decide +kernel
theorem dX10_loudness_3 : decode cX10_loudness 3 = .ok (.invokestatic 103, 3) := by decide +kernel
theorem dX10_loudness_6 : decode cX10_loudness 6 = .ok (.ifCond .ne 6, 3) := by decide +kernel
theorem dX10_loudness_9 : decode cX10_loudness 9 = .ok (.bipush (-2), 2) := by decide +kernel
theorem dX10_loudness_11 : decode cX10_loudness 11 = .ok (.ireturn, 1) := by decide +kernel
theorem dX10_loudness_12 : decode cX10_loudness 12 = .ok (.aload_n 0, 1) := by decide +kernel
theorem dX10_loudness_13 : decode cX10_loudness 13 = .ok (.invokevirtual 152, 3) := by decide +kernel
theorem dX10_loudness_16 : decode cX10_loudness 16 = .ok (.aload_n 0, 1) := by decide +kernel
theorem dX10_loudness_17 : decode cX10_loudness 17 = .ok (.iload_n 1, 1) := by decide +kernel
theorem dX10_loudness_18 : decode cX10_loudness 18 = .ok (.aload_n 0, 1) := by decide +kernel
theorem dX10_loudness_19 : decode cX10_loudness 19 = .ok (.getfield 9, 3) := by decide +kernel
theorem dX10_loudness_22 : decode cX10_loudness 22 = .ok (.sipush 465, 3) := by decide +kernel
theorem dX10_loudness_25 : decode cX10_loudness 25 = .ok (.iaload, 1) := by decide +kernel
theorem dX10_loudness_26 : decode cX10_loudness 26 = .ok (.invokevirtual 206, 3) := by decide +kernel
theorem dX10_loudness_29 : decode cX10_loudness 29 = .ok (.ireturn, 1) := by decide +kernel
theorem dX10_loudnessAgain_0 : decode cX10_loudnessAgain 0 = .ok (.aload_n 0, 1) := by decide +kernel
theorem dX10_loudnessAgain_1 : decode cX10_loudnessAgain 1 = .ok (.iconst 4, 1) := by decide +kernel
theorem dX10_loudnessAgain_2 : decode cX10_loudnessAgain 2 = .ok (.invokevirtual 230, 3) := by decide +kernel
theorem dX10_loudnessAgain_5 : decode cX10_loudnessAgain 5 = .ok (.ireturn, 1) := by decide +kernel
theorem dX10_masterFor_0 : decode cX10_masterFor 0 = .ok (.iload_n 1, 1) := by decide +kernel
theorem dX10_masterFor_1 : decode cX10_masterFor 1 = .ok (.iconst 1, 1) := by decide +kernel
theorem dX10_masterFor_2 : decode cX10_masterFor 2 = .ok (.sipush 999, 3) := by decide +kernel
theorem dX10_masterFor_5 : decode cX10_masterFor 5 = .ok (.invokestatic 103, 3) := by decide +kernel
theorem dX10_masterFor_8 : decode cX10_masterFor 8 = .ok (.ifCond .ne 6, 3) := by decide +kernel
theorem dX10_masterFor_11 : decode cX10_masterFor 11 = .ok (.bipush (-2), 2) := by decide +kernel
theorem dX10_masterFor_13 : decode cX10_masterFor 13 = .ok (.ireturn, 1) := by decide +kernel
theorem dX10_masterFor_14 : decode cX10_masterFor 14 = .ok (.aload_n 0, 1) := by decide +kernel
theorem dX10_masterFor_15 : decode cX10_masterFor 15 = .ok (.invokevirtual 152, 3) := by decide +kernel
theorem dX10_masterFor_18 : decode cX10_masterFor 18 = .ok (.sipush 400, 3) := by decide +kernel
theorem dX10_masterFor_21 : decode cX10_masterFor 21 = .ok (.istore_n 2, 1) := by decide +kernel
theorem dX10_masterFor_22 : decode cX10_masterFor 22 = .ok (.iload_n 2, 1) := by decide +kernel
theorem dX10_masterFor_23 : decode cX10_masterFor 23 = .ok (.ifCond .le 23, 3) := by decide +kernel
theorem dX10_masterFor_26 : decode cX10_masterFor 26 = .ok (.aload_n 0, 1) := by decide +kernel
theorem dX10_masterFor_27 : decode cX10_masterFor 27 = .ok (.iconst 4, 1) := by decide +kernel
theorem dX10_masterFor_28 : decode cX10_masterFor 28 = .ok (.iload_n 2, 1) := by decide +kernel
theorem dX10_masterFor_29 : decode cX10_masterFor 29 = .ok (.invokevirtual 206, 3) := by decide +kernel
theorem dX10_masterFor_32 : decode cX10_masterFor 32 = .ok (.iload_n 1, 1) := by decide +kernel
theorem dX10_masterFor_33 : decode cX10_masterFor 33 = .ok (.iload_n 1, 1) := by decide +kernel
theorem dX10_masterFor_34 : decode cX10_masterFor 34 = .ok (.imul, 1) := by decide +kernel
theorem dX10_masterFor_35 : decode cX10_masterFor 35 = .ok (.if_icmp .gt 5, 3) := by decide +kernel
theorem dX10_masterFor_38 : decode cX10_masterFor 38 = .ok (.iload_n 2, 1) := by decide +kernel
theorem dX10_masterFor_39 : decode cX10_masterFor 39 = .ok (.ireturn, 1) := by decide +kernel
theorem dX10_masterFor_40 : decode cX10_masterFor 40 = .ok (.iinc 2 (-1), 3) := by decide +kernel
theorem dX10_masterFor_43 : decode cX10_masterFor 43 = .ok (.goto (-21), 3) := by decide +kernel
theorem dX10_masterFor_46 : decode cX10_masterFor 46 = .ok (.bipush (-6), 2) := by decide +kernel
theorem dX10_masterFor_48 : decode cX10_masterFor 48 = .ok (.ireturn, 1) := by decide +kernel
theorem dX10_normalize_0 : decode cX10_normalize 0 = .ok (.aload_n 0, 1) := by decide +kernel
theorem dX10_normalize_1 : decode cX10_normalize 1 = .ok (.iload_n 1, 1) := by decide +kernel
theorem dX10_normalize_2 : decode cX10_normalize 2 = .ok (.invokevirtual 233, 3) := by decide +kernel
theorem dX10_normalize_5 : decode cX10_normalize 5 = .ok (.istore_n 2, 1) := by decide +kernel
theorem dX10_normalize_6 : decode cX10_normalize 6 = .ok (.iload_n 2, 1) := by decide +kernel
theorem dX10_normalize_7 : decode cX10_normalize 7 = .ok (.ifCond .ge 5, 3) := by decide +kernel
theorem dX10_normalize_10 : decode cX10_normalize 10 = .ok (.iload_n 2, 1) := by decide +kernel
theorem dX10_normalize_11 : decode cX10_normalize 11 = .ok (.ireturn, 1) := by decide +kernel
theorem dX10_normalize_12 : decode cX10_normalize 12 = .ok (.aload_n 0, 1) := by decide +kernel
theorem dX10_normalize_13 : decode cX10_normalize 13 = .ok (.invokevirtual 107, 3) := by decide +kernel
theorem dX10_normalize_16 : decode cX10_normalize 16 = .ok (.aload_n 0, 1) := by decide +kernel
theorem dX10_normalize_17 : decode cX10_normalize 17 = .ok (.getfield 9, 3) := by decide +kernel
theorem dX10_normalize_20 : decode cX10_normalize 20 = .ok (.sipush 465, 3) := by decide +kernel
theorem dX10_normalize_23 : decode cX10_normalize 23 = .ok (.iload_n 2, 1) := by decide +kernel
theorem dX10_normalize_24 : decode cX10_normalize 24 = .ok (.iastore, 1) := by decide +kernel
theorem dX10_normalize_25 : decode cX10_normalize 25 = .ok (.aload_n 0, 1) := by decide +kernel
theorem dX10_normalize_26 : decode cX10_normalize 26 = .ok (.iload_n 2, 1) := by decide +kernel
theorem dX10_normalize_27 : decode cX10_normalize 27 = .ok (.invokevirtual 110, 3) := by decide +kernel
theorem dX10_normalize_30 : decode cX10_normalize 30 = .ok (.ireturn, 1) := by decide +kernel
theorem dX10_covered_0 : decode cX10_covered 0 = .ok (.iload_n 1, 1) := by decide +kernel
theorem dX10_covered_1 : decode cX10_covered 1 = .ok (.invokestatic 133, 3) := by decide +kernel
theorem dX10_covered_4 : decode cX10_covered 4 = .ok (.ifCond .ne 5, 3) := by decide +kernel
theorem dX10_covered_7 : decode cX10_covered 7 = .ok (.iconst (-1), 1) := by decide +kernel
theorem dX10_covered_8 : decode cX10_covered 8 = .ok (.ireturn, 1) := by decide +kernel
theorem dX10_covered_9 : decode cX10_covered 9 = .ok (.iconst 0, 1) := by decide +kernel
theorem dX10_covered_10 : decode cX10_covered 10 = .ok (.istore_n 2, 1) := by decide +kernel
theorem dX10_covered_11 : decode cX10_covered 11 = .ok (.iconst 0, 1) := by decide +kernel
theorem dX10_covered_12 : decode cX10_covered 12 = .ok (.istore_n 3, 1) := by decide +kernel
theorem dX10_covered_13 : decode cX10_covered 13 = .ok (.iload_n 3, 1) := by decide +kernel
theorem dX10_covered_14 : decode cX10_covered 14 = .ok (.aload_n 0, 1) := by decide +kernel
theorem dX10_covered_15 : decode cX10_covered 15 = .ok (.getfield 9, 3) := by decide +kernel
theorem dX10_covered_18 : decode cX10_covered 18 = .ok (.bipush 25, 2) := by decide +kernel
theorem dX10_covered_20 : decode cX10_covered 20 = .ok (.iaload, 1) := by decide +kernel
theorem dX10_covered_21 : decode cX10_covered 21 = .ok (.if_icmp .ge 32, 3) := by decide +kernel
theorem dX10_covered_24 : decode cX10_covered 24 = .ok (.iload_n 2, 1) := by decide +kernel
theorem dX10_covered_25 : decode cX10_covered 25 = .ok (.aload_n 0, 1) := by decide +kernel
theorem dX10_covered_26 : decode cX10_covered 26 = .ok (.iload_n 3, 1) := by decide +kernel
theorem dX10_covered_27 : decode cX10_covered 27 = .ok (.iconst 0, 1) := by decide +kernel
theorem dX10_covered_28 : decode cX10_covered 28 = .ok (.invokevirtual 126, 3) := by decide +kernel
theorem dX10_covered_31 : decode cX10_covered 31 = .ok (.iload_n 1, 1) := by decide +kernel
theorem dX10_covered_32 : decode cX10_covered 32 = .ok (.if_icmp .ne 12, 3) := by decide +kernel
theorem dX10_covered_35 : decode cX10_covered 35 = .ok (.aload_n 0, 1) := by decide +kernel
theorem dX10_covered_36 : decode cX10_covered 36 = .ok (.iload_n 3, 1) := by decide +kernel
theorem dX10_covered_37 : decode cX10_covered 37 = .ok (.iconst 4, 1) := by decide +kernel
theorem dX10_covered_38 : decode cX10_covered 38 = .ok (.invokevirtual 126, 3) := by decide +kernel
theorem dX10_covered_41 : decode cX10_covered 41 = .ok (.goto 4, 3) := by decide +kernel
theorem dX10_covered_44 : decode cX10_covered 44 = .ok (.iconst 0, 1) := by decide +kernel
theorem dX10_covered_45 : decode cX10_covered 45 = .ok (.iadd, 1) := by decide +kernel
theorem dX10_covered_46 : decode cX10_covered 46 = .ok (.istore_n 2, 1) := by decide +kernel
theorem dX10_covered_47 : decode cX10_covered 47 = .ok (.iinc 3 1, 3) := by decide +kernel
theorem dX10_covered_50 : decode cX10_covered 50 = .ok (.goto (-37), 3) := by decide +kernel
theorem dX10_covered_53 : decode cX10_covered 53 = .ok (.iload_n 2, 1) := by decide +kernel
theorem dX10_covered_54 : decode cX10_covered 54 = .ok (.ireturn, 1) := by decide +kernel
theorem dX10_events_0 : decode cX10_events 0 = .ok (.iconst 2, 1) := by decide +kernel
theorem dX10_events_1 : decode cX10_events 1 = .ok (.aload_n 0, 1) := by decide +kernel
theorem dX10_events_2 : decode cX10_events 2 = .ok (.getfield 9, 3) := by decide +kernel
theorem dX10_events_5 : decode cX10_events 5 = .ok (.bipush 25, 2) := by decide +kernel
theorem dX10_events_7 : decode cX10_events 7 = .ok (.iaload, 1) := by decide +kernel
theorem dX10_events_8 : decode cX10_events 8 = .ok (.imul, 1) := by decide +kernel
theorem dX10_events_9 : decode cX10_events 9 = .ok (.aload_n 0, 1) := by decide +kernel
theorem dX10_events_10 : decode cX10_events 10 = .ok (.getfield 9, 3) := by decide +kernel
theorem dX10_events_13 : decode cX10_events 13 = .ok (.sipush 438, 3) := by decide +kernel
theorem dX10_events_16 : decode cX10_events 16 = .ok (.iaload, 1) := by decide +kernel
theorem dX10_events_17 : decode cX10_events 17 = .ok (.iadd, 1) := by decide +kernel
theorem dX10_events_18 : decode cX10_events 18 = .ok (.ireturn, 1) := by decide +kernel
theorem dX10_rank_0 : decode cX10_rank 0 = .ok (.iload_n 1, 1) := by decide +kernel
theorem dX10_rank_1 : decode cX10_rank 1 = .ok (.iconst 2, 1) := by decide +kernel
theorem dX10_rank_2 : decode cX10_rank 2 = .ok (.aload_n 0, 1) := by decide +kernel
theorem dX10_rank_3 : decode cX10_rank 3 = .ok (.getfield 9, 3) := by decide +kernel
theorem dX10_rank_6 : decode cX10_rank 6 = .ok (.bipush 25, 2) := by decide +kernel
theorem dX10_rank_8 : decode cX10_rank 8 = .ok (.iaload, 1) := by decide +kernel
theorem dX10_rank_9 : decode cX10_rank 9 = .ok (.imul, 1) := by decide +kernel
theorem dX10_rank_10 : decode cX10_rank 10 = .ok (.if_icmp .lt 33, 3) := by decide +kernel
theorem dX10_rank_13 : decode cX10_rank 13 = .ok (.ldc 236, 2) := by decide +kernel
theorem dX10_rank_15 : decode cX10_rank 15 = .ok (.aload_n 0, 1) := by decide +kernel
theorem dX10_rank_16 : decode cX10_rank 16 = .ok (.getfield 9, 3) := by decide +kernel
theorem dX10_rank_19 : decode cX10_rank 19 = .ok (.sipush 439, 3) := by decide +kernel
theorem dX10_rank_22 : decode cX10_rank 22 = .ok (.iconst 2, 1) := by decide +kernel
theorem dX10_rank_23 : decode cX10_rank 23 = .ok (.iload_n 1, 1) := by decide +kernel
theorem dX10_rank_24 : decode cX10_rank 24 = .ok (.iconst 2, 1) := by decide +kernel
theorem dX10_rank_25 : decode cX10_rank 25 = .ok (.aload_n 0, 1) := by decide +kernel
theorem dX10_rank_26 : decode cX10_rank 26 = .ok (.getfield 9, 3) := by decide +kernel
theorem dX10_rank_29 : decode cX10_rank 29 = .ok (.bipush 25, 2) := by decide +kernel
theorem dX10_rank_31 : decode cX10_rank 31 = .ok (.iaload, 1) := by decide +kernel
theorem dX10_rank_32 : decode cX10_rank 32 = .ok (.imul, 1) := by decide +kernel
theorem dX10_rank_33 : decode cX10_rank 33 = .ok (.isub, 1) := by decide +kernel
theorem dX10_rank_34 : decode cX10_rank 34 = .ok (.imul, 1) := by decide +kernel
theorem dX10_rank_35 : decode cX10_rank 35 = .ok (.iadd, 1) := by decide +kernel
theorem dX10_rank_36 : decode cX10_rank 36 = .ok (.iaload, 1) := by decide +kernel
theorem dX10_rank_37 : decode cX10_rank 37 = .ok (.imul, 1) := by decide +kernel
theorem dX10_rank_38 : decode cX10_rank 38 = .ok (.sipush 10000, 3) := by decide +kernel
theorem dX10_rank_41 : decode cX10_rank 41 = .ok (.iadd, 1) := by decide +kernel
theorem dX10_rank_42 : decode cX10_rank 42 = .ok (.ireturn, 1) := by decide +kernel
theorem dX10_rank_43 : decode cX10_rank 43 = .ok (.iload_n 1, 1) := by decide +kernel
theorem dX10_rank_44 : decode cX10_rank 44 = .ok (.iconst 2, 1) := by decide +kernel
theorem dX10_rank_45 : decode cX10_rank 45 = .ok (.idiv, 1) := by decide +kernel
theorem dX10_rank_46 : decode cX10_rank 46 = .ok (.istore_n 2, 1) := by decide +kernel
theorem dX10_rank_47 : decode cX10_rank 47 = .ok (.iload_n 1, 1) := by decide +kernel
theorem dX10_rank_48 : decode cX10_rank 48 = .ok (.iconst 2, 1) := by decide +kernel
theorem dX10_rank_49 : decode cX10_rank 49 = .ok (.irem, 1) := by decide +kernel
theorem dX10_rank_50 : decode cX10_rank 50 = .ok (.ifCond .ne 29, 3) := by decide +kernel
theorem dX10_rank_53 : decode cX10_rank 53 = .ok (.ldc 236, 2) := by decide +kernel
theorem dX10_rank_55 : decode cX10_rank 55 = .ok (.aload_n 0, 1) := by decide +kernel
theorem dX10_rank_56 : decode cX10_rank 56 = .ok (.iload_n 2, 1) := by decide +kernel
theorem dX10_rank_57 : decode cX10_rank 57 = .ok (.iconst 1, 1) := by decide +kernel
theorem dX10_rank_58 : decode cX10_rank 58 = .ok (.invokevirtual 126, 3) := by decide +kernel
theorem dX10_rank_61 : decode cX10_rank 61 = .ok (.aload_n 0, 1) := by decide +kernel
theorem dX10_rank_62 : decode cX10_rank 62 = .ok (.iload_n 2, 1) := by decide +kernel
theorem dX10_rank_63 : decode cX10_rank 63 = .ok (.iconst 4, 1) := by decide +kernel
theorem dX10_rank_64 : decode cX10_rank 64 = .ok (.invokevirtual 126, 3) := by decide +kernel
theorem dX10_rank_67 : decode cX10_rank 67 = .ok (.iadd, 1) := by decide +kernel
theorem dX10_rank_68 : decode cX10_rank 68 = .ok (.imul, 1) := by decide +kernel
theorem dX10_rank_69 : decode cX10_rank 69 = .ok (.aload_n 0, 1) := by decide +kernel
theorem dX10_rank_70 : decode cX10_rank 70 = .ok (.iload_n 2, 1) := by decide +kernel
theorem dX10_rank_71 : decode cX10_rank 71 = .ok (.iconst 0, 1) := by decide +kernel
theorem dX10_rank_72 : decode cX10_rank 72 = .ok (.invokevirtual 126, 3) := by decide +kernel
theorem dX10_rank_75 : decode cX10_rank 75 = .ok (.iadd, 1) := by decide +kernel
theorem dX10_rank_76 : decode cX10_rank 76 = .ok (.goto 23, 3) := by decide +kernel
theorem dX10_rank_79 : decode cX10_rank 79 = .ok (.ldc 236, 2) := by decide +kernel
theorem dX10_rank_81 : decode cX10_rank 81 = .ok (.aload_n 0, 1) := by decide +kernel
theorem dX10_rank_82 : decode cX10_rank 82 = .ok (.iload_n 2, 1) := by decide +kernel
theorem dX10_rank_83 : decode cX10_rank 83 = .ok (.iconst 1, 1) := by decide +kernel
theorem dX10_rank_84 : decode cX10_rank 84 = .ok (.invokevirtual 126, 3) := by decide +kernel
theorem dX10_rank_87 : decode cX10_rank 87 = .ok (.imul, 1) := by decide +kernel
theorem dX10_rank_88 : decode cX10_rank 88 = .ok (.sipush 20000, 3) := by decide +kernel
theorem dX10_rank_91 : decode cX10_rank 91 = .ok (.iadd, 1) := by decide +kernel
theorem dX10_rank_92 : decode cX10_rank 92 = .ok (.aload_n 0, 1) := by decide +kernel
theorem dX10_rank_93 : decode cX10_rank 93 = .ok (.iload_n 2, 1) := by decide +kernel
theorem dX10_rank_94 : decode cX10_rank 94 = .ok (.iconst 0, 1) := by decide +kernel
theorem dX10_rank_95 : decode cX10_rank 95 = .ok (.invokevirtual 126, 3) := by decide +kernel
theorem dX10_rank_98 : decode cX10_rank 98 = .ok (.iadd, 1) := by decide +kernel
theorem dX10_rank_99 : decode cX10_rank 99 = .ok (.ireturn, 1) := by decide +kernel
theorem dX10_event_0 : decode cX10_event 0 = .ok (.iload_n 1, 1) := by decide +kernel
theorem dX10_event_1 : decode cX10_event 1 = .ok (.iconst 0, 1) := by decide +kernel
theorem dX10_event_2 : decode cX10_event 2 = .ok (.aload_n 0, 1) := by decide +kernel
theorem dX10_event_3 : decode cX10_event 3 = .ok (.invokevirtual 237, 3) := by decide +kernel
theorem dX10_event_6 : decode cX10_event 6 = .ok (.iconst 1, 1) := by decide +kernel
theorem dX10_event_7 : decode cX10_event 7 = .ok (.isub, 1) := by decide +kernel
theorem dX10_event_8 : decode cX10_event 8 = .ok (.invokestatic 103, 3) := by decide +kernel
theorem dX10_event_11 : decode cX10_event 11 = .ok (.ifCond .ne 5, 3) := by decide +kernel
theorem dX10_event_14 : decode cX10_event 14 = .ok (.iconst (-1), 1) := by decide +kernel
theorem dX10_event_15 : decode cX10_event 15 = .ok (.ireturn, 1) := by decide +kernel
theorem dX10_event_16 : decode cX10_event 16 = .ok (.iload_n 2, 1) := by decide +kernel
theorem dX10_event_17 : decode cX10_event 17 = .ok (.iconst 0, 1) := by decide +kernel
theorem dX10_event_18 : decode cX10_event 18 = .ok (.iconst 2, 1) := by decide +kernel
theorem dX10_event_19 : decode cX10_event 19 = .ok (.invokestatic 103, 3) := by decide +kernel
theorem dX10_event_22 : decode cX10_event 22 = .ok (.ifCond .ne 6, 3) := by decide +kernel
theorem dX10_event_25 : decode cX10_event 25 = .ok (.bipush (-2), 2) := by decide +kernel
theorem dX10_event_27 : decode cX10_event 27 = .ok (.ireturn, 1) := by decide +kernel
theorem dX10_event_28 : decode cX10_event 28 = .ok (.iconst 0, 1) := by decide +kernel
theorem dX10_event_29 : decode cX10_event 29 = .ok (.istore_n 3, 1) := by decide +kernel
theorem dX10_event_30 : decode cX10_event 30 = .ok (.iconst 0, 1) := by decide +kernel
theorem dX10_event_31 : decode cX10_event 31 = .ok (.istore 4, 2) := by decide +kernel
theorem dX10_event_33 : decode cX10_event 33 = .ok (.iconst 0, 1) := by decide +kernel
theorem dX10_event_34 : decode cX10_event 34 = .ok (.istore 5, 2) := by decide +kernel
theorem dX10_event_36 : decode cX10_event 36 = .ok (.iload 5, 2) := by decide +kernel
theorem dX10_event_38 : decode cX10_event 38 = .ok (.aload_n 0, 1) := by decide +kernel
theorem dX10_event_39 : decode cX10_event 39 = .ok (.invokevirtual 237, 3) := by decide +kernel
theorem dX10_event_42 : decode cX10_event 42 = .ok (.if_icmp .ge 76, 3) := by decide +kernel
theorem dX10_event_45 : decode cX10_event 45 = .ok (.iload 4, 2) := by decide +kernel
theorem dX10_event_47 : decode cX10_event 47 = .ok (.ifCond .ne 71, 3) := by decide +kernel
theorem dX10_event_50 : decode cX10_event 50 = .ok (.iconst 0, 1) := by decide +kernel
theorem dX10_event_51 : decode cX10_event 51 = .ok (.istore 6, 2) := by decide +kernel
theorem dX10_event_53 : decode cX10_event 53 = .ok (.iconst 0, 1) := by decide +kernel
theorem dX10_event_54 : decode cX10_event 54 = .ok (.istore 7, 2) := by decide +kernel
theorem dX10_event_56 : decode cX10_event 56 = .ok (.iload 7, 2) := by decide +kernel
theorem dX10_event_58 : decode cX10_event 58 = .ok (.aload_n 0, 1) := by decide +kernel
theorem dX10_event_59 : decode cX10_event 59 = .ok (.invokevirtual 237, 3) := by decide +kernel
theorem dX10_event_62 : decode cX10_event 62 = .ok (.if_icmp .ge 34, 3) := by decide +kernel
theorem dX10_event_65 : decode cX10_event 65 = .ok (.iload 6, 2) := by decide +kernel
theorem dX10_event_67 : decode cX10_event 67 = .ok (.aload_n 0, 1) := by decide +kernel
theorem dX10_event_68 : decode cX10_event 68 = .ok (.iload 7, 2) := by decide +kernel
theorem dX10_event_70 : decode cX10_event 70 = .ok (.invokevirtual 240, 3) := by decide +kernel
theorem dX10_event_73 : decode cX10_event 73 = .ok (.aload_n 0, 1) := by decide +kernel
theorem dX10_event_74 : decode cX10_event 74 = .ok (.iload 5, 2) := by decide +kernel
theorem dX10_event_76 : decode cX10_event 76 = .ok (.invokevirtual 240, 3) := by decide +kernel
theorem dX10_event_79 : decode cX10_event 79 = .ok (.if_icmp .ge 7, 3) := by decide +kernel
theorem dX10_event_82 : decode cX10_event 82 = .ok (.iconst 1, 1) := by decide +kernel
theorem dX10_event_83 : decode cX10_event 83 = .ok (.goto 4, 3) := by decide +kernel
theorem dX10_event_86 : decode cX10_event 86 = .ok (.iconst 0, 1) := by decide +kernel
theorem dX10_event_87 : decode cX10_event 87 = .ok (.iadd, 1) := by decide +kernel
theorem dX10_event_88 : decode cX10_event 88 = .ok (.istore 6, 2) := by decide +kernel
theorem dX10_event_90 : decode cX10_event 90 = .ok (.iinc 7 1, 3) := by decide +kernel
theorem dX10_event_93 : decode cX10_event 93 = .ok (.goto (-37), 3) := by decide +kernel
theorem dX10_event_96 : decode cX10_event 96 = .ok (.iload 6, 2) := by decide +kernel
theorem dX10_event_98 : decode cX10_event 98 = .ok (.iload_n 1, 1) := by decide +kernel
theorem dX10_event_99 : decode cX10_event 99 = .ok (.if_icmp .ne 7, 3) := by decide +kernel
theorem dX10_event_102 : decode cX10_event 102 = .ok (.iconst 1, 1) := by decide +kernel
theorem dX10_event_103 : decode cX10_event 103 = .ok (.goto 4, 3) := by decide +kernel
theorem dX10_event_106 : decode cX10_event 106 = .ok (.iconst 0, 1) := by decide +kernel
theorem dX10_event_107 : decode cX10_event 107 = .ok (.istore 4, 2) := by decide +kernel
theorem dX10_event_109 : decode cX10_event 109 = .ok (.iload 5, 2) := by decide +kernel
theorem dX10_event_111 : decode cX10_event 111 = .ok (.istore_n 3, 1) := by decide +kernel
theorem dX10_event_112 : decode cX10_event 112 = .ok (.iinc 5 1, 3) := by decide +kernel
theorem dX10_event_115 : decode cX10_event 115 = .ok (.goto (-79), 3) := by decide +kernel
theorem dX10_event_118 : decode cX10_event 118 = .ok (.aload_n 0, 1) := by decide +kernel
theorem dX10_event_119 : decode cX10_event 119 = .ok (.iload_n 3, 1) := by decide +kernel
theorem dX10_event_120 : decode cX10_event 120 = .ok (.invokevirtual 240, 3) := by decide +kernel
theorem dX10_event_123 : decode cX10_event 123 = .ok (.istore 5, 2) := by decide +kernel
theorem dX10_event_125 : decode cX10_event 125 = .ok (.iload_n 2, 1) := by decide +kernel
theorem dX10_event_126 : decode cX10_event 126 = .ok (.iconst 2, 1) := by decide +kernel
theorem dX10_event_127 : decode cX10_event 127 = .ok (.if_icmp .ne 41, 3) := by decide +kernel
theorem dX10_event_130 : decode cX10_event 130 = .ok (.iload_n 3, 1) := by decide +kernel
theorem dX10_event_131 : decode cX10_event 131 = .ok (.iconst 2, 1) := by decide +kernel
theorem dX10_event_132 : decode cX10_event 132 = .ok (.aload_n 0, 1) := by decide +kernel
theorem dX10_event_133 : decode cX10_event 133 = .ok (.getfield 9, 3) := by decide +kernel
theorem dX10_event_136 : decode cX10_event 136 = .ok (.bipush 25, 2) := by decide +kernel
theorem dX10_event_138 : decode cX10_event 138 = .ok (.iaload, 1) := by decide +kernel
theorem dX10_event_139 : decode cX10_event 139 = .ok (.imul, 1) := by decide +kernel
theorem dX10_event_140 : decode cX10_event 140 = .ok (.if_icmp .lt 28, 3) := by decide +kernel
theorem dX10_event_143 : decode cX10_event 143 = .ok (.aload_n 0, 1) := by decide +kernel
theorem dX10_event_144 : decode cX10_event 144 = .ok (.getfield 9, 3) := by decide +kernel
theorem dX10_event_147 : decode cX10_event 147 = .ok (.sipush 439, 3) := by decide +kernel
theorem dX10_event_150 : decode cX10_event 150 = .ok (.iconst 2, 1) := by decide +kernel
theorem dX10_event_151 : decode cX10_event 151 = .ok (.iload_n 3, 1) := by decide +kernel
theorem dX10_event_152 : decode cX10_event 152 = .ok (.iconst 2, 1) := by decide +kernel
theorem dX10_event_153 : decode cX10_event 153 = .ok (.aload_n 0, 1) := by decide +kernel
theorem dX10_event_154 : decode cX10_event 154 = .ok (.getfield 9, 3) := by decide +kernel
theorem dX10_event_157 : decode cX10_event 157 = .ok (.bipush 25, 2) := by decide +kernel
theorem dX10_event_159 : decode cX10_event 159 = .ok (.iaload, 1) := by decide +kernel
theorem dX10_event_160 : decode cX10_event 160 = .ok (.imul, 1) := by decide +kernel
theorem dX10_event_161 : decode cX10_event 161 = .ok (.isub, 1) := by decide +kernel
theorem dX10_event_162 : decode cX10_event 162 = .ok (.imul, 1) := by decide +kernel
theorem dX10_event_163 : decode cX10_event 163 = .ok (.iadd, 1) := by decide +kernel
theorem dX10_event_164 : decode cX10_event 164 = .ok (.iconst 1, 1) := by decide +kernel
theorem dX10_event_165 : decode cX10_event 165 = .ok (.iadd, 1) := by decide +kernel
theorem dX10_event_166 : decode cX10_event 166 = .ok (.iaload, 1) := by decide +kernel
theorem dX10_event_167 : decode cX10_event 167 = .ok (.ireturn, 1) := by decide +kernel
theorem dX10_event_168 : decode cX10_event 168 = .ok (.iload_n 2, 1) := by decide +kernel
theorem dX10_event_169 : decode cX10_event 169 = .ok (.ifCond .ne 11, 3) := by decide +kernel
theorem dX10_event_172 : decode cX10_event 172 = .ok (.iload 5, 2) := by decide +kernel
theorem dX10_event_174 : decode cX10_event 174 = .ok (.ldc 236, 2) := by decide +kernel
theorem dX10_event_176 : decode cX10_event 176 = .ok (.idiv, 1) := by decide +kernel
theorem dX10_event_177 : decode cX10_event 177 = .ok (.goto 26, 3) := by decide +kernel
theorem dX10_event_180 : decode cX10_event 180 = .ok (.iload_n 2, 1) := by decide +kernel
theorem dX10_event_181 : decode cX10_event 181 = .ok (.iconst 1, 1) := by decide +kernel
theorem dX10_event_182 : decode cX10_event 182 = .ok (.if_icmp .ne 15, 3) := by decide +kernel
theorem dX10_event_185 : decode cX10_event 185 = .ok (.iload 5, 2) := by decide +kernel
theorem dX10_event_187 : decode cX10_event 187 = .ok (.sipush 10000, 3) := by decide +kernel
theorem dX10_event_190 : decode cX10_event 190 = .ok (.idiv, 1) := by decide +kernel
theorem dX10_event_191 : decode cX10_event 191 = .ok (.bipush 10, 2) := by decide +kernel
theorem dX10_event_193 : decode cX10_event 193 = .ok (.irem, 1) := by decide +kernel
theorem dX10_event_194 : decode cX10_event 194 = .ok (.goto 9, 3) := by decide +kernel
theorem dX10_event_197 : decode cX10_event 197 = .ok (.iload 5, 2) := by decide +kernel
theorem dX10_event_199 : decode cX10_event 199 = .ok (.sipush 10000, 3) := by decide +kernel
theorem dX10_event_202 : decode cX10_event 202 = .ok (.irem, 1) := by decide +kernel
theorem dX10_event_203 : decode cX10_event 203 = .ok (.ireturn, 1) := by decide +kernel
theorem dX10_append_0 : decode cX10_append 0 = .ok (.iload_n 1, 1) := by decide +kernel
theorem dX10_append_1 : decode cX10_append 1 = .ok (.bipush 32, 2) := by decide +kernel
theorem dX10_append_3 : decode cX10_append 3 = .ok (.bipush 126, 2) := by decide +kernel
theorem dX10_append_5 : decode cX10_append 5 = .ok (.invokestatic 103, 3) := by decide +kernel
theorem dX10_append_8 : decode cX10_append 8 = .ok (.ifCond .ne 6, 3) := by decide +kernel
theorem dX10_append_11 : decode cX10_append 11 = .ok (.bipush (-2), 2) := by decide +kernel
theorem dX10_append_13 : decode cX10_append 13 = .ok (.ireturn, 1) := by decide +kernel
theorem dX10_append_14 : decode cX10_append 14 = .ok (.aload_n 0, 1) := by decide +kernel
theorem dX10_append_15 : decode cX10_append 15 = .ok (.getfield 243, 3) := by decide +kernel
theorem dX10_append_18 : decode cX10_append 18 = .ok (.bipush 60, 2) := by decide +kernel
theorem dX10_append_20 : decode cX10_append 20 = .ok (.if_icmp .ne 6, 3) := by decide +kernel
theorem dX10_append_23 : decode cX10_append 23 = .ok (.bipush (-3), 2) := by decide +kernel
theorem dX10_append_25 : decode cX10_append 25 = .ok (.ireturn, 1) := by decide +kernel
theorem dX10_append_26 : decode cX10_append 26 = .ok (.aload_n 0, 1) := by decide +kernel
theorem dX10_append_27 : decode cX10_append 27 = .ok (.getfield 59, 3) := by decide +kernel
theorem dX10_append_30 : decode cX10_append 30 = .ok (.aload_n 0, 1) := by decide +kernel
theorem dX10_append_31 : decode cX10_append 31 = .ok (.getfield 243, 3) := by decide +kernel
theorem dX10_append_34 : decode cX10_append 34 = .ok (.iload_n 1, 1) := by decide +kernel
theorem dX10_append_35 : decode cX10_append 35 = .ok (.iastore, 1) := by decide +kernel
theorem dX10_append_36 : decode cX10_append 36 = .ok (.aload_n 0, 1) := by decide +kernel
theorem dX10_append_37 : decode cX10_append 37 = .ok (.dup, 1) := by decide +kernel
theorem dX10_append_38 : decode cX10_append 38 = .ok (.getfield 243, 3) := by decide +kernel
theorem dX10_append_41 : decode cX10_append 41 = .ok (.iconst 1, 1) := by decide +kernel
theorem dX10_append_42 : decode cX10_append 42 = .ok (.iadd, 1) := by decide +kernel
theorem dX10_append_43 : decode cX10_append 43 = .ok (.putfield 243, 3) := by decide +kernel
theorem dX10_append_46 : decode cX10_append 46 = .ok (.aload_n 0, 1) := by decide +kernel
theorem dX10_append_47 : decode cX10_append 47 = .ok (.getfield 243, 3) := by decide +kernel
theorem dX10_append_50 : decode cX10_append 50 = .ok (.ireturn, 1) := by decide +kernel
theorem dX10_here_0 : decode cX10_here 0 = .ok (.aload_n 0, 1) := by decide +kernel
theorem dX10_here_1 : decode cX10_here 1 = .ok (.getfield 246, 3) := by decide +kernel
theorem dX10_here_4 : decode cX10_here 4 = .ok (.aload_n 0, 1) := by decide +kernel
theorem dX10_here_5 : decode cX10_here 5 = .ok (.getfield 243, 3) := by decide +kernel
theorem dX10_here_8 : decode cX10_here 8 = .ok (.if_icmp .ge 15, 3) := by decide +kernel
theorem dX10_here_11 : decode cX10_here 11 = .ok (.aload_n 0, 1) := by decide +kernel
theorem dX10_here_12 : decode cX10_here 12 = .ok (.getfield 59, 3) := by decide +kernel
theorem dX10_here_15 : decode cX10_here 15 = .ok (.aload_n 0, 1) := by decide +kernel
theorem dX10_here_16 : decode cX10_here 16 = .ok (.getfield 246, 3) := by decide +kernel
theorem dX10_here_19 : decode cX10_here 19 = .ok (.iaload, 1) := by decide +kernel
theorem dX10_here_20 : decode cX10_here 20 = .ok (.goto 4, 3) := by decide +kernel
theorem dX10_here_23 : decode cX10_here 23 = .ok (.iconst (-1), 1) := by decide +kernel
theorem dX10_here_24 : decode cX10_here 24 = .ok (.ireturn, 1) := by decide +kernel
theorem dX10_number_0 : decode cX10_number 0 = .ok (.iconst 0, 1) := by decide +kernel
theorem dX10_number_1 : decode cX10_number 1 = .ok (.istore_n 1, 1) := by decide +kernel
theorem dX10_number_2 : decode cX10_number 2 = .ok (.iconst 0, 1) := by decide +kernel
theorem dX10_number_3 : decode cX10_number 3 = .ok (.istore_n 2, 1) := by decide +kernel
theorem dX10_number_4 : decode cX10_number 4 = .ok (.aload_n 0, 1) := by decide +kernel
theorem dX10_number_5 : decode cX10_number 5 = .ok (.getfield 249, 3) := by decide +kernel
theorem dX10_number_8 : decode cX10_number 8 = .ok (.ifCond .ne 51, 3) := by decide +kernel
theorem dX10_number_11 : decode cX10_number 11 = .ok (.iload_n 2, 1) := by decide +kernel
theorem dX10_number_12 : decode cX10_number 12 = .ok (.iconst 3, 1) := by decide +kernel
theorem dX10_number_13 : decode cX10_number 13 = .ok (.if_icmp .ge 46, 3) := by decide +kernel
theorem dX10_number_16 : decode cX10_number 16 = .ok (.aload_n 0, 1) := by decide +kernel
theorem dX10_number_17 : decode cX10_number 17 = .ok (.invokevirtual 252, 3) := by decide +kernel
theorem dX10_number_20 : decode cX10_number 20 = .ok (.bipush 48, 2) := by decide +kernel
theorem dX10_number_22 : decode cX10_number 22 = .ok (.bipush 57, 2) := by decide +kernel
theorem dX10_number_24 : decode cX10_number 24 = .ok (.invokestatic 103, 3) := by decide +kernel
theorem dX10_number_27 : decode cX10_number 27 = .ok (.ifCond .eq 32, 3) := by decide +kernel
theorem dX10_number_30 : decode cX10_number 30 = .ok (.bipush 10, 2) := by decide +kernel
theorem dX10_number_32 : decode cX10_number 32 = .ok (.iload_n 1, 1) := by decide +kernel
theorem dX10_number_33 : decode cX10_number 33 = .ok (.imul, 1) := by decide +kernel
theorem dX10_number_34 : decode cX10_number 34 = .ok (.aload_n 0, 1) := by decide +kernel
theorem dX10_number_35 : decode cX10_number 35 = .ok (.invokevirtual 252, 3) := by decide +kernel
theorem dX10_number_38 : decode cX10_number 38 = .ok (.iadd, 1) := by decide +kernel
theorem dX10_number_39 : decode cX10_number 39 = .ok (.bipush 48, 2) := by decide +kernel
theorem dX10_number_41 : decode cX10_number 41 = .ok (.isub, 1) := by decide +kernel
theorem dX10_number_42 : decode cX10_number 42 = .ok (.istore_n 1, 1) := by decide +kernel
theorem dX10_number_43 : decode cX10_number 43 = .ok (.iinc 2 1, 3) := by decide +kernel
theorem dX10_number_46 : decode cX10_number 46 = .ok (.aload_n 0, 1) := by decide +kernel
theorem dX10_number_47 : decode cX10_number 47 = .ok (.dup, 1) := by decide +kernel
theorem dX10_number_48 : decode cX10_number 48 = .ok (.getfield 246, 3) := by decide +kernel
theorem dX10_number_51 : decode cX10_number 51 = .ok (.iconst 1, 1) := by decide +kernel
theorem dX10_number_52 : decode cX10_number 52 = .ok (.iadd, 1) := by decide +kernel
theorem dX10_number_53 : decode cX10_number 53 = .ok (.putfield 246, 3) := by decide +kernel
theorem dX10_number_56 : decode cX10_number 56 = .ok (.goto (-52), 3) := by decide +kernel
theorem dX10_number_59 : decode cX10_number 59 = .ok (.aload_n 0, 1) := by decide +kernel
theorem dX10_number_60 : decode cX10_number 60 = .ok (.dup, 1) := by decide +kernel
theorem dX10_number_61 : decode cX10_number 61 = .ok (.getfield 249, 3) := by decide +kernel
theorem dX10_number_64 : decode cX10_number 64 = .ok (.iload_n 2, 1) := by decide +kernel
theorem dX10_number_65 : decode cX10_number 65 = .ok (.ifCond .ne 7, 3) := by decide +kernel
theorem dX10_number_68 : decode cX10_number 68 = .ok (.iconst 1, 1) := by decide +kernel
theorem dX10_number_69 : decode cX10_number 69 = .ok (.goto 4, 3) := by decide +kernel
theorem dX10_number_72 : decode cX10_number 72 = .ok (.iconst 0, 1) := by decide +kernel
theorem dX10_number_73 : decode cX10_number 73 = .ok (.ior, 1) := by decide +kernel
theorem dX10_number_74 : decode cX10_number 74 = .ok (.putfield 249, 3) := by decide +kernel
theorem dX10_number_77 : decode cX10_number 77 = .ok (.iload_n 1, 1) := by decide +kernel
theorem dX10_number_78 : decode cX10_number 78 = .ok (.ireturn, 1) := by decide +kernel
theorem dX10_signOf_0 : decode cX10_signOf 0 = .ok (.iload_n 0, 1) := by decide +kernel
theorem dX10_signOf_1 : decode cX10_signOf 1 = .ok (.bipush 120, 2) := by decide +kernel
theorem dX10_signOf_3 : decode cX10_signOf 3 = .ok (.if_icmp .ne 8, 3) := by decide +kernel
theorem dX10_signOf_6 : decode cX10_signOf 6 = .ok (.bipush 45, 2) := by decide +kernel
theorem dX10_signOf_8 : decode cX10_signOf 8 = .ok (.goto 53, 3) := by decide +kernel
theorem dX10_signOf_11 : decode cX10_signOf 11 = .ok (.iload_n 0, 1) := by decide +kernel
theorem dX10_signOf_12 : decode cX10_signOf 12 = .ok (.bipush 105, 2) := by decide +kernel
theorem dX10_signOf_14 : decode cX10_signOf 14 = .ok (.if_icmp .ne 8, 3) := by decide +kernel
theorem dX10_signOf_17 : decode cX10_signOf 17 = .ok (.bipush 43, 2) := by decide +kernel
theorem dX10_signOf_19 : decode cX10_signOf 19 = .ok (.goto 42, 3) := by decide +kernel
theorem dX10_signOf_22 : decode cX10_signOf 22 = .ok (.iload_n 0, 1) := by decide +kernel
theorem dX10_signOf_23 : decode cX10_signOf 23 = .ok (.bipush 115, 2) := by decide +kernel
theorem dX10_signOf_25 : decode cX10_signOf 25 = .ok (.if_icmp .eq 9, 3) := by decide +kernel
theorem dX10_signOf_28 : decode cX10_signOf 28 = .ok (.iload_n 0, 1) := by decide +kernel
theorem dX10_signOf_29 : decode cX10_signOf 29 = .ok (.bipush 109, 2) := by decide +kernel
theorem dX10_signOf_31 : decode cX10_signOf 31 = .ok (.if_icmp .ne 8, 3) := by decide +kernel
theorem dX10_signOf_34 : decode cX10_signOf 34 = .ok (.bipush 64, 2) := by decide +kernel
theorem dX10_signOf_36 : decode cX10_signOf 36 = .ok (.goto 25, 3) := by decide +kernel
theorem dX10_signOf_39 : decode cX10_signOf 39 = .ok (.iload_n 0, 1) := by decide +kernel
theorem dX10_signOf_40 : decode cX10_signOf 40 = .ok (.bipush 99, 2) := by decide +kernel
theorem dX10_signOf_42 : decode cX10_signOf 42 = .ok (.if_icmp .ne 8, 3) := by decide +kernel
theorem dX10_signOf_45 : decode cX10_signOf 45 = .ok (.bipush 61, 2) := by decide +kernel
theorem dX10_signOf_47 : decode cX10_signOf 47 = .ok (.goto 14, 3) := by decide +kernel
theorem dX10_signOf_50 : decode cX10_signOf 50 = .ok (.iload_n 0, 1) := by decide +kernel
theorem dX10_signOf_51 : decode cX10_signOf 51 = .ok (.bipush 100, 2) := by decide +kernel
theorem dX10_signOf_53 : decode cX10_signOf 53 = .ok (.if_icmp .ne 7, 3) := by decide +kernel
theorem dX10_signOf_56 : decode cX10_signOf 56 = .ok (.iconst 0, 1) := by decide +kernel
theorem dX10_signOf_57 : decode cX10_signOf 57 = .ok (.goto 4, 3) := by decide +kernel
theorem dX10_signOf_60 : decode cX10_signOf 60 = .ok (.iconst (-1), 1) := by decide +kernel
theorem dX10_signOf_61 : decode cX10_signOf 61 = .ok (.ireturn, 1) := by decide +kernel
theorem dX10_command_0 : decode cX10_command 0 = .ok (.aload_n 0, 1) := by decide +kernel
theorem dX10_command_1 : decode cX10_command 1 = .ok (.getfield 66, 3) := by decide +kernel
theorem dX10_command_4 : decode cX10_command 4 = .ok (.iload_n 1, 1) := by decide +kernel
theorem dX10_command_5 : decode cX10_command 5 = .ok (.aload_n 0, 1) := by decide +kernel
theorem dX10_command_6 : decode cX10_command 6 = .ok (.invokevirtual 252, 3) := by decide +kernel
theorem dX10_command_9 : decode cX10_command 9 = .ok (.iastore, 1) := by decide +kernel
theorem dX10_command_10 : decode cX10_command 10 = .ok (.aload_n 0, 1) := by decide +kernel
theorem dX10_command_11 : decode cX10_command 11 = .ok (.getfield 66, 3) := by decide +kernel
theorem dX10_command_14 : decode cX10_command 14 = .ok (.iload_n 1, 1) := by decide +kernel
theorem dX10_command_15 : decode cX10_command 15 = .ok (.iaload, 1) := by decide +kernel
theorem dX10_command_16 : decode cX10_command 16 = .ok (.invokestatic 255, 3) := by decide +kernel
theorem dX10_command_19 : decode cX10_command 19 = .ok (.istore_n 2, 1) := by decide +kernel
theorem dX10_command_20 : decode cX10_command 20 = .ok (.aload_n 0, 1) := by decide +kernel
theorem dX10_command_21 : decode cX10_command 21 = .ok (.dup, 1) := by decide +kernel
theorem dX10_command_22 : decode cX10_command 22 = .ok (.getfield 249, 3) := by decide +kernel
theorem dX10_command_25 : decode cX10_command 25 = .ok (.iload_n 2, 1) := by decide +kernel
theorem dX10_command_26 : decode cX10_command 26 = .ok (.iconst (-1), 1) := by decide +kernel
theorem dX10_command_27 : decode cX10_command 27 = .ok (.if_icmp .ne 7, 3) := by decide +kernel
theorem dX10_command_30 : decode cX10_command 30 = .ok (.iconst 1, 1) := by decide +kernel
theorem dX10_command_31 : decode cX10_command 31 = .ok (.goto 4, 3) := by decide +kernel
theorem dX10_command_34 : decode cX10_command 34 = .ok (.iconst 0, 1) := by decide +kernel
theorem dX10_command_35 : decode cX10_command 35 = .ok (.ior, 1) := by decide +kernel
theorem dX10_command_36 : decode cX10_command 36 = .ok (.putfield 249, 3) := by decide +kernel
theorem dX10_command_39 : decode cX10_command 39 = .ok (.aload_n 0, 1) := by decide +kernel
theorem dX10_command_40 : decode cX10_command 40 = .ok (.getfield 249, 3) := by decide +kernel
theorem dX10_command_43 : decode cX10_command 43 = .ok (.ifCond .eq 4, 3) := by decide +kernel
theorem dX10_command_46 : decode cX10_command 46 = .ok (.return_, 1) := by decide +kernel
theorem dX10_command_47 : decode cX10_command 47 = .ok (.aload_n 0, 1) := by decide +kernel
theorem dX10_command_48 : decode cX10_command 48 = .ok (.dup, 1) := by decide +kernel
theorem dX10_command_49 : decode cX10_command 49 = .ok (.getfield 246, 3) := by decide +kernel
theorem dX10_command_52 : decode cX10_command 52 = .ok (.iconst 1, 1) := by decide +kernel
theorem dX10_command_53 : decode cX10_command 53 = .ok (.iadd, 1) := by decide +kernel
theorem dX10_command_54 : decode cX10_command 54 = .ok (.putfield 246, 3) := by decide +kernel
theorem dX10_command_57 : decode cX10_command 57 = .ok (.aload_n 0, 1) := by decide +kernel
theorem dX10_command_58 : decode cX10_command 58 = .ok (.getfield 69, 3) := by decide +kernel
theorem dX10_command_61 : decode cX10_command 61 = .ok (.iload_n 1, 1) := by decide +kernel
theorem dX10_command_62 : decode cX10_command 62 = .ok (.aload_n 0, 1) := by decide +kernel
theorem dX10_command_63 : decode cX10_command 63 = .ok (.invokevirtual 258, 3) := by decide +kernel
theorem dX10_command_66 : decode cX10_command 66 = .ok (.iastore, 1) := by decide +kernel
theorem dX10_command_67 : decode cX10_command 67 = .ok (.aload_n 0, 1) := by decide +kernel
theorem dX10_command_68 : decode cX10_command 68 = .ok (.getfield 249, 3) := by decide +kernel
theorem dX10_command_71 : decode cX10_command 71 = .ok (.ifCond .ne 7, 3) := by decide +kernel
theorem dX10_command_74 : decode cX10_command 74 = .ok (.iload_n 2, 1) := by decide +kernel
theorem dX10_command_75 : decode cX10_command 75 = .ok (.ifCond .ne 4, 3) := by decide +kernel
theorem dX10_command_78 : decode cX10_command 78 = .ok (.return_, 1) := by decide +kernel
theorem dX10_command_79 : decode cX10_command 79 = .ok (.aload_n 0, 1) := by decide +kernel
theorem dX10_command_80 : decode cX10_command 80 = .ok (.dup, 1) := by decide +kernel
theorem dX10_command_81 : decode cX10_command 81 = .ok (.getfield 249, 3) := by decide +kernel
theorem dX10_command_84 : decode cX10_command 84 = .ok (.aload_n 0, 1) := by decide +kernel
theorem dX10_command_85 : decode cX10_command 85 = .ok (.invokevirtual 252, 3) := by decide +kernel
theorem dX10_command_88 : decode cX10_command 88 = .ok (.iload_n 2, 1) := by decide +kernel
theorem dX10_command_89 : decode cX10_command 89 = .ok (.if_icmp .eq 7, 3) := by decide +kernel
theorem dX10_command_92 : decode cX10_command 92 = .ok (.iconst 1, 1) := by decide +kernel
theorem dX10_command_93 : decode cX10_command 93 = .ok (.goto 4, 3) := by decide +kernel
theorem dX10_command_96 : decode cX10_command 96 = .ok (.iconst 0, 1) := by decide +kernel
theorem dX10_command_97 : decode cX10_command 97 = .ok (.ior, 1) := by decide +kernel
theorem dX10_command_98 : decode cX10_command 98 = .ok (.putfield 249, 3) := by decide +kernel
theorem dX10_command_101 : decode cX10_command 101 = .ok (.aload_n 0, 1) := by decide +kernel
theorem dX10_command_102 : decode cX10_command 102 = .ok (.getfield 249, 3) := by decide +kernel
theorem dX10_command_105 : decode cX10_command 105 = .ok (.ifCond .eq 4, 3) := by decide +kernel
theorem dX10_command_108 : decode cX10_command 108 = .ok (.return_, 1) := by decide +kernel
theorem dX10_command_109 : decode cX10_command 109 = .ok (.aload_n 0, 1) := by decide +kernel
theorem dX10_command_110 : decode cX10_command 110 = .ok (.dup, 1) := by decide +kernel
theorem dX10_command_111 : decode cX10_command 111 = .ok (.getfield 246, 3) := by decide +kernel
theorem dX10_command_114 : decode cX10_command 114 = .ok (.iconst 1, 1) := by decide +kernel
theorem dX10_command_115 : decode cX10_command 115 = .ok (.iadd, 1) := by decide +kernel
theorem dX10_command_116 : decode cX10_command 116 = .ok (.putfield 246, 3) := by decide +kernel
theorem dX10_command_119 : decode cX10_command 119 = .ok (.aload_n 0, 1) := by decide +kernel
theorem dX10_command_120 : decode cX10_command 120 = .ok (.getfield 72, 3) := by decide +kernel
theorem dX10_command_123 : decode cX10_command 123 = .ok (.iload_n 1, 1) := by decide +kernel
theorem dX10_command_124 : decode cX10_command 124 = .ok (.aload_n 0, 1) := by decide +kernel
theorem dX10_command_125 : decode cX10_command 125 = .ok (.invokevirtual 258, 3) := by decide +kernel
theorem dX10_command_128 : decode cX10_command 128 = .ok (.iastore, 1) := by decide +kernel
theorem dX10_command_129 : decode cX10_command 129 = .ok (.return_, 1) := by decide +kernel
theorem dX10_done_0 : decode cX10_done 0 = .ok (.aload_n 0, 1) := by decide +kernel
theorem dX10_done_1 : decode cX10_done 1 = .ok (.getfield 69, 3) := by decide +kernel
theorem dX10_done_4 : decode cX10_done 4 = .ok (.iload_n 1, 1) := by decide +kernel
theorem dX10_done_5 : decode cX10_done 5 = .ok (.iaload, 1) := by decide +kernel
theorem dX10_done_6 : decode cX10_done 6 = .ok (.istore_n 2, 1) := by decide +kernel
theorem dX10_done_7 : decode cX10_done 7 = .ok (.aload_n 0, 1) := by decide +kernel
theorem dX10_done_8 : decode cX10_done 8 = .ok (.getfield 72, 3) := by decide +kernel
theorem dX10_done_11 : decode cX10_done 11 = .ok (.iload_n 1, 1) := by decide +kernel
theorem dX10_done_12 : decode cX10_done 12 = .ok (.iaload, 1) := by decide +kernel
theorem dX10_done_13 : decode cX10_done 13 = .ok (.istore_n 3, 1) := by decide +kernel
theorem dX10_done_14 : decode cX10_done 14 = .ok (.aload_n 0, 1) := by decide +kernel
theorem dX10_done_15 : decode cX10_done 15 = .ok (.getfield 66, 3) := by decide +kernel
theorem dX10_done_18 : decode cX10_done 18 = .ok (.iload_n 1, 1) := by decide +kernel
theorem dX10_done_19 : decode cX10_done 19 = .ok (.iaload, 1) := by decide +kernel
theorem dX10_done_20 : decode cX10_done 20 = .ok (.lookupswitch 143 #[(99, 66), (100, 73), (105, 59), (115, 90), (120, 52)], 52) := by decide +kernel
theorem dX10_done_72 : decode cX10_done 72 = .ok (.aload_n 0, 1) := by decide +kernel
theorem dX10_done_73 : decode cX10_done 73 = .ok (.iload_n 2, 1) := by decide +kernel
theorem dX10_done_74 : decode cX10_done 74 = .ok (.iload_n 3, 1) := by decide +kernel
theorem dX10_done_75 : decode cX10_done 75 = .ok (.invokevirtual 190, 3) := by decide +kernel
theorem dX10_done_78 : decode cX10_done 78 = .ok (.ireturn, 1) := by decide +kernel
theorem dX10_done_79 : decode cX10_done 79 = .ok (.aload_n 0, 1) := by decide +kernel
theorem dX10_done_80 : decode cX10_done 80 = .ok (.iload_n 2, 1) := by decide +kernel
theorem dX10_done_81 : decode cX10_done 81 = .ok (.iload_n 3, 1) := by decide +kernel
theorem dX10_done_82 : decode cX10_done 82 = .ok (.invokevirtual 215, 3) := by decide +kernel
theorem dX10_done_85 : decode cX10_done 85 = .ok (.ireturn, 1) := by decide +kernel
theorem dX10_done_86 : decode cX10_done 86 = .ok (.aload_n 0, 1) := by decide +kernel
theorem dX10_done_87 : decode cX10_done 87 = .ok (.iload_n 2, 1) := by decide +kernel
theorem dX10_done_88 : decode cX10_done 88 = .ok (.iload_n 3, 1) := by decide +kernel
theorem dX10_done_89 : decode cX10_done 89 = .ok (.invokevirtual 218, 3) := by decide +kernel
theorem dX10_done_92 : decode cX10_done 92 = .ok (.ireturn, 1) := by decide +kernel
theorem dX10_done_93 : decode cX10_done 93 = .ok (.aload_n 0, 1) := by decide +kernel
theorem dX10_done_94 : decode cX10_done 94 = .ok (.iload_n 2, 1) := by decide +kernel
theorem dX10_done_95 : decode cX10_done 95 = .ok (.invokevirtual 165, 3) := by decide +kernel
theorem dX10_done_98 : decode cX10_done 98 = .ok (.ifCond .ne 5, 3) := by decide +kernel
theorem dX10_done_101 : decode cX10_done 101 = .ok (.iconst (-1), 1) := by decide +kernel
theorem dX10_done_102 : decode cX10_done 102 = .ok (.ireturn, 1) := by decide +kernel
theorem dX10_done_103 : decode cX10_done 103 = .ok (.aload_n 0, 1) := by decide +kernel
theorem dX10_done_104 : decode cX10_done 104 = .ok (.iload_n 2, 1) := by decide +kernel
theorem dX10_done_105 : decode cX10_done 105 = .ok (.invokevirtual 172, 3) := by decide +kernel
theorem dX10_done_108 : decode cX10_done 108 = .ok (.iconst 0, 1) := by decide +kernel
theorem dX10_done_109 : decode cX10_done 109 = .ok (.ireturn, 1) := by decide +kernel
theorem dX10_done_110 : decode cX10_done 110 = .ok (.aload_n 0, 1) := by decide +kernel
theorem dX10_done_111 : decode cX10_done 111 = .ok (.iload_n 2, 1) := by decide +kernel
theorem dX10_done_112 : decode cX10_done 112 = .ok (.invokevirtual 165, 3) := by decide +kernel
theorem dX10_done_115 : decode cX10_done 115 = .ok (.ifCond .ne 5, 3) := by decide +kernel
theorem dX10_done_118 : decode cX10_done 118 = .ok (.iconst (-1), 1) := by decide +kernel
theorem dX10_done_119 : decode cX10_done 119 = .ok (.ireturn, 1) := by decide +kernel
theorem dX10_done_120 : decode cX10_done 120 = .ok (.iload_n 3, 1) := by decide +kernel
theorem dX10_done_121 : decode cX10_done 121 = .ok (.iconst 1, 1) := by decide +kernel
theorem dX10_done_122 : decode cX10_done 122 = .ok (.aload_n 0, 1) := by decide +kernel
theorem dX10_done_123 : decode cX10_done 123 = .ok (.iload_n 2, 1) := by decide +kernel
theorem dX10_done_124 : decode cX10_done 124 = .ok (.iconst 4, 1) := by decide +kernel
theorem dX10_done_125 : decode cX10_done 125 = .ok (.invokevirtual 126, 3) := by decide +kernel
theorem dX10_done_128 : decode cX10_done 128 = .ok (.iconst 1, 1) := by decide +kernel
theorem dX10_done_129 : decode cX10_done 129 = .ok (.isub, 1) := by decide +kernel
theorem dX10_done_130 : decode cX10_done 130 = .ok (.invokestatic 103, 3) := by decide +kernel
theorem dX10_done_133 : decode cX10_done 133 = .ok (.ifCond .ne 6, 3) := by decide +kernel
theorem dX10_done_136 : decode cX10_done 136 = .ok (.bipush (-2), 2) := by decide +kernel
theorem dX10_done_138 : decode cX10_done 138 = .ok (.ireturn, 1) := by decide +kernel
theorem dX10_done_139 : decode cX10_done 139 = .ok (.aload_n 0, 1) := by decide +kernel
theorem dX10_done_140 : decode cX10_done 140 = .ok (.getfield 9, 3) := by decide +kernel
theorem dX10_done_143 : decode cX10_done 143 = .ok (.bipush 25, 2) := by decide +kernel
theorem dX10_done_145 : decode cX10_done 145 = .ok (.iaload, 1) := by decide +kernel
theorem dX10_done_146 : decode cX10_done 146 = .ok (.bipush 24, 2) := by decide +kernel
theorem dX10_done_148 : decode cX10_done 148 = .ok (.if_icmp .ne 8, 3) := by decide +kernel
theorem dX10_done_151 : decode cX10_done 151 = .ok (.bipush (-3), 2) := by decide +kernel
theorem dX10_done_153 : decode cX10_done 153 = .ok (.goto 9, 3) := by decide +kernel
theorem dX10_done_156 : decode cX10_done 156 = .ok (.aload_n 0, 1) := by decide +kernel
theorem dX10_done_157 : decode cX10_done 157 = .ok (.iload_n 2, 1) := by decide +kernel
theorem dX10_done_158 : decode cX10_done 158 = .ok (.iload_n 3, 1) := by decide +kernel
theorem dX10_done_159 : decode cX10_done 159 = .ok (.invokevirtual 184, 3) := by decide +kernel
theorem dX10_done_162 : decode cX10_done 162 = .ok (.ireturn, 1) := by decide +kernel
theorem dX10_done_163 : decode cX10_done 163 = .ok (.aload_n 0, 1) := by decide +kernel
theorem dX10_done_164 : decode cX10_done 164 = .ok (.iload_n 2, 1) := by decide +kernel
theorem dX10_done_165 : decode cX10_done 165 = .ok (.invokevirtual 165, 3) := by decide +kernel
theorem dX10_done_168 : decode cX10_done 168 = .ok (.ifCond .ne 5, 3) := by decide +kernel
theorem dX10_done_171 : decode cX10_done 171 = .ok (.iconst (-1), 1) := by decide +kernel
theorem dX10_done_172 : decode cX10_done 172 = .ok (.ireturn, 1) := by decide +kernel
theorem dX10_done_173 : decode cX10_done 173 = .ok (.iload_n 3, 1) := by decide +kernel
theorem dX10_done_174 : decode cX10_done 174 = .ok (.iconst 0, 1) := by decide +kernel
theorem dX10_done_175 : decode cX10_done 175 = .ok (.sipush 600, 3) := by decide +kernel
theorem dX10_done_178 : decode cX10_done 178 = .ok (.aload_n 0, 1) := by decide +kernel
theorem dX10_done_179 : decode cX10_done 179 = .ok (.iload_n 2, 1) := by decide +kernel
theorem dX10_done_180 : decode cX10_done 180 = .ok (.iconst 4, 1) := by decide +kernel
theorem dX10_done_181 : decode cX10_done 181 = .ok (.invokevirtual 126, 3) := by decide +kernel
theorem dX10_done_184 : decode cX10_done 184 = .ok (.isub, 1) := by decide +kernel
theorem dX10_done_185 : decode cX10_done 185 = .ok (.invokestatic 103, 3) := by decide +kernel
theorem dX10_done_188 : decode cX10_done 188 = .ok (.ifCond .ne 6, 3) := by decide +kernel
theorem dX10_done_191 : decode cX10_done 191 = .ok (.bipush (-2), 2) := by decide +kernel
theorem dX10_done_193 : decode cX10_done 193 = .ok (.ireturn, 1) := by decide +kernel
theorem dX10_done_194 : decode cX10_done 194 = .ok (.aload_n 0, 1) := by decide +kernel
theorem dX10_done_195 : decode cX10_done 195 = .ok (.iload_n 2, 1) := by decide +kernel
theorem dX10_done_196 : decode cX10_done 196 = .ok (.invokevirtual 168, 3) := by decide +kernel
theorem dX10_done_199 : decode cX10_done 199 = .ok (.aload_n 0, 1) := by decide +kernel
theorem dX10_done_200 : decode cX10_done 200 = .ok (.getfield 50, 3) := by decide +kernel
theorem dX10_done_203 : decode cX10_done 203 = .ok (.iconst 1, 1) := by decide +kernel
theorem dX10_done_204 : decode cX10_done 204 = .ok (.iload_n 3, 1) := by decide +kernel
theorem dX10_done_205 : decode cX10_done 205 = .ok (.iastore, 1) := by decide +kernel
theorem dX10_done_206 : decode cX10_done 206 = .ok (.aload_n 0, 1) := by decide +kernel
theorem dX10_done_207 : decode cX10_done 207 = .ok (.iload_n 2, 1) := by decide +kernel
theorem dX10_done_208 : decode cX10_done 208 = .ok (.invokevirtual 159, 3) := by decide +kernel
theorem dX10_done_211 : decode cX10_done 211 = .ok (.ifCond .eq 6, 3) := by decide +kernel
theorem dX10_done_214 : decode cX10_done 214 = .ok (.bipush (-4), 2) := by decide +kernel
theorem dX10_done_216 : decode cX10_done 216 = .ok (.ireturn, 1) := by decide +kernel
theorem dX10_done_217 : decode cX10_done 217 = .ok (.aload_n 0, 1) := by decide +kernel
theorem dX10_done_218 : decode cX10_done 218 = .ok (.iload_n 2, 1) := by decide +kernel
theorem dX10_done_219 : decode cX10_done 219 = .ok (.invokevirtual 172, 3) := by decide +kernel
theorem dX10_done_222 : decode cX10_done 222 = .ok (.aload_n 0, 1) := by decide +kernel
theorem dX10_done_223 : decode cX10_done 223 = .ok (.invokevirtual 162, 3) := by decide +kernel
theorem dX10_done_226 : decode cX10_done 226 = .ok (.ireturn, 1) := by decide +kernel
theorem dX10_execute_0 : decode cX10_execute 0 = .ok (.aload_n 0, 1) := by decide +kernel
theorem dX10_execute_1 : decode cX10_execute 1 = .ok (.iconst 0, 1) := by decide +kernel
theorem dX10_execute_2 : decode cX10_execute 2 = .ok (.putfield 246, 3) := by decide +kernel
theorem dX10_execute_5 : decode cX10_execute 5 = .ok (.aload_n 0, 1) := by decide +kernel
theorem dX10_execute_6 : decode cX10_execute 6 = .ok (.iconst 0, 1) := by decide +kernel
theorem dX10_execute_7 : decode cX10_execute 7 = .ok (.putfield 249, 3) := by decide +kernel
theorem dX10_execute_10 : decode cX10_execute 10 = .ok (.iconst 0, 1) := by decide +kernel
theorem dX10_execute_11 : decode cX10_execute 11 = .ok (.istore_n 1, 1) := by decide +kernel
theorem dX10_execute_12 : decode cX10_execute 12 = .ok (.iconst 1, 1) := by decide +kernel
theorem dX10_execute_13 : decode cX10_execute 13 = .ok (.istore_n 2, 1) := by decide +kernel
theorem dX10_execute_14 : decode cX10_execute 14 = .ok (.iload_n 2, 1) := by decide +kernel
theorem dX10_execute_15 : decode cX10_execute 15 = .ok (.ifCond .eq 54, 3) := by decide +kernel
theorem dX10_execute_18 : decode cX10_execute 18 = .ok (.aload_n 0, 1) := by decide +kernel
theorem dX10_execute_19 : decode cX10_execute 19 = .ok (.iload_n 1, 1) := by decide +kernel
theorem dX10_execute_20 : decode cX10_execute 20 = .ok (.invokevirtual 261, 3) := by decide +kernel
theorem dX10_execute_23 : decode cX10_execute 23 = .ok (.iinc 1 1, 3) := by decide +kernel
theorem dX10_execute_26 : decode cX10_execute 26 = .ok (.aload_n 0, 1) := by decide +kernel
theorem dX10_execute_27 : decode cX10_execute 27 = .ok (.getfield 249, 3) := by decide +kernel
theorem dX10_execute_30 : decode cX10_execute 30 = .ok (.ifCond .ne 16, 3) := by decide +kernel
theorem dX10_execute_33 : decode cX10_execute 33 = .ok (.aload_n 0, 1) := by decide +kernel
theorem dX10_execute_34 : decode cX10_execute 34 = .ok (.invokevirtual 252, 3) := by decide +kernel
theorem dX10_execute_37 : decode cX10_execute 37 = .ok (.bipush 59, 2) := by decide +kernel
theorem dX10_execute_39 : decode cX10_execute 39 = .ok (.if_icmp .ne 7, 3) := by decide +kernel
theorem dX10_execute_42 : decode cX10_execute 42 = .ok (.iconst 1, 1) := by decide +kernel
theorem dX10_execute_43 : decode cX10_execute 43 = .ok (.goto 4, 3) := by decide +kernel
theorem dX10_execute_46 : decode cX10_execute 46 = .ok (.iconst 0, 1) := by decide +kernel
theorem dX10_execute_47 : decode cX10_execute 47 = .ok (.istore_n 2, 1) := by decide +kernel
theorem dX10_execute_48 : decode cX10_execute 48 = .ok (.aload_n 0, 1) := by decide +kernel
theorem dX10_execute_49 : decode cX10_execute 49 = .ok (.dup, 1) := by decide +kernel
theorem dX10_execute_50 : decode cX10_execute 50 = .ok (.getfield 246, 3) := by decide +kernel
theorem dX10_execute_53 : decode cX10_execute 53 = .ok (.iload_n 2, 1) := by decide +kernel
theorem dX10_execute_54 : decode cX10_execute 54 = .ok (.ifCond .eq 7, 3) := by decide +kernel
theorem dX10_execute_57 : decode cX10_execute 57 = .ok (.iconst 1, 1) := by decide +kernel
theorem dX10_execute_58 : decode cX10_execute 58 = .ok (.goto 4, 3) := by decide +kernel
theorem dX10_execute_61 : decode cX10_execute 61 = .ok (.iconst 0, 1) := by decide +kernel
theorem dX10_execute_62 : decode cX10_execute 62 = .ok (.iadd, 1) := by decide +kernel
theorem dX10_execute_63 : decode cX10_execute 63 = .ok (.putfield 246, 3) := by decide +kernel
theorem dX10_execute_66 : decode cX10_execute 66 = .ok (.goto (-52), 3) := by decide +kernel
theorem dX10_execute_69 : decode cX10_execute 69 = .ok (.aload_n 0, 1) := by decide +kernel
theorem dX10_execute_70 : decode cX10_execute 70 = .ok (.dup, 1) := by decide +kernel
theorem dX10_execute_71 : decode cX10_execute 71 = .ok (.getfield 249, 3) := by decide +kernel
theorem dX10_execute_74 : decode cX10_execute 74 = .ok (.aload_n 0, 1) := by decide +kernel
theorem dX10_execute_75 : decode cX10_execute 75 = .ok (.getfield 246, 3) := by decide +kernel
theorem dX10_execute_78 : decode cX10_execute 78 = .ok (.aload_n 0, 1) := by decide +kernel
theorem dX10_execute_79 : decode cX10_execute 79 = .ok (.getfield 243, 3) := by decide +kernel
theorem dX10_execute_82 : decode cX10_execute 82 = .ok (.if_icmp .ge 7, 3) := by decide +kernel
theorem dX10_execute_85 : decode cX10_execute 85 = .ok (.iconst 1, 1) := by decide +kernel
theorem dX10_execute_86 : decode cX10_execute 86 = .ok (.goto 4, 3) := by decide +kernel
theorem dX10_execute_89 : decode cX10_execute 89 = .ok (.iconst 0, 1) := by decide +kernel
theorem dX10_execute_90 : decode cX10_execute 90 = .ok (.ior, 1) := by decide +kernel
theorem dX10_execute_91 : decode cX10_execute 91 = .ok (.putfield 249, 3) := by decide +kernel
theorem dX10_execute_94 : decode cX10_execute 94 = .ok (.aload_n 0, 1) := by decide +kernel
theorem dX10_execute_95 : decode cX10_execute 95 = .ok (.iconst 0, 1) := by decide +kernel
theorem dX10_execute_96 : decode cX10_execute 96 = .ok (.putfield 243, 3) := by decide +kernel
theorem dX10_execute_99 : decode cX10_execute 99 = .ok (.aload_n 0, 1) := by decide +kernel
theorem dX10_execute_100 : decode cX10_execute 100 = .ok (.getfield 249, 3) := by decide +kernel
theorem dX10_execute_103 : decode cX10_execute 103 = .ok (.ifCond .eq 12, 3) := by decide +kernel
theorem dX10_execute_106 : decode cX10_execute 106 = .ok (.sipush (-1000), 3) := by decide +kernel
theorem dX10_execute_109 : decode cX10_execute 109 = .ok (.aload_n 0, 1) := by decide +kernel
theorem dX10_execute_110 : decode cX10_execute 110 = .ok (.getfield 246, 3) := by decide +kernel
theorem dX10_execute_113 : decode cX10_execute 113 = .ok (.isub, 1) := by decide +kernel
theorem dX10_execute_114 : decode cX10_execute 114 = .ok (.ireturn, 1) := by decide +kernel
theorem dX10_execute_115 : decode cX10_execute 115 = .ok (.aload_n 0, 1) := by decide +kernel
theorem dX10_execute_116 : decode cX10_execute 116 = .ok (.invokevirtual 107, 3) := by decide +kernel
theorem dX10_execute_119 : decode cX10_execute 119 = .ok (.aload_n 0, 1) := by decide +kernel
theorem dX10_execute_120 : decode cX10_execute 120 = .ok (.getfield 9, 3) := by decide +kernel
theorem dX10_execute_123 : decode cX10_execute 123 = .ok (.aload_n 0, 1) := by decide +kernel
theorem dX10_execute_124 : decode cX10_execute 124 = .ok (.getfield 28, 3) := by decide +kernel
theorem dX10_execute_127 : decode cX10_execute 127 = .ok (.invokestatic 78, 3) := by decide +kernel
theorem dX10_execute_130 : decode cX10_execute 130 = .ok (.iconst 0, 1) := by decide +kernel
theorem dX10_execute_131 : decode cX10_execute 131 = .ok (.istore_n 3, 1) := by decide +kernel
theorem dX10_execute_132 : decode cX10_execute 132 = .ok (.iload_n 3, 1) := by decide +kernel
theorem dX10_execute_133 : decode cX10_execute 133 = .ok (.iload_n 1, 1) := by decide +kernel
theorem dX10_execute_134 : decode cX10_execute 134 = .ok (.if_icmp .ge 49, 3) := by decide +kernel
theorem dX10_execute_137 : decode cX10_execute 137 = .ok (.aload_n 0, 1) := by decide +kernel
theorem dX10_execute_138 : decode cX10_execute 138 = .ok (.iload_n 3, 1) := by decide +kernel
theorem dX10_execute_139 : decode cX10_execute 139 = .ok (.invokevirtual 264, 3) := by decide +kernel
theorem dX10_execute_142 : decode cX10_execute 142 = .ok (.istore 4, 2) := by decide +kernel
theorem dX10_execute_144 : decode cX10_execute 144 = .ok (.iload 4, 2) := by decide +kernel
theorem dX10_execute_146 : decode cX10_execute 146 = .ok (.ifCond .lt 6, 3) := by decide +kernel
theorem dX10_execute_149 : decode cX10_execute 149 = .ok (.goto 28, 3) := by decide +kernel
theorem dX10_execute_152 : decode cX10_execute 152 = .ok (.aload_n 0, 1) := by decide +kernel
theorem dX10_execute_153 : decode cX10_execute 153 = .ok (.getfield 28, 3) := by decide +kernel
theorem dX10_execute_156 : decode cX10_execute 156 = .ok (.aload_n 0, 1) := by decide +kernel
theorem dX10_execute_157 : decode cX10_execute 157 = .ok (.getfield 9, 3) := by decide +kernel
theorem dX10_execute_160 : decode cX10_execute 160 = .ok (.invokestatic 78, 3) := by decide +kernel
theorem dX10_execute_163 : decode cX10_execute 163 = .ok (.aload_n 0, 1) := by decide +kernel
theorem dX10_execute_164 : decode cX10_execute 164 = .ok (.iload 4, 2) := by decide +kernel
theorem dX10_execute_166 : decode cX10_execute 166 = .ok (.putfield 267, 3) := by decide +kernel
theorem dX10_execute_169 : decode cX10_execute 169 = .ok (.aload_n 0, 1) := by decide +kernel
theorem dX10_execute_170 : decode cX10_execute 170 = .ok (.iload_n 3, 1) := by decide +kernel
theorem dX10_execute_171 : decode cX10_execute 171 = .ok (.putfield 62, 3) := by decide +kernel
theorem dX10_execute_174 : decode cX10_execute 174 = .ok (.bipush (-5), 2) := by decide +kernel
theorem dX10_execute_176 : decode cX10_execute 176 = .ok (.ireturn, 1) := by decide +kernel
theorem dX10_execute_177 : decode cX10_execute 177 = .ok (.iinc 3 1, 3) := by decide +kernel
theorem dX10_execute_180 : decode cX10_execute 180 = .ok (.goto (-48), 3) := by decide +kernel
theorem dX10_execute_183 : decode cX10_execute 183 = .ok (.aload_n 0, 1) := by decide +kernel
theorem dX10_execute_184 : decode cX10_execute 184 = .ok (.iload_n 1, 1) := by decide +kernel
theorem dX10_execute_185 : decode cX10_execute 185 = .ok (.invokevirtual 110, 3) := by decide +kernel
theorem dX10_execute_188 : decode cX10_execute 188 = .ok (.ireturn, 1) := by decide +kernel
theorem dX10_refused_0 : decode cX10_refused 0 = .ok (.iload_n 1, 1) := by decide +kernel
theorem dX10_refused_1 : decode cX10_refused 1 = .ok (.iconst 0, 1) := by decide +kernel
theorem dX10_refused_2 : decode cX10_refused 2 = .ok (.iconst 1, 1) := by decide +kernel
theorem dX10_refused_3 : decode cX10_refused 3 = .ok (.invokestatic 103, 3) := by decide +kernel
theorem dX10_refused_6 : decode cX10_refused 6 = .ok (.ifCond .ne 6, 3) := by decide +kernel
theorem dX10_refused_9 : decode cX10_refused 9 = .ok (.bipush (-2), 2) := by decide +kernel
theorem dX10_refused_11 : decode cX10_refused 11 = .ok (.ireturn, 1) := by decide +kernel
theorem dX10_refused_12 : decode cX10_refused 12 = .ok (.aload_n 0, 1) := by decide +kernel
theorem dX10_refused_13 : decode cX10_refused 13 = .ok (.getfield 62, 3) := by decide +kernel
theorem dX10_refused_16 : decode cX10_refused 16 = .ok (.ifCond .ge 8, 3) := by decide +kernel
theorem dX10_refused_19 : decode cX10_refused 19 = .ok (.bipush (-6), 2) := by decide +kernel
theorem dX10_refused_21 : decode cX10_refused 21 = .ok (.goto 18, 3) := by decide +kernel
theorem dX10_refused_24 : decode cX10_refused 24 = .ok (.iload_n 1, 1) := by decide +kernel
theorem dX10_refused_25 : decode cX10_refused 25 = .ok (.ifCond .ne 10, 3) := by decide +kernel
theorem dX10_refused_28 : decode cX10_refused 28 = .ok (.aload_n 0, 1) := by decide +kernel
theorem dX10_refused_29 : decode cX10_refused 29 = .ok (.getfield 267, 3) := by decide +kernel
theorem dX10_refused_32 : decode cX10_refused 32 = .ok (.goto 7, 3) := by decide +kernel
theorem dX10_refused_35 : decode cX10_refused 35 = .ok (.aload_n 0, 1) := by decide +kernel
theorem dX10_refused_36 : decode cX10_refused 36 = .ok (.getfield 62, 3) := by decide +kernel
theorem dX10_refused_39 : decode cX10_refused 39 = .ok (.ireturn, 1) := by decide +kernel
theorem dX10_puts_0 : decode cX10_puts 0 = .ok (.iload_n 2, 1) := by decide +kernel
theorem dX10_puts_1 : decode cX10_puts 1 = .ok (.istore_n 3, 1) := by decide +kernel
theorem dX10_puts_2 : decode cX10_puts 2 = .ok (.iload_n 3, 1) := by decide +kernel
theorem dX10_puts_3 : decode cX10_puts 3 = .ok (.ifCond .le 52, 3) := by decide +kernel
theorem dX10_puts_6 : decode cX10_puts 6 = .ok (.iload_n 1, 1) := by decide +kernel
theorem dX10_puts_7 : decode cX10_puts 7 = .ok (.iload_n 3, 1) := by decide +kernel
theorem dX10_puts_8 : decode cX10_puts 8 = .ok (.if_icmp .ge 11, 3) := by decide +kernel
theorem dX10_puts_11 : decode cX10_puts 11 = .ok (.iload_n 3, 1) := by decide +kernel
theorem dX10_puts_12 : decode cX10_puts 12 = .ok (.iconst 1, 1) := by decide +kernel
theorem dX10_puts_13 : decode cX10_puts 13 = .ok (.if_icmp .le 6, 3) := by decide +kernel
theorem dX10_puts_16 : decode cX10_puts 16 = .ok (.goto 31, 3) := by decide +kernel
theorem dX10_puts_19 : decode cX10_puts 19 = .ok (.aload_n 0, 1) := by decide +kernel
theorem dX10_puts_20 : decode cX10_puts 20 = .ok (.getfield 75, 3) := by decide +kernel
theorem dX10_puts_23 : decode cX10_puts 23 = .ok (.aload_n 0, 1) := by decide +kernel
theorem dX10_puts_24 : decode cX10_puts 24 = .ok (.getfield 270, 3) := by decide +kernel
theorem dX10_puts_27 : decode cX10_puts 27 = .ok (.bipush 48, 2) := by decide +kernel
theorem dX10_puts_29 : decode cX10_puts 29 = .ok (.iload_n 1, 1) := by decide +kernel
theorem dX10_puts_30 : decode cX10_puts 30 = .ok (.iload_n 3, 1) := by decide +kernel
theorem dX10_puts_31 : decode cX10_puts 31 = .ok (.idiv, 1) := by decide +kernel
theorem dX10_puts_32 : decode cX10_puts 32 = .ok (.bipush 10, 2) := by decide +kernel
theorem dX10_puts_34 : decode cX10_puts 34 = .ok (.irem, 1) := by decide +kernel
theorem dX10_puts_35 : decode cX10_puts 35 = .ok (.iadd, 1) := by decide +kernel
theorem dX10_puts_36 : decode cX10_puts 36 = .ok (.iastore, 1) := by decide +kernel
theorem dX10_puts_37 : decode cX10_puts 37 = .ok (.aload_n 0, 1) := by decide +kernel
theorem dX10_puts_38 : decode cX10_puts 38 = .ok (.dup, 1) := by decide +kernel
theorem dX10_puts_39 : decode cX10_puts 39 = .ok (.getfield 270, 3) := by decide +kernel
theorem dX10_puts_42 : decode cX10_puts 42 = .ok (.iconst 1, 1) := by decide +kernel
theorem dX10_puts_43 : decode cX10_puts 43 = .ok (.iadd, 1) := by decide +kernel
theorem dX10_puts_44 : decode cX10_puts 44 = .ok (.putfield 270, 3) := by decide +kernel
theorem dX10_puts_47 : decode cX10_puts 47 = .ok (.iload_n 3, 1) := by decide +kernel
theorem dX10_puts_48 : decode cX10_puts 48 = .ok (.bipush 10, 2) := by decide +kernel
theorem dX10_puts_50 : decode cX10_puts 50 = .ok (.idiv, 1) := by decide +kernel
theorem dX10_puts_51 : decode cX10_puts 51 = .ok (.istore_n 3, 1) := by decide +kernel
theorem dX10_puts_52 : decode cX10_puts 52 = .ok (.goto (-50), 3) := by decide +kernel
theorem dX10_puts_55 : decode cX10_puts 55 = .ok (.return_, 1) := by decide +kernel
theorem dX10_write_0 : decode cX10_write 0 = .ok (.aload_n 0, 1) := by decide +kernel
theorem dX10_write_1 : decode cX10_write 1 = .ok (.iconst 0, 1) := by decide +kernel
theorem dX10_write_2 : decode cX10_write 2 = .ok (.putfield 270, 3) := by decide +kernel
theorem dX10_write_5 : decode cX10_write 5 = .ok (.iconst 0, 1) := by decide +kernel
theorem dX10_write_6 : decode cX10_write 6 = .ok (.istore_n 1, 1) := by decide +kernel
theorem dX10_write_7 : decode cX10_write 7 = .ok (.iload_n 1, 1) := by decide +kernel
theorem dX10_write_8 : decode cX10_write 8 = .ok (.aload_n 0, 1) := by decide +kernel
theorem dX10_write_9 : decode cX10_write 9 = .ok (.getfield 9, 3) := by decide +kernel
theorem dX10_write_12 : decode cX10_write 12 = .ok (.sipush 438, 3) := by decide +kernel
theorem dX10_write_15 : decode cX10_write 15 = .ok (.iaload, 1) := by decide +kernel
theorem dX10_write_16 : decode cX10_write 16 = .ok (.if_icmp .ge 122, 3) := by decide +kernel
theorem dX10_write_19 : decode cX10_write 19 = .ok (.iload_n 1, 1) := by decide +kernel
theorem dX10_write_20 : decode cX10_write 20 = .ok (.ifCond .le 14, 3) := by decide +kernel
theorem dX10_write_23 : decode cX10_write 23 = .ok (.aload_n 0, 1) := by decide +kernel
theorem dX10_write_24 : decode cX10_write 24 = .ok (.getfield 75, 3) := by decide +kernel
theorem dX10_write_27 : decode cX10_write 27 = .ok (.aload_n 0, 1) := by decide +kernel
theorem dX10_write_28 : decode cX10_write 28 = .ok (.getfield 270, 3) := by decide +kernel
theorem dX10_write_31 : decode cX10_write 31 = .ok (.bipush 59, 2) := by decide +kernel
theorem dX10_write_33 : decode cX10_write 33 = .ok (.iastore, 1) := by decide +kernel
theorem dX10_write_34 : decode cX10_write 34 = .ok (.aload_n 0, 1) := by decide +kernel
theorem dX10_write_35 : decode cX10_write 35 = .ok (.dup, 1) := by decide +kernel
theorem dX10_write_36 : decode cX10_write 36 = .ok (.getfield 270, 3) := by decide +kernel
theorem dX10_write_39 : decode cX10_write 39 = .ok (.iload_n 1, 1) := by decide +kernel
theorem dX10_write_40 : decode cX10_write 40 = .ok (.ifCond .le 7, 3) := by decide +kernel
theorem dX10_write_43 : decode cX10_write 43 = .ok (.iconst 1, 1) := by decide +kernel
theorem dX10_write_44 : decode cX10_write 44 = .ok (.goto 4, 3) := by decide +kernel
theorem dX10_write_47 : decode cX10_write 47 = .ok (.iconst 0, 1) := by decide +kernel
theorem dX10_write_48 : decode cX10_write 48 = .ok (.iadd, 1) := by decide +kernel
theorem dX10_write_49 : decode cX10_write 49 = .ok (.putfield 270, 3) := by decide +kernel
theorem dX10_write_52 : decode cX10_write 52 = .ok (.aload_n 0, 1) := by decide +kernel
theorem dX10_write_53 : decode cX10_write 53 = .ok (.getfield 75, 3) := by decide +kernel
theorem dX10_write_56 : decode cX10_write 56 = .ok (.aload_n 0, 1) := by decide +kernel
theorem dX10_write_57 : decode cX10_write 57 = .ok (.getfield 270, 3) := by decide +kernel
theorem dX10_write_60 : decode cX10_write 60 = .ok (.bipush 99, 2) := by decide +kernel
theorem dX10_write_62 : decode cX10_write 62 = .ok (.iastore, 1) := by decide +kernel
theorem dX10_write_63 : decode cX10_write 63 = .ok (.aload_n 0, 1) := by decide +kernel
theorem dX10_write_64 : decode cX10_write 64 = .ok (.dup, 1) := by decide +kernel
theorem dX10_write_65 : decode cX10_write 65 = .ok (.getfield 270, 3) := by decide +kernel
theorem dX10_write_68 : decode cX10_write 68 = .ok (.iconst 1, 1) := by decide +kernel
theorem dX10_write_69 : decode cX10_write 69 = .ok (.iadd, 1) := by decide +kernel
theorem dX10_write_70 : decode cX10_write 70 = .ok (.putfield 270, 3) := by decide +kernel
theorem dX10_write_73 : decode cX10_write 73 = .ok (.aload_n 0, 1) := by decide +kernel
theorem dX10_write_74 : decode cX10_write 74 = .ok (.aload_n 0, 1) := by decide +kernel
theorem dX10_write_75 : decode cX10_write 75 = .ok (.getfield 9, 3) := by decide +kernel
theorem dX10_write_78 : decode cX10_write 78 = .ok (.sipush 439, 3) := by decide +kernel
theorem dX10_write_81 : decode cX10_write 81 = .ok (.iconst 2, 1) := by decide +kernel
theorem dX10_write_82 : decode cX10_write 82 = .ok (.iload_n 1, 1) := by decide +kernel
theorem dX10_write_83 : decode cX10_write 83 = .ok (.imul, 1) := by decide +kernel
theorem dX10_write_84 : decode cX10_write 84 = .ok (.iadd, 1) := by decide +kernel
theorem dX10_write_85 : decode cX10_write 85 = .ok (.iaload, 1) := by decide +kernel
theorem dX10_write_86 : decode cX10_write 86 = .ok (.bipush 100, 2) := by decide +kernel
theorem dX10_write_88 : decode cX10_write 88 = .ok (.invokevirtual 273, 3) := by decide +kernel
theorem dX10_write_91 : decode cX10_write 91 = .ok (.aload_n 0, 1) := by decide +kernel
theorem dX10_write_92 : decode cX10_write 92 = .ok (.getfield 75, 3) := by decide +kernel
theorem dX10_write_95 : decode cX10_write 95 = .ok (.aload_n 0, 1) := by decide +kernel
theorem dX10_write_96 : decode cX10_write 96 = .ok (.getfield 270, 3) := by decide +kernel
theorem dX10_write_99 : decode cX10_write 99 = .ok (.bipush 61, 2) := by decide +kernel
theorem dX10_write_101 : decode cX10_write 101 = .ok (.iastore, 1) := by decide +kernel
theorem dX10_write_102 : decode cX10_write 102 = .ok (.aload_n 0, 1) := by decide +kernel
theorem dX10_write_103 : decode cX10_write 103 = .ok (.dup, 1) := by decide +kernel
theorem dX10_write_104 : decode cX10_write 104 = .ok (.getfield 270, 3) := by decide +kernel
theorem dX10_write_107 : decode cX10_write 107 = .ok (.iconst 1, 1) := by decide +kernel
theorem dX10_write_108 : decode cX10_write 108 = .ok (.iadd, 1) := by decide +kernel
theorem dX10_write_109 : decode cX10_write 109 = .ok (.putfield 270, 3) := by decide +kernel
theorem dX10_write_112 : decode cX10_write 112 = .ok (.aload_n 0, 1) := by decide +kernel
theorem dX10_write_113 : decode cX10_write 113 = .ok (.aload_n 0, 1) := by decide +kernel
theorem dX10_write_114 : decode cX10_write 114 = .ok (.getfield 9, 3) := by decide +kernel
theorem dX10_write_117 : decode cX10_write 117 = .ok (.sipush 439, 3) := by decide +kernel
theorem dX10_write_120 : decode cX10_write 120 = .ok (.iconst 2, 1) := by decide +kernel
theorem dX10_write_121 : decode cX10_write 121 = .ok (.iload_n 1, 1) := by decide +kernel
theorem dX10_write_122 : decode cX10_write 122 = .ok (.imul, 1) := by decide +kernel
theorem dX10_write_123 : decode cX10_write 123 = .ok (.iadd, 1) := by decide +kernel
theorem dX10_write_124 : decode cX10_write 124 = .ok (.iconst 1, 1) := by decide +kernel
theorem dX10_write_125 : decode cX10_write 125 = .ok (.iadd, 1) := by decide +kernel
theorem dX10_write_126 : decode cX10_write 126 = .ok (.iaload, 1) := by decide +kernel
theorem dX10_write_127 : decode cX10_write 127 = .ok (.bipush 10, 2) := by decide +kernel
theorem dX10_write_129 : decode cX10_write 129 = .ok (.invokevirtual 273, 3) := by decide +kernel
theorem dX10_write_132 : decode cX10_write 132 = .ok (.iinc 1 1, 3) := by decide +kernel
theorem dX10_write_135 : decode cX10_write 135 = .ok (.goto (-128), 3) := by decide +kernel
theorem dX10_write_138 : decode cX10_write 138 = .ok (.aload_n 0, 1) := by decide +kernel
theorem dX10_write_139 : decode cX10_write 139 = .ok (.getfield 270, 3) := by decide +kernel
theorem dX10_write_142 : decode cX10_write 142 = .ok (.ireturn, 1) := by decide +kernel
theorem dX10_written_0 : decode cX10_written 0 = .ok (.iload_n 1, 1) := by decide +kernel
theorem dX10_written_1 : decode cX10_written 1 = .ok (.iconst 0, 1) := by decide +kernel
theorem dX10_written_2 : decode cX10_written 2 = .ok (.aload_n 0, 1) := by decide +kernel
theorem dX10_written_3 : decode cX10_written 3 = .ok (.getfield 270, 3) := by decide +kernel
theorem dX10_written_6 : decode cX10_written 6 = .ok (.iconst 1, 1) := by decide +kernel
theorem dX10_written_7 : decode cX10_written 7 = .ok (.isub, 1) := by decide +kernel
theorem dX10_written_8 : decode cX10_written 8 = .ok (.invokestatic 103, 3) := by decide +kernel
theorem dX10_written_11 : decode cX10_written 11 = .ok (.ifCond .eq 12, 3) := by decide +kernel
theorem dX10_written_14 : decode cX10_written 14 = .ok (.aload_n 0, 1) := by decide +kernel
theorem dX10_written_15 : decode cX10_written 15 = .ok (.getfield 75, 3) := by decide +kernel
theorem dX10_written_18 : decode cX10_written 18 = .ok (.iload_n 1, 1) := by decide +kernel
theorem dX10_written_19 : decode cX10_written 19 = .ok (.iaload, 1) := by decide +kernel
theorem dX10_written_20 : decode cX10_written 20 = .ok (.goto 4, 3) := by decide +kernel
theorem dX10_written_23 : decode cX10_written 23 = .ok (.iconst (-1), 1) := by decide +kernel
theorem dX10_written_24 : decode cX10_written 24 = .ok (.ireturn, 1) := by decide +kernel
theorem dX10_begin_0 : decode cX10_begin 0 = .ok (.aload_n 0, 1) := by decide +kernel
theorem dX10_begin_1 : decode cX10_begin 1 = .ok (.getfield 92, 3) := by decide +kernel
theorem dX10_begin_4 : decode cX10_begin 4 = .ok (.ifCond .eq 6, 3) := by decide +kernel
theorem dX10_begin_7 : decode cX10_begin 7 = .ok (.bipush (-5), 2) := by decide +kernel
theorem dX10_begin_9 : decode cX10_begin 9 = .ok (.ireturn, 1) := by decide +kernel
theorem dX10_begin_10 : decode cX10_begin 10 = .ok (.aload_n 0, 1) := by decide +kernel
theorem dX10_begin_11 : decode cX10_begin 11 = .ok (.iconst 1, 1) := by decide +kernel
theorem dX10_begin_12 : decode cX10_begin 12 = .ok (.putfield 92, 3) := by decide +kernel
theorem dX10_begin_15 : decode cX10_begin 15 = .ok (.aload_n 0, 1) := by decide +kernel
theorem dX10_begin_16 : decode cX10_begin 16 = .ok (.iconst 0, 1) := by decide +kernel
theorem dX10_begin_17 : decode cX10_begin 17 = .ok (.putfield 96, 3) := by decide +kernel
theorem dX10_begin_20 : decode cX10_begin 20 = .ok (.aload_n 0, 1) := by decide +kernel
theorem dX10_begin_21 : decode cX10_begin 21 = .ok (.getfield 82, 3) := by decide +kernel
theorem dX10_begin_24 : decode cX10_begin 24 = .ok (.ireturn, 1) := by decide +kernel
theorem dX10_end_0 : decode cX10_end 0 = .ok (.aload_n 0, 1) := by decide +kernel
theorem dX10_end_1 : decode cX10_end 1 = .ok (.getfield 92, 3) := by decide +kernel
theorem dX10_end_4 : decode cX10_end 4 = .ok (.ifCond .ne 6, 3) := by decide +kernel
theorem dX10_end_7 : decode cX10_end 7 = .ok (.bipush (-5), 2) := by decide +kernel
theorem dX10_end_9 : decode cX10_end 9 = .ok (.ireturn, 1) := by decide +kernel
theorem dX10_end_10 : decode cX10_end 10 = .ok (.aload_n 0, 1) := by decide +kernel
theorem dX10_end_11 : decode cX10_end 11 = .ok (.iconst 0, 1) := by decide +kernel
theorem dX10_end_12 : decode cX10_end 12 = .ok (.putfield 92, 3) := by decide +kernel
theorem dX10_end_15 : decode cX10_end 15 = .ok (.aload_n 0, 1) := by decide +kernel
theorem dX10_end_16 : decode cX10_end 16 = .ok (.getfield 96, 3) := by decide +kernel
theorem dX10_end_19 : decode cX10_end 19 = .ok (.ifCond .le 11, 3) := by decide +kernel
theorem dX10_end_22 : decode cX10_end 22 = .ok (.aload_n 0, 1) := by decide +kernel
theorem dX10_end_23 : decode cX10_end 23 = .ok (.aload_n 0, 1) := by decide +kernel
theorem dX10_end_24 : decode cX10_end 24 = .ok (.getfield 25, 3) := by decide +kernel
theorem dX10_end_27 : decode cX10_end 27 = .ok (.invokevirtual 99, 3) := by decide +kernel
theorem dX10_end_30 : decode cX10_end 30 = .ok (.aload_n 0, 1) := by decide +kernel
theorem dX10_end_31 : decode cX10_end 31 = .ok (.getfield 96, 3) := by decide +kernel
theorem dX10_end_34 : decode cX10_end 34 = .ok (.ireturn, 1) := by decide +kernel
theorem dX10_undo_0 : decode cX10_undo 0 = .ok (.aload_n 0, 1) := by decide +kernel
theorem dX10_undo_1 : decode cX10_undo 1 = .ok (.getfield 92, 3) := by decide +kernel
theorem dX10_undo_4 : decode cX10_undo 4 = .ok (.ifCond .eq 6, 3) := by decide +kernel
theorem dX10_undo_7 : decode cX10_undo 7 = .ok (.bipush (-5), 2) := by decide +kernel
theorem dX10_undo_9 : decode cX10_undo 9 = .ok (.ireturn, 1) := by decide +kernel
theorem dX10_undo_10 : decode cX10_undo 10 = .ok (.aload_n 0, 1) := by decide +kernel
theorem dX10_undo_11 : decode cX10_undo 11 = .ok (.getfield 82, 3) := by decide +kernel
theorem dX10_undo_14 : decode cX10_undo 14 = .ok (.ifCond .ne 6, 3) := by decide +kernel
theorem dX10_undo_17 : decode cX10_undo 17 = .ok (.bipush (-6), 2) := by decide +kernel
theorem dX10_undo_19 : decode cX10_undo 19 = .ok (.ireturn, 1) := by decide +kernel
theorem dX10_undo_20 : decode cX10_undo 20 = .ok (.aload_n 0, 1) := by decide +kernel
theorem dX10_undo_21 : decode cX10_undo 21 = .ok (.aload_n 0, 1) := by decide +kernel
theorem dX10_undo_22 : decode cX10_undo 22 = .ok (.getfield 22, 3) := by decide +kernel
theorem dX10_undo_25 : decode cX10_undo 25 = .ok (.aload_n 0, 1) := by decide +kernel
theorem dX10_undo_26 : decode cX10_undo 26 = .ok (.getfield 89, 3) := by decide +kernel
theorem dX10_undo_29 : decode cX10_undo 29 = .ok (.aload_n 0, 1) := by decide +kernel
theorem dX10_undo_30 : decode cX10_undo 30 = .ok (.getfield 9, 3) := by decide +kernel
theorem dX10_undo_33 : decode cX10_undo 33 = .ok (.invokevirtual 85, 3) := by decide +kernel
theorem dX10_undo_36 : decode cX10_undo 36 = .ok (.aload_n 0, 1) := by decide +kernel
theorem dX10_undo_37 : decode cX10_undo 37 = .ok (.dup, 1) := by decide +kernel
theorem dX10_undo_38 : decode cX10_undo 38 = .ok (.getfield 89, 3) := by decide +kernel
theorem dX10_undo_41 : decode cX10_undo 41 = .ok (.iconst 1, 1) := by decide +kernel
theorem dX10_undo_42 : decode cX10_undo 42 = .ok (.iadd, 1) := by decide +kernel
theorem dX10_undo_43 : decode cX10_undo 43 = .ok (.putfield 89, 3) := by decide +kernel
theorem dX10_undo_46 : decode cX10_undo 46 = .ok (.aload_n 0, 1) := by decide +kernel
theorem dX10_undo_47 : decode cX10_undo 47 = .ok (.dup, 1) := by decide +kernel
theorem dX10_undo_48 : decode cX10_undo 48 = .ok (.getfield 82, 3) := by decide +kernel
theorem dX10_undo_51 : decode cX10_undo 51 = .ok (.iconst 1, 1) := by decide +kernel
theorem dX10_undo_52 : decode cX10_undo 52 = .ok (.isub, 1) := by decide +kernel
theorem dX10_undo_53 : decode cX10_undo 53 = .ok (.putfield 82, 3) := by decide +kernel
theorem dX10_undo_56 : decode cX10_undo 56 = .ok (.iconst 0, 1) := by decide +kernel
theorem dX10_undo_57 : decode cX10_undo 57 = .ok (.istore_n 1, 1) := by decide +kernel
theorem dX10_undo_58 : decode cX10_undo 58 = .ok (.iload_n 1, 1) := by decide +kernel
theorem dX10_undo_59 : decode cX10_undo 59 = .ok (.sipush 470, 3) := by decide +kernel
theorem dX10_undo_62 : decode cX10_undo 62 = .ok (.if_icmp .ge 30, 3) := by decide +kernel
theorem dX10_undo_65 : decode cX10_undo 65 = .ok (.aload_n 0, 1) := by decide +kernel
theorem dX10_undo_66 : decode cX10_undo 66 = .ok (.getfield 9, 3) := by decide +kernel
theorem dX10_undo_69 : decode cX10_undo 69 = .ok (.iload_n 1, 1) := by decide +kernel
theorem dX10_undo_70 : decode cX10_undo 70 = .ok (.aload_n 0, 1) := by decide +kernel
theorem dX10_undo_71 : decode cX10_undo 71 = .ok (.getfield 19, 3) := by decide +kernel
theorem dX10_undo_74 : decode cX10_undo 74 = .ok (.aload_n 0, 1) := by decide +kernel
theorem dX10_undo_75 : decode cX10_undo 75 = .ok (.getfield 82, 3) := by decide +kernel
theorem dX10_undo_78 : decode cX10_undo 78 = .ok (.sipush 470, 3) := by decide +kernel
theorem dX10_undo_81 : decode cX10_undo 81 = .ok (.imul, 1) := by decide +kernel
theorem dX10_undo_82 : decode cX10_undo 82 = .ok (.iload_n 1, 1) := by decide +kernel
theorem dX10_undo_83 : decode cX10_undo 83 = .ok (.iadd, 1) := by decide +kernel
theorem dX10_undo_84 : decode cX10_undo 84 = .ok (.iaload, 1) := by decide +kernel
theorem dX10_undo_85 : decode cX10_undo 85 = .ok (.iastore, 1) := by decide +kernel
theorem dX10_undo_86 : decode cX10_undo 86 = .ok (.iinc 1 1, 3) := by decide +kernel
theorem dX10_undo_89 : decode cX10_undo 89 = .ok (.goto (-31), 3) := by decide +kernel
theorem dX10_undo_92 : decode cX10_undo 92 = .ok (.aload_n 0, 1) := by decide +kernel
theorem dX10_undo_93 : decode cX10_undo 93 = .ok (.getfield 82, 3) := by decide +kernel
theorem dX10_undo_96 : decode cX10_undo 96 = .ok (.ireturn, 1) := by decide +kernel
theorem dX10_redo_0 : decode cX10_redo 0 = .ok (.aload_n 0, 1) := by decide +kernel
theorem dX10_redo_1 : decode cX10_redo 1 = .ok (.getfield 92, 3) := by decide +kernel
theorem dX10_redo_4 : decode cX10_redo 4 = .ok (.ifCond .eq 6, 3) := by decide +kernel
theorem dX10_redo_7 : decode cX10_redo 7 = .ok (.bipush (-5), 2) := by decide +kernel
theorem dX10_redo_9 : decode cX10_redo 9 = .ok (.ireturn, 1) := by decide +kernel
theorem dX10_redo_10 : decode cX10_redo 10 = .ok (.aload_n 0, 1) := by decide +kernel
theorem dX10_redo_11 : decode cX10_redo 11 = .ok (.getfield 89, 3) := by decide +kernel
theorem dX10_redo_14 : decode cX10_redo 14 = .ok (.ifCond .ne 6, 3) := by decide +kernel
theorem dX10_redo_17 : decode cX10_redo 17 = .ok (.bipush (-6), 2) := by decide +kernel
theorem dX10_redo_19 : decode cX10_redo 19 = .ok (.ireturn, 1) := by decide +kernel
theorem dX10_redo_20 : decode cX10_redo 20 = .ok (.aload_n 0, 1) := by decide +kernel
theorem dX10_redo_21 : decode cX10_redo 21 = .ok (.aload_n 0, 1) := by decide +kernel
theorem dX10_redo_22 : decode cX10_redo 22 = .ok (.getfield 9, 3) := by decide +kernel
theorem dX10_redo_25 : decode cX10_redo 25 = .ok (.invokevirtual 99, 3) := by decide +kernel
theorem dX10_redo_28 : decode cX10_redo 28 = .ok (.aload_n 0, 1) := by decide +kernel
theorem dX10_redo_29 : decode cX10_redo 29 = .ok (.dup, 1) := by decide +kernel
theorem dX10_redo_30 : decode cX10_redo 30 = .ok (.getfield 89, 3) := by decide +kernel
theorem dX10_redo_33 : decode cX10_redo 33 = .ok (.iconst 1, 1) := by decide +kernel
theorem dX10_redo_34 : decode cX10_redo 34 = .ok (.isub, 1) := by decide +kernel
theorem dX10_redo_35 : decode cX10_redo 35 = .ok (.putfield 89, 3) := by decide +kernel
theorem dX10_redo_38 : decode cX10_redo 38 = .ok (.iconst 0, 1) := by decide +kernel
theorem dX10_redo_39 : decode cX10_redo 39 = .ok (.istore_n 1, 1) := by decide +kernel
theorem dX10_redo_40 : decode cX10_redo 40 = .ok (.iload_n 1, 1) := by decide +kernel
theorem dX10_redo_41 : decode cX10_redo 41 = .ok (.sipush 470, 3) := by decide +kernel
theorem dX10_redo_44 : decode cX10_redo 44 = .ok (.if_icmp .ge 30, 3) := by decide +kernel
theorem dX10_redo_47 : decode cX10_redo 47 = .ok (.aload_n 0, 1) := by decide +kernel
theorem dX10_redo_48 : decode cX10_redo 48 = .ok (.getfield 9, 3) := by decide +kernel
theorem dX10_redo_51 : decode cX10_redo 51 = .ok (.iload_n 1, 1) := by decide +kernel
theorem dX10_redo_52 : decode cX10_redo 52 = .ok (.aload_n 0, 1) := by decide +kernel
theorem dX10_redo_53 : decode cX10_redo 53 = .ok (.getfield 22, 3) := by decide +kernel
theorem dX10_redo_56 : decode cX10_redo 56 = .ok (.aload_n 0, 1) := by decide +kernel
theorem dX10_redo_57 : decode cX10_redo 57 = .ok (.getfield 89, 3) := by decide +kernel
theorem dX10_redo_60 : decode cX10_redo 60 = .ok (.sipush 470, 3) := by decide +kernel
theorem dX10_redo_63 : decode cX10_redo 63 = .ok (.imul, 1) := by decide +kernel
theorem dX10_redo_64 : decode cX10_redo 64 = .ok (.iload_n 1, 1) := by decide +kernel
theorem dX10_redo_65 : decode cX10_redo 65 = .ok (.iadd, 1) := by decide +kernel
theorem dX10_redo_66 : decode cX10_redo 66 = .ok (.iaload, 1) := by decide +kernel
theorem dX10_redo_67 : decode cX10_redo 67 = .ok (.iastore, 1) := by decide +kernel
theorem dX10_redo_68 : decode cX10_redo 68 = .ok (.iinc 1 1, 3) := by decide +kernel
theorem dX10_redo_71 : decode cX10_redo 71 = .ok (.goto (-31), 3) := by decide +kernel
theorem dX10_redo_74 : decode cX10_redo 74 = .ok (.aload_n 0, 1) := by decide +kernel
theorem dX10_redo_75 : decode cX10_redo 75 = .ok (.getfield 89, 3) := by decide +kernel
theorem dX10_redo_78 : decode cX10_redo 78 = .ok (.ireturn, 1) := by decide +kernel
theorem dX10_save_0 : decode cX10_save 0 = .ok (.aload_n 0, 1) := by decide +kernel
theorem dX10_save_1 : decode cX10_save 1 = .ok (.getfield 9, 3) := by decide +kernel
theorem dX10_save_4 : decode cX10_save 4 = .ok (.aload_n 0, 1) := by decide +kernel
theorem dX10_save_5 : decode cX10_save 5 = .ok (.getfield 16, 3) := by decide +kernel
theorem dX10_save_8 : decode cX10_save 8 = .ok (.invokestatic 78, 3) := by decide +kernel
theorem dX10_save_11 : decode cX10_save 11 = .ok (.aload_n 0, 1) := by decide +kernel
theorem dX10_save_12 : decode cX10_save 12 = .ok (.iconst 1, 1) := by decide +kernel
theorem dX10_save_13 : decode cX10_save 13 = .ok (.putfield 276, 3) := by decide +kernel
theorem dX10_save_16 : decode cX10_save 16 = .ok (.aload_n 0, 1) := by decide +kernel
theorem dX10_save_17 : decode cX10_save 17 = .ok (.getfield 9, 3) := by decide +kernel
theorem dX10_save_20 : decode cX10_save 20 = .ok (.bipush 25, 2) := by decide +kernel
theorem dX10_save_22 : decode cX10_save 22 = .ok (.iaload, 1) := by decide +kernel
theorem dX10_save_23 : decode cX10_save 23 = .ok (.ireturn, 1) := by decide +kernel
theorem dX10_restore_0 : decode cX10_restore 0 = .ok (.aload_n 0, 1) := by decide +kernel
theorem dX10_restore_1 : decode cX10_restore 1 = .ok (.getfield 92, 3) := by decide +kernel
theorem dX10_restore_4 : decode cX10_restore 4 = .ok (.ifCond .eq 6, 3) := by decide +kernel
theorem dX10_restore_7 : decode cX10_restore 7 = .ok (.bipush (-5), 2) := by decide +kernel
theorem dX10_restore_9 : decode cX10_restore 9 = .ok (.ireturn, 1) := by decide +kernel
theorem dX10_restore_10 : decode cX10_restore 10 = .ok (.aload_n 0, 1) := by decide +kernel
theorem dX10_restore_11 : decode cX10_restore 11 = .ok (.getfield 276, 3) := by decide +kernel
theorem dX10_restore_14 : decode cX10_restore 14 = .ok (.ifCond .ne 6, 3) := by decide +kernel
theorem dX10_restore_17 : decode cX10_restore 17 = .ok (.bipush (-6), 2) := by decide +kernel
theorem dX10_restore_19 : decode cX10_restore 19 = .ok (.ireturn, 1) := by decide +kernel
theorem dX10_restore_20 : decode cX10_restore 20 = .ok (.aload_n 0, 1) := by decide +kernel
theorem dX10_restore_21 : decode cX10_restore 21 = .ok (.getfield 16, 3) := by decide +kernel
theorem dX10_restore_24 : decode cX10_restore 24 = .ok (.aload_n 0, 1) := by decide +kernel
theorem dX10_restore_25 : decode cX10_restore 25 = .ok (.getfield 9, 3) := by decide +kernel
theorem dX10_restore_28 : decode cX10_restore 28 = .ok (.invokestatic 78, 3) := by decide +kernel
theorem dX10_restore_31 : decode cX10_restore 31 = .ok (.aload_n 0, 1) := by decide +kernel
theorem dX10_restore_32 : decode cX10_restore 32 = .ok (.iconst 0, 1) := by decide +kernel
theorem dX10_restore_33 : decode cX10_restore 33 = .ok (.putfield 82, 3) := by decide +kernel
theorem dX10_restore_36 : decode cX10_restore 36 = .ok (.aload_n 0, 1) := by decide +kernel
theorem dX10_restore_37 : decode cX10_restore 37 = .ok (.iconst 0, 1) := by decide +kernel
theorem dX10_restore_38 : decode cX10_restore 38 = .ok (.putfield 89, 3) := by decide +kernel
theorem dX10_restore_41 : decode cX10_restore 41 = .ok (.aload_n 0, 1) := by decide +kernel
theorem dX10_restore_42 : decode cX10_restore 42 = .ok (.getfield 9, 3) := by decide +kernel
theorem dX10_restore_45 : decode cX10_restore 45 = .ok (.bipush 25, 2) := by decide +kernel
theorem dX10_restore_47 : decode cX10_restore 47 = .ok (.iaload, 1) := by decide +kernel
theorem dX10_restore_48 : decode cX10_restore 48 = .ok (.ireturn, 1) := by decide +kernel
theorem dX10_count_0 : decode cX10_count 0 = .ok (.iload_n 1, 1) := by decide +kernel
theorem dX10_count_1 : decode cX10_count 1 = .ok (.iconst 0, 1) := by decide +kernel
theorem dX10_count_2 : decode cX10_count 2 = .ok (.bipush 12, 2) := by decide +kernel
theorem dX10_count_4 : decode cX10_count 4 = .ok (.invokestatic 103, 3) := by decide +kernel
theorem dX10_count_7 : decode cX10_count 7 = .ok (.ifCond .ne 6, 3) := by decide +kernel
theorem dX10_count_10 : decode cX10_count 10 = .ok (.bipush (-2), 2) := by decide +kernel
theorem dX10_count_12 : decode cX10_count 12 = .ok (.ireturn, 1) := by decide +kernel
theorem dX10_count_13 : decode cX10_count 13 = .ok (.iload_n 1, 1) := by decide +kernel
theorem dX10_count_14 : decode cX10_count 14 = .ok (.bipush 7, 2) := by decide +kernel
theorem dX10_count_16 : decode cX10_count 16 = .ok (.if_icmp .le 17, 3) := by decide +kernel
theorem dX10_count_19 : decode cX10_count 19 = .ok (.aload_n 0, 1) := by decide +kernel
theorem dX10_count_20 : decode cX10_count 20 = .ok (.getfield 9, 3) := by decide +kernel
theorem dX10_count_23 : decode cX10_count 23 = .ok (.sipush 465, 3) := by decide +kernel
theorem dX10_count_26 : decode cX10_count 26 = .ok (.iload_n 1, 1) := by decide +kernel
theorem dX10_count_27 : decode cX10_count 27 = .ok (.iadd, 1) := by decide +kernel
theorem dX10_count_28 : decode cX10_count 28 = .ok (.bipush 8, 2) := by decide +kernel
theorem dX10_count_30 : decode cX10_count 30 = .ok (.isub, 1) := by decide +kernel
theorem dX10_count_31 : decode cX10_count 31 = .ok (.iaload, 1) := by decide +kernel
theorem dX10_count_32 : decode cX10_count 32 = .ok (.ireturn, 1) := by decide +kernel
theorem dX10_count_33 : decode cX10_count 33 = .ok (.iload_n 1, 1) := by decide +kernel
theorem dX10_count_34 : decode cX10_count 34 = .ok (.ifCond .ne 12, 3) := by decide +kernel
theorem dX10_count_37 : decode cX10_count 37 = .ok (.aload_n 0, 1) := by decide +kernel
theorem dX10_count_38 : decode cX10_count 38 = .ok (.getfield 9, 3) := by decide +kernel
theorem dX10_count_41 : decode cX10_count 41 = .ok (.iconst 0, 1) := by decide +kernel
theorem dX10_count_42 : decode cX10_count 42 = .ok (.iaload, 1) := by decide +kernel
theorem dX10_count_43 : decode cX10_count 43 = .ok (.goto 95, 3) := by decide +kernel
theorem dX10_count_46 : decode cX10_count 46 = .ok (.iload_n 1, 1) := by decide +kernel
theorem dX10_count_47 : decode cX10_count 47 = .ok (.iconst 1, 1) := by decide +kernel
theorem dX10_count_48 : decode cX10_count 48 = .ok (.if_icmp .ne 13, 3) := by decide +kernel
theorem dX10_count_51 : decode cX10_count 51 = .ok (.aload_n 0, 1) := by decide +kernel
theorem dX10_count_52 : decode cX10_count 52 = .ok (.getfield 9, 3) := by decide +kernel
theorem dX10_count_55 : decode cX10_count 55 = .ok (.bipush 25, 2) := by decide +kernel
theorem dX10_count_57 : decode cX10_count 57 = .ok (.iaload, 1) := by decide +kernel
theorem dX10_count_58 : decode cX10_count 58 = .ok (.goto 80, 3) := by decide +kernel
theorem dX10_count_61 : decode cX10_count 61 = .ok (.iload_n 1, 1) := by decide +kernel
theorem dX10_count_62 : decode cX10_count 62 = .ok (.iconst 2, 1) := by decide +kernel
theorem dX10_count_63 : decode cX10_count 63 = .ok (.if_icmp .ne 14, 3) := by decide +kernel
theorem dX10_count_66 : decode cX10_count 66 = .ok (.aload_n 0, 1) := by decide +kernel
theorem dX10_count_67 : decode cX10_count 67 = .ok (.getfield 9, 3) := by decide +kernel
theorem dX10_count_70 : decode cX10_count 70 = .ok (.sipush 438, 3) := by decide +kernel
theorem dX10_count_73 : decode cX10_count 73 = .ok (.iaload, 1) := by decide +kernel
theorem dX10_count_74 : decode cX10_count 74 = .ok (.goto 64, 3) := by decide +kernel
theorem dX10_count_77 : decode cX10_count 77 = .ok (.iload_n 1, 1) := by decide +kernel
theorem dX10_count_78 : decode cX10_count 78 = .ok (.iconst 3, 1) := by decide +kernel
theorem dX10_count_79 : decode cX10_count 79 = .ok (.if_icmp .ne 10, 3) := by decide +kernel
theorem dX10_count_82 : decode cX10_count 82 = .ok (.aload_n 0, 1) := by decide +kernel
theorem dX10_count_83 : decode cX10_count 83 = .ok (.invokevirtual 237, 3) := by decide +kernel
theorem dX10_count_86 : decode cX10_count 86 = .ok (.goto 52, 3) := by decide +kernel
theorem dX10_count_89 : decode cX10_count 89 = .ok (.iload_n 1, 1) := by decide +kernel
theorem dX10_count_90 : decode cX10_count 90 = .ok (.iconst 4, 1) := by decide +kernel
theorem dX10_count_91 : decode cX10_count 91 = .ok (.if_icmp .ne 10, 3) := by decide +kernel
theorem dX10_count_94 : decode cX10_count 94 = .ok (.aload_n 0, 1) := by decide +kernel
theorem dX10_count_95 : decode cX10_count 95 = .ok (.getfield 82, 3) := by decide +kernel
theorem dX10_count_98 : decode cX10_count 98 = .ok (.goto 40, 3) := by decide +kernel
theorem dX10_count_101 : decode cX10_count 101 = .ok (.iload_n 1, 1) := by decide +kernel
theorem dX10_count_102 : decode cX10_count 102 = .ok (.iconst 5, 1) := by decide +kernel
theorem dX10_count_103 : decode cX10_count 103 = .ok (.if_icmp .ne 10, 3) := by decide +kernel
theorem dX10_count_106 : decode cX10_count 106 = .ok (.aload_n 0, 1) := by decide +kernel
theorem dX10_count_107 : decode cX10_count 107 = .ok (.getfield 89, 3) := by decide +kernel
theorem dX10_count_110 : decode cX10_count 110 = .ok (.goto 28, 3) := by decide +kernel
theorem dX10_count_113 : decode cX10_count 113 = .ok (.iload_n 1, 1) := by decide +kernel
theorem dX10_count_114 : decode cX10_count 114 = .ok (.bipush 6, 2) := by decide +kernel
theorem dX10_count_116 : decode cX10_count 116 = .ok (.if_icmp .ne 18, 3) := by decide +kernel
theorem dX10_count_119 : decode cX10_count 119 = .ok (.aload_n 0, 1) := by decide +kernel
theorem dX10_count_120 : decode cX10_count 120 = .ok (.getfield 92, 3) := by decide +kernel
theorem dX10_count_123 : decode cX10_count 123 = .ok (.ifCond .eq 7, 3) := by decide +kernel
theorem dX10_count_126 : decode cX10_count 126 = .ok (.iconst 1, 1) := by decide +kernel
theorem dX10_count_127 : decode cX10_count 127 = .ok (.goto 11, 3) := by decide +kernel
theorem dX10_count_130 : decode cX10_count 130 = .ok (.iconst 0, 1) := by decide +kernel
theorem dX10_count_131 : decode cX10_count 131 = .ok (.goto 7, 3) := by decide +kernel
theorem dX10_count_134 : decode cX10_count 134 = .ok (.aload_n 0, 1) := by decide +kernel
theorem dX10_count_135 : decode cX10_count 135 = .ok (.getfield 243, 3) := by decide +kernel
theorem dX10_count_138 : decode cX10_count 138 = .ok (.ireturn, 1) := by decide +kernel
theorem dJ9_max_7cf53_0 : decode cJ9_max_7cf53 0 = .ok (.iload_n 0, 1) := by decide +kernel
theorem dJ9_max_7cf53_1 : decode cJ9_max_7cf53 1 = .ok (.iload_n 1, 1) := by decide +kernel
theorem dJ9_max_7cf53_2 : decode cJ9_max_7cf53 2 = .ok (.if_icmp .lt 7, 3) := by decide +kernel
theorem dJ9_max_7cf53_5 : decode cJ9_max_7cf53 5 = .ok (.iload_n 0, 1) := by decide +kernel
theorem dJ9_max_7cf53_6 : decode cJ9_max_7cf53 6 = .ok (.goto 4, 3) := by decide +kernel
theorem dJ9_max_7cf53_9 : decode cJ9_max_7cf53 9 = .ok (.iload_n 1, 1) := by decide +kernel
theorem dJ9_max_7cf53_10 : decode cJ9_max_7cf53 10 = .ok (.ireturn, 1) := by decide +kernel
theorem dJ9_min_7cf53_0 : decode cJ9_min_7cf53 0 = .ok (.iload_n 0, 1) := by decide +kernel
theorem dJ9_min_7cf53_1 : decode cJ9_min_7cf53 1 = .ok (.iload_n 1, 1) := by decide +kernel
theorem dJ9_min_7cf53_2 : decode cJ9_min_7cf53 2 = .ok (.if_icmp .gt 7, 3) := by decide +kernel
theorem dJ9_min_7cf53_5 : decode cJ9_min_7cf53 5 = .ok (.iload_n 0, 1) := by decide +kernel
theorem dJ9_min_7cf53_6 : decode cJ9_min_7cf53 6 = .ok (.goto 4, 3) := by decide +kernel
theorem dJ9_min_7cf53_9 : decode cJ9_min_7cf53 9 = .ok (.iload_n 1, 1) := by decide +kernel
theorem dJ9_min_7cf53_10 : decode cJ9_min_7cf53 10 = .ok (.ireturn, 1) := by decide +kernel
theorem dJ7_fill_53178_0 : decode cJ7_fill_53178 0 = .ok (.iconst 0, 1) := by decide +kernel
theorem dJ7_fill_53178_1 : decode cJ7_fill_53178 1 = .ok (.istore_n 2, 1) := by decide +kernel
theorem dJ7_fill_53178_2 : decode cJ7_fill_53178 2 = .ok (.aload_n 0, 1) := by decide +kernel
theorem dJ7_fill_53178_3 : decode cJ7_fill_53178 3 = .ok (.arraylength, 1) := by decide +kernel
theorem dJ7_fill_53178_4 : decode cJ7_fill_53178 4 = .ok (.istore_n 3, 1) := by decide +kernel
theorem dJ7_fill_53178_5 : decode cJ7_fill_53178 5 = .ok (.iload_n 2, 1) := by decide +kernel
theorem dJ7_fill_53178_6 : decode cJ7_fill_53178 6 = .ok (.iload_n 3, 1) := by decide +kernel
theorem dJ7_fill_53178_7 : decode cJ7_fill_53178 7 = .ok (.if_icmp .ge 13, 3) := by decide +kernel
theorem dJ7_fill_53178_10 : decode cJ7_fill_53178 10 = .ok (.aload_n 0, 1) := by decide +kernel
theorem dJ7_fill_53178_11 : decode cJ7_fill_53178 11 = .ok (.iload_n 2, 1) := by decide +kernel
theorem dJ7_fill_53178_12 : decode cJ7_fill_53178 12 = .ok (.iload_n 1, 1) := by decide +kernel
theorem dJ7_fill_53178_13 : decode cJ7_fill_53178 13 = .ok (.iastore, 1) := by decide +kernel
theorem dJ7_fill_53178_14 : decode cJ7_fill_53178 14 = .ok (.iinc 2 1, 3) := by decide +kernel
theorem dJ7_fill_53178_17 : decode cJ7_fill_53178 17 = .ok (.goto (-12), 3) := by decide +kernel
theorem dJ7_fill_53178_20 : decode cJ7_fill_53178 20 = .ok (.return_, 1) := by decide +kernel
theorem dL_law_0 : decode cL_law 0 = .ok (.new 7, 3) := by decide +kernel
theorem dL_law_3 : decode cL_law 3 = .ok (.dup, 1) := by decide +kernel
theorem dL_law_4 : decode cL_law 4 = .ok (.invokespecial 9, 3) := by decide +kernel
theorem dL_law_7 : decode cL_law 7 = .ok (.astore_n 1, 1) := by decide +kernel
theorem dL_law_8 : decode cL_law 8 = .ok (.new 10, 3) := by decide +kernel
theorem dL_law_11 : decode cL_law 11 = .ok (.dup, 1) := by decide +kernel
theorem dL_law_12 : decode cL_law 12 = .ok (.invokespecial 12, 3) := by decide +kernel
theorem dL_law_15 : decode cL_law 15 = .ok (.astore_n 2, 1) := by decide +kernel
theorem dL_law_16 : decode cL_law 16 = .ok (.iconst 0, 1) := by decide +kernel
theorem dL_law_17 : decode cL_law 17 = .ok (.istore_n 3, 1) := by decide +kernel
theorem dL_law_18 : decode cL_law 18 = .ok (.iload_n 3, 1) := by decide +kernel
theorem dL_law_19 : decode cL_law 19 = .ok (.aload_n 0, 1) := by decide +kernel
theorem dL_law_20 : decode cL_law 20 = .ok (.arraylength, 1) := by decide +kernel
theorem dL_law_21 : decode cL_law 21 = .ok (.bipush 6, 2) := by decide +kernel
theorem dL_law_23 : decode cL_law 23 = .ok (.isub, 1) := by decide +kernel
theorem dL_law_24 : decode cL_law 24 = .ok (.if_icmp .gt 1636, 3) := by decide +kernel
theorem dL_law_27 : decode cL_law 27 = .ok (.aload_n 0, 1) := by decide +kernel
theorem dL_law_28 : decode cL_law 28 = .ok (.iload_n 3, 1) := by decide +kernel
theorem dL_law_29 : decode cL_law 29 = .ok (.iaload, 1) := by decide +kernel
theorem dL_law_30 : decode cL_law 30 = .ok (.bipush 63, 2) := by decide +kernel
theorem dL_law_32 : decode cL_law 32 = .ok (.iand, 1) := by decide +kernel
theorem dL_law_33 : decode cL_law 33 = .ok (.tableswitch 1621 0 47 #[207, 260, 293, 326, 359, 402, 435, 498, 531, 574, 617, 660, 693, 716, 759, 802, 835, 868, 901, 934, 967, 990, 1023, 1046, 1089, 1112, 1135, 1158, 1181, 1204, 1227, 1250, 1263, 1316, 1349, 1392, 1425, 1448, 1461, 1484, 1497, 1520, 1533, 1546, 1559, 1572, 1585, 1598], 207) := by decide +kernel
theorem dL_law_240 : decode cL_law 240 = .ok (.aload_n 1, 1) := by decide +kernel
theorem dL_law_241 : decode cL_law 241 = .ok (.aload_n 0, 1) := by decide +kernel
theorem dL_law_242 : decode cL_law 242 = .ok (.iload_n 3, 1) := by decide +kernel
theorem dL_law_243 : decode cL_law 243 = .ok (.iconst 1, 1) := by decide +kernel
theorem dL_law_244 : decode cL_law 244 = .ok (.iadd, 1) := by decide +kernel
theorem dL_law_245 : decode cL_law 245 = .ok (.iaload, 1) := by decide +kernel
theorem dL_law_246 : decode cL_law 246 = .ok (.aload_n 0, 1) := by decide +kernel
theorem dL_law_247 : decode cL_law 247 = .ok (.iload_n 3, 1) := by decide +kernel
theorem dL_law_248 : decode cL_law 248 = .ok (.iconst 2, 1) := by decide +kernel
theorem dL_law_249 : decode cL_law 249 = .ok (.iadd, 1) := by decide +kernel
theorem dL_law_250 : decode cL_law 250 = .ok (.iaload, 1) := by decide +kernel
theorem dL_law_251 : decode cL_law 251 = .ok (.aload_n 0, 1) := by decide +kernel
theorem dL_law_252 : decode cL_law 252 = .ok (.iload_n 3, 1) := by decide +kernel
theorem dL_law_253 : decode cL_law 253 = .ok (.iconst 3, 1) := by decide +kernel
theorem dL_law_254 : decode cL_law 254 = .ok (.iadd, 1) := by decide +kernel
theorem dL_law_255 : decode cL_law 255 = .ok (.iaload, 1) := by decide +kernel
theorem dL_law_256 : decode cL_law 256 = .ok (.aload_n 0, 1) := by decide +kernel
theorem dL_law_257 : decode cL_law 257 = .ok (.iload_n 3, 1) := by decide +kernel
theorem dL_law_258 : decode cL_law 258 = .ok (.iconst 4, 1) := by decide +kernel
theorem dL_law_259 : decode cL_law 259 = .ok (.iadd, 1) := by decide +kernel
theorem dL_law_260 : decode cL_law 260 = .ok (.iaload, 1) := by decide +kernel
theorem dL_law_261 : decode cL_law 261 = .ok (.invokevirtual 13, 3) := by decide +kernel
theorem dL_law_264 : decode cL_law 264 = .ok (.aload_n 2, 1) := by decide +kernel
theorem dL_law_265 : decode cL_law 265 = .ok (.aload_n 0, 1) := by decide +kernel
theorem dL_law_266 : decode cL_law 266 = .ok (.iload_n 3, 1) := by decide +kernel
theorem dL_law_267 : decode cL_law 267 = .ok (.iconst 1, 1) := by decide +kernel
theorem dL_law_268 : decode cL_law 268 = .ok (.iadd, 1) := by decide +kernel
theorem dL_law_269 : decode cL_law 269 = .ok (.iaload, 1) := by decide +kernel
theorem dL_law_270 : decode cL_law 270 = .ok (.aload_n 0, 1) := by decide +kernel
theorem dL_law_271 : decode cL_law 271 = .ok (.iload_n 3, 1) := by decide +kernel
theorem dL_law_272 : decode cL_law 272 = .ok (.iconst 2, 1) := by decide +kernel
theorem dL_law_273 : decode cL_law 273 = .ok (.iadd, 1) := by decide +kernel
theorem dL_law_274 : decode cL_law 274 = .ok (.iaload, 1) := by decide +kernel
theorem dL_law_275 : decode cL_law 275 = .ok (.aload_n 0, 1) := by decide +kernel
theorem dL_law_276 : decode cL_law 276 = .ok (.iload_n 3, 1) := by decide +kernel
theorem dL_law_277 : decode cL_law 277 = .ok (.iconst 3, 1) := by decide +kernel
theorem dL_law_278 : decode cL_law 278 = .ok (.iadd, 1) := by decide +kernel
theorem dL_law_279 : decode cL_law 279 = .ok (.iaload, 1) := by decide +kernel
theorem dL_law_280 : decode cL_law 280 = .ok (.aload_n 0, 1) := by decide +kernel
theorem dL_law_281 : decode cL_law 281 = .ok (.iload_n 3, 1) := by decide +kernel
theorem dL_law_282 : decode cL_law 282 = .ok (.iconst 4, 1) := by decide +kernel
theorem dL_law_283 : decode cL_law 283 = .ok (.iadd, 1) := by decide +kernel
theorem dL_law_284 : decode cL_law 284 = .ok (.iaload, 1) := by decide +kernel
theorem dL_law_285 : decode cL_law 285 = .ok (.invokevirtual 17, 3) := by decide +kernel
theorem dL_law_288 : decode cL_law 288 = .ok (.if_icmp .eq 1366, 3) := by decide +kernel
theorem dL_law_291 : decode cL_law 291 = .ok (.iconst 0, 1) := by decide +kernel
theorem dL_law_292 : decode cL_law 292 = .ok (.ireturn, 1) := by decide +kernel
theorem dL_law_293 : decode cL_law 293 = .ok (.aload_n 1, 1) := by decide +kernel
theorem dL_law_294 : decode cL_law 294 = .ok (.aload_n 0, 1) := by decide +kernel
theorem dL_law_295 : decode cL_law 295 = .ok (.iload_n 3, 1) := by decide +kernel
theorem dL_law_296 : decode cL_law 296 = .ok (.iconst 1, 1) := by decide +kernel
theorem dL_law_297 : decode cL_law 297 = .ok (.iadd, 1) := by decide +kernel
theorem dL_law_298 : decode cL_law 298 = .ok (.iaload, 1) := by decide +kernel
theorem dL_law_299 : decode cL_law 299 = .ok (.aload_n 0, 1) := by decide +kernel
theorem dL_law_300 : decode cL_law 300 = .ok (.iload_n 3, 1) := by decide +kernel
theorem dL_law_301 : decode cL_law 301 = .ok (.iconst 2, 1) := by decide +kernel
theorem dL_law_302 : decode cL_law 302 = .ok (.iadd, 1) := by decide +kernel
theorem dL_law_303 : decode cL_law 303 = .ok (.iaload, 1) := by decide +kernel
theorem dL_law_304 : decode cL_law 304 = .ok (.invokevirtual 18, 3) := by decide +kernel
theorem dL_law_307 : decode cL_law 307 = .ok (.aload_n 2, 1) := by decide +kernel
theorem dL_law_308 : decode cL_law 308 = .ok (.aload_n 0, 1) := by decide +kernel
theorem dL_law_309 : decode cL_law 309 = .ok (.iload_n 3, 1) := by decide +kernel
theorem dL_law_310 : decode cL_law 310 = .ok (.iconst 1, 1) := by decide +kernel
theorem dL_law_311 : decode cL_law 311 = .ok (.iadd, 1) := by decide +kernel
theorem dL_law_312 : decode cL_law 312 = .ok (.iaload, 1) := by decide +kernel
theorem dL_law_313 : decode cL_law 313 = .ok (.aload_n 0, 1) := by decide +kernel
theorem dL_law_314 : decode cL_law 314 = .ok (.iload_n 3, 1) := by decide +kernel
theorem dL_law_315 : decode cL_law 315 = .ok (.iconst 2, 1) := by decide +kernel
theorem dL_law_316 : decode cL_law 316 = .ok (.iadd, 1) := by decide +kernel
theorem dL_law_317 : decode cL_law 317 = .ok (.iaload, 1) := by decide +kernel
theorem dL_law_318 : decode cL_law 318 = .ok (.invokevirtual 22, 3) := by decide +kernel
theorem dL_law_321 : decode cL_law 321 = .ok (.if_icmp .eq 1333, 3) := by decide +kernel
theorem dL_law_324 : decode cL_law 324 = .ok (.iconst 0, 1) := by decide +kernel
theorem dL_law_325 : decode cL_law 325 = .ok (.ireturn, 1) := by decide +kernel
theorem dL_law_326 : decode cL_law 326 = .ok (.aload_n 1, 1) := by decide +kernel
theorem dL_law_327 : decode cL_law 327 = .ok (.aload_n 0, 1) := by decide +kernel
theorem dL_law_328 : decode cL_law 328 = .ok (.iload_n 3, 1) := by decide +kernel
theorem dL_law_329 : decode cL_law 329 = .ok (.iconst 1, 1) := by decide +kernel
theorem dL_law_330 : decode cL_law 330 = .ok (.iadd, 1) := by decide +kernel
theorem dL_law_331 : decode cL_law 331 = .ok (.iaload, 1) := by decide +kernel
theorem dL_law_332 : decode cL_law 332 = .ok (.aload_n 0, 1) := by decide +kernel
theorem dL_law_333 : decode cL_law 333 = .ok (.iload_n 3, 1) := by decide +kernel
theorem dL_law_334 : decode cL_law 334 = .ok (.iconst 2, 1) := by decide +kernel
theorem dL_law_335 : decode cL_law 335 = .ok (.iadd, 1) := by decide +kernel
theorem dL_law_336 : decode cL_law 336 = .ok (.iaload, 1) := by decide +kernel
theorem dL_law_337 : decode cL_law 337 = .ok (.invokevirtual 23, 3) := by decide +kernel
theorem dL_law_340 : decode cL_law 340 = .ok (.aload_n 2, 1) := by decide +kernel
theorem dL_law_341 : decode cL_law 341 = .ok (.aload_n 0, 1) := by decide +kernel
theorem dL_law_342 : decode cL_law 342 = .ok (.iload_n 3, 1) := by decide +kernel
theorem dL_law_343 : decode cL_law 343 = .ok (.iconst 1, 1) := by decide +kernel
theorem dL_law_344 : decode cL_law 344 = .ok (.iadd, 1) := by decide +kernel
theorem dL_law_345 : decode cL_law 345 = .ok (.iaload, 1) := by decide +kernel
theorem dL_law_346 : decode cL_law 346 = .ok (.aload_n 0, 1) := by decide +kernel
theorem dL_law_347 : decode cL_law 347 = .ok (.iload_n 3, 1) := by decide +kernel
theorem dL_law_348 : decode cL_law 348 = .ok (.iconst 2, 1) := by decide +kernel
theorem dL_law_349 : decode cL_law 349 = .ok (.iadd, 1) := by decide +kernel
theorem dL_law_350 : decode cL_law 350 = .ok (.iaload, 1) := by decide +kernel
theorem dL_law_351 : decode cL_law 351 = .ok (.invokevirtual 26, 3) := by decide +kernel
theorem dL_law_354 : decode cL_law 354 = .ok (.if_icmp .eq 1300, 3) := by decide +kernel
theorem dL_law_357 : decode cL_law 357 = .ok (.iconst 0, 1) := by decide +kernel
theorem dL_law_358 : decode cL_law 358 = .ok (.ireturn, 1) := by decide +kernel
theorem dL_law_359 : decode cL_law 359 = .ok (.aload_n 1, 1) := by decide +kernel
theorem dL_law_360 : decode cL_law 360 = .ok (.aload_n 0, 1) := by decide +kernel
theorem dL_law_361 : decode cL_law 361 = .ok (.iload_n 3, 1) := by decide +kernel
theorem dL_law_362 : decode cL_law 362 = .ok (.iconst 1, 1) := by decide +kernel
theorem dL_law_363 : decode cL_law 363 = .ok (.iadd, 1) := by decide +kernel
theorem dL_law_364 : decode cL_law 364 = .ok (.iaload, 1) := by decide +kernel
theorem dL_law_365 : decode cL_law 365 = .ok (.aload_n 0, 1) := by decide +kernel
theorem dL_law_366 : decode cL_law 366 = .ok (.iload_n 3, 1) := by decide +kernel
theorem dL_law_367 : decode cL_law 367 = .ok (.iconst 2, 1) := by decide +kernel
theorem dL_law_368 : decode cL_law 368 = .ok (.iadd, 1) := by decide +kernel
theorem dL_law_369 : decode cL_law 369 = .ok (.iaload, 1) := by decide +kernel
theorem dL_law_370 : decode cL_law 370 = .ok (.invokevirtual 27, 3) := by decide +kernel
theorem dL_law_373 : decode cL_law 373 = .ok (.aload_n 2, 1) := by decide +kernel
theorem dL_law_374 : decode cL_law 374 = .ok (.aload_n 0, 1) := by decide +kernel
theorem dL_law_375 : decode cL_law 375 = .ok (.iload_n 3, 1) := by decide +kernel
theorem dL_law_376 : decode cL_law 376 = .ok (.iconst 1, 1) := by decide +kernel
theorem dL_law_377 : decode cL_law 377 = .ok (.iadd, 1) := by decide +kernel
theorem dL_law_378 : decode cL_law 378 = .ok (.iaload, 1) := by decide +kernel
theorem dL_law_379 : decode cL_law 379 = .ok (.aload_n 0, 1) := by decide +kernel
theorem dL_law_380 : decode cL_law 380 = .ok (.iload_n 3, 1) := by decide +kernel
theorem dL_law_381 : decode cL_law 381 = .ok (.iconst 2, 1) := by decide +kernel
theorem dL_law_382 : decode cL_law 382 = .ok (.iadd, 1) := by decide +kernel
theorem dL_law_383 : decode cL_law 383 = .ok (.iaload, 1) := by decide +kernel
theorem dL_law_384 : decode cL_law 384 = .ok (.invokevirtual 30, 3) := by decide +kernel
theorem dL_law_387 : decode cL_law 387 = .ok (.if_icmp .eq 1267, 3) := by decide +kernel
theorem dL_law_390 : decode cL_law 390 = .ok (.iconst 0, 1) := by decide +kernel
theorem dL_law_391 : decode cL_law 391 = .ok (.ireturn, 1) := by decide +kernel
theorem dL_law_392 : decode cL_law 392 = .ok (.aload_n 1, 1) := by decide +kernel
theorem dL_law_393 : decode cL_law 393 = .ok (.aload_n 0, 1) := by decide +kernel
theorem dL_law_394 : decode cL_law 394 = .ok (.iload_n 3, 1) := by decide +kernel
theorem dL_law_395 : decode cL_law 395 = .ok (.iconst 1, 1) := by decide +kernel
theorem dL_law_396 : decode cL_law 396 = .ok (.iadd, 1) := by decide +kernel
theorem dL_law_397 : decode cL_law 397 = .ok (.iaload, 1) := by decide +kernel
theorem dL_law_398 : decode cL_law 398 = .ok (.aload_n 0, 1) := by decide +kernel
theorem dL_law_399 : decode cL_law 399 = .ok (.iload_n 3, 1) := by decide +kernel
theorem dL_law_400 : decode cL_law 400 = .ok (.iconst 2, 1) := by decide +kernel
theorem dL_law_401 : decode cL_law 401 = .ok (.iadd, 1) := by decide +kernel
theorem dL_law_402 : decode cL_law 402 = .ok (.iaload, 1) := by decide +kernel
theorem dL_law_403 : decode cL_law 403 = .ok (.aload_n 0, 1) := by decide +kernel
theorem dL_law_404 : decode cL_law 404 = .ok (.iload_n 3, 1) := by decide +kernel
theorem dL_law_405 : decode cL_law 405 = .ok (.iconst 3, 1) := by decide +kernel
theorem dL_law_406 : decode cL_law 406 = .ok (.iadd, 1) := by decide +kernel
theorem dL_law_407 : decode cL_law 407 = .ok (.iaload, 1) := by decide +kernel
theorem dL_law_408 : decode cL_law 408 = .ok (.invokevirtual 31, 3) := by decide +kernel
theorem dL_law_411 : decode cL_law 411 = .ok (.aload_n 2, 1) := by decide +kernel
theorem dL_law_412 : decode cL_law 412 = .ok (.aload_n 0, 1) := by decide +kernel
theorem dL_law_413 : decode cL_law 413 = .ok (.iload_n 3, 1) := by decide +kernel
theorem dL_law_414 : decode cL_law 414 = .ok (.iconst 1, 1) := by decide +kernel
theorem dL_law_415 : decode cL_law 415 = .ok (.iadd, 1) := by decide +kernel
theorem dL_law_416 : decode cL_law 416 = .ok (.iaload, 1) := by decide +kernel
theorem dL_law_417 : decode cL_law 417 = .ok (.aload_n 0, 1) := by decide +kernel
theorem dL_law_418 : decode cL_law 418 = .ok (.iload_n 3, 1) := by decide +kernel
theorem dL_law_419 : decode cL_law 419 = .ok (.iconst 2, 1) := by decide +kernel
theorem dL_law_420 : decode cL_law 420 = .ok (.iadd, 1) := by decide +kernel
theorem dL_law_421 : decode cL_law 421 = .ok (.iaload, 1) := by decide +kernel
theorem dL_law_422 : decode cL_law 422 = .ok (.aload_n 0, 1) := by decide +kernel
theorem dL_law_423 : decode cL_law 423 = .ok (.iload_n 3, 1) := by decide +kernel
theorem dL_law_424 : decode cL_law 424 = .ok (.iconst 3, 1) := by decide +kernel
theorem dL_law_425 : decode cL_law 425 = .ok (.iadd, 1) := by decide +kernel
theorem dL_law_426 : decode cL_law 426 = .ok (.iaload, 1) := by decide +kernel
theorem dL_law_427 : decode cL_law 427 = .ok (.invokevirtual 35, 3) := by decide +kernel
theorem dL_law_430 : decode cL_law 430 = .ok (.if_icmp .eq 1224, 3) := by decide +kernel
theorem dL_law_433 : decode cL_law 433 = .ok (.iconst 0, 1) := by decide +kernel
theorem dL_law_434 : decode cL_law 434 = .ok (.ireturn, 1) := by decide +kernel
theorem dL_law_435 : decode cL_law 435 = .ok (.aload_n 1, 1) := by decide +kernel
theorem dL_law_436 : decode cL_law 436 = .ok (.aload_n 0, 1) := by decide +kernel
theorem dL_law_437 : decode cL_law 437 = .ok (.iload_n 3, 1) := by decide +kernel
theorem dL_law_438 : decode cL_law 438 = .ok (.iconst 1, 1) := by decide +kernel
theorem dL_law_439 : decode cL_law 439 = .ok (.iadd, 1) := by decide +kernel
theorem dL_law_440 : decode cL_law 440 = .ok (.iaload, 1) := by decide +kernel
theorem dL_law_441 : decode cL_law 441 = .ok (.aload_n 0, 1) := by decide +kernel
theorem dL_law_442 : decode cL_law 442 = .ok (.iload_n 3, 1) := by decide +kernel
theorem dL_law_443 : decode cL_law 443 = .ok (.iconst 2, 1) := by decide +kernel
theorem dL_law_444 : decode cL_law 444 = .ok (.iadd, 1) := by decide +kernel
theorem dL_law_445 : decode cL_law 445 = .ok (.iaload, 1) := by decide +kernel
theorem dL_law_446 : decode cL_law 446 = .ok (.invokevirtual 36, 3) := by decide +kernel
theorem dL_law_449 : decode cL_law 449 = .ok (.aload_n 2, 1) := by decide +kernel
theorem dL_law_450 : decode cL_law 450 = .ok (.aload_n 0, 1) := by decide +kernel
theorem dL_law_451 : decode cL_law 451 = .ok (.iload_n 3, 1) := by decide +kernel
theorem dL_law_452 : decode cL_law 452 = .ok (.iconst 1, 1) := by decide +kernel
theorem dL_law_453 : decode cL_law 453 = .ok (.iadd, 1) := by decide +kernel
theorem dL_law_454 : decode cL_law 454 = .ok (.iaload, 1) := by decide +kernel
theorem dL_law_455 : decode cL_law 455 = .ok (.aload_n 0, 1) := by decide +kernel
theorem dL_law_456 : decode cL_law 456 = .ok (.iload_n 3, 1) := by decide +kernel
theorem dL_law_457 : decode cL_law 457 = .ok (.iconst 2, 1) := by decide +kernel
theorem dL_law_458 : decode cL_law 458 = .ok (.iadd, 1) := by decide +kernel
theorem dL_law_459 : decode cL_law 459 = .ok (.iaload, 1) := by decide +kernel
theorem dL_law_460 : decode cL_law 460 = .ok (.invokevirtual 39, 3) := by decide +kernel
theorem dL_law_463 : decode cL_law 463 = .ok (.if_icmp .eq 1191, 3) := by decide +kernel
theorem dL_law_466 : decode cL_law 466 = .ok (.iconst 0, 1) := by decide +kernel
theorem dL_law_467 : decode cL_law 467 = .ok (.ireturn, 1) := by decide +kernel
theorem dL_law_468 : decode cL_law 468 = .ok (.aload_n 1, 1) := by decide +kernel
theorem dL_law_469 : decode cL_law 469 = .ok (.aload_n 0, 1) := by decide +kernel
theorem dL_law_470 : decode cL_law 470 = .ok (.iload_n 3, 1) := by decide +kernel
theorem dL_law_471 : decode cL_law 471 = .ok (.iconst 1, 1) := by decide +kernel
theorem dL_law_472 : decode cL_law 472 = .ok (.iadd, 1) := by decide +kernel
theorem dL_law_473 : decode cL_law 473 = .ok (.iaload, 1) := by decide +kernel
theorem dL_law_474 : decode cL_law 474 = .ok (.aload_n 0, 1) := by decide +kernel
theorem dL_law_475 : decode cL_law 475 = .ok (.iload_n 3, 1) := by decide +kernel
theorem dL_law_476 : decode cL_law 476 = .ok (.iconst 2, 1) := by decide +kernel
theorem dL_law_477 : decode cL_law 477 = .ok (.iadd, 1) := by decide +kernel
theorem dL_law_478 : decode cL_law 478 = .ok (.iaload, 1) := by decide +kernel
theorem dL_law_479 : decode cL_law 479 = .ok (.aload_n 0, 1) := by decide +kernel
theorem dL_law_480 : decode cL_law 480 = .ok (.iload_n 3, 1) := by decide +kernel
theorem dL_law_481 : decode cL_law 481 = .ok (.iconst 3, 1) := by decide +kernel
theorem dL_law_482 : decode cL_law 482 = .ok (.iadd, 1) := by decide +kernel
theorem dL_law_483 : decode cL_law 483 = .ok (.iaload, 1) := by decide +kernel
theorem dL_law_484 : decode cL_law 484 = .ok (.aload_n 0, 1) := by decide +kernel
theorem dL_law_485 : decode cL_law 485 = .ok (.iload_n 3, 1) := by decide +kernel
theorem dL_law_486 : decode cL_law 486 = .ok (.iconst 4, 1) := by decide +kernel
theorem dL_law_487 : decode cL_law 487 = .ok (.iadd, 1) := by decide +kernel
theorem dL_law_488 : decode cL_law 488 = .ok (.iaload, 1) := by decide +kernel
theorem dL_law_489 : decode cL_law 489 = .ok (.aload_n 0, 1) := by decide +kernel
theorem dL_law_490 : decode cL_law 490 = .ok (.iload_n 3, 1) := by decide +kernel
theorem dL_law_491 : decode cL_law 491 = .ok (.iconst 5, 1) := by decide +kernel
theorem dL_law_492 : decode cL_law 492 = .ok (.iadd, 1) := by decide +kernel
theorem dL_law_493 : decode cL_law 493 = .ok (.iaload, 1) := by decide +kernel
theorem dL_law_494 : decode cL_law 494 = .ok (.invokevirtual 40, 3) := by decide +kernel
theorem dL_law_497 : decode cL_law 497 = .ok (.aload_n 2, 1) := by decide +kernel
theorem dL_law_498 : decode cL_law 498 = .ok (.aload_n 0, 1) := by decide +kernel
theorem dL_law_499 : decode cL_law 499 = .ok (.iload_n 3, 1) := by decide +kernel
theorem dL_law_500 : decode cL_law 500 = .ok (.iconst 1, 1) := by decide +kernel
theorem dL_law_501 : decode cL_law 501 = .ok (.iadd, 1) := by decide +kernel
theorem dL_law_502 : decode cL_law 502 = .ok (.iaload, 1) := by decide +kernel
theorem dL_law_503 : decode cL_law 503 = .ok (.aload_n 0, 1) := by decide +kernel
theorem dL_law_504 : decode cL_law 504 = .ok (.iload_n 3, 1) := by decide +kernel
theorem dL_law_505 : decode cL_law 505 = .ok (.iconst 2, 1) := by decide +kernel
theorem dL_law_506 : decode cL_law 506 = .ok (.iadd, 1) := by decide +kernel
theorem dL_law_507 : decode cL_law 507 = .ok (.iaload, 1) := by decide +kernel
theorem dL_law_508 : decode cL_law 508 = .ok (.aload_n 0, 1) := by decide +kernel
theorem dL_law_509 : decode cL_law 509 = .ok (.iload_n 3, 1) := by decide +kernel
theorem dL_law_510 : decode cL_law 510 = .ok (.iconst 3, 1) := by decide +kernel
theorem dL_law_511 : decode cL_law 511 = .ok (.iadd, 1) := by decide +kernel
theorem dL_law_512 : decode cL_law 512 = .ok (.iaload, 1) := by decide +kernel
theorem dL_law_513 : decode cL_law 513 = .ok (.aload_n 0, 1) := by decide +kernel
theorem dL_law_514 : decode cL_law 514 = .ok (.iload_n 3, 1) := by decide +kernel
theorem dL_law_515 : decode cL_law 515 = .ok (.iconst 4, 1) := by decide +kernel
theorem dL_law_516 : decode cL_law 516 = .ok (.iadd, 1) := by decide +kernel
theorem dL_law_517 : decode cL_law 517 = .ok (.iaload, 1) := by decide +kernel
theorem dL_law_518 : decode cL_law 518 = .ok (.aload_n 0, 1) := by decide +kernel
theorem dL_law_519 : decode cL_law 519 = .ok (.iload_n 3, 1) := by decide +kernel
theorem dL_law_520 : decode cL_law 520 = .ok (.iconst 5, 1) := by decide +kernel
theorem dL_law_521 : decode cL_law 521 = .ok (.iadd, 1) := by decide +kernel
theorem dL_law_522 : decode cL_law 522 = .ok (.iaload, 1) := by decide +kernel
theorem dL_law_523 : decode cL_law 523 = .ok (.invokevirtual 44, 3) := by decide +kernel
theorem dL_law_526 : decode cL_law 526 = .ok (.if_icmp .eq 1128, 3) := by decide +kernel
theorem dL_law_529 : decode cL_law 529 = .ok (.iconst 0, 1) := by decide +kernel
theorem dL_law_530 : decode cL_law 530 = .ok (.ireturn, 1) := by decide +kernel
theorem dL_law_531 : decode cL_law 531 = .ok (.aload_n 1, 1) := by decide +kernel
theorem dL_law_532 : decode cL_law 532 = .ok (.aload_n 0, 1) := by decide +kernel
theorem dL_law_533 : decode cL_law 533 = .ok (.iload_n 3, 1) := by decide +kernel
theorem dL_law_534 : decode cL_law 534 = .ok (.iconst 1, 1) := by decide +kernel
theorem dL_law_535 : decode cL_law 535 = .ok (.iadd, 1) := by decide +kernel
theorem dL_law_536 : decode cL_law 536 = .ok (.iaload, 1) := by decide +kernel
theorem dL_law_537 : decode cL_law 537 = .ok (.aload_n 0, 1) := by decide +kernel
theorem dL_law_538 : decode cL_law 538 = .ok (.iload_n 3, 1) := by decide +kernel
theorem dL_law_539 : decode cL_law 539 = .ok (.iconst 2, 1) := by decide +kernel
theorem dL_law_540 : decode cL_law 540 = .ok (.iadd, 1) := by decide +kernel
theorem dL_law_541 : decode cL_law 541 = .ok (.iaload, 1) := by decide +kernel
theorem dL_law_542 : decode cL_law 542 = .ok (.invokevirtual 45, 3) := by decide +kernel
theorem dL_law_545 : decode cL_law 545 = .ok (.aload_n 2, 1) := by decide +kernel
theorem dL_law_546 : decode cL_law 546 = .ok (.aload_n 0, 1) := by decide +kernel
theorem dL_law_547 : decode cL_law 547 = .ok (.iload_n 3, 1) := by decide +kernel
theorem dL_law_548 : decode cL_law 548 = .ok (.iconst 1, 1) := by decide +kernel
theorem dL_law_549 : decode cL_law 549 = .ok (.iadd, 1) := by decide +kernel
theorem dL_law_550 : decode cL_law 550 = .ok (.iaload, 1) := by decide +kernel
theorem dL_law_551 : decode cL_law 551 = .ok (.aload_n 0, 1) := by decide +kernel
theorem dL_law_552 : decode cL_law 552 = .ok (.iload_n 3, 1) := by decide +kernel
theorem dL_law_553 : decode cL_law 553 = .ok (.iconst 2, 1) := by decide +kernel
theorem dL_law_554 : decode cL_law 554 = .ok (.iadd, 1) := by decide +kernel
theorem dL_law_555 : decode cL_law 555 = .ok (.iaload, 1) := by decide +kernel
theorem dL_law_556 : decode cL_law 556 = .ok (.invokevirtual 48, 3) := by decide +kernel
theorem dL_law_559 : decode cL_law 559 = .ok (.if_icmp .eq 1095, 3) := by decide +kernel
theorem dL_law_562 : decode cL_law 562 = .ok (.iconst 0, 1) := by decide +kernel
theorem dL_law_563 : decode cL_law 563 = .ok (.ireturn, 1) := by decide +kernel
theorem dL_law_564 : decode cL_law 564 = .ok (.aload_n 1, 1) := by decide +kernel
theorem dL_law_565 : decode cL_law 565 = .ok (.aload_n 0, 1) := by decide +kernel
theorem dL_law_566 : decode cL_law 566 = .ok (.iload_n 3, 1) := by decide +kernel
theorem dL_law_567 : decode cL_law 567 = .ok (.iconst 1, 1) := by decide +kernel
theorem dL_law_568 : decode cL_law 568 = .ok (.iadd, 1) := by decide +kernel
theorem dL_law_569 : decode cL_law 569 = .ok (.iaload, 1) := by decide +kernel
theorem dL_law_570 : decode cL_law 570 = .ok (.aload_n 0, 1) := by decide +kernel
theorem dL_law_571 : decode cL_law 571 = .ok (.iload_n 3, 1) := by decide +kernel
theorem dL_law_572 : decode cL_law 572 = .ok (.iconst 2, 1) := by decide +kernel
theorem dL_law_573 : decode cL_law 573 = .ok (.iadd, 1) := by decide +kernel
theorem dL_law_574 : decode cL_law 574 = .ok (.iaload, 1) := by decide +kernel
theorem dL_law_575 : decode cL_law 575 = .ok (.aload_n 0, 1) := by decide +kernel
theorem dL_law_576 : decode cL_law 576 = .ok (.iload_n 3, 1) := by decide +kernel
theorem dL_law_577 : decode cL_law 577 = .ok (.iconst 3, 1) := by decide +kernel
theorem dL_law_578 : decode cL_law 578 = .ok (.iadd, 1) := by decide +kernel
theorem dL_law_579 : decode cL_law 579 = .ok (.iaload, 1) := by decide +kernel
theorem dL_law_580 : decode cL_law 580 = .ok (.invokevirtual 49, 3) := by decide +kernel
theorem dL_law_583 : decode cL_law 583 = .ok (.aload_n 2, 1) := by decide +kernel
theorem dL_law_584 : decode cL_law 584 = .ok (.aload_n 0, 1) := by decide +kernel
theorem dL_law_585 : decode cL_law 585 = .ok (.iload_n 3, 1) := by decide +kernel
theorem dL_law_586 : decode cL_law 586 = .ok (.iconst 1, 1) := by decide +kernel
theorem dL_law_587 : decode cL_law 587 = .ok (.iadd, 1) := by decide +kernel
theorem dL_law_588 : decode cL_law 588 = .ok (.iaload, 1) := by decide +kernel
theorem dL_law_589 : decode cL_law 589 = .ok (.aload_n 0, 1) := by decide +kernel
theorem dL_law_590 : decode cL_law 590 = .ok (.iload_n 3, 1) := by decide +kernel
theorem dL_law_591 : decode cL_law 591 = .ok (.iconst 2, 1) := by decide +kernel
theorem dL_law_592 : decode cL_law 592 = .ok (.iadd, 1) := by decide +kernel
theorem dL_law_593 : decode cL_law 593 = .ok (.iaload, 1) := by decide +kernel
theorem dL_law_594 : decode cL_law 594 = .ok (.aload_n 0, 1) := by decide +kernel
theorem dL_law_595 : decode cL_law 595 = .ok (.iload_n 3, 1) := by decide +kernel
theorem dL_law_596 : decode cL_law 596 = .ok (.iconst 3, 1) := by decide +kernel
theorem dL_law_597 : decode cL_law 597 = .ok (.iadd, 1) := by decide +kernel
theorem dL_law_598 : decode cL_law 598 = .ok (.iaload, 1) := by decide +kernel
theorem dL_law_599 : decode cL_law 599 = .ok (.invokevirtual 52, 3) := by decide +kernel
theorem dL_law_602 : decode cL_law 602 = .ok (.if_icmp .eq 1052, 3) := by decide +kernel
theorem dL_law_605 : decode cL_law 605 = .ok (.iconst 0, 1) := by decide +kernel
theorem dL_law_606 : decode cL_law 606 = .ok (.ireturn, 1) := by decide +kernel
theorem dL_law_607 : decode cL_law 607 = .ok (.aload_n 1, 1) := by decide +kernel
theorem dL_law_608 : decode cL_law 608 = .ok (.aload_n 0, 1) := by decide +kernel
theorem dL_law_609 : decode cL_law 609 = .ok (.iload_n 3, 1) := by decide +kernel
theorem dL_law_610 : decode cL_law 610 = .ok (.iconst 1, 1) := by decide +kernel
theorem dL_law_611 : decode cL_law 611 = .ok (.iadd, 1) := by decide +kernel
theorem dL_law_612 : decode cL_law 612 = .ok (.iaload, 1) := by decide +kernel
theorem dL_law_613 : decode cL_law 613 = .ok (.aload_n 0, 1) := by decide +kernel
theorem dL_law_614 : decode cL_law 614 = .ok (.iload_n 3, 1) := by decide +kernel
theorem dL_law_615 : decode cL_law 615 = .ok (.iconst 2, 1) := by decide +kernel
theorem dL_law_616 : decode cL_law 616 = .ok (.iadd, 1) := by decide +kernel
theorem dL_law_617 : decode cL_law 617 = .ok (.iaload, 1) := by decide +kernel
theorem dL_law_618 : decode cL_law 618 = .ok (.aload_n 0, 1) := by decide +kernel
theorem dL_law_619 : decode cL_law 619 = .ok (.iload_n 3, 1) := by decide +kernel
theorem dL_law_620 : decode cL_law 620 = .ok (.iconst 3, 1) := by decide +kernel
theorem dL_law_621 : decode cL_law 621 = .ok (.iadd, 1) := by decide +kernel
theorem dL_law_622 : decode cL_law 622 = .ok (.iaload, 1) := by decide +kernel
theorem dL_law_623 : decode cL_law 623 = .ok (.invokevirtual 53, 3) := by decide +kernel
theorem dL_law_626 : decode cL_law 626 = .ok (.aload_n 2, 1) := by decide +kernel
theorem dL_law_627 : decode cL_law 627 = .ok (.aload_n 0, 1) := by decide +kernel
theorem dL_law_628 : decode cL_law 628 = .ok (.iload_n 3, 1) := by decide +kernel
theorem dL_law_629 : decode cL_law 629 = .ok (.iconst 1, 1) := by decide +kernel
theorem dL_law_630 : decode cL_law 630 = .ok (.iadd, 1) := by decide +kernel
theorem dL_law_631 : decode cL_law 631 = .ok (.iaload, 1) := by decide +kernel
theorem dL_law_632 : decode cL_law 632 = .ok (.aload_n 0, 1) := by decide +kernel
theorem dL_law_633 : decode cL_law 633 = .ok (.iload_n 3, 1) := by decide +kernel
theorem dL_law_634 : decode cL_law 634 = .ok (.iconst 2, 1) := by decide +kernel
theorem dL_law_635 : decode cL_law 635 = .ok (.iadd, 1) := by decide +kernel
theorem dL_law_636 : decode cL_law 636 = .ok (.iaload, 1) := by decide +kernel
theorem dL_law_637 : decode cL_law 637 = .ok (.aload_n 0, 1) := by decide +kernel
theorem dL_law_638 : decode cL_law 638 = .ok (.iload_n 3, 1) := by decide +kernel
theorem dL_law_639 : decode cL_law 639 = .ok (.iconst 3, 1) := by decide +kernel
theorem dL_law_640 : decode cL_law 640 = .ok (.iadd, 1) := by decide +kernel
theorem dL_law_641 : decode cL_law 641 = .ok (.iaload, 1) := by decide +kernel
theorem dL_law_642 : decode cL_law 642 = .ok (.invokevirtual 56, 3) := by decide +kernel
theorem dL_law_645 : decode cL_law 645 = .ok (.if_icmp .eq 1009, 3) := by decide +kernel
theorem dL_law_648 : decode cL_law 648 = .ok (.iconst 0, 1) := by decide +kernel
theorem dL_law_649 : decode cL_law 649 = .ok (.ireturn, 1) := by decide +kernel
theorem dL_law_650 : decode cL_law 650 = .ok (.aload_n 1, 1) := by decide +kernel
theorem dL_law_651 : decode cL_law 651 = .ok (.aload_n 0, 1) := by decide +kernel
theorem dL_law_652 : decode cL_law 652 = .ok (.iload_n 3, 1) := by decide +kernel
theorem dL_law_653 : decode cL_law 653 = .ok (.iconst 1, 1) := by decide +kernel
theorem dL_law_654 : decode cL_law 654 = .ok (.iadd, 1) := by decide +kernel
theorem dL_law_655 : decode cL_law 655 = .ok (.iaload, 1) := by decide +kernel
theorem dL_law_656 : decode cL_law 656 = .ok (.aload_n 0, 1) := by decide +kernel
theorem dL_law_657 : decode cL_law 657 = .ok (.iload_n 3, 1) := by decide +kernel
theorem dL_law_658 : decode cL_law 658 = .ok (.iconst 2, 1) := by decide +kernel
theorem dL_law_659 : decode cL_law 659 = .ok (.iadd, 1) := by decide +kernel
theorem dL_law_660 : decode cL_law 660 = .ok (.iaload, 1) := by decide +kernel
theorem dL_law_661 : decode cL_law 661 = .ok (.aload_n 0, 1) := by decide +kernel
theorem dL_law_662 : decode cL_law 662 = .ok (.iload_n 3, 1) := by decide +kernel
theorem dL_law_663 : decode cL_law 663 = .ok (.iconst 3, 1) := by decide +kernel
theorem dL_law_664 : decode cL_law 664 = .ok (.iadd, 1) := by decide +kernel
theorem dL_law_665 : decode cL_law 665 = .ok (.iaload, 1) := by decide +kernel
theorem dL_law_666 : decode cL_law 666 = .ok (.invokevirtual 57, 3) := by decide +kernel
theorem dL_law_669 : decode cL_law 669 = .ok (.aload_n 2, 1) := by decide +kernel
theorem dL_law_670 : decode cL_law 670 = .ok (.aload_n 0, 1) := by decide +kernel
theorem dL_law_671 : decode cL_law 671 = .ok (.iload_n 3, 1) := by decide +kernel
theorem dL_law_672 : decode cL_law 672 = .ok (.iconst 1, 1) := by decide +kernel
theorem dL_law_673 : decode cL_law 673 = .ok (.iadd, 1) := by decide +kernel
theorem dL_law_674 : decode cL_law 674 = .ok (.iaload, 1) := by decide +kernel
theorem dL_law_675 : decode cL_law 675 = .ok (.aload_n 0, 1) := by decide +kernel
theorem dL_law_676 : decode cL_law 676 = .ok (.iload_n 3, 1) := by decide +kernel
theorem dL_law_677 : decode cL_law 677 = .ok (.iconst 2, 1) := by decide +kernel
theorem dL_law_678 : decode cL_law 678 = .ok (.iadd, 1) := by decide +kernel
theorem dL_law_679 : decode cL_law 679 = .ok (.iaload, 1) := by decide +kernel
theorem dL_law_680 : decode cL_law 680 = .ok (.aload_n 0, 1) := by decide +kernel
theorem dL_law_681 : decode cL_law 681 = .ok (.iload_n 3, 1) := by decide +kernel
theorem dL_law_682 : decode cL_law 682 = .ok (.iconst 3, 1) := by decide +kernel
theorem dL_law_683 : decode cL_law 683 = .ok (.iadd, 1) := by decide +kernel
theorem dL_law_684 : decode cL_law 684 = .ok (.iaload, 1) := by decide +kernel
theorem dL_law_685 : decode cL_law 685 = .ok (.invokevirtual 60, 3) := by decide +kernel
theorem dL_law_688 : decode cL_law 688 = .ok (.if_icmp .eq 966, 3) := by decide +kernel
theorem dL_law_691 : decode cL_law 691 = .ok (.iconst 0, 1) := by decide +kernel
theorem dL_law_692 : decode cL_law 692 = .ok (.ireturn, 1) := by decide +kernel
theorem dL_law_693 : decode cL_law 693 = .ok (.aload_n 1, 1) := by decide +kernel
theorem dL_law_694 : decode cL_law 694 = .ok (.aload_n 0, 1) := by decide +kernel
theorem dL_law_695 : decode cL_law 695 = .ok (.iload_n 3, 1) := by decide +kernel
theorem dL_law_696 : decode cL_law 696 = .ok (.iconst 1, 1) := by decide +kernel
theorem dL_law_697 : decode cL_law 697 = .ok (.iadd, 1) := by decide +kernel
theorem dL_law_698 : decode cL_law 698 = .ok (.iaload, 1) := by decide +kernel
theorem dL_law_699 : decode cL_law 699 = .ok (.aload_n 0, 1) := by decide +kernel
theorem dL_law_700 : decode cL_law 700 = .ok (.iload_n 3, 1) := by decide +kernel
theorem dL_law_701 : decode cL_law 701 = .ok (.iconst 2, 1) := by decide +kernel
theorem dL_law_702 : decode cL_law 702 = .ok (.iadd, 1) := by decide +kernel
theorem dL_law_703 : decode cL_law 703 = .ok (.iaload, 1) := by decide +kernel
theorem dL_law_704 : decode cL_law 704 = .ok (.invokevirtual 61, 3) := by decide +kernel
theorem dL_law_707 : decode cL_law 707 = .ok (.aload_n 2, 1) := by decide +kernel
theorem dL_law_708 : decode cL_law 708 = .ok (.aload_n 0, 1) := by decide +kernel
theorem dL_law_709 : decode cL_law 709 = .ok (.iload_n 3, 1) := by decide +kernel
theorem dL_law_710 : decode cL_law 710 = .ok (.iconst 1, 1) := by decide +kernel
theorem dL_law_711 : decode cL_law 711 = .ok (.iadd, 1) := by decide +kernel
theorem dL_law_712 : decode cL_law 712 = .ok (.iaload, 1) := by decide +kernel
theorem dL_law_713 : decode cL_law 713 = .ok (.aload_n 0, 1) := by decide +kernel
theorem dL_law_714 : decode cL_law 714 = .ok (.iload_n 3, 1) := by decide +kernel
theorem dL_law_715 : decode cL_law 715 = .ok (.iconst 2, 1) := by decide +kernel
theorem dL_law_716 : decode cL_law 716 = .ok (.iadd, 1) := by decide +kernel
theorem dL_law_717 : decode cL_law 717 = .ok (.iaload, 1) := by decide +kernel
theorem dL_law_718 : decode cL_law 718 = .ok (.invokevirtual 64, 3) := by decide +kernel
theorem dL_law_721 : decode cL_law 721 = .ok (.if_icmp .eq 933, 3) := by decide +kernel
theorem dL_law_724 : decode cL_law 724 = .ok (.iconst 0, 1) := by decide +kernel
theorem dL_law_725 : decode cL_law 725 = .ok (.ireturn, 1) := by decide +kernel
theorem dL_law_726 : decode cL_law 726 = .ok (.aload_n 1, 1) := by decide +kernel
theorem dL_law_727 : decode cL_law 727 = .ok (.aload_n 0, 1) := by decide +kernel
theorem dL_law_728 : decode cL_law 728 = .ok (.iload_n 3, 1) := by decide +kernel
theorem dL_law_729 : decode cL_law 729 = .ok (.iconst 1, 1) := by decide +kernel
theorem dL_law_730 : decode cL_law 730 = .ok (.iadd, 1) := by decide +kernel
theorem dL_law_731 : decode cL_law 731 = .ok (.iaload, 1) := by decide +kernel
theorem dL_law_732 : decode cL_law 732 = .ok (.invokevirtual 65, 3) := by decide +kernel
theorem dL_law_735 : decode cL_law 735 = .ok (.aload_n 2, 1) := by decide +kernel
theorem dL_law_736 : decode cL_law 736 = .ok (.aload_n 0, 1) := by decide +kernel
theorem dL_law_737 : decode cL_law 737 = .ok (.iload_n 3, 1) := by decide +kernel
theorem dL_law_738 : decode cL_law 738 = .ok (.iconst 1, 1) := by decide +kernel
theorem dL_law_739 : decode cL_law 739 = .ok (.iadd, 1) := by decide +kernel
theorem dL_law_740 : decode cL_law 740 = .ok (.iaload, 1) := by decide +kernel
theorem dL_law_741 : decode cL_law 741 = .ok (.invokevirtual 69, 3) := by decide +kernel
theorem dL_law_744 : decode cL_law 744 = .ok (.if_icmp .eq 910, 3) := by decide +kernel
theorem dL_law_747 : decode cL_law 747 = .ok (.iconst 0, 1) := by decide +kernel
theorem dL_law_748 : decode cL_law 748 = .ok (.ireturn, 1) := by decide +kernel
theorem dL_law_749 : decode cL_law 749 = .ok (.aload_n 1, 1) := by decide +kernel
theorem dL_law_750 : decode cL_law 750 = .ok (.aload_n 0, 1) := by decide +kernel
theorem dL_law_751 : decode cL_law 751 = .ok (.iload_n 3, 1) := by decide +kernel
theorem dL_law_752 : decode cL_law 752 = .ok (.iconst 1, 1) := by decide +kernel
theorem dL_law_753 : decode cL_law 753 = .ok (.iadd, 1) := by decide +kernel
theorem dL_law_754 : decode cL_law 754 = .ok (.iaload, 1) := by decide +kernel
theorem dL_law_755 : decode cL_law 755 = .ok (.aload_n 0, 1) := by decide +kernel
theorem dL_law_756 : decode cL_law 756 = .ok (.iload_n 3, 1) := by decide +kernel
theorem dL_law_757 : decode cL_law 757 = .ok (.iconst 2, 1) := by decide +kernel
theorem dL_law_758 : decode cL_law 758 = .ok (.iadd, 1) := by decide +kernel
theorem dL_law_759 : decode cL_law 759 = .ok (.iaload, 1) := by decide +kernel
theorem dL_law_760 : decode cL_law 760 = .ok (.aload_n 0, 1) := by decide +kernel
theorem dL_law_761 : decode cL_law 761 = .ok (.iload_n 3, 1) := by decide +kernel
theorem dL_law_762 : decode cL_law 762 = .ok (.iconst 3, 1) := by decide +kernel
theorem dL_law_763 : decode cL_law 763 = .ok (.iadd, 1) := by decide +kernel
theorem dL_law_764 : decode cL_law 764 = .ok (.iaload, 1) := by decide +kernel
theorem dL_law_765 : decode cL_law 765 = .ok (.invokevirtual 70, 3) := by decide +kernel
theorem dL_law_768 : decode cL_law 768 = .ok (.aload_n 2, 1) := by decide +kernel
theorem dL_law_769 : decode cL_law 769 = .ok (.aload_n 0, 1) := by decide +kernel
theorem dL_law_770 : decode cL_law 770 = .ok (.iload_n 3, 1) := by decide +kernel
theorem dL_law_771 : decode cL_law 771 = .ok (.iconst 1, 1) := by decide +kernel
theorem dL_law_772 : decode cL_law 772 = .ok (.iadd, 1) := by decide +kernel
theorem dL_law_773 : decode cL_law 773 = .ok (.iaload, 1) := by decide +kernel
theorem dL_law_774 : decode cL_law 774 = .ok (.aload_n 0, 1) := by decide +kernel
theorem dL_law_775 : decode cL_law 775 = .ok (.iload_n 3, 1) := by decide +kernel
theorem dL_law_776 : decode cL_law 776 = .ok (.iconst 2, 1) := by decide +kernel
theorem dL_law_777 : decode cL_law 777 = .ok (.iadd, 1) := by decide +kernel
theorem dL_law_778 : decode cL_law 778 = .ok (.iaload, 1) := by decide +kernel
theorem dL_law_779 : decode cL_law 779 = .ok (.aload_n 0, 1) := by decide +kernel
theorem dL_law_780 : decode cL_law 780 = .ok (.iload_n 3, 1) := by decide +kernel
theorem dL_law_781 : decode cL_law 781 = .ok (.iconst 3, 1) := by decide +kernel
theorem dL_law_782 : decode cL_law 782 = .ok (.iadd, 1) := by decide +kernel
theorem dL_law_783 : decode cL_law 783 = .ok (.iaload, 1) := by decide +kernel
theorem dL_law_784 : decode cL_law 784 = .ok (.invokevirtual 73, 3) := by decide +kernel
theorem dL_law_787 : decode cL_law 787 = .ok (.if_icmp .eq 867, 3) := by decide +kernel
theorem dL_law_790 : decode cL_law 790 = .ok (.iconst 0, 1) := by decide +kernel
theorem dL_law_791 : decode cL_law 791 = .ok (.ireturn, 1) := by decide +kernel
theorem dL_law_792 : decode cL_law 792 = .ok (.aload_n 1, 1) := by decide +kernel
theorem dL_law_793 : decode cL_law 793 = .ok (.aload_n 0, 1) := by decide +kernel
theorem dL_law_794 : decode cL_law 794 = .ok (.iload_n 3, 1) := by decide +kernel
theorem dL_law_795 : decode cL_law 795 = .ok (.iconst 1, 1) := by decide +kernel
theorem dL_law_796 : decode cL_law 796 = .ok (.iadd, 1) := by decide +kernel
theorem dL_law_797 : decode cL_law 797 = .ok (.iaload, 1) := by decide +kernel
theorem dL_law_798 : decode cL_law 798 = .ok (.aload_n 0, 1) := by decide +kernel
theorem dL_law_799 : decode cL_law 799 = .ok (.iload_n 3, 1) := by decide +kernel
theorem dL_law_800 : decode cL_law 800 = .ok (.iconst 2, 1) := by decide +kernel
theorem dL_law_801 : decode cL_law 801 = .ok (.iadd, 1) := by decide +kernel
theorem dL_law_802 : decode cL_law 802 = .ok (.iaload, 1) := by decide +kernel
theorem dL_law_803 : decode cL_law 803 = .ok (.aload_n 0, 1) := by decide +kernel
theorem dL_law_804 : decode cL_law 804 = .ok (.iload_n 3, 1) := by decide +kernel
theorem dL_law_805 : decode cL_law 805 = .ok (.iconst 3, 1) := by decide +kernel
theorem dL_law_806 : decode cL_law 806 = .ok (.iadd, 1) := by decide +kernel
theorem dL_law_807 : decode cL_law 807 = .ok (.iaload, 1) := by decide +kernel
theorem dL_law_808 : decode cL_law 808 = .ok (.invokevirtual 74, 3) := by decide +kernel
theorem dL_law_811 : decode cL_law 811 = .ok (.aload_n 2, 1) := by decide +kernel
theorem dL_law_812 : decode cL_law 812 = .ok (.aload_n 0, 1) := by decide +kernel
theorem dL_law_813 : decode cL_law 813 = .ok (.iload_n 3, 1) := by decide +kernel
theorem dL_law_814 : decode cL_law 814 = .ok (.iconst 1, 1) := by decide +kernel
theorem dL_law_815 : decode cL_law 815 = .ok (.iadd, 1) := by decide +kernel
theorem dL_law_816 : decode cL_law 816 = .ok (.iaload, 1) := by decide +kernel
theorem dL_law_817 : decode cL_law 817 = .ok (.aload_n 0, 1) := by decide +kernel
theorem dL_law_818 : decode cL_law 818 = .ok (.iload_n 3, 1) := by decide +kernel
theorem dL_law_819 : decode cL_law 819 = .ok (.iconst 2, 1) := by decide +kernel
theorem dL_law_820 : decode cL_law 820 = .ok (.iadd, 1) := by decide +kernel
theorem dL_law_821 : decode cL_law 821 = .ok (.iaload, 1) := by decide +kernel
theorem dL_law_822 : decode cL_law 822 = .ok (.aload_n 0, 1) := by decide +kernel
theorem dL_law_823 : decode cL_law 823 = .ok (.iload_n 3, 1) := by decide +kernel
theorem dL_law_824 : decode cL_law 824 = .ok (.iconst 3, 1) := by decide +kernel
theorem dL_law_825 : decode cL_law 825 = .ok (.iadd, 1) := by decide +kernel
theorem dL_law_826 : decode cL_law 826 = .ok (.iaload, 1) := by decide +kernel
theorem dL_law_827 : decode cL_law 827 = .ok (.invokevirtual 77, 3) := by decide +kernel
theorem dL_law_830 : decode cL_law 830 = .ok (.if_icmp .eq 824, 3) := by decide +kernel
theorem dL_law_833 : decode cL_law 833 = .ok (.iconst 0, 1) := by decide +kernel
theorem dL_law_834 : decode cL_law 834 = .ok (.ireturn, 1) := by decide +kernel
theorem dL_law_835 : decode cL_law 835 = .ok (.aload_n 1, 1) := by decide +kernel
theorem dL_law_836 : decode cL_law 836 = .ok (.aload_n 0, 1) := by decide +kernel
theorem dL_law_837 : decode cL_law 837 = .ok (.iload_n 3, 1) := by decide +kernel
theorem dL_law_838 : decode cL_law 838 = .ok (.iconst 1, 1) := by decide +kernel
theorem dL_law_839 : decode cL_law 839 = .ok (.iadd, 1) := by decide +kernel
theorem dL_law_840 : decode cL_law 840 = .ok (.iaload, 1) := by decide +kernel
theorem dL_law_841 : decode cL_law 841 = .ok (.aload_n 0, 1) := by decide +kernel
theorem dL_law_842 : decode cL_law 842 = .ok (.iload_n 3, 1) := by decide +kernel
theorem dL_law_843 : decode cL_law 843 = .ok (.iconst 2, 1) := by decide +kernel
theorem dL_law_844 : decode cL_law 844 = .ok (.iadd, 1) := by decide +kernel
theorem dL_law_845 : decode cL_law 845 = .ok (.iaload, 1) := by decide +kernel
theorem dL_law_846 : decode cL_law 846 = .ok (.invokevirtual 78, 3) := by decide +kernel
theorem dL_law_849 : decode cL_law 849 = .ok (.aload_n 2, 1) := by decide +kernel
theorem dL_law_850 : decode cL_law 850 = .ok (.aload_n 0, 1) := by decide +kernel
theorem dL_law_851 : decode cL_law 851 = .ok (.iload_n 3, 1) := by decide +kernel
theorem dL_law_852 : decode cL_law 852 = .ok (.iconst 1, 1) := by decide +kernel
theorem dL_law_853 : decode cL_law 853 = .ok (.iadd, 1) := by decide +kernel
theorem dL_law_854 : decode cL_law 854 = .ok (.iaload, 1) := by decide +kernel
theorem dL_law_855 : decode cL_law 855 = .ok (.aload_n 0, 1) := by decide +kernel
theorem dL_law_856 : decode cL_law 856 = .ok (.iload_n 3, 1) := by decide +kernel
theorem dL_law_857 : decode cL_law 857 = .ok (.iconst 2, 1) := by decide +kernel
theorem dL_law_858 : decode cL_law 858 = .ok (.iadd, 1) := by decide +kernel
theorem dL_law_859 : decode cL_law 859 = .ok (.iaload, 1) := by decide +kernel
theorem dL_law_860 : decode cL_law 860 = .ok (.invokevirtual 81, 3) := by decide +kernel
theorem dL_law_863 : decode cL_law 863 = .ok (.if_icmp .eq 791, 3) := by decide +kernel
theorem dL_law_866 : decode cL_law 866 = .ok (.iconst 0, 1) := by decide +kernel
theorem dL_law_867 : decode cL_law 867 = .ok (.ireturn, 1) := by decide +kernel
theorem dL_law_868 : decode cL_law 868 = .ok (.aload_n 1, 1) := by decide +kernel
theorem dL_law_869 : decode cL_law 869 = .ok (.aload_n 0, 1) := by decide +kernel
theorem dL_law_870 : decode cL_law 870 = .ok (.iload_n 3, 1) := by decide +kernel
theorem dL_law_871 : decode cL_law 871 = .ok (.iconst 1, 1) := by decide +kernel
theorem dL_law_872 : decode cL_law 872 = .ok (.iadd, 1) := by decide +kernel
theorem dL_law_873 : decode cL_law 873 = .ok (.iaload, 1) := by decide +kernel
theorem dL_law_874 : decode cL_law 874 = .ok (.aload_n 0, 1) := by decide +kernel
theorem dL_law_875 : decode cL_law 875 = .ok (.iload_n 3, 1) := by decide +kernel
theorem dL_law_876 : decode cL_law 876 = .ok (.iconst 2, 1) := by decide +kernel
theorem dL_law_877 : decode cL_law 877 = .ok (.iadd, 1) := by decide +kernel
theorem dL_law_878 : decode cL_law 878 = .ok (.iaload, 1) := by decide +kernel
theorem dL_law_879 : decode cL_law 879 = .ok (.invokevirtual 82, 3) := by decide +kernel
theorem dL_law_882 : decode cL_law 882 = .ok (.aload_n 2, 1) := by decide +kernel
theorem dL_law_883 : decode cL_law 883 = .ok (.aload_n 0, 1) := by decide +kernel
theorem dL_law_884 : decode cL_law 884 = .ok (.iload_n 3, 1) := by decide +kernel
theorem dL_law_885 : decode cL_law 885 = .ok (.iconst 1, 1) := by decide +kernel
theorem dL_law_886 : decode cL_law 886 = .ok (.iadd, 1) := by decide +kernel
theorem dL_law_887 : decode cL_law 887 = .ok (.iaload, 1) := by decide +kernel
theorem dL_law_888 : decode cL_law 888 = .ok (.aload_n 0, 1) := by decide +kernel
theorem dL_law_889 : decode cL_law 889 = .ok (.iload_n 3, 1) := by decide +kernel
theorem dL_law_890 : decode cL_law 890 = .ok (.iconst 2, 1) := by decide +kernel
theorem dL_law_891 : decode cL_law 891 = .ok (.iadd, 1) := by decide +kernel
theorem dL_law_892 : decode cL_law 892 = .ok (.iaload, 1) := by decide +kernel
theorem dL_law_893 : decode cL_law 893 = .ok (.invokevirtual 85, 3) := by decide +kernel
theorem dL_law_896 : decode cL_law 896 = .ok (.if_icmp .eq 758, 3) := by decide +kernel
theorem dL_law_899 : decode cL_law 899 = .ok (.iconst 0, 1) := by decide +kernel
theorem dL_law_900 : decode cL_law 900 = .ok (.ireturn, 1) := by decide +kernel
theorem dL_law_901 : decode cL_law 901 = .ok (.aload_n 1, 1) := by decide +kernel
theorem dL_law_902 : decode cL_law 902 = .ok (.aload_n 0, 1) := by decide +kernel
theorem dL_law_903 : decode cL_law 903 = .ok (.iload_n 3, 1) := by decide +kernel
theorem dL_law_904 : decode cL_law 904 = .ok (.iconst 1, 1) := by decide +kernel
theorem dL_law_905 : decode cL_law 905 = .ok (.iadd, 1) := by decide +kernel
theorem dL_law_906 : decode cL_law 906 = .ok (.iaload, 1) := by decide +kernel
theorem dL_law_907 : decode cL_law 907 = .ok (.aload_n 0, 1) := by decide +kernel
theorem dL_law_908 : decode cL_law 908 = .ok (.iload_n 3, 1) := by decide +kernel
theorem dL_law_909 : decode cL_law 909 = .ok (.iconst 2, 1) := by decide +kernel
theorem dL_law_910 : decode cL_law 910 = .ok (.iadd, 1) := by decide +kernel
theorem dL_law_911 : decode cL_law 911 = .ok (.iaload, 1) := by decide +kernel
theorem dL_law_912 : decode cL_law 912 = .ok (.invokevirtual 86, 3) := by decide +kernel
theorem dL_law_915 : decode cL_law 915 = .ok (.aload_n 2, 1) := by decide +kernel
theorem dL_law_916 : decode cL_law 916 = .ok (.aload_n 0, 1) := by decide +kernel
theorem dL_law_917 : decode cL_law 917 = .ok (.iload_n 3, 1) := by decide +kernel
theorem dL_law_918 : decode cL_law 918 = .ok (.iconst 1, 1) := by decide +kernel
theorem dL_law_919 : decode cL_law 919 = .ok (.iadd, 1) := by decide +kernel
theorem dL_law_920 : decode cL_law 920 = .ok (.iaload, 1) := by decide +kernel
theorem dL_law_921 : decode cL_law 921 = .ok (.aload_n 0, 1) := by decide +kernel
theorem dL_law_922 : decode cL_law 922 = .ok (.iload_n 3, 1) := by decide +kernel
theorem dL_law_923 : decode cL_law 923 = .ok (.iconst 2, 1) := by decide +kernel
theorem dL_law_924 : decode cL_law 924 = .ok (.iadd, 1) := by decide +kernel
theorem dL_law_925 : decode cL_law 925 = .ok (.iaload, 1) := by decide +kernel
theorem dL_law_926 : decode cL_law 926 = .ok (.invokevirtual 89, 3) := by decide +kernel
theorem dL_law_929 : decode cL_law 929 = .ok (.if_icmp .eq 725, 3) := by decide +kernel
theorem dL_law_932 : decode cL_law 932 = .ok (.iconst 0, 1) := by decide +kernel
theorem dL_law_933 : decode cL_law 933 = .ok (.ireturn, 1) := by decide +kernel
theorem dL_law_934 : decode cL_law 934 = .ok (.aload_n 1, 1) := by decide +kernel
theorem dL_law_935 : decode cL_law 935 = .ok (.aload_n 0, 1) := by decide +kernel
theorem dL_law_936 : decode cL_law 936 = .ok (.iload_n 3, 1) := by decide +kernel
theorem dL_law_937 : decode cL_law 937 = .ok (.iconst 1, 1) := by decide +kernel
theorem dL_law_938 : decode cL_law 938 = .ok (.iadd, 1) := by decide +kernel
theorem dL_law_939 : decode cL_law 939 = .ok (.iaload, 1) := by decide +kernel
theorem dL_law_940 : decode cL_law 940 = .ok (.aload_n 0, 1) := by decide +kernel
theorem dL_law_941 : decode cL_law 941 = .ok (.iload_n 3, 1) := by decide +kernel
theorem dL_law_942 : decode cL_law 942 = .ok (.iconst 2, 1) := by decide +kernel
theorem dL_law_943 : decode cL_law 943 = .ok (.iadd, 1) := by decide +kernel
theorem dL_law_944 : decode cL_law 944 = .ok (.iaload, 1) := by decide +kernel
theorem dL_law_945 : decode cL_law 945 = .ok (.invokevirtual 90, 3) := by decide +kernel
theorem dL_law_948 : decode cL_law 948 = .ok (.aload_n 2, 1) := by decide +kernel
theorem dL_law_949 : decode cL_law 949 = .ok (.aload_n 0, 1) := by decide +kernel
theorem dL_law_950 : decode cL_law 950 = .ok (.iload_n 3, 1) := by decide +kernel
theorem dL_law_951 : decode cL_law 951 = .ok (.iconst 1, 1) := by decide +kernel
theorem dL_law_952 : decode cL_law 952 = .ok (.iadd, 1) := by decide +kernel
theorem dL_law_953 : decode cL_law 953 = .ok (.iaload, 1) := by decide +kernel
theorem dL_law_954 : decode cL_law 954 = .ok (.aload_n 0, 1) := by decide +kernel
theorem dL_law_955 : decode cL_law 955 = .ok (.iload_n 3, 1) := by decide +kernel
theorem dL_law_956 : decode cL_law 956 = .ok (.iconst 2, 1) := by decide +kernel
theorem dL_law_957 : decode cL_law 957 = .ok (.iadd, 1) := by decide +kernel
theorem dL_law_958 : decode cL_law 958 = .ok (.iaload, 1) := by decide +kernel
theorem dL_law_959 : decode cL_law 959 = .ok (.invokevirtual 93, 3) := by decide +kernel
theorem dL_law_962 : decode cL_law 962 = .ok (.if_icmp .eq 692, 3) := by decide +kernel
theorem dL_law_965 : decode cL_law 965 = .ok (.iconst 0, 1) := by decide +kernel
theorem dL_law_966 : decode cL_law 966 = .ok (.ireturn, 1) := by decide +kernel
theorem dL_law_967 : decode cL_law 967 = .ok (.aload_n 1, 1) := by decide +kernel
theorem dL_law_968 : decode cL_law 968 = .ok (.aload_n 0, 1) := by decide +kernel
theorem dL_law_969 : decode cL_law 969 = .ok (.iload_n 3, 1) := by decide +kernel
theorem dL_law_970 : decode cL_law 970 = .ok (.iconst 1, 1) := by decide +kernel
theorem dL_law_971 : decode cL_law 971 = .ok (.iadd, 1) := by decide +kernel
theorem dL_law_972 : decode cL_law 972 = .ok (.iaload, 1) := by decide +kernel
theorem dL_law_973 : decode cL_law 973 = .ok (.aload_n 0, 1) := by decide +kernel
theorem dL_law_974 : decode cL_law 974 = .ok (.iload_n 3, 1) := by decide +kernel
theorem dL_law_975 : decode cL_law 975 = .ok (.iconst 2, 1) := by decide +kernel
theorem dL_law_976 : decode cL_law 976 = .ok (.iadd, 1) := by decide +kernel
theorem dL_law_977 : decode cL_law 977 = .ok (.iaload, 1) := by decide +kernel
theorem dL_law_978 : decode cL_law 978 = .ok (.invokevirtual 94, 3) := by decide +kernel
theorem dL_law_981 : decode cL_law 981 = .ok (.aload_n 2, 1) := by decide +kernel
theorem dL_law_982 : decode cL_law 982 = .ok (.aload_n 0, 1) := by decide +kernel
theorem dL_law_983 : decode cL_law 983 = .ok (.iload_n 3, 1) := by decide +kernel
theorem dL_law_984 : decode cL_law 984 = .ok (.iconst 1, 1) := by decide +kernel
theorem dL_law_985 : decode cL_law 985 = .ok (.iadd, 1) := by decide +kernel
theorem dL_law_986 : decode cL_law 986 = .ok (.iaload, 1) := by decide +kernel
theorem dL_law_987 : decode cL_law 987 = .ok (.aload_n 0, 1) := by decide +kernel
theorem dL_law_988 : decode cL_law 988 = .ok (.iload_n 3, 1) := by decide +kernel
theorem dL_law_989 : decode cL_law 989 = .ok (.iconst 2, 1) := by decide +kernel
theorem dL_law_990 : decode cL_law 990 = .ok (.iadd, 1) := by decide +kernel
theorem dL_law_991 : decode cL_law 991 = .ok (.iaload, 1) := by decide +kernel
theorem dL_law_992 : decode cL_law 992 = .ok (.invokevirtual 97, 3) := by decide +kernel
theorem dL_law_995 : decode cL_law 995 = .ok (.if_icmp .eq 659, 3) := by decide +kernel
theorem dL_law_998 : decode cL_law 998 = .ok (.iconst 0, 1) := by decide +kernel
theorem dL_law_999 : decode cL_law 999 = .ok (.ireturn, 1) := by decide +kernel
theorem dL_law_1000 : decode cL_law 1000 = .ok (.aload_n 1, 1) := by decide +kernel
theorem dL_law_1001 : decode cL_law 1001 = .ok (.aload_n 0, 1) := by decide +kernel
theorem dL_law_1002 : decode cL_law 1002 = .ok (.iload_n 3, 1) := by decide +kernel
theorem dL_law_1003 : decode cL_law 1003 = .ok (.iconst 1, 1) := by decide +kernel
theorem dL_law_1004 : decode cL_law 1004 = .ok (.iadd, 1) := by decide +kernel
theorem dL_law_1005 : decode cL_law 1005 = .ok (.iaload, 1) := by decide +kernel
theorem dL_law_1006 : decode cL_law 1006 = .ok (.invokevirtual 98, 3) := by decide +kernel
theorem dL_law_1009 : decode cL_law 1009 = .ok (.aload_n 2, 1) := by decide +kernel
theorem dL_law_1010 : decode cL_law 1010 = .ok (.aload_n 0, 1) := by decide +kernel
theorem dL_law_1011 : decode cL_law 1011 = .ok (.iload_n 3, 1) := by decide +kernel
theorem dL_law_1012 : decode cL_law 1012 = .ok (.iconst 1, 1) := by decide +kernel
theorem dL_law_1013 : decode cL_law 1013 = .ok (.iadd, 1) := by decide +kernel
theorem dL_law_1014 : decode cL_law 1014 = .ok (.iaload, 1) := by decide +kernel
theorem dL_law_1015 : decode cL_law 1015 = .ok (.invokevirtual 101, 3) := by decide +kernel
theorem dL_law_1018 : decode cL_law 1018 = .ok (.if_icmp .eq 636, 3) := by decide +kernel
theorem dL_law_1021 : decode cL_law 1021 = .ok (.iconst 0, 1) := by decide +kernel
theorem dL_law_1022 : decode cL_law 1022 = .ok (.ireturn, 1) := by decide +kernel
theorem dL_law_1023 : decode cL_law 1023 = .ok (.aload_n 1, 1) := by decide +kernel
theorem dL_law_1024 : decode cL_law 1024 = .ok (.aload_n 0, 1) := by decide +kernel
theorem dL_law_1025 : decode cL_law 1025 = .ok (.iload_n 3, 1) := by decide +kernel
theorem dL_law_1026 : decode cL_law 1026 = .ok (.iconst 1, 1) := by decide +kernel
theorem dL_law_1027 : decode cL_law 1027 = .ok (.iadd, 1) := by decide +kernel
theorem dL_law_1028 : decode cL_law 1028 = .ok (.iaload, 1) := by decide +kernel
theorem dL_law_1029 : decode cL_law 1029 = .ok (.aload_n 0, 1) := by decide +kernel
theorem dL_law_1030 : decode cL_law 1030 = .ok (.iload_n 3, 1) := by decide +kernel
theorem dL_law_1031 : decode cL_law 1031 = .ok (.iconst 2, 1) := by decide +kernel
theorem dL_law_1032 : decode cL_law 1032 = .ok (.iadd, 1) := by decide +kernel
theorem dL_law_1033 : decode cL_law 1033 = .ok (.iaload, 1) := by decide +kernel
theorem dL_law_1034 : decode cL_law 1034 = .ok (.invokevirtual 102, 3) := by decide +kernel
theorem dL_law_1037 : decode cL_law 1037 = .ok (.aload_n 2, 1) := by decide +kernel
theorem dL_law_1038 : decode cL_law 1038 = .ok (.aload_n 0, 1) := by decide +kernel
theorem dL_law_1039 : decode cL_law 1039 = .ok (.iload_n 3, 1) := by decide +kernel
theorem dL_law_1040 : decode cL_law 1040 = .ok (.iconst 1, 1) := by decide +kernel
theorem dL_law_1041 : decode cL_law 1041 = .ok (.iadd, 1) := by decide +kernel
theorem dL_law_1042 : decode cL_law 1042 = .ok (.iaload, 1) := by decide +kernel
theorem dL_law_1043 : decode cL_law 1043 = .ok (.aload_n 0, 1) := by decide +kernel
theorem dL_law_1044 : decode cL_law 1044 = .ok (.iload_n 3, 1) := by decide +kernel
theorem dL_law_1045 : decode cL_law 1045 = .ok (.iconst 2, 1) := by decide +kernel
theorem dL_law_1046 : decode cL_law 1046 = .ok (.iadd, 1) := by decide +kernel
theorem dL_law_1047 : decode cL_law 1047 = .ok (.iaload, 1) := by decide +kernel
theorem dL_law_1048 : decode cL_law 1048 = .ok (.invokevirtual 105, 3) := by decide +kernel
theorem dL_law_1051 : decode cL_law 1051 = .ok (.if_icmp .eq 603, 3) := by decide +kernel
theorem dL_law_1054 : decode cL_law 1054 = .ok (.iconst 0, 1) := by decide +kernel
theorem dL_law_1055 : decode cL_law 1055 = .ok (.ireturn, 1) := by decide +kernel
theorem dL_law_1056 : decode cL_law 1056 = .ok (.aload_n 1, 1) := by decide +kernel
theorem dL_law_1057 : decode cL_law 1057 = .ok (.aload_n 0, 1) := by decide +kernel
theorem dL_law_1058 : decode cL_law 1058 = .ok (.iload_n 3, 1) := by decide +kernel
theorem dL_law_1059 : decode cL_law 1059 = .ok (.iconst 1, 1) := by decide +kernel
theorem dL_law_1060 : decode cL_law 1060 = .ok (.iadd, 1) := by decide +kernel
theorem dL_law_1061 : decode cL_law 1061 = .ok (.iaload, 1) := by decide +kernel
theorem dL_law_1062 : decode cL_law 1062 = .ok (.invokevirtual 106, 3) := by decide +kernel
theorem dL_law_1065 : decode cL_law 1065 = .ok (.aload_n 2, 1) := by decide +kernel
theorem dL_law_1066 : decode cL_law 1066 = .ok (.aload_n 0, 1) := by decide +kernel
theorem dL_law_1067 : decode cL_law 1067 = .ok (.iload_n 3, 1) := by decide +kernel
theorem dL_law_1068 : decode cL_law 1068 = .ok (.iconst 1, 1) := by decide +kernel
theorem dL_law_1069 : decode cL_law 1069 = .ok (.iadd, 1) := by decide +kernel
theorem dL_law_1070 : decode cL_law 1070 = .ok (.iaload, 1) := by decide +kernel
theorem dL_law_1071 : decode cL_law 1071 = .ok (.invokevirtual 109, 3) := by decide +kernel
theorem dL_law_1074 : decode cL_law 1074 = .ok (.if_icmp .eq 580, 3) := by decide +kernel
theorem dL_law_1077 : decode cL_law 1077 = .ok (.iconst 0, 1) := by decide +kernel
theorem dL_law_1078 : decode cL_law 1078 = .ok (.ireturn, 1) := by decide +kernel
theorem dL_law_1079 : decode cL_law 1079 = .ok (.aload_n 1, 1) := by decide +kernel
theorem dL_law_1080 : decode cL_law 1080 = .ok (.aload_n 0, 1) := by decide +kernel
theorem dL_law_1081 : decode cL_law 1081 = .ok (.iload_n 3, 1) := by decide +kernel
theorem dL_law_1082 : decode cL_law 1082 = .ok (.iconst 1, 1) := by decide +kernel
theorem dL_law_1083 : decode cL_law 1083 = .ok (.iadd, 1) := by decide +kernel
theorem dL_law_1084 : decode cL_law 1084 = .ok (.iaload, 1) := by decide +kernel
theorem dL_law_1085 : decode cL_law 1085 = .ok (.aload_n 0, 1) := by decide +kernel
theorem dL_law_1086 : decode cL_law 1086 = .ok (.iload_n 3, 1) := by decide +kernel
theorem dL_law_1087 : decode cL_law 1087 = .ok (.iconst 2, 1) := by decide +kernel
theorem dL_law_1088 : decode cL_law 1088 = .ok (.iadd, 1) := by decide +kernel
theorem dL_law_1089 : decode cL_law 1089 = .ok (.iaload, 1) := by decide +kernel
theorem dL_law_1090 : decode cL_law 1090 = .ok (.aload_n 0, 1) := by decide +kernel
theorem dL_law_1091 : decode cL_law 1091 = .ok (.iload_n 3, 1) := by decide +kernel
theorem dL_law_1092 : decode cL_law 1092 = .ok (.iconst 3, 1) := by decide +kernel
theorem dL_law_1093 : decode cL_law 1093 = .ok (.iadd, 1) := by decide +kernel
theorem dL_law_1094 : decode cL_law 1094 = .ok (.iaload, 1) := by decide +kernel
theorem dL_law_1095 : decode cL_law 1095 = .ok (.invokevirtual 110, 3) := by decide +kernel
theorem dL_law_1098 : decode cL_law 1098 = .ok (.aload_n 2, 1) := by decide +kernel
theorem dL_law_1099 : decode cL_law 1099 = .ok (.aload_n 0, 1) := by decide +kernel
theorem dL_law_1100 : decode cL_law 1100 = .ok (.iload_n 3, 1) := by decide +kernel
theorem dL_law_1101 : decode cL_law 1101 = .ok (.iconst 1, 1) := by decide +kernel
theorem dL_law_1102 : decode cL_law 1102 = .ok (.iadd, 1) := by decide +kernel
theorem dL_law_1103 : decode cL_law 1103 = .ok (.iaload, 1) := by decide +kernel
theorem dL_law_1104 : decode cL_law 1104 = .ok (.aload_n 0, 1) := by decide +kernel
theorem dL_law_1105 : decode cL_law 1105 = .ok (.iload_n 3, 1) := by decide +kernel
theorem dL_law_1106 : decode cL_law 1106 = .ok (.iconst 2, 1) := by decide +kernel
theorem dL_law_1107 : decode cL_law 1107 = .ok (.iadd, 1) := by decide +kernel
theorem dL_law_1108 : decode cL_law 1108 = .ok (.iaload, 1) := by decide +kernel
theorem dL_law_1109 : decode cL_law 1109 = .ok (.aload_n 0, 1) := by decide +kernel
theorem dL_law_1110 : decode cL_law 1110 = .ok (.iload_n 3, 1) := by decide +kernel
theorem dL_law_1111 : decode cL_law 1111 = .ok (.iconst 3, 1) := by decide +kernel
theorem dL_law_1112 : decode cL_law 1112 = .ok (.iadd, 1) := by decide +kernel
theorem dL_law_1113 : decode cL_law 1113 = .ok (.iaload, 1) := by decide +kernel
theorem dL_law_1114 : decode cL_law 1114 = .ok (.invokevirtual 113, 3) := by decide +kernel
theorem dL_law_1117 : decode cL_law 1117 = .ok (.if_icmp .eq 537, 3) := by decide +kernel
theorem dL_law_1120 : decode cL_law 1120 = .ok (.iconst 0, 1) := by decide +kernel
theorem dL_law_1121 : decode cL_law 1121 = .ok (.ireturn, 1) := by decide +kernel
theorem dL_law_1122 : decode cL_law 1122 = .ok (.aload_n 1, 1) := by decide +kernel
theorem dL_law_1123 : decode cL_law 1123 = .ok (.aload_n 0, 1) := by decide +kernel
theorem dL_law_1124 : decode cL_law 1124 = .ok (.iload_n 3, 1) := by decide +kernel
theorem dL_law_1125 : decode cL_law 1125 = .ok (.iconst 1, 1) := by decide +kernel
theorem dL_law_1126 : decode cL_law 1126 = .ok (.iadd, 1) := by decide +kernel
theorem dL_law_1127 : decode cL_law 1127 = .ok (.iaload, 1) := by decide +kernel
theorem dL_law_1128 : decode cL_law 1128 = .ok (.invokevirtual 114, 3) := by decide +kernel
theorem dL_law_1131 : decode cL_law 1131 = .ok (.aload_n 2, 1) := by decide +kernel
theorem dL_law_1132 : decode cL_law 1132 = .ok (.aload_n 0, 1) := by decide +kernel
theorem dL_law_1133 : decode cL_law 1133 = .ok (.iload_n 3, 1) := by decide +kernel
theorem dL_law_1134 : decode cL_law 1134 = .ok (.iconst 1, 1) := by decide +kernel
theorem dL_law_1135 : decode cL_law 1135 = .ok (.iadd, 1) := by decide +kernel
theorem dL_law_1136 : decode cL_law 1136 = .ok (.iaload, 1) := by decide +kernel
theorem dL_law_1137 : decode cL_law 1137 = .ok (.invokevirtual 117, 3) := by decide +kernel
theorem dL_law_1140 : decode cL_law 1140 = .ok (.if_icmp .eq 514, 3) := by decide +kernel
theorem dL_law_1143 : decode cL_law 1143 = .ok (.iconst 0, 1) := by decide +kernel
theorem dL_law_1144 : decode cL_law 1144 = .ok (.ireturn, 1) := by decide +kernel
theorem dL_law_1145 : decode cL_law 1145 = .ok (.aload_n 1, 1) := by decide +kernel
theorem dL_law_1146 : decode cL_law 1146 = .ok (.aload_n 0, 1) := by decide +kernel
theorem dL_law_1147 : decode cL_law 1147 = .ok (.iload_n 3, 1) := by decide +kernel
theorem dL_law_1148 : decode cL_law 1148 = .ok (.iconst 1, 1) := by decide +kernel
theorem dL_law_1149 : decode cL_law 1149 = .ok (.iadd, 1) := by decide +kernel
theorem dL_law_1150 : decode cL_law 1150 = .ok (.iaload, 1) := by decide +kernel
theorem dL_law_1151 : decode cL_law 1151 = .ok (.invokevirtual 118, 3) := by decide +kernel
theorem dL_law_1154 : decode cL_law 1154 = .ok (.aload_n 2, 1) := by decide +kernel
theorem dL_law_1155 : decode cL_law 1155 = .ok (.aload_n 0, 1) := by decide +kernel
theorem dL_law_1156 : decode cL_law 1156 = .ok (.iload_n 3, 1) := by decide +kernel
theorem dL_law_1157 : decode cL_law 1157 = .ok (.iconst 1, 1) := by decide +kernel
theorem dL_law_1158 : decode cL_law 1158 = .ok (.iadd, 1) := by decide +kernel
theorem dL_law_1159 : decode cL_law 1159 = .ok (.iaload, 1) := by decide +kernel
theorem dL_law_1160 : decode cL_law 1160 = .ok (.invokevirtual 121, 3) := by decide +kernel
theorem dL_law_1163 : decode cL_law 1163 = .ok (.if_icmp .eq 491, 3) := by decide +kernel
theorem dL_law_1166 : decode cL_law 1166 = .ok (.iconst 0, 1) := by decide +kernel
theorem dL_law_1167 : decode cL_law 1167 = .ok (.ireturn, 1) := by decide +kernel
theorem dL_law_1168 : decode cL_law 1168 = .ok (.aload_n 1, 1) := by decide +kernel
theorem dL_law_1169 : decode cL_law 1169 = .ok (.aload_n 0, 1) := by decide +kernel
theorem dL_law_1170 : decode cL_law 1170 = .ok (.iload_n 3, 1) := by decide +kernel
theorem dL_law_1171 : decode cL_law 1171 = .ok (.iconst 1, 1) := by decide +kernel
theorem dL_law_1172 : decode cL_law 1172 = .ok (.iadd, 1) := by decide +kernel
theorem dL_law_1173 : decode cL_law 1173 = .ok (.iaload, 1) := by decide +kernel
theorem dL_law_1174 : decode cL_law 1174 = .ok (.invokevirtual 122, 3) := by decide +kernel
theorem dL_law_1177 : decode cL_law 1177 = .ok (.aload_n 2, 1) := by decide +kernel
theorem dL_law_1178 : decode cL_law 1178 = .ok (.aload_n 0, 1) := by decide +kernel
theorem dL_law_1179 : decode cL_law 1179 = .ok (.iload_n 3, 1) := by decide +kernel
theorem dL_law_1180 : decode cL_law 1180 = .ok (.iconst 1, 1) := by decide +kernel
theorem dL_law_1181 : decode cL_law 1181 = .ok (.iadd, 1) := by decide +kernel
theorem dL_law_1182 : decode cL_law 1182 = .ok (.iaload, 1) := by decide +kernel
theorem dL_law_1183 : decode cL_law 1183 = .ok (.invokevirtual 125, 3) := by decide +kernel
theorem dL_law_1186 : decode cL_law 1186 = .ok (.if_icmp .eq 468, 3) := by decide +kernel
theorem dL_law_1189 : decode cL_law 1189 = .ok (.iconst 0, 1) := by decide +kernel
theorem dL_law_1190 : decode cL_law 1190 = .ok (.ireturn, 1) := by decide +kernel
theorem dL_law_1191 : decode cL_law 1191 = .ok (.aload_n 1, 1) := by decide +kernel
theorem dL_law_1192 : decode cL_law 1192 = .ok (.aload_n 0, 1) := by decide +kernel
theorem dL_law_1193 : decode cL_law 1193 = .ok (.iload_n 3, 1) := by decide +kernel
theorem dL_law_1194 : decode cL_law 1194 = .ok (.iconst 1, 1) := by decide +kernel
theorem dL_law_1195 : decode cL_law 1195 = .ok (.iadd, 1) := by decide +kernel
theorem dL_law_1196 : decode cL_law 1196 = .ok (.iaload, 1) := by decide +kernel
theorem dL_law_1197 : decode cL_law 1197 = .ok (.invokevirtual 126, 3) := by decide +kernel
theorem dL_law_1200 : decode cL_law 1200 = .ok (.aload_n 2, 1) := by decide +kernel
theorem dL_law_1201 : decode cL_law 1201 = .ok (.aload_n 0, 1) := by decide +kernel
theorem dL_law_1202 : decode cL_law 1202 = .ok (.iload_n 3, 1) := by decide +kernel
theorem dL_law_1203 : decode cL_law 1203 = .ok (.iconst 1, 1) := by decide +kernel
theorem dL_law_1204 : decode cL_law 1204 = .ok (.iadd, 1) := by decide +kernel
theorem dL_law_1205 : decode cL_law 1205 = .ok (.iaload, 1) := by decide +kernel
theorem dL_law_1206 : decode cL_law 1206 = .ok (.invokevirtual 129, 3) := by decide +kernel
theorem dL_law_1209 : decode cL_law 1209 = .ok (.if_icmp .eq 445, 3) := by decide +kernel
theorem dL_law_1212 : decode cL_law 1212 = .ok (.iconst 0, 1) := by decide +kernel
theorem dL_law_1213 : decode cL_law 1213 = .ok (.ireturn, 1) := by decide +kernel
theorem dL_law_1214 : decode cL_law 1214 = .ok (.aload_n 1, 1) := by decide +kernel
theorem dL_law_1215 : decode cL_law 1215 = .ok (.aload_n 0, 1) := by decide +kernel
theorem dL_law_1216 : decode cL_law 1216 = .ok (.iload_n 3, 1) := by decide +kernel
theorem dL_law_1217 : decode cL_law 1217 = .ok (.iconst 1, 1) := by decide +kernel
theorem dL_law_1218 : decode cL_law 1218 = .ok (.iadd, 1) := by decide +kernel
theorem dL_law_1219 : decode cL_law 1219 = .ok (.iaload, 1) := by decide +kernel
theorem dL_law_1220 : decode cL_law 1220 = .ok (.invokevirtual 130, 3) := by decide +kernel
theorem dL_law_1223 : decode cL_law 1223 = .ok (.aload_n 2, 1) := by decide +kernel
theorem dL_law_1224 : decode cL_law 1224 = .ok (.aload_n 0, 1) := by decide +kernel
theorem dL_law_1225 : decode cL_law 1225 = .ok (.iload_n 3, 1) := by decide +kernel
theorem dL_law_1226 : decode cL_law 1226 = .ok (.iconst 1, 1) := by decide +kernel
theorem dL_law_1227 : decode cL_law 1227 = .ok (.iadd, 1) := by decide +kernel
theorem dL_law_1228 : decode cL_law 1228 = .ok (.iaload, 1) := by decide +kernel
theorem dL_law_1229 : decode cL_law 1229 = .ok (.invokevirtual 133, 3) := by decide +kernel
theorem dL_law_1232 : decode cL_law 1232 = .ok (.if_icmp .eq 422, 3) := by decide +kernel
theorem dL_law_1235 : decode cL_law 1235 = .ok (.iconst 0, 1) := by decide +kernel
theorem dL_law_1236 : decode cL_law 1236 = .ok (.ireturn, 1) := by decide +kernel
theorem dL_law_1237 : decode cL_law 1237 = .ok (.aload_n 1, 1) := by decide +kernel
theorem dL_law_1238 : decode cL_law 1238 = .ok (.aload_n 0, 1) := by decide +kernel
theorem dL_law_1239 : decode cL_law 1239 = .ok (.iload_n 3, 1) := by decide +kernel
theorem dL_law_1240 : decode cL_law 1240 = .ok (.iconst 1, 1) := by decide +kernel
theorem dL_law_1241 : decode cL_law 1241 = .ok (.iadd, 1) := by decide +kernel
theorem dL_law_1242 : decode cL_law 1242 = .ok (.iaload, 1) := by decide +kernel
theorem dL_law_1243 : decode cL_law 1243 = .ok (.invokevirtual 134, 3) := by decide +kernel
theorem dL_law_1246 : decode cL_law 1246 = .ok (.aload_n 2, 1) := by decide +kernel
theorem dL_law_1247 : decode cL_law 1247 = .ok (.aload_n 0, 1) := by decide +kernel
theorem dL_law_1248 : decode cL_law 1248 = .ok (.iload_n 3, 1) := by decide +kernel
theorem dL_law_1249 : decode cL_law 1249 = .ok (.iconst 1, 1) := by decide +kernel
theorem dL_law_1250 : decode cL_law 1250 = .ok (.iadd, 1) := by decide +kernel
theorem dL_law_1251 : decode cL_law 1251 = .ok (.iaload, 1) := by decide +kernel
theorem dL_law_1252 : decode cL_law 1252 = .ok (.invokevirtual 137, 3) := by decide +kernel
theorem dL_law_1255 : decode cL_law 1255 = .ok (.if_icmp .eq 399, 3) := by decide +kernel
theorem dL_law_1258 : decode cL_law 1258 = .ok (.iconst 0, 1) := by decide +kernel
theorem dL_law_1259 : decode cL_law 1259 = .ok (.ireturn, 1) := by decide +kernel
theorem dL_law_1260 : decode cL_law 1260 = .ok (.aload_n 1, 1) := by decide +kernel
theorem dL_law_1261 : decode cL_law 1261 = .ok (.aload_n 0, 1) := by decide +kernel
theorem dL_law_1262 : decode cL_law 1262 = .ok (.iload_n 3, 1) := by decide +kernel
theorem dL_law_1263 : decode cL_law 1263 = .ok (.iconst 1, 1) := by decide +kernel
theorem dL_law_1264 : decode cL_law 1264 = .ok (.iadd, 1) := by decide +kernel
theorem dL_law_1265 : decode cL_law 1265 = .ok (.iaload, 1) := by decide +kernel
theorem dL_law_1266 : decode cL_law 1266 = .ok (.invokevirtual 138, 3) := by decide +kernel
theorem dL_law_1269 : decode cL_law 1269 = .ok (.aload_n 2, 1) := by decide +kernel
theorem dL_law_1270 : decode cL_law 1270 = .ok (.aload_n 0, 1) := by decide +kernel
theorem dL_law_1271 : decode cL_law 1271 = .ok (.iload_n 3, 1) := by decide +kernel
theorem dL_law_1272 : decode cL_law 1272 = .ok (.iconst 1, 1) := by decide +kernel
theorem dL_law_1273 : decode cL_law 1273 = .ok (.iadd, 1) := by decide +kernel
theorem dL_law_1274 : decode cL_law 1274 = .ok (.iaload, 1) := by decide +kernel
theorem dL_law_1275 : decode cL_law 1275 = .ok (.invokevirtual 141, 3) := by decide +kernel
theorem dL_law_1278 : decode cL_law 1278 = .ok (.if_icmp .eq 376, 3) := by decide +kernel
theorem dL_law_1281 : decode cL_law 1281 = .ok (.iconst 0, 1) := by decide +kernel
theorem dL_law_1282 : decode cL_law 1282 = .ok (.ireturn, 1) := by decide +kernel
theorem dL_law_1283 : decode cL_law 1283 = .ok (.aload_n 1, 1) := by decide +kernel
theorem dL_law_1284 : decode cL_law 1284 = .ok (.invokevirtual 142, 3) := by decide +kernel
theorem dL_law_1287 : decode cL_law 1287 = .ok (.aload_n 2, 1) := by decide +kernel
theorem dL_law_1288 : decode cL_law 1288 = .ok (.invokevirtual 146, 3) := by decide +kernel
theorem dL_law_1291 : decode cL_law 1291 = .ok (.if_icmp .eq 363, 3) := by decide +kernel
theorem dL_law_1294 : decode cL_law 1294 = .ok (.iconst 0, 1) := by decide +kernel
theorem dL_law_1295 : decode cL_law 1295 = .ok (.ireturn, 1) := by decide +kernel
theorem dL_law_1296 : decode cL_law 1296 = .ok (.aload_n 1, 1) := by decide +kernel
theorem dL_law_1297 : decode cL_law 1297 = .ok (.aload_n 0, 1) := by decide +kernel
theorem dL_law_1298 : decode cL_law 1298 = .ok (.iload_n 3, 1) := by decide +kernel
theorem dL_law_1299 : decode cL_law 1299 = .ok (.iconst 1, 1) := by decide +kernel
theorem dL_law_1300 : decode cL_law 1300 = .ok (.iadd, 1) := by decide +kernel
theorem dL_law_1301 : decode cL_law 1301 = .ok (.iaload, 1) := by decide +kernel
theorem dL_law_1302 : decode cL_law 1302 = .ok (.aload_n 0, 1) := by decide +kernel
theorem dL_law_1303 : decode cL_law 1303 = .ok (.iload_n 3, 1) := by decide +kernel
theorem dL_law_1304 : decode cL_law 1304 = .ok (.iconst 2, 1) := by decide +kernel
theorem dL_law_1305 : decode cL_law 1305 = .ok (.iadd, 1) := by decide +kernel
theorem dL_law_1306 : decode cL_law 1306 = .ok (.iaload, 1) := by decide +kernel
theorem dL_law_1307 : decode cL_law 1307 = .ok (.aload_n 0, 1) := by decide +kernel
theorem dL_law_1308 : decode cL_law 1308 = .ok (.iload_n 3, 1) := by decide +kernel
theorem dL_law_1309 : decode cL_law 1309 = .ok (.iconst 3, 1) := by decide +kernel
theorem dL_law_1310 : decode cL_law 1310 = .ok (.iadd, 1) := by decide +kernel
theorem dL_law_1311 : decode cL_law 1311 = .ok (.iaload, 1) := by decide +kernel
theorem dL_law_1312 : decode cL_law 1312 = .ok (.aload_n 0, 1) := by decide +kernel
theorem dL_law_1313 : decode cL_law 1313 = .ok (.iload_n 3, 1) := by decide +kernel
theorem dL_law_1314 : decode cL_law 1314 = .ok (.iconst 4, 1) := by decide +kernel
theorem dL_law_1315 : decode cL_law 1315 = .ok (.iadd, 1) := by decide +kernel
theorem dL_law_1316 : decode cL_law 1316 = .ok (.iaload, 1) := by decide +kernel
theorem dL_law_1317 : decode cL_law 1317 = .ok (.invokevirtual 147, 3) := by decide +kernel
theorem dL_law_1320 : decode cL_law 1320 = .ok (.aload_n 2, 1) := by decide +kernel
theorem dL_law_1321 : decode cL_law 1321 = .ok (.aload_n 0, 1) := by decide +kernel
theorem dL_law_1322 : decode cL_law 1322 = .ok (.iload_n 3, 1) := by decide +kernel
theorem dL_law_1323 : decode cL_law 1323 = .ok (.iconst 1, 1) := by decide +kernel
theorem dL_law_1324 : decode cL_law 1324 = .ok (.iadd, 1) := by decide +kernel
theorem dL_law_1325 : decode cL_law 1325 = .ok (.iaload, 1) := by decide +kernel
theorem dL_law_1326 : decode cL_law 1326 = .ok (.aload_n 0, 1) := by decide +kernel
theorem dL_law_1327 : decode cL_law 1327 = .ok (.iload_n 3, 1) := by decide +kernel
theorem dL_law_1328 : decode cL_law 1328 = .ok (.iconst 2, 1) := by decide +kernel
theorem dL_law_1329 : decode cL_law 1329 = .ok (.iadd, 1) := by decide +kernel
theorem dL_law_1330 : decode cL_law 1330 = .ok (.iaload, 1) := by decide +kernel
theorem dL_law_1331 : decode cL_law 1331 = .ok (.aload_n 0, 1) := by decide +kernel
theorem dL_law_1332 : decode cL_law 1332 = .ok (.iload_n 3, 1) := by decide +kernel
theorem dL_law_1333 : decode cL_law 1333 = .ok (.iconst 3, 1) := by decide +kernel
theorem dL_law_1334 : decode cL_law 1334 = .ok (.iadd, 1) := by decide +kernel
theorem dL_law_1335 : decode cL_law 1335 = .ok (.iaload, 1) := by decide +kernel
theorem dL_law_1336 : decode cL_law 1336 = .ok (.aload_n 0, 1) := by decide +kernel
theorem dL_law_1337 : decode cL_law 1337 = .ok (.iload_n 3, 1) := by decide +kernel
theorem dL_law_1338 : decode cL_law 1338 = .ok (.iconst 4, 1) := by decide +kernel
theorem dL_law_1339 : decode cL_law 1339 = .ok (.iadd, 1) := by decide +kernel
theorem dL_law_1340 : decode cL_law 1340 = .ok (.iaload, 1) := by decide +kernel
theorem dL_law_1341 : decode cL_law 1341 = .ok (.invokevirtual 150, 3) := by decide +kernel
theorem dL_law_1344 : decode cL_law 1344 = .ok (.if_icmp .eq 310, 3) := by decide +kernel
theorem dL_law_1347 : decode cL_law 1347 = .ok (.iconst 0, 1) := by decide +kernel
theorem dL_law_1348 : decode cL_law 1348 = .ok (.ireturn, 1) := by decide +kernel
theorem dL_law_1349 : decode cL_law 1349 = .ok (.aload_n 1, 1) := by decide +kernel
theorem dL_law_1350 : decode cL_law 1350 = .ok (.aload_n 0, 1) := by decide +kernel
theorem dL_law_1351 : decode cL_law 1351 = .ok (.iload_n 3, 1) := by decide +kernel
theorem dL_law_1352 : decode cL_law 1352 = .ok (.iconst 1, 1) := by decide +kernel
theorem dL_law_1353 : decode cL_law 1353 = .ok (.iadd, 1) := by decide +kernel
theorem dL_law_1354 : decode cL_law 1354 = .ok (.iaload, 1) := by decide +kernel
theorem dL_law_1355 : decode cL_law 1355 = .ok (.aload_n 0, 1) := by decide +kernel
theorem dL_law_1356 : decode cL_law 1356 = .ok (.iload_n 3, 1) := by decide +kernel
theorem dL_law_1357 : decode cL_law 1357 = .ok (.iconst 2, 1) := by decide +kernel
theorem dL_law_1358 : decode cL_law 1358 = .ok (.iadd, 1) := by decide +kernel
theorem dL_law_1359 : decode cL_law 1359 = .ok (.iaload, 1) := by decide +kernel
theorem dL_law_1360 : decode cL_law 1360 = .ok (.invokevirtual 151, 3) := by decide +kernel
theorem dL_law_1363 : decode cL_law 1363 = .ok (.aload_n 2, 1) := by decide +kernel
theorem dL_law_1364 : decode cL_law 1364 = .ok (.aload_n 0, 1) := by decide +kernel
theorem dL_law_1365 : decode cL_law 1365 = .ok (.iload_n 3, 1) := by decide +kernel
theorem dL_law_1366 : decode cL_law 1366 = .ok (.iconst 1, 1) := by decide +kernel
theorem dL_law_1367 : decode cL_law 1367 = .ok (.iadd, 1) := by decide +kernel
theorem dL_law_1368 : decode cL_law 1368 = .ok (.iaload, 1) := by decide +kernel
theorem dL_law_1369 : decode cL_law 1369 = .ok (.aload_n 0, 1) := by decide +kernel
theorem dL_law_1370 : decode cL_law 1370 = .ok (.iload_n 3, 1) := by decide +kernel
theorem dL_law_1371 : decode cL_law 1371 = .ok (.iconst 2, 1) := by decide +kernel
theorem dL_law_1372 : decode cL_law 1372 = .ok (.iadd, 1) := by decide +kernel
theorem dL_law_1373 : decode cL_law 1373 = .ok (.iaload, 1) := by decide +kernel
theorem dL_law_1374 : decode cL_law 1374 = .ok (.invokevirtual 154, 3) := by decide +kernel
theorem dL_law_1377 : decode cL_law 1377 = .ok (.if_icmp .eq 277, 3) := by decide +kernel
theorem dL_law_1380 : decode cL_law 1380 = .ok (.iconst 0, 1) := by decide +kernel
theorem dL_law_1381 : decode cL_law 1381 = .ok (.ireturn, 1) := by decide +kernel
theorem dL_law_1382 : decode cL_law 1382 = .ok (.aload_n 1, 1) := by decide +kernel
theorem dL_law_1383 : decode cL_law 1383 = .ok (.aload_n 0, 1) := by decide +kernel
theorem dL_law_1384 : decode cL_law 1384 = .ok (.iload_n 3, 1) := by decide +kernel
theorem dL_law_1385 : decode cL_law 1385 = .ok (.iconst 1, 1) := by decide +kernel
theorem dL_law_1386 : decode cL_law 1386 = .ok (.iadd, 1) := by decide +kernel
theorem dL_law_1387 : decode cL_law 1387 = .ok (.iaload, 1) := by decide +kernel
theorem dL_law_1388 : decode cL_law 1388 = .ok (.aload_n 0, 1) := by decide +kernel
theorem dL_law_1389 : decode cL_law 1389 = .ok (.iload_n 3, 1) := by decide +kernel
theorem dL_law_1390 : decode cL_law 1390 = .ok (.iconst 2, 1) := by decide +kernel
theorem dL_law_1391 : decode cL_law 1391 = .ok (.iadd, 1) := by decide +kernel
theorem dL_law_1392 : decode cL_law 1392 = .ok (.iaload, 1) := by decide +kernel
theorem dL_law_1393 : decode cL_law 1393 = .ok (.aload_n 0, 1) := by decide +kernel
theorem dL_law_1394 : decode cL_law 1394 = .ok (.iload_n 3, 1) := by decide +kernel
theorem dL_law_1395 : decode cL_law 1395 = .ok (.iconst 3, 1) := by decide +kernel
theorem dL_law_1396 : decode cL_law 1396 = .ok (.iadd, 1) := by decide +kernel
theorem dL_law_1397 : decode cL_law 1397 = .ok (.iaload, 1) := by decide +kernel
theorem dL_law_1398 : decode cL_law 1398 = .ok (.invokevirtual 155, 3) := by decide +kernel
theorem dL_law_1401 : decode cL_law 1401 = .ok (.aload_n 2, 1) := by decide +kernel
theorem dL_law_1402 : decode cL_law 1402 = .ok (.aload_n 0, 1) := by decide +kernel
theorem dL_law_1403 : decode cL_law 1403 = .ok (.iload_n 3, 1) := by decide +kernel
theorem dL_law_1404 : decode cL_law 1404 = .ok (.iconst 1, 1) := by decide +kernel
theorem dL_law_1405 : decode cL_law 1405 = .ok (.iadd, 1) := by decide +kernel
theorem dL_law_1406 : decode cL_law 1406 = .ok (.iaload, 1) := by decide +kernel
theorem dL_law_1407 : decode cL_law 1407 = .ok (.aload_n 0, 1) := by decide +kernel
theorem dL_law_1408 : decode cL_law 1408 = .ok (.iload_n 3, 1) := by decide +kernel
theorem dL_law_1409 : decode cL_law 1409 = .ok (.iconst 2, 1) := by decide +kernel
theorem dL_law_1410 : decode cL_law 1410 = .ok (.iadd, 1) := by decide +kernel
theorem dL_law_1411 : decode cL_law 1411 = .ok (.iaload, 1) := by decide +kernel
theorem dL_law_1412 : decode cL_law 1412 = .ok (.aload_n 0, 1) := by decide +kernel
theorem dL_law_1413 : decode cL_law 1413 = .ok (.iload_n 3, 1) := by decide +kernel
theorem dL_law_1414 : decode cL_law 1414 = .ok (.iconst 3, 1) := by decide +kernel
theorem dL_law_1415 : decode cL_law 1415 = .ok (.iadd, 1) := by decide +kernel
theorem dL_law_1416 : decode cL_law 1416 = .ok (.iaload, 1) := by decide +kernel
theorem dL_law_1417 : decode cL_law 1417 = .ok (.invokevirtual 158, 3) := by decide +kernel
theorem dL_law_1420 : decode cL_law 1420 = .ok (.if_icmp .eq 234, 3) := by decide +kernel
theorem dL_law_1423 : decode cL_law 1423 = .ok (.iconst 0, 1) := by decide +kernel
theorem dL_law_1424 : decode cL_law 1424 = .ok (.ireturn, 1) := by decide +kernel
theorem dL_law_1425 : decode cL_law 1425 = .ok (.aload_n 1, 1) := by decide +kernel
theorem dL_law_1426 : decode cL_law 1426 = .ok (.aload_n 0, 1) := by decide +kernel
theorem dL_law_1427 : decode cL_law 1427 = .ok (.iload_n 3, 1) := by decide +kernel
theorem dL_law_1428 : decode cL_law 1428 = .ok (.iconst 1, 1) := by decide +kernel
theorem dL_law_1429 : decode cL_law 1429 = .ok (.iadd, 1) := by decide +kernel
theorem dL_law_1430 : decode cL_law 1430 = .ok (.iaload, 1) := by decide +kernel
theorem dL_law_1431 : decode cL_law 1431 = .ok (.aload_n 0, 1) := by decide +kernel
theorem dL_law_1432 : decode cL_law 1432 = .ok (.iload_n 3, 1) := by decide +kernel
theorem dL_law_1433 : decode cL_law 1433 = .ok (.iconst 2, 1) := by decide +kernel
theorem dL_law_1434 : decode cL_law 1434 = .ok (.iadd, 1) := by decide +kernel
theorem dL_law_1435 : decode cL_law 1435 = .ok (.iaload, 1) := by decide +kernel
theorem dL_law_1436 : decode cL_law 1436 = .ok (.invokevirtual 159, 3) := by decide +kernel
theorem dL_law_1439 : decode cL_law 1439 = .ok (.aload_n 2, 1) := by decide +kernel
theorem dL_law_1440 : decode cL_law 1440 = .ok (.aload_n 0, 1) := by decide +kernel
theorem dL_law_1441 : decode cL_law 1441 = .ok (.iload_n 3, 1) := by decide +kernel
theorem dL_law_1442 : decode cL_law 1442 = .ok (.iconst 1, 1) := by decide +kernel
theorem dL_law_1443 : decode cL_law 1443 = .ok (.iadd, 1) := by decide +kernel
theorem dL_law_1444 : decode cL_law 1444 = .ok (.iaload, 1) := by decide +kernel
theorem dL_law_1445 : decode cL_law 1445 = .ok (.aload_n 0, 1) := by decide +kernel
theorem dL_law_1446 : decode cL_law 1446 = .ok (.iload_n 3, 1) := by decide +kernel
theorem dL_law_1447 : decode cL_law 1447 = .ok (.iconst 2, 1) := by decide +kernel
theorem dL_law_1448 : decode cL_law 1448 = .ok (.iadd, 1) := by decide +kernel
theorem dL_law_1449 : decode cL_law 1449 = .ok (.iaload, 1) := by decide +kernel
theorem dL_law_1450 : decode cL_law 1450 = .ok (.invokevirtual 162, 3) := by decide +kernel
theorem dL_law_1453 : decode cL_law 1453 = .ok (.if_icmp .eq 201, 3) := by decide +kernel
theorem dL_law_1456 : decode cL_law 1456 = .ok (.iconst 0, 1) := by decide +kernel
theorem dL_law_1457 : decode cL_law 1457 = .ok (.ireturn, 1) := by decide +kernel
theorem dL_law_1458 : decode cL_law 1458 = .ok (.aload_n 1, 1) := by decide +kernel
theorem dL_law_1459 : decode cL_law 1459 = .ok (.aload_n 0, 1) := by decide +kernel
theorem dL_law_1460 : decode cL_law 1460 = .ok (.iload_n 3, 1) := by decide +kernel
theorem dL_law_1461 : decode cL_law 1461 = .ok (.iconst 1, 1) := by decide +kernel
theorem dL_law_1462 : decode cL_law 1462 = .ok (.iadd, 1) := by decide +kernel
theorem dL_law_1463 : decode cL_law 1463 = .ok (.iaload, 1) := by decide +kernel
theorem dL_law_1464 : decode cL_law 1464 = .ok (.invokevirtual 163, 3) := by decide +kernel
theorem dL_law_1467 : decode cL_law 1467 = .ok (.aload_n 2, 1) := by decide +kernel
theorem dL_law_1468 : decode cL_law 1468 = .ok (.aload_n 0, 1) := by decide +kernel
theorem dL_law_1469 : decode cL_law 1469 = .ok (.iload_n 3, 1) := by decide +kernel
theorem dL_law_1470 : decode cL_law 1470 = .ok (.iconst 1, 1) := by decide +kernel
theorem dL_law_1471 : decode cL_law 1471 = .ok (.iadd, 1) := by decide +kernel
theorem dL_law_1472 : decode cL_law 1472 = .ok (.iaload, 1) := by decide +kernel
theorem dL_law_1473 : decode cL_law 1473 = .ok (.invokevirtual 166, 3) := by decide +kernel
theorem dL_law_1476 : decode cL_law 1476 = .ok (.if_icmp .eq 178, 3) := by decide +kernel
theorem dL_law_1479 : decode cL_law 1479 = .ok (.iconst 0, 1) := by decide +kernel
theorem dL_law_1480 : decode cL_law 1480 = .ok (.ireturn, 1) := by decide +kernel
theorem dL_law_1481 : decode cL_law 1481 = .ok (.aload_n 1, 1) := by decide +kernel
theorem dL_law_1482 : decode cL_law 1482 = .ok (.invokevirtual 167, 3) := by decide +kernel
theorem dL_law_1485 : decode cL_law 1485 = .ok (.aload_n 2, 1) := by decide +kernel
theorem dL_law_1486 : decode cL_law 1486 = .ok (.invokevirtual 170, 3) := by decide +kernel
theorem dL_law_1489 : decode cL_law 1489 = .ok (.if_icmp .eq 165, 3) := by decide +kernel
theorem dL_law_1492 : decode cL_law 1492 = .ok (.iconst 0, 1) := by decide +kernel
theorem dL_law_1493 : decode cL_law 1493 = .ok (.ireturn, 1) := by decide +kernel
theorem dL_law_1494 : decode cL_law 1494 = .ok (.aload_n 1, 1) := by decide +kernel
theorem dL_law_1495 : decode cL_law 1495 = .ok (.aload_n 0, 1) := by decide +kernel
theorem dL_law_1496 : decode cL_law 1496 = .ok (.iload_n 3, 1) := by decide +kernel
theorem dL_law_1497 : decode cL_law 1497 = .ok (.iconst 1, 1) := by decide +kernel
theorem dL_law_1498 : decode cL_law 1498 = .ok (.iadd, 1) := by decide +kernel
theorem dL_law_1499 : decode cL_law 1499 = .ok (.iaload, 1) := by decide +kernel
theorem dL_law_1500 : decode cL_law 1500 = .ok (.invokevirtual 171, 3) := by decide +kernel
theorem dL_law_1503 : decode cL_law 1503 = .ok (.aload_n 2, 1) := by decide +kernel
theorem dL_law_1504 : decode cL_law 1504 = .ok (.aload_n 0, 1) := by decide +kernel
theorem dL_law_1505 : decode cL_law 1505 = .ok (.iload_n 3, 1) := by decide +kernel
theorem dL_law_1506 : decode cL_law 1506 = .ok (.iconst 1, 1) := by decide +kernel
theorem dL_law_1507 : decode cL_law 1507 = .ok (.iadd, 1) := by decide +kernel
theorem dL_law_1508 : decode cL_law 1508 = .ok (.iaload, 1) := by decide +kernel
theorem dL_law_1509 : decode cL_law 1509 = .ok (.invokevirtual 174, 3) := by decide +kernel
theorem dL_law_1512 : decode cL_law 1512 = .ok (.if_icmp .eq 142, 3) := by decide +kernel
theorem dL_law_1515 : decode cL_law 1515 = .ok (.iconst 0, 1) := by decide +kernel
theorem dL_law_1516 : decode cL_law 1516 = .ok (.ireturn, 1) := by decide +kernel
theorem dL_law_1517 : decode cL_law 1517 = .ok (.aload_n 1, 1) := by decide +kernel
theorem dL_law_1518 : decode cL_law 1518 = .ok (.invokevirtual 175, 3) := by decide +kernel
theorem dL_law_1521 : decode cL_law 1521 = .ok (.aload_n 2, 1) := by decide +kernel
theorem dL_law_1522 : decode cL_law 1522 = .ok (.invokevirtual 178, 3) := by decide +kernel
theorem dL_law_1525 : decode cL_law 1525 = .ok (.if_icmp .eq 129, 3) := by decide +kernel
theorem dL_law_1528 : decode cL_law 1528 = .ok (.iconst 0, 1) := by decide +kernel
theorem dL_law_1529 : decode cL_law 1529 = .ok (.ireturn, 1) := by decide +kernel
theorem dL_law_1530 : decode cL_law 1530 = .ok (.aload_n 1, 1) := by decide +kernel
theorem dL_law_1531 : decode cL_law 1531 = .ok (.aload_n 0, 1) := by decide +kernel
theorem dL_law_1532 : decode cL_law 1532 = .ok (.iload_n 3, 1) := by decide +kernel
theorem dL_law_1533 : decode cL_law 1533 = .ok (.iconst 1, 1) := by decide +kernel
theorem dL_law_1534 : decode cL_law 1534 = .ok (.iadd, 1) := by decide +kernel
theorem dL_law_1535 : decode cL_law 1535 = .ok (.iaload, 1) := by decide +kernel
theorem dL_law_1536 : decode cL_law 1536 = .ok (.invokevirtual 179, 3) := by decide +kernel
theorem dL_law_1539 : decode cL_law 1539 = .ok (.aload_n 2, 1) := by decide +kernel
theorem dL_law_1540 : decode cL_law 1540 = .ok (.aload_n 0, 1) := by decide +kernel
theorem dL_law_1541 : decode cL_law 1541 = .ok (.iload_n 3, 1) := by decide +kernel
theorem dL_law_1542 : decode cL_law 1542 = .ok (.iconst 1, 1) := by decide +kernel
theorem dL_law_1543 : decode cL_law 1543 = .ok (.iadd, 1) := by decide +kernel
theorem dL_law_1544 : decode cL_law 1544 = .ok (.iaload, 1) := by decide +kernel
theorem dL_law_1545 : decode cL_law 1545 = .ok (.invokevirtual 182, 3) := by decide +kernel
theorem dL_law_1548 : decode cL_law 1548 = .ok (.if_icmp .eq 106, 3) := by decide +kernel
theorem dL_law_1551 : decode cL_law 1551 = .ok (.iconst 0, 1) := by decide +kernel
theorem dL_law_1552 : decode cL_law 1552 = .ok (.ireturn, 1) := by decide +kernel
theorem dL_law_1553 : decode cL_law 1553 = .ok (.aload_n 1, 1) := by decide +kernel
theorem dL_law_1554 : decode cL_law 1554 = .ok (.invokevirtual 183, 3) := by decide +kernel
theorem dL_law_1557 : decode cL_law 1557 = .ok (.aload_n 2, 1) := by decide +kernel
theorem dL_law_1558 : decode cL_law 1558 = .ok (.invokevirtual 186, 3) := by decide +kernel
theorem dL_law_1561 : decode cL_law 1561 = .ok (.if_icmp .eq 93, 3) := by decide +kernel
theorem dL_law_1564 : decode cL_law 1564 = .ok (.iconst 0, 1) := by decide +kernel
theorem dL_law_1565 : decode cL_law 1565 = .ok (.ireturn, 1) := by decide +kernel
theorem dL_law_1566 : decode cL_law 1566 = .ok (.aload_n 1, 1) := by decide +kernel
theorem dL_law_1567 : decode cL_law 1567 = .ok (.invokevirtual 187, 3) := by decide +kernel
theorem dL_law_1570 : decode cL_law 1570 = .ok (.aload_n 2, 1) := by decide +kernel
theorem dL_law_1571 : decode cL_law 1571 = .ok (.invokevirtual 190, 3) := by decide +kernel
theorem dL_law_1574 : decode cL_law 1574 = .ok (.if_icmp .eq 80, 3) := by decide +kernel
theorem dL_law_1577 : decode cL_law 1577 = .ok (.iconst 0, 1) := by decide +kernel
theorem dL_law_1578 : decode cL_law 1578 = .ok (.ireturn, 1) := by decide +kernel
theorem dL_law_1579 : decode cL_law 1579 = .ok (.aload_n 1, 1) := by decide +kernel
theorem dL_law_1580 : decode cL_law 1580 = .ok (.invokevirtual 191, 3) := by decide +kernel
theorem dL_law_1583 : decode cL_law 1583 = .ok (.aload_n 2, 1) := by decide +kernel
theorem dL_law_1584 : decode cL_law 1584 = .ok (.invokevirtual 194, 3) := by decide +kernel
theorem dL_law_1587 : decode cL_law 1587 = .ok (.if_icmp .eq 67, 3) := by decide +kernel
theorem dL_law_1590 : decode cL_law 1590 = .ok (.iconst 0, 1) := by decide +kernel
theorem dL_law_1591 : decode cL_law 1591 = .ok (.ireturn, 1) := by decide +kernel
theorem dL_law_1592 : decode cL_law 1592 = .ok (.aload_n 1, 1) := by decide +kernel
theorem dL_law_1593 : decode cL_law 1593 = .ok (.invokevirtual 195, 3) := by decide +kernel
theorem dL_law_1596 : decode cL_law 1596 = .ok (.aload_n 2, 1) := by decide +kernel
theorem dL_law_1597 : decode cL_law 1597 = .ok (.invokevirtual 198, 3) := by decide +kernel
theorem dL_law_1600 : decode cL_law 1600 = .ok (.if_icmp .eq 54, 3) := by decide +kernel
theorem dL_law_1603 : decode cL_law 1603 = .ok (.iconst 0, 1) := by decide +kernel
theorem dL_law_1604 : decode cL_law 1604 = .ok (.ireturn, 1) := by decide +kernel
theorem dL_law_1605 : decode cL_law 1605 = .ok (.aload_n 1, 1) := by decide +kernel
theorem dL_law_1606 : decode cL_law 1606 = .ok (.invokevirtual 199, 3) := by decide +kernel
theorem dL_law_1609 : decode cL_law 1609 = .ok (.aload_n 2, 1) := by decide +kernel
theorem dL_law_1610 : decode cL_law 1610 = .ok (.invokevirtual 202, 3) := by decide +kernel
theorem dL_law_1613 : decode cL_law 1613 = .ok (.if_icmp .eq 41, 3) := by decide +kernel
theorem dL_law_1616 : decode cL_law 1616 = .ok (.iconst 0, 1) := by decide +kernel
theorem dL_law_1617 : decode cL_law 1617 = .ok (.ireturn, 1) := by decide +kernel
theorem dL_law_1618 : decode cL_law 1618 = .ok (.aload_n 1, 1) := by decide +kernel
theorem dL_law_1619 : decode cL_law 1619 = .ok (.invokevirtual 203, 3) := by decide +kernel
theorem dL_law_1622 : decode cL_law 1622 = .ok (.aload_n 2, 1) := by decide +kernel
theorem dL_law_1623 : decode cL_law 1623 = .ok (.invokevirtual 206, 3) := by decide +kernel
theorem dL_law_1626 : decode cL_law 1626 = .ok (.if_icmp .eq 28, 3) := by decide +kernel
theorem dL_law_1629 : decode cL_law 1629 = .ok (.iconst 0, 1) := by decide +kernel
theorem dL_law_1630 : decode cL_law 1630 = .ok (.ireturn, 1) := by decide +kernel
theorem dL_law_1631 : decode cL_law 1631 = .ok (.aload_n 1, 1) := by decide +kernel
theorem dL_law_1632 : decode cL_law 1632 = .ok (.aload_n 0, 1) := by decide +kernel
theorem dL_law_1633 : decode cL_law 1633 = .ok (.iload_n 3, 1) := by decide +kernel
theorem dL_law_1634 : decode cL_law 1634 = .ok (.iconst 1, 1) := by decide +kernel
theorem dL_law_1635 : decode cL_law 1635 = .ok (.iadd, 1) := by decide +kernel
theorem dL_law_1636 : decode cL_law 1636 = .ok (.iaload, 1) := by decide +kernel
theorem dL_law_1637 : decode cL_law 1637 = .ok (.invokevirtual 207, 3) := by decide +kernel
theorem dL_law_1640 : decode cL_law 1640 = .ok (.aload_n 2, 1) := by decide +kernel
theorem dL_law_1641 : decode cL_law 1641 = .ok (.aload_n 0, 1) := by decide +kernel
theorem dL_law_1642 : decode cL_law 1642 = .ok (.iload_n 3, 1) := by decide +kernel
theorem dL_law_1643 : decode cL_law 1643 = .ok (.iconst 1, 1) := by decide +kernel
theorem dL_law_1644 : decode cL_law 1644 = .ok (.iadd, 1) := by decide +kernel
theorem dL_law_1645 : decode cL_law 1645 = .ok (.iaload, 1) := by decide +kernel
theorem dL_law_1646 : decode cL_law 1646 = .ok (.invokevirtual 210, 3) := by decide +kernel
theorem dL_law_1649 : decode cL_law 1649 = .ok (.if_icmp .eq 5, 3) := by decide +kernel
theorem dL_law_1652 : decode cL_law 1652 = .ok (.iconst 0, 1) := by decide +kernel
theorem dL_law_1653 : decode cL_law 1653 = .ok (.ireturn, 1) := by decide +kernel
theorem dL_law_1654 : decode cL_law 1654 = .ok (.iinc 3 6, 3) := by decide +kernel
theorem dL_law_1657 : decode cL_law 1657 = .ok (.goto (-1639), 3) := by decide +kernel
theorem dL_law_1660 : decode cL_law 1660 = .ok (.iconst 1, 1) := by decide +kernel
theorem dL_law_1661 : decode cL_law 1661 = .ok (.ireturn, 1) := by decide +kernel
