theorem dL_isMoved_355 : decode cL_isMoved 355 = .ok (.imul, 1) := by decide +kernel
theorem dL_isMoved_356 : decode cL_isMoved 356 = .ok (.dup2, 1) := by decide +kernel
theorem dL_isMoved_357 : decode cL_isMoved 357 = .ok (.iaload, 1) := by decide +kernel
theorem dL_isMoved_358 : decode cL_isMoved 358 = .ok (.iload 8, 2) := by decide +kernel
theorem dL_isMoved_360 : decode cL_isMoved 360 = .ok (.isub, 1) := by decide +kernel
theorem dL_isMoved_361 : decode cL_isMoved 361 = .ok (.iastore, 1) := by decide +kernel
theorem dL_isMoved_362 : decode cL_isMoved 362 = .ok (.aload_n 2, 1) := by decide +kernel
theorem dL_isMoved_363 : decode cL_isMoved 363 = .ok (.iconst 3, 1) := by decide +kernel
theorem dL_isMoved_364 : decode cL_isMoved 364 = .ok (.aload 4, 2) := by decide +kernel
theorem dL_isMoved_366 : decode cL_isMoved 366 = .ok (.bipush 6, 2) := by decide +kernel
theorem dL_isMoved_368 : decode cL_isMoved 368 = .ok (.iload 6, 2) := by decide +kernel
theorem dL_isMoved_370 : decode cL_isMoved 370 = .ok (.imul, 1) := by decide +kernel
theorem dL_isMoved_371 : decode cL_isMoved 371 = .ok (.iaload, 1) := by decide +kernel
theorem dL_isMoved_372 : decode cL_isMoved 372 = .ok (.imul, 1) := by decide +kernel
theorem dL_isMoved_373 : decode cL_isMoved 373 = .ok (.dup2, 1) := by decide +kernel
theorem dL_isMoved_374 : decode cL_isMoved 374 = .ok (.iaload, 1) := by decide +kernel
theorem dL_isMoved_375 : decode cL_isMoved 375 = .ok (.iload 8, 2) := by decide +kernel
theorem dL_isMoved_377 : decode cL_isMoved 377 = .ok (.iadd, 1) := by decide +kernel
theorem dL_isMoved_378 : decode cL_isMoved 378 = .ok (.iastore, 1) := by decide +kernel
theorem dL_isMoved_379 : decode cL_isMoved 379 = .ok (.aload 4, 2) := by decide +kernel
theorem dL_isMoved_381 : decode cL_isMoved 381 = .ok (.bipush 6, 2) := by decide +kernel
theorem dL_isMoved_383 : decode cL_isMoved 383 = .ok (.iload 6, 2) := by decide +kernel
theorem dL_isMoved_385 : decode cL_isMoved 385 = .ok (.imul, 1) := by decide +kernel
theorem dL_isMoved_386 : decode cL_isMoved 386 = .ok (.iload 7, 2) := by decide +kernel
theorem dL_isMoved_388 : decode cL_isMoved 388 = .ok (.iastore, 1) := by decide +kernel
theorem dL_isMoved_389 : decode cL_isMoved 389 = .ok (.aload_n 0, 1) := by decide +kernel
theorem dL_isMoved_390 : decode cL_isMoved 390 = .ok (.iload 6, 2) := by decide +kernel
theorem dL_isMoved_392 : decode cL_isMoved 392 = .ok (.iload 7, 2) := by decide +kernel
theorem dL_isMoved_394 : decode cL_isMoved 394 = .ok (.iload 8, 2) := by decide +kernel
theorem dL_isMoved_396 : decode cL_isMoved 396 = .ok (.invokevirtual 77, 3) := by decide +kernel
theorem dL_isMoved_399 : decode cL_isMoved 399 = .ok (.aload 4, 2) := by decide +kernel
theorem dL_isMoved_401 : decode cL_isMoved 401 = .ok (.bipush 6, 2) := by decide +kernel
theorem dL_isMoved_403 : decode cL_isMoved 403 = .ok (.iload 6, 2) := by decide +kernel
theorem dL_isMoved_405 : decode cL_isMoved 405 = .ok (.imul, 1) := by decide +kernel
theorem dL_isMoved_406 : decode cL_isMoved 406 = .ok (.iconst 3, 1) := by decide +kernel
theorem dL_isMoved_407 : decode cL_isMoved 407 = .ok (.iadd, 1) := by decide +kernel
theorem dL_isMoved_408 : decode cL_isMoved 408 = .ok (.iaload, 1) := by decide +kernel
theorem dL_isMoved_409 : decode cL_isMoved 409 = .ok (.if_icmp .ne 7, 3) := by decide +kernel
theorem dL_isMoved_412 : decode cL_isMoved 412 = .ok (.iconst 1, 1) := by decide +kernel
theorem dL_isMoved_413 : decode cL_isMoved 413 = .ok (.goto 4, 3) := by decide +kernel
theorem dL_isMoved_416 : decode cL_isMoved 416 = .ok (.iconst 0, 1) := by decide +kernel
theorem dL_isMoved_417 : decode cL_isMoved 417 = .ok (.ireturn, 1) := by decide +kernel
theorem dL_isGiven_0 : decode cL_isGiven 0 = .ok (.iload 5, 2) := by decide +kernel
theorem dL_isGiven_2 : decode cL_isGiven 2 = .ok (.aload_n 1, 1) := by decide +kernel
theorem dL_isGiven_3 : decode cL_isGiven 3 = .ok (.iconst 1, 1) := by decide +kernel
theorem dL_isGiven_4 : decode cL_isGiven 4 = .ok (.iaload, 1) := by decide +kernel
theorem dL_isGiven_5 : decode cL_isGiven 5 = .ok (.invokestatic 41, 3) := by decide +kernel
theorem dL_isGiven_8 : decode cL_isGiven 8 = .ok (.istore 6, 2) := by decide +kernel
theorem dL_isGiven_10 : decode cL_isGiven 10 = .ok (.iload 5, 2) := by decide +kernel
theorem dL_isGiven_12 : decode cL_isGiven 12 = .ok (.iconst 3, 1) := by decide +kernel
theorem dL_isGiven_13 : decode cL_isGiven 13 = .ok (.ishr, 1) := by decide +kernel
theorem dL_isGiven_14 : decode cL_isGiven 14 = .ok (.iconst 3, 1) := by decide +kernel
theorem dL_isGiven_15 : decode cL_isGiven 15 = .ok (.invokestatic 41, 3) := by decide +kernel
theorem dL_isGiven_18 : decode cL_isGiven 18 = .ok (.ifCond .le 129, 3) := by decide +kernel
theorem dL_isGiven_21 : decode cL_isGiven 21 = .ok (.iload 5, 2) := by decide +kernel
theorem dL_isGiven_23 : decode cL_isGiven 23 = .ok (.iconst 5, 1) := by decide +kernel
theorem dL_isGiven_24 : decode cL_isGiven 24 = .ok (.ishr, 1) := by decide +kernel
theorem dL_isGiven_25 : decode cL_isGiven 25 = .ok (.bipush 51, 2) := by decide +kernel
theorem dL_isGiven_27 : decode cL_isGiven 27 = .ok (.invokestatic 41, 3) := by decide +kernel
theorem dL_isGiven_30 : decode cL_isGiven 30 = .ok (.istore 7, 2) := by decide +kernel
theorem dL_isGiven_32 : decode cL_isGiven 32 = .ok (.aload_n 1, 1) := by decide +kernel
theorem dL_isGiven_33 : decode cL_isGiven 33 = .ok (.iconst 4, 1) := by decide +kernel
theorem dL_isGiven_34 : decode cL_isGiven 34 = .ok (.iaload, 1) := by decide +kernel
theorem dL_isGiven_35 : decode cL_isGiven 35 = .ok (.istore 8, 2) := by decide +kernel
theorem dL_isGiven_37 : decode cL_isGiven 37 = .ok (.iload 5, 2) := by decide +kernel
theorem dL_isGiven_39 : decode cL_isGiven 39 = .ok (.bipush 11, 2) := by decide +kernel
theorem dL_isGiven_41 : decode cL_isGiven 41 = .ok (.ishr, 1) := by decide +kernel
theorem dL_isGiven_42 : decode cL_isGiven 42 = .ok (.iconst 3, 1) := by decide +kernel
theorem dL_isGiven_43 : decode cL_isGiven 43 = .ok (.invokestatic 41, 3) := by decide +kernel
theorem dL_isGiven_46 : decode cL_isGiven 46 = .ok (.istore 9, 2) := by decide +kernel
theorem dL_isGiven_48 : decode cL_isGiven 48 = .ok (.aload_n 1, 1) := by decide +kernel
theorem dL_isGiven_49 : decode cL_isGiven 49 = .ok (.iconst 4, 1) := by decide +kernel
theorem dL_isGiven_50 : decode cL_isGiven 50 = .ok (.iload 7, 2) := by decide +kernel
theorem dL_isGiven_52 : decode cL_isGiven 52 = .ok (.iastore, 1) := by decide +kernel
theorem dL_isGiven_53 : decode cL_isGiven 53 = .ok (.aload_n 2, 1) := by decide +kernel
theorem dL_isGiven_54 : decode cL_isGiven 54 = .ok (.iconst 3, 1) := by decide +kernel
theorem dL_isGiven_55 : decode cL_isGiven 55 = .ok (.iload 9, 2) := by decide +kernel
theorem dL_isGiven_57 : decode cL_isGiven 57 = .ok (.imul, 1) := by decide +kernel
theorem dL_isGiven_58 : decode cL_isGiven 58 = .ok (.dup2, 1) := by decide +kernel
theorem dL_isGiven_59 : decode cL_isGiven 59 = .ok (.iaload, 1) := by decide +kernel
theorem dL_isGiven_60 : decode cL_isGiven 60 = .ok (.iconst 1, 1) := by decide +kernel
theorem dL_isGiven_61 : decode cL_isGiven 61 = .ok (.iload 7, 2) := by decide +kernel
theorem dL_isGiven_63 : decode cL_isGiven 63 = .ok (.iadd, 1) := by decide +kernel
theorem dL_isGiven_64 : decode cL_isGiven 64 = .ok (.iadd, 1) := by decide +kernel
theorem dL_isGiven_65 : decode cL_isGiven 65 = .ok (.iastore, 1) := by decide +kernel
theorem dL_isGiven_66 : decode cL_isGiven 66 = .ok (.aload_n 0, 1) := by decide +kernel
theorem dL_isGiven_67 : decode cL_isGiven 67 = .ok (.iload 7, 2) := by decide +kernel
theorem dL_isGiven_69 : decode cL_isGiven 69 = .ok (.invokevirtual 80, 3) := by decide +kernel
theorem dL_isGiven_72 : decode cL_isGiven 72 = .ok (.iload 8, 2) := by decide +kernel
theorem dL_isGiven_74 : decode cL_isGiven 74 = .ok (.iload 7, 2) := by decide +kernel
theorem dL_isGiven_76 : decode cL_isGiven 76 = .ok (.if_icmp .ne 8, 3) := by decide +kernel
theorem dL_isGiven_79 : decode cL_isGiven 79 = .ok (.bipush (-5), 2) := by decide +kernel
theorem dL_isGiven_81 : decode cL_isGiven 81 = .ok (.goto 5, 3) := by decide +kernel
theorem dL_isGiven_84 : decode cL_isGiven 84 = .ok (.iload 8, 2) := by decide +kernel
theorem dL_isGiven_86 : decode cL_isGiven 86 = .ok (.if_icmp .ne 59, 3) := by decide +kernel
theorem dL_isGiven_89 : decode cL_isGiven 89 = .ok (.aload_n 0, 1) := by decide +kernel
theorem dL_isGiven_90 : decode cL_isGiven 90 = .ok (.bipush 51, 2) := by decide +kernel
theorem dL_isGiven_92 : decode cL_isGiven 92 = .ok (.invokevirtual 80, 3) := by decide +kernel
theorem dL_isGiven_95 : decode cL_isGiven 95 = .ok (.bipush (-2), 2) := by decide +kernel
theorem dL_isGiven_97 : decode cL_isGiven 97 = .ok (.if_icmp .ne 48, 3) := by decide +kernel
theorem dL_isGiven_100 : decode cL_isGiven 100 = .ok (.aload_n 0, 1) := by decide +kernel
theorem dL_isGiven_101 : decode cL_isGiven 101 = .ok (.iload 9, 2) := by decide +kernel
theorem dL_isGiven_103 : decode cL_isGiven 103 = .ok (.iconst 1, 1) := by decide +kernel
theorem dL_isGiven_104 : decode cL_isGiven 104 = .ok (.iload 7, 2) := by decide +kernel
theorem dL_isGiven_106 : decode cL_isGiven 106 = .ok (.iadd, 1) := by decide +kernel
theorem dL_isGiven_107 : decode cL_isGiven 107 = .ok (.invokevirtual 83, 3) := by decide +kernel
theorem dL_isGiven_110 : decode cL_isGiven 110 = .ok (.aload_n 2, 1) := by decide +kernel
theorem dL_isGiven_111 : decode cL_isGiven 111 = .ok (.iconst 3, 1) := by decide +kernel
theorem dL_isGiven_112 : decode cL_isGiven 112 = .ok (.iload 9, 2) := by decide +kernel
theorem dL_isGiven_114 : decode cL_isGiven 114 = .ok (.imul, 1) := by decide +kernel
theorem dL_isGiven_115 : decode cL_isGiven 115 = .ok (.iaload, 1) := by decide +kernel
theorem dL_isGiven_116 : decode cL_isGiven 116 = .ok (.if_icmp .ne 29, 3) := by decide +kernel
theorem dL_isGiven_119 : decode cL_isGiven 119 = .ok (.aload_n 0, 1) := by decide +kernel
theorem dL_isGiven_120 : decode cL_isGiven 120 = .ok (.iload 9, 2) := by decide +kernel
theorem dL_isGiven_122 : decode cL_isGiven 122 = .ok (.iconst 0, 1) := by decide +kernel
theorem dL_isGiven_123 : decode cL_isGiven 123 = .ok (.invokevirtual 83, 3) := by decide +kernel
theorem dL_isGiven_126 : decode cL_isGiven 126 = .ok (.bipush (-2), 2) := by decide +kernel
theorem dL_isGiven_128 : decode cL_isGiven 128 = .ok (.if_icmp .ne 17, 3) := by decide +kernel
theorem dL_isGiven_131 : decode cL_isGiven 131 = .ok (.aload_n 0, 1) := by decide +kernel
theorem dL_isGiven_132 : decode cL_isGiven 132 = .ok (.iconst 3, 1) := by decide +kernel
theorem dL_isGiven_133 : decode cL_isGiven 133 = .ok (.iconst 1, 1) := by decide +kernel
theorem dL_isGiven_134 : decode cL_isGiven 134 = .ok (.invokevirtual 83, 3) := by decide +kernel
theorem dL_isGiven_137 : decode cL_isGiven 137 = .ok (.iconst (-1), 1) := by decide +kernel
theorem dL_isGiven_138 : decode cL_isGiven 138 = .ok (.if_icmp .ne 7, 3) := by decide +kernel
theorem dL_isGiven_141 : decode cL_isGiven 141 = .ok (.iconst 1, 1) := by decide +kernel
theorem dL_isGiven_142 : decode cL_isGiven 142 = .ok (.goto 4, 3) := by decide +kernel
theorem dL_isGiven_145 : decode cL_isGiven 145 = .ok (.iconst 0, 1) := by decide +kernel
theorem dL_isGiven_146 : decode cL_isGiven 146 = .ok (.ireturn, 1) := by decide +kernel
theorem dL_isGiven_147 : decode cL_isGiven 147 = .ok (.aload_n 3, 1) := by decide +kernel
theorem dL_isGiven_148 : decode cL_isGiven 148 = .ok (.bipush 11, 2) := by decide +kernel
theorem dL_isGiven_150 : decode cL_isGiven 150 = .ok (.iload 6, 2) := by decide +kernel
theorem dL_isGiven_152 : decode cL_isGiven 152 = .ok (.imul, 1) := by decide +kernel
theorem dL_isGiven_153 : decode cL_isGiven 153 = .ok (.iconst 3, 1) := by decide +kernel
theorem dL_isGiven_154 : decode cL_isGiven 154 = .ok (.iadd, 1) := by decide +kernel
theorem dL_isGiven_155 : decode cL_isGiven 155 = .ok (.iaload, 1) := by decide +kernel
theorem dL_isGiven_156 : decode cL_isGiven 156 = .ok (.ifCond .le 31, 3) := by decide +kernel
theorem dL_isGiven_159 : decode cL_isGiven 159 = .ok (.aload_n 0, 1) := by decide +kernel
theorem dL_isGiven_160 : decode cL_isGiven 160 = .ok (.iload 6, 2) := by decide +kernel
theorem dL_isGiven_162 : decode cL_isGiven 162 = .ok (.invokevirtual 86, 3) := by decide +kernel
theorem dL_isGiven_165 : decode cL_isGiven 165 = .ok (.bipush (-4), 2) := by decide +kernel
theorem dL_isGiven_167 : decode cL_isGiven 167 = .ok (.if_icmp .ne 18, 3) := by decide +kernel
theorem dL_isGiven_170 : decode cL_isGiven 170 = .ok (.aload_n 0, 1) := by decide +kernel
theorem dL_isGiven_171 : decode cL_isGiven 171 = .ok (.aload_n 1, 1) := by decide +kernel
theorem dL_isGiven_172 : decode cL_isGiven 172 = .ok (.iconst 1, 1) := by decide +kernel
theorem dL_isGiven_173 : decode cL_isGiven 173 = .ok (.iaload, 1) := by decide +kernel
theorem dL_isGiven_174 : decode cL_isGiven 174 = .ok (.invokevirtual 86, 3) := by decide +kernel
theorem dL_isGiven_177 : decode cL_isGiven 177 = .ok (.iconst (-1), 1) := by decide +kernel
theorem dL_isGiven_178 : decode cL_isGiven 178 = .ok (.if_icmp .ne 7, 3) := by decide +kernel
theorem dL_isGiven_181 : decode cL_isGiven 181 = .ok (.iconst 1, 1) := by decide +kernel
theorem dL_isGiven_182 : decode cL_isGiven 182 = .ok (.goto 4, 3) := by decide +kernel
theorem dL_isGiven_185 : decode cL_isGiven 185 = .ok (.iconst 0, 1) := by decide +kernel
theorem dL_isGiven_186 : decode cL_isGiven 186 = .ok (.ireturn, 1) := by decide +kernel
theorem dL_isGiven_187 : decode cL_isGiven 187 = .ok (.aload_n 1, 1) := by decide +kernel
theorem dL_isGiven_188 : decode cL_isGiven 188 = .ok (.aload 4, 2) := by decide +kernel
theorem dL_isGiven_190 : decode cL_isGiven 190 = .ok (.iload 6, 2) := by decide +kernel
theorem dL_isGiven_192 : decode cL_isGiven 192 = .ok (.iconst (-1), 1) := by decide +kernel
theorem dL_isGiven_193 : decode cL_isGiven 193 = .ok (.invokestatic 9, 3) := by decide +kernel
theorem dL_isGiven_196 : decode cL_isGiven 196 = .ok (.istore 7, 2) := by decide +kernel
theorem dL_isGiven_198 : decode cL_isGiven 198 = .ok (.iconst 0, 1) := by decide +kernel
theorem dL_isGiven_199 : decode cL_isGiven 199 = .ok (.istore 8, 2) := by decide +kernel
theorem dL_isGiven_201 : decode cL_isGiven 201 = .ok (.iload 8, 2) := by decide +kernel
theorem dL_isGiven_203 : decode cL_isGiven 203 = .ok (.aload_n 1, 1) := by decide +kernel
theorem dL_isGiven_204 : decode cL_isGiven 204 = .ok (.iconst 2, 1) := by decide +kernel
theorem dL_isGiven_205 : decode cL_isGiven 205 = .ok (.iaload, 1) := by decide +kernel
theorem dL_isGiven_206 : decode cL_isGiven 206 = .ok (.if_icmp .ge 60, 3) := by decide +kernel
theorem dL_isGiven_209 : decode cL_isGiven 209 = .ok (.aload 4, 2) := by decide +kernel
theorem dL_isGiven_211 : decode cL_isGiven 211 = .ok (.bipush 6, 2) := by decide +kernel
theorem dL_isGiven_213 : decode cL_isGiven 213 = .ok (.iload 8, 2) := by decide +kernel
theorem dL_isGiven_215 : decode cL_isGiven 215 = .ok (.imul, 1) := by decide +kernel
theorem dL_isGiven_216 : decode cL_isGiven 216 = .ok (.iconst 1, 1) := by decide +kernel
theorem dL_isGiven_217 : decode cL_isGiven 217 = .ok (.iadd, 1) := by decide +kernel
theorem dL_isGiven_218 : decode cL_isGiven 218 = .ok (.iaload, 1) := by decide +kernel
theorem dL_isGiven_219 : decode cL_isGiven 219 = .ok (.iload 6, 2) := by decide +kernel
theorem dL_isGiven_221 : decode cL_isGiven 221 = .ok (.if_icmp .ne 39, 3) := by decide +kernel
theorem dL_isGiven_224 : decode cL_isGiven 224 = .ok (.aload_n 2, 1) := by decide +kernel
theorem dL_isGiven_225 : decode cL_isGiven 225 = .ok (.iconst 3, 1) := by decide +kernel
theorem dL_isGiven_226 : decode cL_isGiven 226 = .ok (.aload 4, 2) := by decide +kernel
theorem dL_isGiven_228 : decode cL_isGiven 228 = .ok (.bipush 6, 2) := by decide +kernel
theorem dL_isGiven_230 : decode cL_isGiven 230 = .ok (.iload 8, 2) := by decide +kernel
theorem dL_isGiven_232 : decode cL_isGiven 232 = .ok (.imul, 1) := by decide +kernel
theorem dL_isGiven_233 : decode cL_isGiven 233 = .ok (.iaload, 1) := by decide +kernel
theorem dL_isGiven_234 : decode cL_isGiven 234 = .ok (.imul, 1) := by decide +kernel
theorem dL_isGiven_235 : decode cL_isGiven 235 = .ok (.dup2, 1) := by decide +kernel
theorem dL_isGiven_236 : decode cL_isGiven 236 = .ok (.iaload, 1) := by decide +kernel
theorem dL_isGiven_237 : decode cL_isGiven 237 = .ok (.aload 4, 2) := by decide +kernel
theorem dL_isGiven_239 : decode cL_isGiven 239 = .ok (.bipush 6, 2) := by decide +kernel
theorem dL_isGiven_241 : decode cL_isGiven 241 = .ok (.iload 8, 2) := by decide +kernel
theorem dL_isGiven_243 : decode cL_isGiven 243 = .ok (.imul, 1) := by decide +kernel
theorem dL_isGiven_244 : decode cL_isGiven 244 = .ok (.iconst 3, 1) := by decide +kernel
theorem dL_isGiven_245 : decode cL_isGiven 245 = .ok (.iadd, 1) := by decide +kernel
theorem dL_isGiven_246 : decode cL_isGiven 246 = .ok (.iaload, 1) := by decide +kernel
theorem dL_isGiven_247 : decode cL_isGiven 247 = .ok (.iadd, 1) := by decide +kernel
theorem dL_isGiven_248 : decode cL_isGiven 248 = .ok (.iastore, 1) := by decide +kernel
theorem dL_isGiven_249 : decode cL_isGiven 249 = .ok (.aload 4, 2) := by decide +kernel
theorem dL_isGiven_251 : decode cL_isGiven 251 = .ok (.bipush 6, 2) := by decide +kernel
theorem dL_isGiven_253 : decode cL_isGiven 253 = .ok (.iload 8, 2) := by decide +kernel
theorem dL_isGiven_255 : decode cL_isGiven 255 = .ok (.imul, 1) := by decide +kernel
theorem dL_isGiven_256 : decode cL_isGiven 256 = .ok (.iconst 3, 1) := by decide +kernel
theorem dL_isGiven_257 : decode cL_isGiven 257 = .ok (.iadd, 1) := by decide +kernel
theorem dL_isGiven_258 : decode cL_isGiven 258 = .ok (.iconst 0, 1) := by decide +kernel
theorem dL_isGiven_259 : decode cL_isGiven 259 = .ok (.iastore, 1) := by decide +kernel
theorem dL_isGiven_260 : decode cL_isGiven 260 = .ok (.iinc 8 1, 3) := by decide +kernel
theorem dL_isGiven_263 : decode cL_isGiven 263 = .ok (.goto (-62), 3) := by decide +kernel
theorem dL_isGiven_266 : decode cL_isGiven 266 = .ok (.aload_n 3, 1) := by decide +kernel
theorem dL_isGiven_267 : decode cL_isGiven 267 = .ok (.bipush 11, 2) := by decide +kernel
theorem dL_isGiven_269 : decode cL_isGiven 269 = .ok (.iload 6, 2) := by decide +kernel
theorem dL_isGiven_271 : decode cL_isGiven 271 = .ok (.imul, 1) := by decide +kernel
theorem dL_isGiven_272 : decode cL_isGiven 272 = .ok (.iconst 3, 1) := by decide +kernel
theorem dL_isGiven_273 : decode cL_isGiven 273 = .ok (.iadd, 1) := by decide +kernel
theorem dL_isGiven_274 : decode cL_isGiven 274 = .ok (.iconst 4, 1) := by decide +kernel
theorem dL_isGiven_275 : decode cL_isGiven 275 = .ok (.iastore, 1) := by decide +kernel
theorem dL_isGiven_276 : decode cL_isGiven 276 = .ok (.aload_n 0, 1) := by decide +kernel
theorem dL_isGiven_277 : decode cL_isGiven 277 = .ok (.iload 6, 2) := by decide +kernel
theorem dL_isGiven_279 : decode cL_isGiven 279 = .ok (.invokevirtual 86, 3) := by decide +kernel
theorem dL_isGiven_282 : decode cL_isGiven 282 = .ok (.iload 7, 2) := by decide +kernel
theorem dL_isGiven_284 : decode cL_isGiven 284 = .ok (.if_icmp .ne 7, 3) := by decide +kernel
theorem dL_isGiven_287 : decode cL_isGiven 287 = .ok (.iconst 1, 1) := by decide +kernel
theorem dL_isGiven_288 : decode cL_isGiven 288 = .ok (.goto 4, 3) := by decide +kernel
theorem dL_isGiven_291 : decode cL_isGiven 291 = .ok (.iconst 0, 1) := by decide +kernel
theorem dL_isGiven_292 : decode cL_isGiven 292 = .ok (.ireturn, 1) := by decide +kernel
theorem dL_isPassed_0 : decode cL_isPassed 0 = .ok (.aload_n 1, 1) := by decide +kernel
theorem dL_isPassed_1 : decode cL_isPassed 1 = .ok (.iconst 0, 1) := by decide +kernel
theorem dL_isPassed_2 : decode cL_isPassed 2 = .ok (.iaload, 1) := by decide +kernel
theorem dL_isPassed_3 : decode cL_isPassed 3 = .ok (.iload_n 3, 1) := by decide +kernel
theorem dL_isPassed_4 : decode cL_isPassed 4 = .ok (.iadd, 1) := by decide +kernel
theorem dL_isPassed_5 : decode cL_isPassed 5 = .ok (.sipush 240, 3) := by decide +kernel
theorem dL_isPassed_8 : decode cL_isPassed 8 = .ok (.if_icmp .le 30, 3) := by decide +kernel
theorem dL_isPassed_11 : decode cL_isPassed 11 = .ok (.aload_n 0, 1) := by decide +kernel
theorem dL_isPassed_12 : decode cL_isPassed 12 = .ok (.iload_n 3, 1) := by decide +kernel
theorem dL_isPassed_13 : decode cL_isPassed 13 = .ok (.invokevirtual 89, 3) := by decide +kernel
theorem dL_isPassed_16 : decode cL_isPassed 16 = .ok (.bipush (-4), 2) := by decide +kernel
theorem dL_isPassed_18 : decode cL_isPassed 18 = .ok (.if_icmp .ne 18, 3) := by decide +kernel
theorem dL_isPassed_21 : decode cL_isPassed 21 = .ok (.aload_n 0, 1) := by decide +kernel
theorem dL_isPassed_22 : decode cL_isPassed 22 = .ok (.bipush 25, 2) := by decide +kernel
theorem dL_isPassed_24 : decode cL_isPassed 24 = .ok (.invokevirtual 89, 3) := by decide +kernel
theorem dL_isPassed_27 : decode cL_isPassed 27 = .ok (.bipush (-2), 2) := by decide +kernel
theorem dL_isPassed_29 : decode cL_isPassed 29 = .ok (.if_icmp .ne 7, 3) := by decide +kernel
theorem dL_isPassed_32 : decode cL_isPassed 32 = .ok (.iconst 1, 1) := by decide +kernel
theorem dL_isPassed_33 : decode cL_isPassed 33 = .ok (.goto 4, 3) := by decide +kernel
theorem dL_isPassed_36 : decode cL_isPassed 36 = .ok (.iconst 0, 1) := by decide +kernel
theorem dL_isPassed_37 : decode cL_isPassed 37 = .ok (.ireturn, 1) := by decide +kernel
theorem dL_isPassed_38 : decode cL_isPassed 38 = .ok (.iconst 0, 1) := by decide +kernel
theorem dL_isPassed_39 : decode cL_isPassed 39 = .ok (.istore 4, 2) := by decide +kernel
theorem dL_isPassed_41 : decode cL_isPassed 41 = .ok (.iconst 0, 1) := by decide +kernel
theorem dL_isPassed_42 : decode cL_isPassed 42 = .ok (.istore 5, 2) := by decide +kernel
theorem dL_isPassed_44 : decode cL_isPassed 44 = .ok (.iload 5, 2) := by decide +kernel
theorem dL_isPassed_46 : decode cL_isPassed 46 = .ok (.bipush 11, 2) := by decide +kernel
theorem dL_isPassed_48 : decode cL_isPassed 48 = .ok (.aload_n 1, 1) := by decide +kernel
theorem dL_isPassed_49 : decode cL_isPassed 49 = .ok (.iconst 1, 1) := by decide +kernel
theorem dL_isPassed_50 : decode cL_isPassed 50 = .ok (.iaload, 1) := by decide +kernel
theorem dL_isPassed_51 : decode cL_isPassed 51 = .ok (.imul, 1) := by decide +kernel
theorem dL_isPassed_52 : decode cL_isPassed 52 = .ok (.if_icmp .ge 227, 3) := by decide +kernel
theorem dL_isPassed_55 : decode cL_isPassed 55 = .ok (.iconst 0, 1) := by decide +kernel
theorem dL_isPassed_56 : decode cL_isPassed 56 = .ok (.istore 6, 2) := by decide +kernel
theorem dL_isPassed_58 : decode cL_isPassed 58 = .ok (.iload 6, 2) := by decide +kernel
theorem dL_isPassed_60 : decode cL_isPassed 60 = .ok (.iload_n 3, 1) := by decide +kernel
theorem dL_isPassed_61 : decode cL_isPassed 61 = .ok (.if_icmp .ge 182, 3) := by decide +kernel
theorem dL_isPassed_64 : decode cL_isPassed 64 = .ok (.aload_n 2, 1) := by decide +kernel
theorem dL_isPassed_65 : decode cL_isPassed 65 = .ok (.iload 5, 2) := by decide +kernel
theorem dL_isPassed_67 : decode cL_isPassed 67 = .ok (.iconst 3, 1) := by decide +kernel
theorem dL_isPassed_68 : decode cL_isPassed 68 = .ok (.iadd, 1) := by decide +kernel
theorem dL_isPassed_69 : decode cL_isPassed 69 = .ok (.iaload, 1) := by decide +kernel
theorem dL_isPassed_70 : decode cL_isPassed 70 = .ok (.iconst 1, 1) := by decide +kernel
theorem dL_isPassed_71 : decode cL_isPassed 71 = .ok (.if_icmp .ne 172, 3) := by decide +kernel
theorem dL_isPassed_74 : decode cL_isPassed 74 = .ok (.aload_n 2, 1) := by decide +kernel
theorem dL_isPassed_75 : decode cL_isPassed 75 = .ok (.iload 5, 2) := by decide +kernel
theorem dL_isPassed_77 : decode cL_isPassed 77 = .ok (.bipush 9, 2) := by decide +kernel
theorem dL_isPassed_79 : decode cL_isPassed 79 = .ok (.iadd, 1) := by decide +kernel
theorem dL_isPassed_80 : decode cL_isPassed 80 = .ok (.aload_n 2, 1) := by decide +kernel
theorem dL_isPassed_81 : decode cL_isPassed 81 = .ok (.iload 5, 2) := by decide +kernel
theorem dL_isPassed_83 : decode cL_isPassed 83 = .ok (.bipush 10, 2) := by decide +kernel
theorem dL_isPassed_85 : decode cL_isPassed 85 = .ok (.iadd, 1) := by decide +kernel
theorem dL_isPassed_86 : decode cL_isPassed 86 = .ok (.iaload, 1) := by decide +kernel
theorem dL_isPassed_87 : decode cL_isPassed 87 = .ok (.ifCond .ge 13, 3) := by decide +kernel
theorem dL_isPassed_90 : decode cL_isPassed 90 = .ok (.aload_n 2, 1) := by decide +kernel
theorem dL_isPassed_91 : decode cL_isPassed 91 = .ok (.iload 5, 2) := by decide +kernel
theorem dL_isPassed_93 : decode cL_isPassed 93 = .ok (.bipush 9, 2) := by decide +kernel
theorem dL_isPassed_95 : decode cL_isPassed 95 = .ok (.iadd, 1) := by decide +kernel
theorem dL_isPassed_96 : decode cL_isPassed 96 = .ok (.iaload, 1) := by decide +kernel
theorem dL_isPassed_97 : decode cL_isPassed 97 = .ok (.goto 10, 3) := by decide +kernel
theorem dL_isPassed_100 : decode cL_isPassed 100 = .ok (.aload_n 2, 1) := by decide +kernel
theorem dL_isPassed_101 : decode cL_isPassed 101 = .ok (.iload 5, 2) := by decide +kernel
theorem dL_isPassed_103 : decode cL_isPassed 103 = .ok (.bipush 10, 2) := by decide +kernel
theorem dL_isPassed_105 : decode cL_isPassed 105 = .ok (.iadd, 1) := by decide +kernel
theorem dL_isPassed_106 : decode cL_isPassed 106 = .ok (.iaload, 1) := by decide +kernel
theorem dL_isPassed_107 : decode cL_isPassed 107 = .ok (.iastore, 1) := by decide +kernel
theorem dL_isPassed_108 : decode cL_isPassed 108 = .ok (.aload_n 2, 1) := by decide +kernel
theorem dL_isPassed_109 : decode cL_isPassed 109 = .ok (.iload 5, 2) := by decide +kernel
theorem dL_isPassed_111 : decode cL_isPassed 111 = .ok (.bipush 10, 2) := by decide +kernel
theorem dL_isPassed_113 : decode cL_isPassed 113 = .ok (.iadd, 1) := by decide +kernel
theorem dL_isPassed_114 : decode cL_isPassed 114 = .ok (.bipush (-5), 2) := by decide +kernel
theorem dL_isPassed_116 : decode cL_isPassed 116 = .ok (.iastore, 1) := by decide +kernel
theorem dL_isPassed_117 : decode cL_isPassed 117 = .ok (.aload_n 2, 1) := by decide +kernel
theorem dL_isPassed_118 : decode cL_isPassed 118 = .ok (.iload 5, 2) := by decide +kernel
theorem dL_isPassed_120 : decode cL_isPassed 120 = .ok (.bipush 8, 2) := by decide +kernel
theorem dL_isPassed_122 : decode cL_isPassed 122 = .ok (.iadd, 1) := by decide +kernel
theorem dL_isPassed_123 : decode cL_isPassed 123 = .ok (.aload_n 2, 1) := by decide +kernel
theorem dL_isPassed_124 : decode cL_isPassed 124 = .ok (.iload 5, 2) := by decide +kernel
theorem dL_isPassed_126 : decode cL_isPassed 126 = .ok (.bipush 6, 2) := by decide +kernel
theorem dL_isPassed_128 : decode cL_isPassed 128 = .ok (.iadd, 1) := by decide +kernel
theorem dL_isPassed_129 : decode cL_isPassed 129 = .ok (.iaload, 1) := by decide +kernel
theorem dL_isPassed_130 : decode cL_isPassed 130 = .ok (.ifCond .gt 13, 3) := by decide +kernel
theorem dL_isPassed_133 : decode cL_isPassed 133 = .ok (.aload_n 2, 1) := by decide +kernel
theorem dL_isPassed_134 : decode cL_isPassed 134 = .ok (.iload 5, 2) := by decide +kernel
theorem dL_isPassed_136 : decode cL_isPassed 136 = .ok (.bipush 7, 2) := by decide +kernel
theorem dL_isPassed_138 : decode cL_isPassed 138 = .ok (.iadd, 1) := by decide +kernel
theorem dL_isPassed_139 : decode cL_isPassed 139 = .ok (.iaload, 1) := by decide +kernel
theorem dL_isPassed_140 : decode cL_isPassed 140 = .ok (.ifCond .le 15, 3) := by decide +kernel
theorem dL_isPassed_143 : decode cL_isPassed 143 = .ok (.aload_n 2, 1) := by decide +kernel
theorem dL_isPassed_144 : decode cL_isPassed 144 = .ok (.iload 5, 2) := by decide +kernel
theorem dL_isPassed_146 : decode cL_isPassed 146 = .ok (.bipush 8, 2) := by decide +kernel
theorem dL_isPassed_148 : decode cL_isPassed 148 = .ok (.iadd, 1) := by decide +kernel
theorem dL_isPassed_149 : decode cL_isPassed 149 = .ok (.iaload, 1) := by decide +kernel
theorem dL_isPassed_150 : decode cL_isPassed 150 = .ok (.iconst 1, 1) := by decide +kernel
theorem dL_isPassed_151 : decode cL_isPassed 151 = .ok (.iadd, 1) := by decide +kernel
theorem dL_isPassed_152 : decode cL_isPassed 152 = .ok (.goto 4, 3) := by decide +kernel
theorem dL_isPassed_155 : decode cL_isPassed 155 = .ok (.iconst 0, 1) := by decide +kernel
theorem dL_isPassed_156 : decode cL_isPassed 156 = .ok (.iastore, 1) := by decide +kernel
theorem dL_isPassed_157 : decode cL_isPassed 157 = .ok (.aload_n 2, 1) := by decide +kernel
theorem dL_isPassed_158 : decode cL_isPassed 158 = .ok (.iload 5, 2) := by decide +kernel
theorem dL_isPassed_160 : decode cL_isPassed 160 = .ok (.bipush 6, 2) := by decide +kernel
theorem dL_isPassed_162 : decode cL_isPassed 162 = .ok (.iadd, 1) := by decide +kernel
theorem dL_isPassed_163 : decode cL_isPassed 163 = .ok (.dup2, 1) := by decide +kernel
theorem dL_isPassed_164 : decode cL_isPassed 164 = .ok (.iaload, 1) := by decide +kernel
theorem dL_isPassed_165 : decode cL_isPassed 165 = .ok (.aload_n 2, 1) := by decide +kernel
theorem dL_isPassed_166 : decode cL_isPassed 166 = .ok (.iload 5, 2) := by decide +kernel
theorem dL_isPassed_168 : decode cL_isPassed 168 = .ok (.iconst 4, 1) := by decide +kernel
theorem dL_isPassed_169 : decode cL_isPassed 169 = .ok (.iadd, 1) := by decide +kernel
theorem dL_isPassed_170 : decode cL_isPassed 170 = .ok (.iaload, 1) := by decide +kernel
theorem dL_isPassed_171 : decode cL_isPassed 171 = .ok (.aload_n 2, 1) := by decide +kernel
theorem dL_isPassed_172 : decode cL_isPassed 172 = .ok (.iload 5, 2) := by decide +kernel
theorem dL_isPassed_174 : decode cL_isPassed 174 = .ok (.iconst 1, 1) := by decide +kernel
theorem dL_isPassed_175 : decode cL_isPassed 175 = .ok (.iadd, 1) := by decide +kernel
theorem dL_isPassed_176 : decode cL_isPassed 176 = .ok (.iaload, 1) := by decide +kernel
theorem dL_isPassed_177 : decode cL_isPassed 177 = .ok (.imul, 1) := by decide +kernel
theorem dL_isPassed_178 : decode cL_isPassed 178 = .ok (.sipush 1000, 3) := by decide +kernel
theorem dL_isPassed_181 : decode cL_isPassed 181 = .ok (.idiv, 1) := by decide +kernel
theorem dL_isPassed_182 : decode cL_isPassed 182 = .ok (.iadd, 1) := by decide +kernel
theorem dL_isPassed_183 : decode cL_isPassed 183 = .ok (.iastore, 1) := by decide +kernel
theorem dL_isPassed_184 : decode cL_isPassed 184 = .ok (.aload_n 2, 1) := by decide +kernel
theorem dL_isPassed_185 : decode cL_isPassed 185 = .ok (.iload 5, 2) := by decide +kernel
theorem dL_isPassed_187 : decode cL_isPassed 187 = .ok (.bipush 7, 2) := by decide +kernel
theorem dL_isPassed_189 : decode cL_isPassed 189 = .ok (.iadd, 1) := by decide +kernel
theorem dL_isPassed_190 : decode cL_isPassed 190 = .ok (.aload_n 2, 1) := by decide +kernel
theorem dL_isPassed_191 : decode cL_isPassed 191 = .ok (.iload 5, 2) := by decide +kernel
theorem dL_isPassed_193 : decode cL_isPassed 193 = .ok (.bipush 7, 2) := by decide +kernel
theorem dL_isPassed_195 : decode cL_isPassed 195 = .ok (.iadd, 1) := by decide +kernel
theorem dL_isPassed_196 : decode cL_isPassed 196 = .ok (.iaload, 1) := by decide +kernel
theorem dL_isPassed_197 : decode cL_isPassed 197 = .ok (.aload_n 2, 1) := by decide +kernel
theorem dL_isPassed_198 : decode cL_isPassed 198 = .ok (.iload 5, 2) := by decide +kernel
theorem dL_isPassed_200 : decode cL_isPassed 200 = .ok (.iconst 5, 1) := by decide +kernel
theorem dL_isPassed_201 : decode cL_isPassed 201 = .ok (.iadd, 1) := by decide +kernel
theorem dL_isPassed_202 : decode cL_isPassed 202 = .ok (.iaload, 1) := by decide +kernel
theorem dL_isPassed_203 : decode cL_isPassed 203 = .ok (.iadd, 1) := by decide +kernel
theorem dL_isPassed_204 : decode cL_isPassed 204 = .ok (.aload_n 2, 1) := by decide +kernel
theorem dL_isPassed_205 : decode cL_isPassed 205 = .ok (.iload 5, 2) := by decide +kernel
theorem dL_isPassed_207 : decode cL_isPassed 207 = .ok (.iconst 4, 1) := by decide +kernel
theorem dL_isPassed_208 : decode cL_isPassed 208 = .ok (.iadd, 1) := by decide +kernel
theorem dL_isPassed_209 : decode cL_isPassed 209 = .ok (.iaload, 1) := by decide +kernel
theorem dL_isPassed_210 : decode cL_isPassed 210 = .ok (.if_icmp .le 12, 3) := by decide +kernel
theorem dL_isPassed_213 : decode cL_isPassed 213 = .ok (.aload_n 2, 1) := by decide +kernel
theorem dL_isPassed_214 : decode cL_isPassed 214 = .ok (.iload 5, 2) := by decide +kernel
theorem dL_isPassed_216 : decode cL_isPassed 216 = .ok (.iconst 4, 1) := by decide +kernel
theorem dL_isPassed_217 : decode cL_isPassed 217 = .ok (.iadd, 1) := by decide +kernel
theorem dL_isPassed_218 : decode cL_isPassed 218 = .ok (.iaload, 1) := by decide +kernel
theorem dL_isPassed_219 : decode cL_isPassed 219 = .ok (.goto 17, 3) := by decide +kernel
theorem dL_isPassed_222 : decode cL_isPassed 222 = .ok (.aload_n 2, 1) := by decide +kernel
theorem dL_isPassed_223 : decode cL_isPassed 223 = .ok (.iload 5, 2) := by decide +kernel
theorem dL_isPassed_225 : decode cL_isPassed 225 = .ok (.bipush 7, 2) := by decide +kernel
theorem dL_isPassed_227 : decode cL_isPassed 227 = .ok (.iadd, 1) := by decide +kernel
theorem dL_isPassed_228 : decode cL_isPassed 228 = .ok (.iaload, 1) := by decide +kernel
theorem dL_isPassed_229 : decode cL_isPassed 229 = .ok (.aload_n 2, 1) := by decide +kernel
theorem dL_isPassed_230 : decode cL_isPassed 230 = .ok (.iload 5, 2) := by decide +kernel
theorem dL_isPassed_232 : decode cL_isPassed 232 = .ok (.iconst 5, 1) := by decide +kernel
theorem dL_isPassed_233 : decode cL_isPassed 233 = .ok (.iadd, 1) := by decide +kernel
theorem dL_isPassed_234 : decode cL_isPassed 234 = .ok (.iaload, 1) := by decide +kernel
theorem dL_isPassed_235 : decode cL_isPassed 235 = .ok (.iadd, 1) := by decide +kernel
theorem dL_isPassed_236 : decode cL_isPassed 236 = .ok (.iastore, 1) := by decide +kernel
theorem dL_isPassed_237 : decode cL_isPassed 237 = .ok (.iinc 6 1, 3) := by decide +kernel
theorem dL_isPassed_240 : decode cL_isPassed 240 = .ok (.goto (-182), 3) := by decide +kernel
theorem dL_isPassed_243 : decode cL_isPassed 243 = .ok (.iload 4, 2) := by decide +kernel
theorem dL_isPassed_245 : decode cL_isPassed 245 = .ok (.aload_n 2, 1) := by decide +kernel
theorem dL_isPassed_246 : decode cL_isPassed 246 = .ok (.iload 5, 2) := by decide +kernel
theorem dL_isPassed_248 : decode cL_isPassed 248 = .ok (.iconst 3, 1) := by decide +kernel
theorem dL_isPassed_249 : decode cL_isPassed 249 = .ok (.iadd, 1) := by decide +kernel
theorem dL_isPassed_250 : decode cL_isPassed 250 = .ok (.iaload, 1) := by decide +kernel
theorem dL_isPassed_251 : decode cL_isPassed 251 = .ok (.iconst 1, 1) := by decide +kernel
theorem dL_isPassed_252 : decode cL_isPassed 252 = .ok (.if_icmp .ne 17, 3) := by decide +kernel
theorem dL_isPassed_255 : decode cL_isPassed 255 = .ok (.aload_n 2, 1) := by decide +kernel
theorem dL_isPassed_256 : decode cL_isPassed 256 = .ok (.iload 5, 2) := by decide +kernel
theorem dL_isPassed_258 : decode cL_isPassed 258 = .ok (.bipush 8, 2) := by decide +kernel
theorem dL_isPassed_260 : decode cL_isPassed 260 = .ok (.iadd, 1) := by decide +kernel
theorem dL_isPassed_261 : decode cL_isPassed 261 = .ok (.iaload, 1) := by decide +kernel
theorem dL_isPassed_262 : decode cL_isPassed 262 = .ok (.ifCond .le 7, 3) := by decide +kernel
theorem dL_isPassed_265 : decode cL_isPassed 265 = .ok (.iconst 1, 1) := by decide +kernel
theorem dL_isPassed_266 : decode cL_isPassed 266 = .ok (.goto 4, 3) := by decide +kernel
theorem dL_isPassed_269 : decode cL_isPassed 269 = .ok (.iconst 0, 1) := by decide +kernel
theorem dL_isPassed_270 : decode cL_isPassed 270 = .ok (.iadd, 1) := by decide +kernel
theorem dL_isPassed_271 : decode cL_isPassed 271 = .ok (.istore 4, 2) := by decide +kernel
theorem dL_isPassed_273 : decode cL_isPassed 273 = .ok (.iinc 5 11, 3) := by decide +kernel
theorem dL_isPassed_276 : decode cL_isPassed 276 = .ok (.goto (-232), 3) := by decide +kernel
theorem dL_isPassed_279 : decode cL_isPassed 279 = .ok (.aload_n 1, 1) := by decide +kernel
theorem dL_isPassed_280 : decode cL_isPassed 280 = .ok (.iconst 0, 1) := by decide +kernel
theorem dL_isPassed_281 : decode cL_isPassed 281 = .ok (.dup2, 1) := by decide +kernel
theorem dL_isPassed_282 : decode cL_isPassed 282 = .ok (.iaload, 1) := by decide +kernel
theorem dL_isPassed_283 : decode cL_isPassed 283 = .ok (.iload_n 3, 1) := by decide +kernel
theorem dL_isPassed_284 : decode cL_isPassed 284 = .ok (.iadd, 1) := by decide +kernel
theorem dL_isPassed_285 : decode cL_isPassed 285 = .ok (.iastore, 1) := by decide +kernel
theorem dL_isPassed_286 : decode cL_isPassed 286 = .ok (.aload_n 0, 1) := by decide +kernel
theorem dL_isPassed_287 : decode cL_isPassed 287 = .ok (.iload_n 3, 1) := by decide +kernel
theorem dL_isPassed_288 : decode cL_isPassed 288 = .ok (.invokevirtual 89, 3) := by decide +kernel
theorem dL_isPassed_291 : decode cL_isPassed 291 = .ok (.iload 4, 2) := by decide +kernel
theorem dL_isPassed_293 : decode cL_isPassed 293 = .ok (.if_icmp .ne 17, 3) := by decide +kernel
theorem dL_isPassed_296 : decode cL_isPassed 296 = .ok (.aload_n 0, 1) := by decide +kernel
theorem dL_isPassed_297 : decode cL_isPassed 297 = .ok (.iconst 0, 1) := by decide +kernel
theorem dL_isPassed_298 : decode cL_isPassed 298 = .ok (.invokevirtual 89, 3) := by decide +kernel
theorem dL_isPassed_301 : decode cL_isPassed 301 = .ok (.bipush (-2), 2) := by decide +kernel
theorem dL_isPassed_303 : decode cL_isPassed 303 = .ok (.if_icmp .ne 7, 3) := by decide +kernel
theorem dL_isPassed_306 : decode cL_isPassed 306 = .ok (.iconst 1, 1) := by decide +kernel
theorem dL_isPassed_307 : decode cL_isPassed 307 = .ok (.goto 4, 3) := by decide +kernel
theorem dL_isPassed_310 : decode cL_isPassed 310 = .ok (.iconst 0, 1) := by decide +kernel
theorem dL_isPassed_311 : decode cL_isPassed 311 = .ok (.ireturn, 1) := by decide +kernel
theorem dL_law_0 : decode cL_law 0 = .ok (.new 20, 3) := by decide +kernel
theorem dL_law_3 : decode cL_law 3 = .ok (.dup, 1) := by decide +kernel
theorem dL_law_4 : decode cL_law 4 = .ok (.invokespecial 92, 3) := by decide +kernel
theorem dL_law_7 : decode cL_law 7 = .ok (.astore_n 1, 1) := by decide +kernel
theorem dL_law_8 : decode cL_law 8 = .ok (.bipush 9, 2) := by decide +kernel
theorem dL_law_10 : decode cL_law 10 = .ok (.newarray .int, 2) := by decide +kernel
theorem dL_law_12 : decode cL_law 12 = .ok (.astore_n 2, 1) := by decide +kernel
theorem dL_law_13 : decode cL_law 13 = .ok (.bipush 9, 2) := by decide +kernel
theorem dL_law_15 : decode cL_law 15 = .ok (.newarray .int, 2) := by decide +kernel
theorem dL_law_17 : decode cL_law 17 = .ok (.astore_n 3, 1) := by decide +kernel
theorem dL_law_18 : decode cL_law 18 = .ok (.bipush 44, 2) := by decide +kernel
theorem dL_law_20 : decode cL_law 20 = .ok (.newarray .int, 2) := by decide +kernel
theorem dL_law_22 : decode cL_law 22 = .ok (.astore 4, 2) := by decide +kernel
theorem dL_law_24 : decode cL_law 24 = .ok (.bipush 60, 2) := by decide +kernel
theorem dL_law_26 : decode cL_law 26 = .ok (.newarray .int, 2) := by decide +kernel
theorem dL_law_28 : decode cL_law 28 = .ok (.astore 5, 2) := by decide +kernel
theorem dL_law_30 : decode cL_law 30 = .ok (.bipush 10, 2) := by decide +kernel
theorem dL_law_32 : decode cL_law 32 = .ok (.newarray .int, 2) := by decide +kernel
theorem dL_law_34 : decode cL_law 34 = .ok (.astore 6, 2) := by decide +kernel
theorem dL_law_36 : decode cL_law 36 = .ok (.bipush 10, 2) := by decide +kernel
theorem dL_law_38 : decode cL_law 38 = .ok (.newarray .int, 2) := by decide +kernel
theorem dL_law_40 : decode cL_law 40 = .ok (.astore 7, 2) := by decide +kernel
theorem dL_law_42 : decode cL_law 42 = .ok (.aload_n 2, 1) := by decide +kernel
theorem dL_law_43 : decode cL_law 43 = .ok (.iconst 4, 1) := by decide +kernel
theorem dL_law_44 : decode cL_law 44 = .ok (.iconst 5, 1) := by decide +kernel
theorem dL_law_45 : decode cL_law 45 = .ok (.iastore, 1) := by decide +kernel
theorem dL_law_46 : decode cL_law 46 = .ok (.iconst 0, 1) := by decide +kernel
theorem dL_law_47 : decode cL_law 47 = .ok (.istore 8, 2) := by decide +kernel
theorem dL_law_49 : decode cL_law 49 = .ok (.iload 8, 2) := by decide +kernel
theorem dL_law_51 : decode cL_law 51 = .ok (.iconst 3, 1) := by decide +kernel
theorem dL_law_52 : decode cL_law 52 = .ok (.if_icmp .ge 54, 3) := by decide +kernel
theorem dL_law_55 : decode cL_law 55 = .ok (.aload_n 3, 1) := by decide +kernel
theorem dL_law_56 : decode cL_law 56 = .ok (.iconst 3, 1) := by decide +kernel
theorem dL_law_57 : decode cL_law 57 = .ok (.iload 8, 2) := by decide +kernel
theorem dL_law_59 : decode cL_law 59 = .ok (.imul, 1) := by decide +kernel
theorem dL_law_60 : decode cL_law 60 = .ok (.aload_n 0, 1) := by decide +kernel
theorem dL_law_61 : decode cL_law 61 = .ok (.iload 8, 2) := by decide +kernel
theorem dL_law_63 : decode cL_law 63 = .ok (.invokestatic 93, 3) := by decide +kernel
theorem dL_law_66 : decode cL_law 66 = .ok (.sipush 4000, 3) := by decide +kernel
theorem dL_law_69 : decode cL_law 69 = .ok (.invokestatic 41, 3) := by decide +kernel
theorem dL_law_72 : decode cL_law 72 = .ok (.iastore, 1) := by decide +kernel
theorem dL_law_73 : decode cL_law 73 = .ok (.aload_n 1, 1) := by decide +kernel
theorem dL_law_74 : decode cL_law 74 = .ok (.aload_n 3, 1) := by decide +kernel
theorem dL_law_75 : decode cL_law 75 = .ok (.iconst 3, 1) := by decide +kernel
theorem dL_law_76 : decode cL_law 76 = .ok (.iload 8, 2) := by decide +kernel
theorem dL_law_78 : decode cL_law 78 = .ok (.imul, 1) := by decide +kernel
theorem dL_law_79 : decode cL_law 79 = .ok (.iaload, 1) := by decide +kernel
theorem dL_law_80 : decode cL_law 80 = .ok (.invokevirtual 97, 3) := by decide +kernel
theorem dL_law_83 : decode cL_law 83 = .ok (.iload 8, 2) := by decide +kernel
theorem dL_law_85 : decode cL_law 85 = .ok (.if_icmp .ne 13, 3) := by decide +kernel
theorem dL_law_88 : decode cL_law 88 = .ok (.aload_n 1, 1) := by decide +kernel
theorem dL_law_89 : decode cL_law 89 = .ok (.iconst (-1), 1) := by decide +kernel
theorem dL_law_90 : decode cL_law 90 = .ok (.invokevirtual 97, 3) := by decide +kernel
theorem dL_law_93 : decode cL_law 93 = .ok (.bipush (-2), 2) := by decide +kernel
theorem dL_law_95 : decode cL_law 95 = .ok (.if_icmp .eq 5, 3) := by decide +kernel
theorem dL_law_98 : decode cL_law 98 = .ok (.iconst 0, 1) := by decide +kernel
theorem dL_law_99 : decode cL_law 99 = .ok (.ireturn, 1) := by decide +kernel
theorem dL_law_100 : decode cL_law 100 = .ok (.iinc 8 1, 3) := by decide +kernel
theorem dL_law_103 : decode cL_law 103 = .ok (.goto (-54), 3) := by decide +kernel
theorem dL_law_106 : decode cL_law 106 = .ok (.iconst 0, 1) := by decide +kernel
theorem dL_law_107 : decode cL_law 107 = .ok (.istore 8, 2) := by decide +kernel
theorem dL_law_109 : decode cL_law 109 = .ok (.iload 8, 2) := by decide +kernel
theorem dL_law_111 : decode cL_law 111 = .ok (.iconst 4, 1) := by decide +kernel
theorem dL_law_112 : decode cL_law 112 = .ok (.if_icmp .ge 157, 3) := by decide +kernel
theorem dL_law_115 : decode cL_law 115 = .ok (.aload_n 0, 1) := by decide +kernel
theorem dL_law_116 : decode cL_law 116 = .ok (.iconst 3, 1) := by decide +kernel
theorem dL_law_117 : decode cL_law 117 = .ok (.iload 8, 2) := by decide +kernel
theorem dL_law_119 : decode cL_law 119 = .ok (.iadd, 1) := by decide +kernel
theorem dL_law_120 : decode cL_law 120 = .ok (.invokestatic 93, 3) := by decide +kernel
theorem dL_law_123 : decode cL_law 123 = .ok (.istore 9, 2) := by decide +kernel
theorem dL_law_125 : decode cL_law 125 = .ok (.aload 4, 2) := by decide +kernel
theorem dL_law_127 : decode cL_law 127 = .ok (.bipush 11, 2) := by decide +kernel
theorem dL_law_129 : decode cL_law 129 = .ok (.iload 8, 2) := by decide +kernel
theorem dL_law_131 : decode cL_law 131 = .ok (.imul, 1) := by decide +kernel
theorem dL_law_132 : decode cL_law 132 = .ok (.bipush 100, 2) := by decide +kernel
theorem dL_law_134 : decode cL_law 134 = .ok (.iload 9, 2) := by decide +kernel
theorem dL_law_136 : decode cL_law 136 = .ok (.sipush 900, 3) := by decide +kernel
theorem dL_law_139 : decode cL_law 139 = .ok (.invokestatic 41, 3) := by decide +kernel
theorem dL_law_142 : decode cL_law 142 = .ok (.iadd, 1) := by decide +kernel
theorem dL_law_143 : decode cL_law 143 = .ok (.iastore, 1) := by decide +kernel
theorem dL_law_144 : decode cL_law 144 = .ok (.aload 4, 2) := by decide +kernel
theorem dL_law_146 : decode cL_law 146 = .ok (.bipush 11, 2) := by decide +kernel
theorem dL_law_148 : decode cL_law 148 = .ok (.iload 8, 2) := by decide +kernel
theorem dL_law_150 : decode cL_law 150 = .ok (.imul, 1) := by decide +kernel
theorem dL_law_151 : decode cL_law 151 = .ok (.iconst 1, 1) := by decide +kernel
theorem dL_law_152 : decode cL_law 152 = .ok (.iadd, 1) := by decide +kernel
theorem dL_law_153 : decode cL_law 153 = .ok (.iload 9, 2) := by decide +kernel
theorem dL_law_155 : decode cL_law 155 = .ok (.bipush 11, 2) := by decide +kernel
theorem dL_law_157 : decode cL_law 157 = .ok (.ishr, 1) := by decide +kernel
theorem dL_law_158 : decode cL_law 158 = .ok (.bipush 51, 2) := by decide +kernel
theorem dL_law_160 : decode cL_law 160 = .ok (.invokestatic 41, 3) := by decide +kernel
theorem dL_law_163 : decode cL_law 163 = .ok (.iastore, 1) := by decide +kernel
theorem dL_law_164 : decode cL_law 164 = .ok (.aload 4, 2) := by decide +kernel
theorem dL_law_166 : decode cL_law 166 = .ok (.bipush 11, 2) := by decide +kernel
theorem dL_law_168 : decode cL_law 168 = .ok (.iload 8, 2) := by decide +kernel
theorem dL_law_170 : decode cL_law 170 = .ok (.imul, 1) := by decide +kernel
theorem dL_law_171 : decode cL_law 171 = .ok (.iconst 2, 1) := by decide +kernel
theorem dL_law_172 : decode cL_law 172 = .ok (.iadd, 1) := by decide +kernel
theorem dL_law_173 : decode cL_law 173 = .ok (.iconst 1, 1) := by decide +kernel
theorem dL_law_174 : decode cL_law 174 = .ok (.iload 9, 2) := by decide +kernel
theorem dL_law_176 : decode cL_law 176 = .ok (.bipush 18, 2) := by decide +kernel
theorem dL_law_178 : decode cL_law 178 = .ok (.ishr, 1) := by decide +kernel
theorem dL_law_179 : decode cL_law 179 = .ok (.bipush 36, 2) := by decide +kernel
theorem dL_law_181 : decode cL_law 181 = .ok (.invokestatic 41, 3) := by decide +kernel
theorem dL_law_184 : decode cL_law 184 = .ok (.iadd, 1) := by decide +kernel
theorem dL_law_185 : decode cL_law 185 = .ok (.iastore, 1) := by decide +kernel
theorem dL_law_186 : decode cL_law 186 = .ok (.aload 4, 2) := by decide +kernel
theorem dL_law_188 : decode cL_law 188 = .ok (.bipush 11, 2) := by decide +kernel
theorem dL_law_190 : decode cL_law 190 = .ok (.iload 8, 2) := by decide +kernel
theorem dL_law_192 : decode cL_law 192 = .ok (.imul, 1) := by decide +kernel
theorem dL_law_193 : decode cL_law 193 = .ok (.iconst 5, 1) := by decide +kernel
theorem dL_law_194 : decode cL_law 194 = .ok (.iadd, 1) := by decide +kernel
theorem dL_law_195 : decode cL_law 195 = .ok (.bipush (-5), 2) := by decide +kernel
theorem dL_law_197 : decode cL_law 197 = .ok (.iastore, 1) := by decide +kernel
theorem dL_law_198 : decode cL_law 198 = .ok (.aload 4, 2) := by decide +kernel
theorem dL_law_200 : decode cL_law 200 = .ok (.bipush 11, 2) := by decide +kernel
theorem dL_law_202 : decode cL_law 202 = .ok (.iload 8, 2) := by decide +kernel
theorem dL_law_204 : decode cL_law 204 = .ok (.imul, 1) := by decide +kernel
theorem dL_law_205 : decode cL_law 205 = .ok (.bipush 10, 2) := by decide +kernel
theorem dL_law_207 : decode cL_law 207 = .ok (.iadd, 1) := by decide +kernel
theorem dL_law_208 : decode cL_law 208 = .ok (.bipush (-5), 2) := by decide +kernel
theorem dL_law_210 : decode cL_law 210 = .ok (.iastore, 1) := by decide +kernel
theorem dL_law_211 : decode cL_law 211 = .ok (.aload_n 1, 1) := by decide +kernel
theorem dL_law_212 : decode cL_law 212 = .ok (.aload 4, 2) := by decide +kernel
theorem dL_law_214 : decode cL_law 214 = .ok (.bipush 11, 2) := by decide +kernel
theorem dL_law_216 : decode cL_law 216 = .ok (.iload 8, 2) := by decide +kernel
theorem dL_law_218 : decode cL_law 218 = .ok (.imul, 1) := by decide +kernel
theorem dL_law_219 : decode cL_law 219 = .ok (.iaload, 1) := by decide +kernel
theorem dL_law_220 : decode cL_law 220 = .ok (.aload 4, 2) := by decide +kernel
theorem dL_law_222 : decode cL_law 222 = .ok (.bipush 11, 2) := by decide +kernel
theorem dL_law_224 : decode cL_law 224 = .ok (.iload 8, 2) := by decide +kernel
theorem dL_law_226 : decode cL_law 226 = .ok (.imul, 1) := by decide +kernel
theorem dL_law_227 : decode cL_law 227 = .ok (.iconst 1, 1) := by decide +kernel
theorem dL_law_228 : decode cL_law 228 = .ok (.iadd, 1) := by decide +kernel
theorem dL_law_229 : decode cL_law 229 = .ok (.iaload, 1) := by decide +kernel
theorem dL_law_230 : decode cL_law 230 = .ok (.aload 4, 2) := by decide +kernel
theorem dL_law_232 : decode cL_law 232 = .ok (.bipush 11, 2) := by decide +kernel
theorem dL_law_234 : decode cL_law 234 = .ok (.iload 8, 2) := by decide +kernel
theorem dL_law_236 : decode cL_law 236 = .ok (.imul, 1) := by decide +kernel
theorem dL_law_237 : decode cL_law 237 = .ok (.iconst 2, 1) := by decide +kernel
theorem dL_law_238 : decode cL_law 238 = .ok (.iadd, 1) := by decide +kernel
theorem dL_law_239 : decode cL_law 239 = .ok (.iaload, 1) := by decide +kernel
theorem dL_law_240 : decode cL_law 240 = .ok (.invokevirtual 100, 3) := by decide +kernel
theorem dL_law_243 : decode cL_law 243 = .ok (.iload 8, 2) := by decide +kernel
theorem dL_law_245 : decode cL_law 245 = .ok (.if_icmp .ne 16, 3) := by decide +kernel
theorem dL_law_248 : decode cL_law 248 = .ok (.aload_n 1, 1) := by decide +kernel
theorem dL_law_249 : decode cL_law 249 = .ok (.bipush 99, 2) := by decide +kernel
theorem dL_law_251 : decode cL_law 251 = .ok (.iconst 0, 1) := by decide +kernel
theorem dL_law_252 : decode cL_law 252 = .ok (.iconst 1, 1) := by decide +kernel
theorem dL_law_253 : decode cL_law 253 = .ok (.invokevirtual 100, 3) := by decide +kernel
theorem dL_law_256 : decode cL_law 256 = .ok (.bipush (-2), 2) := by decide +kernel
theorem dL_law_258 : decode cL_law 258 = .ok (.if_icmp .eq 5, 3) := by decide +kernel
theorem dL_law_261 : decode cL_law 261 = .ok (.iconst 0, 1) := by decide +kernel
theorem dL_law_262 : decode cL_law 262 = .ok (.ireturn, 1) := by decide +kernel
theorem dL_law_263 : decode cL_law 263 = .ok (.iinc 8 1, 3) := by decide +kernel
theorem dL_law_266 : decode cL_law 266 = .ok (.goto (-157), 3) := by decide +kernel
theorem dL_law_269 : decode cL_law 269 = .ok (.aload_n 2, 1) := by decide +kernel
theorem dL_law_270 : decode cL_law 270 = .ok (.iconst 1, 1) := by decide +kernel
theorem dL_law_271 : decode cL_law 271 = .ok (.iconst 4, 1) := by decide +kernel
theorem dL_law_272 : decode cL_law 272 = .ok (.iastore, 1) := by decide +kernel
theorem dL_law_273 : decode cL_law 273 = .ok (.bipush 7, 2) := by decide +kernel
theorem dL_law_275 : decode cL_law 275 = .ok (.istore 8, 2) := by decide +kernel
theorem dL_law_277 : decode cL_law 277 = .ok (.iload 8, 2) := by decide +kernel
theorem dL_law_279 : decode cL_law 279 = .ok (.bipush 62, 2) := by decide +kernel
theorem dL_law_281 : decode cL_law 281 = .ok (.if_icmp .ge 234, 3) := by decide +kernel
theorem dL_law_284 : decode cL_law 284 = .ok (.aload_n 0, 1) := by decide +kernel
theorem dL_law_285 : decode cL_law 285 = .ok (.iload 8, 2) := by decide +kernel
theorem dL_law_287 : decode cL_law 287 = .ok (.invokestatic 93, 3) := by decide +kernel
theorem dL_law_290 : decode cL_law 290 = .ok (.istore 9, 2) := by decide +kernel
theorem dL_law_292 : decode cL_law 292 = .ok (.iload 9, 2) := by decide +kernel
theorem dL_law_294 : decode cL_law 294 = .ok (.bipush 25, 2) := by decide +kernel
theorem dL_law_296 : decode cL_law 296 = .ok (.ishr, 1) := by decide +kernel
theorem dL_law_297 : decode cL_law 297 = .ok (.bipush 11, 2) := by decide +kernel
theorem dL_law_299 : decode cL_law 299 = .ok (.invokestatic 41, 3) := by decide +kernel
theorem dL_law_302 : decode cL_law 302 = .ok (.tableswitch 141 0 8 #[50, 50, 50, 69, 69, 69, 88, 107, 124], 50) := by decide +kernel
theorem dL_law_352 : decode cL_law 352 = .ok (.aload_n 1, 1) := by decide +kernel
theorem dL_law_353 : decode cL_law 353 = .ok (.aload_n 2, 1) := by decide +kernel
theorem dL_law_354 : decode cL_law 354 = .ok (.aload_n 3, 1) := by decide +kernel
theorem dL_law_355 : decode cL_law 355 = .ok (.aload 4, 2) := by decide +kernel
theorem dL_law_357 : decode cL_law 357 = .ok (.aload 5, 2) := by decide +kernel
theorem dL_law_359 : decode cL_law 359 = .ok (.aload 6, 2) := by decide +kernel
theorem dL_law_361 : decode cL_law 361 = .ok (.iload 9, 2) := by decide +kernel
theorem dL_law_363 : decode cL_law 363 = .ok (.invokestatic 103, 3) := by decide +kernel
theorem dL_law_366 : decode cL_law 366 = .ok (.istore 10, 2) := by decide +kernel
theorem dL_law_368 : decode cL_law 368 = .ok (.goto 109, 3) := by decide +kernel
theorem dL_law_371 : decode cL_law 371 = .ok (.aload_n 1, 1) := by decide +kernel
theorem dL_law_372 : decode cL_law 372 = .ok (.aload_n 2, 1) := by decide +kernel
theorem dL_law_373 : decode cL_law 373 = .ok (.aload_n 3, 1) := by decide +kernel
theorem dL_law_374 : decode cL_law 374 = .ok (.aload 4, 2) := by decide +kernel
theorem dL_law_376 : decode cL_law 376 = .ok (.aload 5, 2) := by decide +kernel
theorem dL_law_378 : decode cL_law 378 = .ok (.aload 7, 2) := by decide +kernel
theorem dL_law_380 : decode cL_law 380 = .ok (.iload 9, 2) := by decide +kernel
theorem dL_law_382 : decode cL_law 382 = .ok (.invokestatic 107, 3) := by decide +kernel
theorem dL_law_385 : decode cL_law 385 = .ok (.istore 10, 2) := by decide +kernel
theorem dL_law_387 : decode cL_law 387 = .ok (.goto 90, 3) := by decide +kernel
theorem dL_law_390 : decode cL_law 390 = .ok (.aload_n 1, 1) := by decide +kernel
theorem dL_law_391 : decode cL_law 391 = .ok (.aload_n 2, 1) := by decide +kernel
theorem dL_law_392 : decode cL_law 392 = .ok (.aload_n 3, 1) := by decide +kernel
theorem dL_law_393 : decode cL_law 393 = .ok (.aload 4, 2) := by decide +kernel
theorem dL_law_395 : decode cL_law 395 = .ok (.aload 5, 2) := by decide +kernel
theorem dL_law_397 : decode cL_law 397 = .ok (.aload 7, 2) := by decide +kernel
theorem dL_law_399 : decode cL_law 399 = .ok (.iload 9, 2) := by decide +kernel
theorem dL_law_401 : decode cL_law 401 = .ok (.invokestatic 110, 3) := by decide +kernel
theorem dL_law_404 : decode cL_law 404 = .ok (.istore 10, 2) := by decide +kernel
theorem dL_law_406 : decode cL_law 406 = .ok (.goto 71, 3) := by decide +kernel
theorem dL_law_409 : decode cL_law 409 = .ok (.aload_n 1, 1) := by decide +kernel
theorem dL_law_410 : decode cL_law 410 = .ok (.aload_n 2, 1) := by decide +kernel
theorem dL_law_411 : decode cL_law 411 = .ok (.aload_n 3, 1) := by decide +kernel
theorem dL_law_412 : decode cL_law 412 = .ok (.aload 4, 2) := by decide +kernel
theorem dL_law_414 : decode cL_law 414 = .ok (.aload 5, 2) := by decide +kernel
theorem dL_law_416 : decode cL_law 416 = .ok (.iload 9, 2) := by decide +kernel
theorem dL_law_418 : decode cL_law 418 = .ok (.invokestatic 113, 3) := by decide +kernel
theorem dL_law_421 : decode cL_law 421 = .ok (.istore 10, 2) := by decide +kernel
theorem dL_law_423 : decode cL_law 423 = .ok (.goto 54, 3) := by decide +kernel
theorem dL_law_426 : decode cL_law 426 = .ok (.aload_n 1, 1) := by decide +kernel
theorem dL_law_427 : decode cL_law 427 = .ok (.aload_n 2, 1) := by decide +kernel
theorem dL_law_428 : decode cL_law 428 = .ok (.aload_n 3, 1) := by decide +kernel
theorem dL_law_429 : decode cL_law 429 = .ok (.aload 4, 2) := by decide +kernel
theorem dL_law_431 : decode cL_law 431 = .ok (.aload 5, 2) := by decide +kernel
theorem dL_law_433 : decode cL_law 433 = .ok (.iload 9, 2) := by decide +kernel
theorem dL_law_435 : decode cL_law 435 = .ok (.invokestatic 117, 3) := by decide +kernel
theorem dL_law_438 : decode cL_law 438 = .ok (.istore 10, 2) := by decide +kernel
theorem dL_law_440 : decode cL_law 440 = .ok (.goto 37, 3) := by decide +kernel
theorem dL_law_443 : decode cL_law 443 = .ok (.aload_n 1, 1) := by decide +kernel
theorem dL_law_444 : decode cL_law 444 = .ok (.aload_n 2, 1) := by decide +kernel
theorem dL_law_445 : decode cL_law 445 = .ok (.aload 4, 2) := by decide +kernel
theorem dL_law_447 : decode cL_law 447 = .ok (.iconst 1, 1) := by decide +kernel
theorem dL_law_448 : decode cL_law 448 = .ok (.iload 9, 2) := by decide +kernel
theorem dL_law_450 : decode cL_law 450 = .ok (.iload 9, 2) := by decide +kernel
theorem dL_law_452 : decode cL_law 452 = .ok (.bipush 6, 2) := by decide +kernel
theorem dL_law_454 : decode cL_law 454 = .ok (.ishr, 1) := by decide +kernel
theorem dL_law_455 : decode cL_law 455 = .ok (.iconst 4, 1) := by decide +kernel
theorem dL_law_456 : decode cL_law 456 = .ok (.invokestatic 41, 3) := by decide +kernel
theorem dL_law_459 : decode cL_law 459 = .ok (.ifCond .ne 8, 3) := by decide +kernel
theorem dL_law_462 : decode cL_law 462 = .ok (.bipush 24, 2) := by decide +kernel
theorem dL_law_464 : decode cL_law 464 = .ok (.goto 4, 3) := by decide +kernel
theorem dL_law_467 : decode cL_law 467 = .ok (.iconst 2, 1) := by decide +kernel
theorem dL_law_468 : decode cL_law 468 = .ok (.invokestatic 41, 3) := by decide +kernel
theorem dL_law_471 : decode cL_law 471 = .ok (.iadd, 1) := by decide +kernel
theorem dL_law_472 : decode cL_law 472 = .ok (.invokestatic 120, 3) := by decide +kernel
theorem dL_law_475 : decode cL_law 475 = .ok (.istore 10, 2) := by decide +kernel
theorem dL_law_477 : decode cL_law 477 = .ok (.iload 10, 2) := by decide +kernel
theorem dL_law_479 : decode cL_law 479 = .ok (.ifCond .eq 28, 3) := by decide +kernel
theorem dL_law_482 : decode cL_law 482 = .ok (.aload_n 1, 1) := by decide +kernel
theorem dL_law_483 : decode cL_law 483 = .ok (.aload_n 2, 1) := by decide +kernel
theorem dL_law_484 : decode cL_law 484 = .ok (.aload 4, 2) := by decide +kernel
theorem dL_law_486 : decode cL_law 486 = .ok (.aload 5, 2) := by decide +kernel
theorem dL_law_488 : decode cL_law 488 = .ok (.invokestatic 124, 3) := by decide +kernel
theorem dL_law_491 : decode cL_law 491 = .ok (.ifCond .eq 16, 3) := by decide +kernel
theorem dL_law_494 : decode cL_law 494 = .ok (.aload_n 1, 1) := by decide +kernel
theorem dL_law_495 : decode cL_law 495 = .ok (.aload_n 2, 1) := by decide +kernel
theorem dL_law_496 : decode cL_law 496 = .ok (.aload_n 3, 1) := by decide +kernel
theorem dL_law_497 : decode cL_law 497 = .ok (.aload 5, 2) := by decide +kernel
theorem dL_law_499 : decode cL_law 499 = .ok (.aload 6, 2) := by decide +kernel
theorem dL_law_501 : decode cL_law 501 = .ok (.invokestatic 128, 3) := by decide +kernel
theorem dL_law_504 : decode cL_law 504 = .ok (.ifCond .ne 5, 3) := by decide +kernel
theorem dL_law_507 : decode cL_law 507 = .ok (.iconst 0, 1) := by decide +kernel
theorem dL_law_508 : decode cL_law 508 = .ok (.ireturn, 1) := by decide +kernel
theorem dL_law_509 : decode cL_law 509 = .ok (.iinc 8 1, 3) := by decide +kernel
theorem dL_law_512 : decode cL_law 512 = .ok (.goto (-235), 3) := by decide +kernel
theorem dL_law_515 : decode cL_law 515 = .ok (.iconst 1, 1) := by decide +kernel
theorem dL_law_516 : decode cL_law 516 = .ok (.ireturn, 1) := by decide +kernel
