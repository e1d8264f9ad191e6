theorem dX12_goesOn_0 : decode cX12_goesOn 0 = .ok (.aload_n 0, 1) := by decide +kernel
theorem dX12_goesOn_1 : decode cX12_goesOn 1 = .ok (.invokevirtual 244, 3) := by decide +kernel
theorem dX12_goesOn_4 : decode cX12_goesOn 4 = .ok (.aload_n 0, 1) := by decide +kernel
theorem dX12_goesOn_5 : decode cX12_goesOn 5 = .ok (.getfield 36, 3) := by decide +kernel
theorem dX12_goesOn_8 : decode cX12_goesOn 8 = .ok (.ifCond .le 5, 3) := by decide +kernel
theorem dX12_goesOn_11 : decode cX12_goesOn 11 = .ok (.iconst 0, 1) := by decide +kernel
theorem dX12_goesOn_12 : decode cX12_goesOn 12 = .ok (.ireturn, 1) := by decide +kernel
theorem dX12_goesOn_13 : decode cX12_goesOn 13 = .ok (.aload_n 0, 1) := by decide +kernel
theorem dX12_goesOn_14 : decode cX12_goesOn 14 = .ok (.getfield 128, 3) := by decide +kernel
theorem dX12_goesOn_17 : decode cX12_goesOn 17 = .ok (.iconst 1, 1) := by decide +kernel
theorem dX12_goesOn_18 : decode cX12_goesOn 18 = .ok (.isub, 1) := by decide +kernel
theorem dX12_goesOn_19 : decode cX12_goesOn 19 = .ok (.istore_n 1, 1) := by decide +kernel
theorem dX12_goesOn_20 : decode cX12_goesOn 20 = .ok (.aload_n 0, 1) := by decide +kernel
theorem dX12_goesOn_21 : decode cX12_goesOn 21 = .ok (.getfield 112, 3) := by decide +kernel
theorem dX12_goesOn_24 : decode cX12_goesOn 24 = .ok (.iload_n 1, 1) := by decide +kernel
theorem dX12_goesOn_25 : decode cX12_goesOn 25 = .ok (.iaload, 1) := by decide +kernel
theorem dX12_goesOn_26 : decode cX12_goesOn 26 = .ok (.istore_n 2, 1) := by decide +kernel
theorem dX12_goesOn_27 : decode cX12_goesOn 27 = .ok (.iload_n 2, 1) := by decide +kernel
theorem dX12_goesOn_28 : decode cX12_goesOn 28 = .ok (.invokestatic 316, 3) := by decide +kernel
theorem dX12_goesOn_31 : decode cX12_goesOn 31 = .ok (.istore_n 3, 1) := by decide +kernel
theorem dX12_goesOn_32 : decode cX12_goesOn 32 = .ok (.aload_n 0, 1) := by decide +kernel
theorem dX12_goesOn_33 : decode cX12_goesOn 33 = .ok (.getfield 115, 3) := by decide +kernel
theorem dX12_goesOn_36 : decode cX12_goesOn 36 = .ok (.iload_n 1, 1) := by decide +kernel
theorem dX12_goesOn_37 : decode cX12_goesOn 37 = .ok (.iaload, 1) := by decide +kernel
theorem dX12_goesOn_38 : decode cX12_goesOn 38 = .ok (.iconst 2, 1) := by decide +kernel
theorem dX12_goesOn_39 : decode cX12_goesOn 39 = .ok (.if_icmp .ge 149, 3) := by decide +kernel
theorem dX12_goesOn_42 : decode cX12_goesOn 42 = .ok (.aload_n 0, 1) := by decide +kernel
theorem dX12_goesOn_43 : decode cX12_goesOn 43 = .ok (.bipush 43, 2) := by decide +kernel
theorem dX12_goesOn_45 : decode cX12_goesOn 45 = .ok (.invokevirtual 247, 3) := by decide +kernel
theorem dX12_goesOn_48 : decode cX12_goesOn 48 = .ok (.ifCond .ne 39, 3) := by decide +kernel
theorem dX12_goesOn_51 : decode cX12_goesOn 51 = .ok (.aload_n 0, 1) := by decide +kernel
theorem dX12_goesOn_52 : decode cX12_goesOn 52 = .ok (.bipush 45, 2) := by decide +kernel
theorem dX12_goesOn_54 : decode cX12_goesOn 54 = .ok (.invokevirtual 247, 3) := by decide +kernel
theorem dX12_goesOn_57 : decode cX12_goesOn 57 = .ok (.ifCond .ne 30, 3) := by decide +kernel
theorem dX12_goesOn_60 : decode cX12_goesOn 60 = .ok (.aload_n 0, 1) := by decide +kernel
theorem dX12_goesOn_61 : decode cX12_goesOn 61 = .ok (.bipush 42, 2) := by decide +kernel
theorem dX12_goesOn_63 : decode cX12_goesOn 63 = .ok (.invokevirtual 247, 3) := by decide +kernel
theorem dX12_goesOn_66 : decode cX12_goesOn 66 = .ok (.ifCond .ne 21, 3) := by decide +kernel
theorem dX12_goesOn_69 : decode cX12_goesOn 69 = .ok (.aload_n 0, 1) := by decide +kernel
theorem dX12_goesOn_70 : decode cX12_goesOn 70 = .ok (.bipush 47, 2) := by decide +kernel
theorem dX12_goesOn_72 : decode cX12_goesOn 72 = .ok (.invokevirtual 247, 3) := by decide +kernel
theorem dX12_goesOn_75 : decode cX12_goesOn 75 = .ok (.ifCond .ne 12, 3) := by decide +kernel
theorem dX12_goesOn_78 : decode cX12_goesOn 78 = .ok (.aload_n 0, 1) := by decide +kernel
theorem dX12_goesOn_79 : decode cX12_goesOn 79 = .ok (.bipush 37, 2) := by decide +kernel
theorem dX12_goesOn_81 : decode cX12_goesOn 81 = .ok (.invokevirtual 247, 3) := by decide +kernel
theorem dX12_goesOn_84 : decode cX12_goesOn 84 = .ok (.ifCond .eq 104, 3) := by decide +kernel
theorem dX12_goesOn_87 : decode cX12_goesOn 87 = .ok (.aload_n 0, 1) := by decide +kernel
theorem dX12_goesOn_88 : decode cX12_goesOn 88 = .ok (.aload_n 0, 1) := by decide +kernel
theorem dX12_goesOn_89 : decode cX12_goesOn 89 = .ok (.bipush 43, 2) := by decide +kernel
theorem dX12_goesOn_91 : decode cX12_goesOn 91 = .ok (.invokevirtual 247, 3) := by decide +kernel
theorem dX12_goesOn_94 : decode cX12_goesOn 94 = .ok (.ifCond .ne 12, 3) := by decide +kernel
theorem dX12_goesOn_97 : decode cX12_goesOn 97 = .ok (.aload_n 0, 1) := by decide +kernel
theorem dX12_goesOn_98 : decode cX12_goesOn 98 = .ok (.bipush 45, 2) := by decide +kernel
theorem dX12_goesOn_100 : decode cX12_goesOn 100 = .ok (.invokevirtual 247, 3) := by decide +kernel
theorem dX12_goesOn_103 : decode cX12_goesOn 103 = .ok (.ifCond .eq 7, 3) := by decide +kernel
theorem dX12_goesOn_106 : decode cX12_goesOn 106 = .ok (.iconst 5, 1) := by decide +kernel
theorem dX12_goesOn_107 : decode cX12_goesOn 107 = .ok (.goto 5, 3) := by decide +kernel
theorem dX12_goesOn_110 : decode cX12_goesOn 110 = .ok (.bipush 6, 2) := by decide +kernel
theorem dX12_goesOn_112 : decode cX12_goesOn 112 = .ok (.invokevirtual 332, 3) := by decide +kernel
theorem dX12_goesOn_115 : decode cX12_goesOn 115 = .ok (.aload_n 0, 1) := by decide +kernel
theorem dX12_goesOn_116 : decode cX12_goesOn 116 = .ok (.aload_n 0, 1) := by decide +kernel
theorem dX12_goesOn_117 : decode cX12_goesOn 117 = .ok (.bipush 43, 2) := by decide +kernel
theorem dX12_goesOn_119 : decode cX12_goesOn 119 = .ok (.invokevirtual 247, 3) := by decide +kernel
theorem dX12_goesOn_122 : decode cX12_goesOn 122 = .ok (.ifCond .eq 8, 3) := by decide +kernel
theorem dX12_goesOn_125 : decode cX12_goesOn 125 = .ok (.bipush 31, 2) := by decide +kernel
theorem dX12_goesOn_127 : decode cX12_goesOn 127 = .ok (.goto 47, 3) := by decide +kernel
theorem dX12_goesOn_130 : decode cX12_goesOn 130 = .ok (.aload_n 0, 1) := by decide +kernel
theorem dX12_goesOn_131 : decode cX12_goesOn 131 = .ok (.bipush 45, 2) := by decide +kernel
theorem dX12_goesOn_133 : decode cX12_goesOn 133 = .ok (.invokevirtual 247, 3) := by decide +kernel
theorem dX12_goesOn_136 : decode cX12_goesOn 136 = .ok (.ifCond .eq 8, 3) := by decide +kernel
theorem dX12_goesOn_139 : decode cX12_goesOn 139 = .ok (.bipush 32, 2) := by decide +kernel
theorem dX12_goesOn_141 : decode cX12_goesOn 141 = .ok (.goto 33, 3) := by decide +kernel
theorem dX12_goesOn_144 : decode cX12_goesOn 144 = .ok (.aload_n 0, 1) := by decide +kernel
theorem dX12_goesOn_145 : decode cX12_goesOn 145 = .ok (.bipush 42, 2) := by decide +kernel
theorem dX12_goesOn_147 : decode cX12_goesOn 147 = .ok (.invokevirtual 247, 3) := by decide +kernel
theorem dX12_goesOn_150 : decode cX12_goesOn 150 = .ok (.ifCond .eq 8, 3) := by decide +kernel
theorem dX12_goesOn_153 : decode cX12_goesOn 153 = .ok (.bipush 33, 2) := by decide +kernel
theorem dX12_goesOn_155 : decode cX12_goesOn 155 = .ok (.goto 19, 3) := by decide +kernel
theorem dX12_goesOn_158 : decode cX12_goesOn 158 = .ok (.aload_n 0, 1) := by decide +kernel
theorem dX12_goesOn_159 : decode cX12_goesOn 159 = .ok (.bipush 47, 2) := by decide +kernel
theorem dX12_goesOn_161 : decode cX12_goesOn 161 = .ok (.invokevirtual 247, 3) := by decide +kernel
theorem dX12_goesOn_164 : decode cX12_goesOn 164 = .ok (.ifCond .eq 8, 3) := by decide +kernel
theorem dX12_goesOn_167 : decode cX12_goesOn 167 = .ok (.bipush 34, 2) := by decide +kernel
theorem dX12_goesOn_169 : decode cX12_goesOn 169 = .ok (.goto 5, 3) := by decide +kernel
theorem dX12_goesOn_172 : decode cX12_goesOn 172 = .ok (.bipush 35, 2) := by decide +kernel
theorem dX12_goesOn_174 : decode cX12_goesOn 174 = .ok (.invokevirtual 323, 3) := by decide +kernel
theorem dX12_goesOn_177 : decode cX12_goesOn 177 = .ok (.aload_n 0, 1) := by decide +kernel
theorem dX12_goesOn_178 : decode cX12_goesOn 178 = .ok (.invokevirtual 250, 3) := by decide +kernel
theorem dX12_goesOn_181 : decode cX12_goesOn 181 = .ok (.aload_n 0, 1) := by decide +kernel
theorem dX12_goesOn_182 : decode cX12_goesOn 182 = .ok (.iconst 0, 1) := by decide +kernel
theorem dX12_goesOn_183 : decode cX12_goesOn 183 = .ok (.putfield 140, 3) := by decide +kernel
theorem dX12_goesOn_186 : decode cX12_goesOn 186 = .ok (.iconst 1, 1) := by decide +kernel
theorem dX12_goesOn_187 : decode cX12_goesOn 187 = .ok (.ireturn, 1) := by decide +kernel
theorem dX12_goesOn_188 : decode cX12_goesOn 188 = .ok (.iload_n 3, 1) := by decide +kernel
theorem dX12_goesOn_189 : decode cX12_goesOn 189 = .ok (.ifCond .eq 96, 3) := by decide +kernel
theorem dX12_goesOn_192 : decode cX12_goesOn 192 = .ok (.aload_n 0, 1) := by decide +kernel
theorem dX12_goesOn_193 : decode cX12_goesOn 193 = .ok (.getfield 115, 3) := by decide +kernel
theorem dX12_goesOn_196 : decode cX12_goesOn 196 = .ok (.iload_n 1, 1) := by decide +kernel
theorem dX12_goesOn_197 : decode cX12_goesOn 197 = .ok (.iaload, 1) := by decide +kernel
theorem dX12_goesOn_198 : decode cX12_goesOn 198 = .ok (.ifCond .ne 87, 3) := by decide +kernel
theorem dX12_goesOn_201 : decode cX12_goesOn 201 = .ok (.aload_n 0, 1) := by decide +kernel
theorem dX12_goesOn_202 : decode cX12_goesOn 202 = .ok (.bipush 60, 2) := by decide +kernel
theorem dX12_goesOn_204 : decode cX12_goesOn 204 = .ok (.invokevirtual 247, 3) := by decide +kernel
theorem dX12_goesOn_207 : decode cX12_goesOn 207 = .ok (.ifCond .ne 21, 3) := by decide +kernel
theorem dX12_goesOn_210 : decode cX12_goesOn 210 = .ok (.aload_n 0, 1) := by decide +kernel
theorem dX12_goesOn_211 : decode cX12_goesOn 211 = .ok (.bipush 62, 2) := by decide +kernel
theorem dX12_goesOn_213 : decode cX12_goesOn 213 = .ok (.invokevirtual 247, 3) := by decide +kernel
theorem dX12_goesOn_216 : decode cX12_goesOn 216 = .ok (.ifCond .ne 12, 3) := by decide +kernel
theorem dX12_goesOn_219 : decode cX12_goesOn 219 = .ok (.aload_n 0, 1) := by decide +kernel
theorem dX12_goesOn_220 : decode cX12_goesOn 220 = .ok (.bipush 61, 2) := by decide +kernel
theorem dX12_goesOn_222 : decode cX12_goesOn 222 = .ok (.invokevirtual 247, 3) := by decide +kernel
theorem dX12_goesOn_225 : decode cX12_goesOn 225 = .ok (.ifCond .eq 60, 3) := by decide +kernel
theorem dX12_goesOn_228 : decode cX12_goesOn 228 = .ok (.aload_n 0, 1) := by decide +kernel
theorem dX12_goesOn_229 : decode cX12_goesOn 229 = .ok (.iconst 5, 1) := by decide +kernel
theorem dX12_goesOn_230 : decode cX12_goesOn 230 = .ok (.invokevirtual 332, 3) := by decide +kernel
theorem dX12_goesOn_233 : decode cX12_goesOn 233 = .ok (.aload_n 0, 1) := by decide +kernel
theorem dX12_goesOn_234 : decode cX12_goesOn 234 = .ok (.aload_n 0, 1) := by decide +kernel
theorem dX12_goesOn_235 : decode cX12_goesOn 235 = .ok (.bipush 60, 2) := by decide +kernel
theorem dX12_goesOn_237 : decode cX12_goesOn 237 = .ok (.invokevirtual 247, 3) := by decide +kernel
theorem dX12_goesOn_240 : decode cX12_goesOn 240 = .ok (.ifCond .eq 8, 3) := by decide +kernel
theorem dX12_goesOn_243 : decode cX12_goesOn 243 = .ok (.bipush 38, 2) := by decide +kernel
theorem dX12_goesOn_245 : decode cX12_goesOn 245 = .ok (.goto 19, 3) := by decide +kernel
theorem dX12_goesOn_248 : decode cX12_goesOn 248 = .ok (.aload_n 0, 1) := by decide +kernel
theorem dX12_goesOn_249 : decode cX12_goesOn 249 = .ok (.bipush 62, 2) := by decide +kernel
theorem dX12_goesOn_251 : decode cX12_goesOn 251 = .ok (.invokevirtual 247, 3) := by decide +kernel
theorem dX12_goesOn_254 : decode cX12_goesOn 254 = .ok (.ifCond .eq 8, 3) := by decide +kernel
theorem dX12_goesOn_257 : decode cX12_goesOn 257 = .ok (.bipush 39, 2) := by decide +kernel
theorem dX12_goesOn_259 : decode cX12_goesOn 259 = .ok (.goto 5, 3) := by decide +kernel
theorem dX12_goesOn_262 : decode cX12_goesOn 262 = .ok (.bipush 40, 2) := by decide +kernel
theorem dX12_goesOn_264 : decode cX12_goesOn 264 = .ok (.invokevirtual 323, 3) := by decide +kernel
theorem dX12_goesOn_267 : decode cX12_goesOn 267 = .ok (.aload_n 0, 1) := by decide +kernel
theorem dX12_goesOn_268 : decode cX12_goesOn 268 = .ok (.getfield 115, 3) := by decide +kernel
theorem dX12_goesOn_271 : decode cX12_goesOn 271 = .ok (.iload_n 1, 1) := by decide +kernel
theorem dX12_goesOn_272 : decode cX12_goesOn 272 = .ok (.iconst 1, 1) := by decide +kernel
theorem dX12_goesOn_273 : decode cX12_goesOn 273 = .ok (.iastore, 1) := by decide +kernel
theorem dX12_goesOn_274 : decode cX12_goesOn 274 = .ok (.aload_n 0, 1) := by decide +kernel
theorem dX12_goesOn_275 : decode cX12_goesOn 275 = .ok (.invokevirtual 250, 3) := by decide +kernel
theorem dX12_goesOn_278 : decode cX12_goesOn 278 = .ok (.aload_n 0, 1) := by decide +kernel
theorem dX12_goesOn_279 : decode cX12_goesOn 279 = .ok (.iconst 0, 1) := by decide +kernel
theorem dX12_goesOn_280 : decode cX12_goesOn 280 = .ok (.putfield 140, 3) := by decide +kernel
theorem dX12_goesOn_283 : decode cX12_goesOn 283 = .ok (.iconst 1, 1) := by decide +kernel
theorem dX12_goesOn_284 : decode cX12_goesOn 284 = .ok (.ireturn, 1) := by decide +kernel
theorem dX12_goesOn_285 : decode cX12_goesOn 285 = .ok (.iload_n 3, 1) := by decide +kernel
theorem dX12_goesOn_286 : decode cX12_goesOn 286 = .ok (.ifCond .eq 114, 3) := by decide +kernel
theorem dX12_goesOn_289 : decode cX12_goesOn 289 = .ok (.aload_n 0, 1) := by decide +kernel
theorem dX12_goesOn_290 : decode cX12_goesOn 290 = .ok (.ldc2_w 289, 3) := by decide +kernel
theorem dX12_goesOn_293 : decode cX12_goesOn 293 = .ok (.invokevirtual 319, 3) := by decide +kernel
theorem dX12_goesOn_296 : decode cX12_goesOn 296 = .ok (.ifCond .ne 13, 3) := by decide +kernel
theorem dX12_goesOn_299 : decode cX12_goesOn 299 = .ok (.aload_n 0, 1) := by decide +kernel
theorem dX12_goesOn_300 : decode cX12_goesOn 300 = .ok (.ldc2_w 287, 3) := by decide +kernel
theorem dX12_goesOn_303 : decode cX12_goesOn 303 = .ok (.invokevirtual 319, 3) := by decide +kernel
theorem dX12_goesOn_306 : decode cX12_goesOn 306 = .ok (.ifCond .eq 94, 3) := by decide +kernel
theorem dX12_goesOn_309 : decode cX12_goesOn 309 = .ok (.aload_n 0, 1) := by decide +kernel
theorem dX12_goesOn_310 : decode cX12_goesOn 310 = .ok (.getfield 115, 3) := by decide +kernel
theorem dX12_goesOn_313 : decode cX12_goesOn 313 = .ok (.iload_n 1, 1) := by decide +kernel
theorem dX12_goesOn_314 : decode cX12_goesOn 314 = .ok (.iaload, 1) := by decide +kernel
theorem dX12_goesOn_315 : decode cX12_goesOn 315 = .ok (.ifCond .ne 12, 3) := by decide +kernel
theorem dX12_goesOn_318 : decode cX12_goesOn 318 = .ok (.aload_n 0, 1) := by decide +kernel
theorem dX12_goesOn_319 : decode cX12_goesOn 319 = .ok (.iconst 1, 1) := by decide +kernel
theorem dX12_goesOn_320 : decode cX12_goesOn 320 = .ok (.aload_n 0, 1) := by decide +kernel
theorem dX12_goesOn_321 : decode cX12_goesOn 321 = .ok (.getfield 23, 3) := by decide +kernel
theorem dX12_goesOn_324 : decode cX12_goesOn 324 = .ok (.invokevirtual 233, 3) := by decide +kernel
theorem dX12_goesOn_327 : decode cX12_goesOn 327 = .ok (.aload_n 0, 1) := by decide +kernel
theorem dX12_goesOn_328 : decode cX12_goesOn 328 = .ok (.getfield 36, 3) := by decide +kernel
theorem dX12_goesOn_331 : decode cX12_goesOn 331 = .ok (.ifCond .le 5, 3) := by decide +kernel
theorem dX12_goesOn_334 : decode cX12_goesOn 334 = .ok (.iconst 0, 1) := by decide +kernel
theorem dX12_goesOn_335 : decode cX12_goesOn 335 = .ok (.ireturn, 1) := by decide +kernel
theorem dX12_goesOn_336 : decode cX12_goesOn 336 = .ok (.aload_n 0, 1) := by decide +kernel
theorem dX12_goesOn_337 : decode cX12_goesOn 337 = .ok (.ldc2_w 289, 3) := by decide +kernel
theorem dX12_goesOn_340 : decode cX12_goesOn 340 = .ok (.invokevirtual 319, 3) := by decide +kernel
theorem dX12_goesOn_343 : decode cX12_goesOn 343 = .ok (.istore 4, 2) := by decide +kernel
theorem dX12_goesOn_345 : decode cX12_goesOn 345 = .ok (.aload_n 0, 1) := by decide +kernel
theorem dX12_goesOn_346 : decode cX12_goesOn 346 = .ok (.iload 4, 2) := by decide +kernel
theorem dX12_goesOn_348 : decode cX12_goesOn 348 = .ok (.ifCond .eq 7, 3) := by decide +kernel
theorem dX12_goesOn_351 : decode cX12_goesOn 351 = .ok (.iconst 2, 1) := by decide +kernel
theorem dX12_goesOn_352 : decode cX12_goesOn 352 = .ok (.goto 4, 3) := by decide +kernel
theorem dX12_goesOn_355 : decode cX12_goesOn 355 = .ok (.iconst 1, 1) := by decide +kernel
theorem dX12_goesOn_356 : decode cX12_goesOn 356 = .ok (.invokevirtual 332, 3) := by decide +kernel
theorem dX12_goesOn_359 : decode cX12_goesOn 359 = .ok (.aload_n 0, 1) := by decide +kernel
theorem dX12_goesOn_360 : decode cX12_goesOn 360 = .ok (.iload 4, 2) := by decide +kernel
theorem dX12_goesOn_362 : decode cX12_goesOn 362 = .ok (.ifCond .eq 8, 3) := by decide +kernel
theorem dX12_goesOn_365 : decode cX12_goesOn 365 = .ok (.bipush 41, 2) := by decide +kernel
theorem dX12_goesOn_367 : decode cX12_goesOn 367 = .ok (.goto 5, 3) := by decide +kernel
theorem dX12_goesOn_370 : decode cX12_goesOn 370 = .ok (.bipush 42, 2) := by decide +kernel
theorem dX12_goesOn_372 : decode cX12_goesOn 372 = .ok (.invokevirtual 323, 3) := by decide +kernel
theorem dX12_goesOn_375 : decode cX12_goesOn 375 = .ok (.aload_n 0, 1) := by decide +kernel
theorem dX12_goesOn_376 : decode cX12_goesOn 376 = .ok (.getfield 115, 3) := by decide +kernel
theorem dX12_goesOn_379 : decode cX12_goesOn 379 = .ok (.iload_n 1, 1) := by decide +kernel
theorem dX12_goesOn_380 : decode cX12_goesOn 380 = .ok (.iconst 0, 1) := by decide +kernel
theorem dX12_goesOn_381 : decode cX12_goesOn 381 = .ok (.iastore, 1) := by decide +kernel
theorem dX12_goesOn_382 : decode cX12_goesOn 382 = .ok (.aload_n 0, 1) := by decide +kernel
theorem dX12_goesOn_383 : decode cX12_goesOn 383 = .ok (.getfield 118, 3) := by decide +kernel
theorem dX12_goesOn_386 : decode cX12_goesOn 386 = .ok (.iload_n 1, 1) := by decide +kernel
theorem dX12_goesOn_387 : decode cX12_goesOn 387 = .ok (.iconst 1, 1) := by decide +kernel
theorem dX12_goesOn_388 : decode cX12_goesOn 388 = .ok (.bastore, 1) := by decide +kernel
theorem dX12_goesOn_389 : decode cX12_goesOn 389 = .ok (.aload_n 0, 1) := by decide +kernel
theorem dX12_goesOn_390 : decode cX12_goesOn 390 = .ok (.invokevirtual 250, 3) := by decide +kernel
theorem dX12_goesOn_393 : decode cX12_goesOn 393 = .ok (.aload_n 0, 1) := by decide +kernel
theorem dX12_goesOn_394 : decode cX12_goesOn 394 = .ok (.iconst 0, 1) := by decide +kernel
theorem dX12_goesOn_395 : decode cX12_goesOn 395 = .ok (.putfield 140, 3) := by decide +kernel
theorem dX12_goesOn_398 : decode cX12_goesOn 398 = .ok (.iconst 1, 1) := by decide +kernel
theorem dX12_goesOn_399 : decode cX12_goesOn 399 = .ok (.ireturn, 1) := by decide +kernel
theorem dX12_goesOn_400 : decode cX12_goesOn 400 = .ok (.iload_n 3, 1) := by decide +kernel
theorem dX12_goesOn_401 : decode cX12_goesOn 401 = .ok (.ifCond .eq 21, 3) := by decide +kernel
theorem dX12_goesOn_404 : decode cX12_goesOn 404 = .ok (.aload_n 0, 1) := by decide +kernel
theorem dX12_goesOn_405 : decode cX12_goesOn 405 = .ok (.getfield 115, 3) := by decide +kernel
theorem dX12_goesOn_408 : decode cX12_goesOn 408 = .ok (.iload_n 1, 1) := by decide +kernel
theorem dX12_goesOn_409 : decode cX12_goesOn 409 = .ok (.iaload, 1) := by decide +kernel
theorem dX12_goesOn_410 : decode cX12_goesOn 410 = .ok (.ifCond .ne 12, 3) := by decide +kernel
theorem dX12_goesOn_413 : decode cX12_goesOn 413 = .ok (.aload_n 0, 1) := by decide +kernel
theorem dX12_goesOn_414 : decode cX12_goesOn 414 = .ok (.iconst 1, 1) := by decide +kernel
theorem dX12_goesOn_415 : decode cX12_goesOn 415 = .ok (.aload_n 0, 1) := by decide +kernel
theorem dX12_goesOn_416 : decode cX12_goesOn 416 = .ok (.getfield 23, 3) := by decide +kernel
theorem dX12_goesOn_419 : decode cX12_goesOn 419 = .ok (.invokevirtual 233, 3) := by decide +kernel
theorem dX12_goesOn_422 : decode cX12_goesOn 422 = .ok (.iload_n 2, 1) := by decide +kernel
theorem dX12_goesOn_423 : decode cX12_goesOn 423 = .ok (.iconst 2, 1) := by decide +kernel
theorem dX12_goesOn_424 : decode cX12_goesOn 424 = .ok (.if_icmp .ge 17, 3) := by decide +kernel
theorem dX12_goesOn_427 : decode cX12_goesOn 427 = .ok (.aload_n 0, 1) := by decide +kernel
theorem dX12_goesOn_428 : decode cX12_goesOn 428 = .ok (.getfield 36, 3) := by decide +kernel
theorem dX12_goesOn_431 : decode cX12_goesOn 431 = .ok (.ifCond .ne 8, 3) := by decide +kernel
theorem dX12_goesOn_434 : decode cX12_goesOn 434 = .ok (.aload_n 0, 1) := by decide +kernel
theorem dX12_goesOn_435 : decode cX12_goesOn 435 = .ok (.iconst 1, 1) := by decide +kernel
theorem dX12_goesOn_436 : decode cX12_goesOn 436 = .ok (.invokevirtual 332, 3) := by decide +kernel
theorem dX12_goesOn_439 : decode cX12_goesOn 439 = .ok (.iconst 0, 1) := by decide +kernel
theorem dX12_goesOn_440 : decode cX12_goesOn 440 = .ok (.ireturn, 1) := by decide +kernel
theorem dX12_goesOn_441 : decode cX12_goesOn 441 = .ok (.iload_n 2, 1) := by decide +kernel
theorem dX12_goesOn_442 : decode cX12_goesOn 442 = .ok (.iconst 3, 1) := by decide +kernel
theorem dX12_goesOn_443 : decode cX12_goesOn 443 = .ok (.if_icmp .eq 9, 3) := by decide +kernel
theorem dX12_goesOn_446 : decode cX12_goesOn 446 = .ok (.iload_n 2, 1) := by decide +kernel
theorem dX12_goesOn_447 : decode cX12_goesOn 447 = .ok (.bipush 6, 2) := by decide +kernel
theorem dX12_goesOn_449 : decode cX12_goesOn 449 = .ok (.if_icmp .ne 69, 3) := by decide +kernel
theorem dX12_goesOn_452 : decode cX12_goesOn 452 = .ok (.aload_n 0, 1) := by decide +kernel
theorem dX12_goesOn_453 : decode cX12_goesOn 453 = .ok (.bipush 44, 2) := by decide +kernel
theorem dX12_goesOn_455 : decode cX12_goesOn 455 = .ok (.invokevirtual 247, 3) := by decide +kernel
theorem dX12_goesOn_458 : decode cX12_goesOn 458 = .ok (.ifCond .ne 12, 3) := by decide +kernel
theorem dX12_goesOn_461 : decode cX12_goesOn 461 = .ok (.aload_n 0, 1) := by decide +kernel
theorem dX12_goesOn_462 : decode cX12_goesOn 462 = .ok (.iconst 1, 1) := by decide +kernel
theorem dX12_goesOn_463 : decode cX12_goesOn 463 = .ok (.aload_n 0, 1) := by decide +kernel
theorem dX12_goesOn_464 : decode cX12_goesOn 464 = .ok (.getfield 23, 3) := by decide +kernel
theorem dX12_goesOn_467 : decode cX12_goesOn 467 = .ok (.invokevirtual 233, 3) := by decide +kernel
theorem dX12_goesOn_470 : decode cX12_goesOn 470 = .ok (.aload_n 0, 1) := by decide +kernel
theorem dX12_goesOn_471 : decode cX12_goesOn 471 = .ok (.getfield 36, 3) := by decide +kernel
theorem dX12_goesOn_474 : decode cX12_goesOn 474 = .ok (.ifCond .le 5, 3) := by decide +kernel
theorem dX12_goesOn_477 : decode cX12_goesOn 477 = .ok (.iconst 0, 1) := by decide +kernel
theorem dX12_goesOn_478 : decode cX12_goesOn 478 = .ok (.ireturn, 1) := by decide +kernel
theorem dX12_goesOn_479 : decode cX12_goesOn 479 = .ok (.aload_n 0, 1) := by decide +kernel
theorem dX12_goesOn_480 : decode cX12_goesOn 480 = .ok (.iconst 1, 1) := by decide +kernel
theorem dX12_goesOn_481 : decode cX12_goesOn 481 = .ok (.invokevirtual 332, 3) := by decide +kernel
theorem dX12_goesOn_484 : decode cX12_goesOn 484 = .ok (.aload_n 0, 1) := by decide +kernel
theorem dX12_goesOn_485 : decode cX12_goesOn 485 = .ok (.getfield 112, 3) := by decide +kernel
theorem dX12_goesOn_488 : decode cX12_goesOn 488 = .ok (.iload_n 1, 1) := by decide +kernel
theorem dX12_goesOn_489 : decode cX12_goesOn 489 = .ok (.iload_n 2, 1) := by decide +kernel
theorem dX12_goesOn_490 : decode cX12_goesOn 490 = .ok (.iconst 3, 1) := by decide +kernel
theorem dX12_goesOn_491 : decode cX12_goesOn 491 = .ok (.if_icmp .ne 7, 3) := by decide +kernel
theorem dX12_goesOn_494 : decode cX12_goesOn 494 = .ok (.iconst 4, 1) := by decide +kernel
theorem dX12_goesOn_495 : decode cX12_goesOn 495 = .ok (.goto 4, 3) := by decide +kernel
theorem dX12_goesOn_498 : decode cX12_goesOn 498 = .ok (.iconst 3, 1) := by decide +kernel
theorem dX12_goesOn_499 : decode cX12_goesOn 499 = .ok (.iastore, 1) := by decide +kernel
theorem dX12_goesOn_500 : decode cX12_goesOn 500 = .ok (.aload_n 0, 1) := by decide +kernel
theorem dX12_goesOn_501 : decode cX12_goesOn 501 = .ok (.getfield 115, 3) := by decide +kernel
theorem dX12_goesOn_504 : decode cX12_goesOn 504 = .ok (.iload_n 1, 1) := by decide +kernel
theorem dX12_goesOn_505 : decode cX12_goesOn 505 = .ok (.iconst 0, 1) := by decide +kernel
theorem dX12_goesOn_506 : decode cX12_goesOn 506 = .ok (.iastore, 1) := by decide +kernel
theorem dX12_goesOn_507 : decode cX12_goesOn 507 = .ok (.aload_n 0, 1) := by decide +kernel
theorem dX12_goesOn_508 : decode cX12_goesOn 508 = .ok (.invokevirtual 250, 3) := by decide +kernel
theorem dX12_goesOn_511 : decode cX12_goesOn 511 = .ok (.aload_n 0, 1) := by decide +kernel
theorem dX12_goesOn_512 : decode cX12_goesOn 512 = .ok (.iconst 0, 1) := by decide +kernel
theorem dX12_goesOn_513 : decode cX12_goesOn 513 = .ok (.putfield 140, 3) := by decide +kernel
theorem dX12_goesOn_516 : decode cX12_goesOn 516 = .ok (.iconst 1, 1) := by decide +kernel
theorem dX12_goesOn_517 : decode cX12_goesOn 517 = .ok (.ireturn, 1) := by decide +kernel
theorem dX12_goesOn_518 : decode cX12_goesOn 518 = .ok (.aload_n 0, 1) := by decide +kernel
theorem dX12_goesOn_519 : decode cX12_goesOn 519 = .ok (.iload_n 2, 1) := by decide +kernel
theorem dX12_goesOn_520 : decode cX12_goesOn 520 = .ok (.iconst 5, 1) := by decide +kernel
theorem dX12_goesOn_521 : decode cX12_goesOn 521 = .ok (.if_icmp .ne 8, 3) := by decide +kernel
theorem dX12_goesOn_524 : decode cX12_goesOn 524 = .ok (.bipush 93, 2) := by decide +kernel
theorem dX12_goesOn_526 : decode cX12_goesOn 526 = .ok (.goto 5, 3) := by decide +kernel
theorem dX12_goesOn_529 : decode cX12_goesOn 529 = .ok (.bipush 41, 2) := by decide +kernel
theorem dX12_goesOn_531 : decode cX12_goesOn 531 = .ok (.invokevirtual 247, 3) := by decide +kernel
theorem dX12_goesOn_534 : decode cX12_goesOn 534 = .ok (.ifCond .ne 12, 3) := by decide +kernel
theorem dX12_goesOn_537 : decode cX12_goesOn 537 = .ok (.aload_n 0, 1) := by decide +kernel
theorem dX12_goesOn_538 : decode cX12_goesOn 538 = .ok (.iconst 1, 1) := by decide +kernel
theorem dX12_goesOn_539 : decode cX12_goesOn 539 = .ok (.aload_n 0, 1) := by decide +kernel
theorem dX12_goesOn_540 : decode cX12_goesOn 540 = .ok (.getfield 23, 3) := by decide +kernel
theorem dX12_goesOn_543 : decode cX12_goesOn 543 = .ok (.invokevirtual 233, 3) := by decide +kernel
theorem dX12_goesOn_546 : decode cX12_goesOn 546 = .ok (.aload_n 0, 1) := by decide +kernel
theorem dX12_goesOn_547 : decode cX12_goesOn 547 = .ok (.getfield 36, 3) := by decide +kernel
theorem dX12_goesOn_550 : decode cX12_goesOn 550 = .ok (.ifCond .le 5, 3) := by decide +kernel
theorem dX12_goesOn_553 : decode cX12_goesOn 553 = .ok (.iconst 0, 1) := by decide +kernel
theorem dX12_goesOn_554 : decode cX12_goesOn 554 = .ok (.ireturn, 1) := by decide +kernel
theorem dX12_goesOn_555 : decode cX12_goesOn 555 = .ok (.aload_n 0, 1) := by decide +kernel
theorem dX12_goesOn_556 : decode cX12_goesOn 556 = .ok (.iconst 1, 1) := by decide +kernel
theorem dX12_goesOn_557 : decode cX12_goesOn 557 = .ok (.invokevirtual 332, 3) := by decide +kernel
theorem dX12_goesOn_560 : decode cX12_goesOn 560 = .ok (.aload_n 0, 1) := by decide +kernel
theorem dX12_goesOn_561 : decode cX12_goesOn 561 = .ok (.dup, 1) := by decide +kernel
theorem dX12_goesOn_562 : decode cX12_goesOn 562 = .ok (.getfield 128, 3) := by decide +kernel
theorem dX12_goesOn_565 : decode cX12_goesOn 565 = .ok (.iconst 1, 1) := by decide +kernel
theorem dX12_goesOn_566 : decode cX12_goesOn 566 = .ok (.isub, 1) := by decide +kernel
theorem dX12_goesOn_567 : decode cX12_goesOn 567 = .ok (.putfield 128, 3) := by decide +kernel
theorem dX12_goesOn_570 : decode cX12_goesOn 570 = .ok (.aload_n 0, 1) := by decide +kernel
theorem dX12_goesOn_571 : decode cX12_goesOn 571 = .ok (.dup, 1) := by decide +kernel
theorem dX12_goesOn_572 : decode cX12_goesOn 572 = .ok (.getfield 131, 3) := by decide +kernel
theorem dX12_goesOn_575 : decode cX12_goesOn 575 = .ok (.iconst 1, 1) := by decide +kernel
theorem dX12_goesOn_576 : decode cX12_goesOn 576 = .ok (.isub, 1) := by decide +kernel
theorem dX12_goesOn_577 : decode cX12_goesOn 577 = .ok (.putfield 131, 3) := by decide +kernel
theorem dX12_goesOn_580 : decode cX12_goesOn 580 = .ok (.iload_n 2, 1) := by decide +kernel
theorem dX12_goesOn_581 : decode cX12_goesOn 581 = .ok (.iconst 4, 1) := by decide +kernel
theorem dX12_goesOn_582 : decode cX12_goesOn 582 = .ok (.if_icmp .ne 14, 3) := by decide +kernel
theorem dX12_goesOn_585 : decode cX12_goesOn 585 = .ok (.aload_n 0, 1) := by decide +kernel
theorem dX12_goesOn_586 : decode cX12_goesOn 586 = .ok (.aload_n 0, 1) := by decide +kernel
theorem dX12_goesOn_587 : decode cX12_goesOn 587 = .ok (.getfield 122, 3) := by decide +kernel
theorem dX12_goesOn_590 : decode cX12_goesOn 590 = .ok (.iload_n 1, 1) := by decide +kernel
theorem dX12_goesOn_591 : decode cX12_goesOn 591 = .ok (.iaload, 1) := by decide +kernel
theorem dX12_goesOn_592 : decode cX12_goesOn 592 = .ok (.iconst 0, 1) := by decide +kernel
theorem dX12_goesOn_593 : decode cX12_goesOn 593 = .ok (.invokevirtual 310, 3) := by decide +kernel
theorem dX12_goesOn_596 : decode cX12_goesOn 596 = .ok (.iload_n 2, 1) := by decide +kernel
theorem dX12_goesOn_597 : decode cX12_goesOn 597 = .ok (.iconst 5, 1) := by decide +kernel
theorem dX12_goesOn_598 : decode cX12_goesOn 598 = .ok (.if_icmp .ne 15, 3) := by decide +kernel
theorem dX12_goesOn_601 : decode cX12_goesOn 601 = .ok (.aload_n 0, 1) := by decide +kernel
theorem dX12_goesOn_602 : decode cX12_goesOn 602 = .ok (.getfield 115, 3) := by decide +kernel
theorem dX12_goesOn_605 : decode cX12_goesOn 605 = .ok (.aload_n 0, 1) := by decide +kernel
theorem dX12_goesOn_606 : decode cX12_goesOn 606 = .ok (.getfield 128, 3) := by decide +kernel
theorem dX12_goesOn_609 : decode cX12_goesOn 609 = .ok (.iconst 1, 1) := by decide +kernel
theorem dX12_goesOn_610 : decode cX12_goesOn 610 = .ok (.isub, 1) := by decide +kernel
theorem dX12_goesOn_611 : decode cX12_goesOn 611 = .ok (.iconst 2, 1) := by decide +kernel
theorem dX12_goesOn_612 : decode cX12_goesOn 612 = .ok (.iastore, 1) := by decide +kernel
theorem dX12_goesOn_613 : decode cX12_goesOn 613 = .ok (.aload_n 0, 1) := by decide +kernel
theorem dX12_goesOn_614 : decode cX12_goesOn 614 = .ok (.invokevirtual 250, 3) := by decide +kernel
theorem dX12_goesOn_617 : decode cX12_goesOn 617 = .ok (.iconst 1, 1) := by decide +kernel
theorem dX12_goesOn_618 : decode cX12_goesOn 618 = .ok (.ireturn, 1) := by decide +kernel
theorem dX12_reads_0 : decode cX12_reads 0 = .ok (.aload_n 0, 1) := by decide +kernel
theorem dX12_reads_1 : decode cX12_reads 1 = .ok (.getfield 36, 3) := by decide +kernel
theorem dX12_reads_4 : decode cX12_reads 4 = .ok (.ifCond .le 4, 3) := by decide +kernel
theorem dX12_reads_7 : decode cX12_reads 7 = .ok (.return_, 1) := by decide +kernel
theorem dX12_reads_8 : decode cX12_reads 8 = .ok (.aload_n 0, 1) := by decide +kernel
theorem dX12_reads_9 : decode cX12_reads 9 = .ok (.iconst 0, 1) := by decide +kernel
theorem dX12_reads_10 : decode cX12_reads 10 = .ok (.putfield 128, 3) := by decide +kernel
theorem dX12_reads_13 : decode cX12_reads 13 = .ok (.aload_n 0, 1) := by decide +kernel
theorem dX12_reads_14 : decode cX12_reads 14 = .ok (.iconst 0, 1) := by decide +kernel
theorem dX12_reads_15 : decode cX12_reads 15 = .ok (.putfield 131, 3) := by decide +kernel
theorem dX12_reads_18 : decode cX12_reads 18 = .ok (.aload_n 0, 1) := by decide +kernel
theorem dX12_reads_19 : decode cX12_reads 19 = .ok (.iconst 0, 1) := by decide +kernel
theorem dX12_reads_20 : decode cX12_reads 20 = .ok (.putfield 137, 3) := by decide +kernel
theorem dX12_reads_23 : decode cX12_reads 23 = .ok (.aload_n 0, 1) := by decide +kernel
theorem dX12_reads_24 : decode cX12_reads 24 = .ok (.iconst 0, 1) := by decide +kernel
theorem dX12_reads_25 : decode cX12_reads 25 = .ok (.putfield 140, 3) := by decide +kernel
theorem dX12_reads_28 : decode cX12_reads 28 = .ok (.aload_n 0, 1) := by decide +kernel
theorem dX12_reads_29 : decode cX12_reads 29 = .ok (.iload_n 1, 1) := by decide +kernel
theorem dX12_reads_30 : decode cX12_reads 30 = .ok (.ifCond .eq 7, 3) := by decide +kernel
theorem dX12_reads_33 : decode cX12_reads 33 = .ok (.iconst 1, 1) := by decide +kernel
theorem dX12_reads_34 : decode cX12_reads 34 = .ok (.goto 4, 3) := by decide +kernel
theorem dX12_reads_37 : decode cX12_reads 37 = .ok (.iconst 0, 1) := by decide +kernel
theorem dX12_reads_38 : decode cX12_reads 38 = .ok (.invokevirtual 313, 3) := by decide +kernel
theorem dX12_reads_41 : decode cX12_reads 41 = .ok (.iconst 1, 1) := by decide +kernel
theorem dX12_reads_42 : decode cX12_reads 42 = .ok (.istore_n 2, 1) := by decide +kernel
theorem dX12_reads_43 : decode cX12_reads 43 = .ok (.iload_n 2, 1) := by decide +kernel
theorem dX12_reads_44 : decode cX12_reads 44 = .ok (.ifCond .eq 46, 3) := by decide +kernel
theorem dX12_reads_47 : decode cX12_reads 47 = .ok (.aload_n 0, 1) := by decide +kernel
theorem dX12_reads_48 : decode cX12_reads 48 = .ok (.getfield 140, 3) := by decide +kernel
theorem dX12_reads_51 : decode cX12_reads 51 = .ok (.ifCond .ne 14, 3) := by decide +kernel
theorem dX12_reads_54 : decode cX12_reads 54 = .ok (.aload_n 0, 1) := by decide +kernel
theorem dX12_reads_55 : decode cX12_reads 55 = .ok (.aload_n 0, 1) := by decide +kernel
theorem dX12_reads_56 : decode cX12_reads 56 = .ok (.invokevirtual 335, 3) := by decide +kernel
theorem dX12_reads_59 : decode cX12_reads 59 = .ok (.putfield 140, 3) := by decide +kernel
theorem dX12_reads_62 : decode cX12_reads 62 = .ok (.goto 8, 3) := by decide +kernel
theorem dX12_reads_65 : decode cX12_reads 65 = .ok (.aload_n 0, 1) := by decide +kernel
theorem dX12_reads_66 : decode cX12_reads 66 = .ok (.invokevirtual 338, 3) := by decide +kernel
theorem dX12_reads_69 : decode cX12_reads 69 = .ok (.istore_n 2, 1) := by decide +kernel
theorem dX12_reads_70 : decode cX12_reads 70 = .ok (.iload_n 2, 1) := by decide +kernel
theorem dX12_reads_71 : decode cX12_reads 71 = .ok (.ifCond .eq 14, 3) := by decide +kernel
theorem dX12_reads_74 : decode cX12_reads 74 = .ok (.aload_n 0, 1) := by decide +kernel
theorem dX12_reads_75 : decode cX12_reads 75 = .ok (.getfield 36, 3) := by decide +kernel
theorem dX12_reads_78 : decode cX12_reads 78 = .ok (.ifCond .ne 7, 3) := by decide +kernel
theorem dX12_reads_81 : decode cX12_reads 81 = .ok (.iconst 1, 1) := by decide +kernel
theorem dX12_reads_82 : decode cX12_reads 82 = .ok (.goto 4, 3) := by decide +kernel
theorem dX12_reads_85 : decode cX12_reads 85 = .ok (.iconst 0, 1) := by decide +kernel
theorem dX12_reads_86 : decode cX12_reads 86 = .ok (.istore_n 2, 1) := by decide +kernel
theorem dX12_reads_87 : decode cX12_reads 87 = .ok (.goto (-44), 3) := by decide +kernel
theorem dX12_reads_90 : decode cX12_reads 90 = .ok (.return_, 1) := by decide +kernel
theorem dX12_isCounted_0 : decode cX12_isCounted 0 = .ok (.aload_n 0, 1) := by decide +kernel
theorem dX12_isCounted_1 : decode cX12_isCounted 1 = .ok (.getfield 36, 3) := by decide +kernel
theorem dX12_isCounted_4 : decode cX12_isCounted 4 = .ok (.ifCond .ne 17, 3) := by decide +kernel
theorem dX12_isCounted_7 : decode cX12_isCounted 7 = .ok (.iload_n 1, 1) := by decide +kernel
theorem dX12_isCounted_8 : decode cX12_isCounted 8 = .ok (.ifCond .eq 13, 3) := by decide +kernel
theorem dX12_isCounted_11 : decode cX12_isCounted 11 = .ok (.aload_n 0, 1) := by decide +kernel
theorem dX12_isCounted_12 : decode cX12_isCounted 12 = .ok (.bipush 6, 2) := by decide +kernel
theorem dX12_isCounted_14 : decode cX12_isCounted 14 = .ok (.aload_n 0, 1) := by decide +kernel
theorem dX12_isCounted_15 : decode cX12_isCounted 15 = .ok (.getfield 23, 3) := by decide +kernel
theorem dX12_isCounted_18 : decode cX12_isCounted 18 = .ok (.invokevirtual 233, 3) := by decide +kernel
theorem dX12_isCounted_21 : decode cX12_isCounted 21 = .ok (.aload_n 0, 1) := by decide +kernel
theorem dX12_isCounted_22 : decode cX12_isCounted 22 = .ok (.getfield 36, 3) := by decide +kernel
theorem dX12_isCounted_25 : decode cX12_isCounted 25 = .ok (.ifCond .ne 7, 3) := by decide +kernel
theorem dX12_isCounted_28 : decode cX12_isCounted 28 = .ok (.aload_n 0, 1) := by decide +kernel
theorem dX12_isCounted_29 : decode cX12_isCounted 29 = .ok (.invokevirtual 250, 3) := by decide +kernel
theorem dX12_isCounted_32 : decode cX12_isCounted 32 = .ok (.aload_n 0, 1) := by decide +kernel
theorem dX12_isCounted_33 : decode cX12_isCounted 33 = .ok (.getfield 36, 3) := by decide +kernel
theorem dX12_isCounted_36 : decode cX12_isCounted 36 = .ok (.ifCond .ne 7, 3) := by decide +kernel
theorem dX12_isCounted_39 : decode cX12_isCounted 39 = .ok (.iconst 1, 1) := by decide +kernel
theorem dX12_isCounted_40 : decode cX12_isCounted 40 = .ok (.goto 4, 3) := by decide +kernel
theorem dX12_isCounted_43 : decode cX12_isCounted 43 = .ok (.iconst 0, 1) := by decide +kernel
theorem dX12_isCounted_44 : decode cX12_isCounted 44 = .ok (.ireturn, 1) := by decide +kernel
theorem dX12_must__0 : decode cX12_must_ 0 = .ok (.aload_n 0, 1) := by decide +kernel
theorem dX12_must__1 : decode cX12_must_ 1 = .ok (.invokevirtual 244, 3) := by decide +kernel
theorem dX12_must__4 : decode cX12_must_ 4 = .ok (.aload_n 0, 1) := by decide +kernel
theorem dX12_must__5 : decode cX12_must_ 5 = .ok (.getfield 36, 3) := by decide +kernel
theorem dX12_must__8 : decode cX12_must_ 8 = .ok (.ifCond .le 4, 3) := by decide +kernel
theorem dX12_must__11 : decode cX12_must_ 11 = .ok (.return_, 1) := by decide +kernel
theorem dX12_must__12 : decode cX12_must_ 12 = .ok (.aload_n 0, 1) := by decide +kernel
theorem dX12_must__13 : decode cX12_must_ 13 = .ok (.lload_n 1, 1) := by decide +kernel
theorem dX12_must__14 : decode cX12_must_ 14 = .ok (.invokevirtual 319, 3) := by decide +kernel
theorem dX12_must__17 : decode cX12_must_ 17 = .ok (.ifCond .ne 12, 3) := by decide +kernel
theorem dX12_must__20 : decode cX12_must_ 20 = .ok (.aload_n 0, 1) := by decide +kernel
theorem dX12_must__21 : decode cX12_must_ 21 = .ok (.iconst 1, 1) := by decide +kernel
theorem dX12_must__22 : decode cX12_must_ 22 = .ok (.aload_n 0, 1) := by decide +kernel
theorem dX12_must__23 : decode cX12_must_ 23 = .ok (.getfield 23, 3) := by decide +kernel
theorem dX12_must__26 : decode cX12_must_ 26 = .ok (.invokevirtual 233, 3) := by decide +kernel
theorem dX12_must__29 : decode cX12_must_ 29 = .ok (.aload_n 0, 1) := by decide +kernel
theorem dX12_must__30 : decode cX12_must_ 30 = .ok (.getfield 36, 3) := by decide +kernel
theorem dX12_must__33 : decode cX12_must_ 33 = .ok (.ifCond .ne 7, 3) := by decide +kernel
theorem dX12_must__36 : decode cX12_must_ 36 = .ok (.aload_n 0, 1) := by decide +kernel
theorem dX12_must__37 : decode cX12_must_ 37 = .ok (.invokevirtual 250, 3) := by decide +kernel
theorem dX12_must__40 : decode cX12_must_ 40 = .ok (.return_, 1) := by decide +kernel
theorem dX12_has2_0 : decode cX12_has2 0 = .ok (.iload_n 0, 1) := by decide +kernel
theorem dX12_has2_1 : decode cX12_has2 1 = .ok (.iload_n 1, 1) := by decide +kernel
theorem dX12_has2_2 : decode cX12_has2 2 = .ok (.ishr, 1) := by decide +kernel
theorem dX12_has2_3 : decode cX12_has2 3 = .ok (.iconst 1, 1) := by decide +kernel
theorem dX12_has2_4 : decode cX12_has2 4 = .ok (.iand, 1) := by decide +kernel
theorem dX12_has2_5 : decode cX12_has2 5 = .ok (.iconst 1, 1) := by decide +kernel
theorem dX12_has2_6 : decode cX12_has2 6 = .ok (.if_icmp .ne 7, 3) := by decide +kernel
theorem dX12_has2_9 : decode cX12_has2 9 = .ok (.iconst 1, 1) := by decide +kernel
theorem dX12_has2_10 : decode cX12_has2 10 = .ok (.goto 4, 3) := by decide +kernel
theorem dX12_has2_13 : decode cX12_has2 13 = .ok (.iconst 0, 1) := by decide +kernel
theorem dX12_has2_14 : decode cX12_has2 14 = .ok (.ireturn, 1) := by decide +kernel
theorem dX12_fresh_0 : decode cX12_fresh 0 = .ok (.aload_n 0, 1) := by decide +kernel
theorem dX12_fresh_1 : decode cX12_fresh 1 = .ok (.invokevirtual 244, 3) := by decide +kernel
theorem dX12_fresh_4 : decode cX12_fresh 4 = .ok (.aload_n 0, 1) := by decide +kernel
theorem dX12_fresh_5 : decode cX12_fresh 5 = .ok (.getfield 36, 3) := by decide +kernel
theorem dX12_fresh_8 : decode cX12_fresh 8 = .ok (.ifCond .le 5, 3) := by decide +kernel
theorem dX12_fresh_11 : decode cX12_fresh 11 = .ok (.lconst 0, 1) := by decide +kernel
theorem dX12_fresh_12 : decode cX12_fresh 12 = .ok (.lreturn, 1) := by decide +kernel
theorem dX12_fresh_13 : decode cX12_fresh 13 = .ok (.aload_n 0, 1) := by decide +kernel
theorem dX12_fresh_14 : decode cX12_fresh 14 = .ok (.getfield 20, 3) := by decide +kernel
theorem dX12_fresh_17 : decode cX12_fresh 17 = .ok (.iconst 1, 1) := by decide +kernel
theorem dX12_fresh_18 : decode cX12_fresh 18 = .ok (.if_icmp .ne 14, 3) := by decide +kernel
theorem dX12_fresh_21 : decode cX12_fresh 21 = .ok (.aload_n 0, 1) := by decide +kernel
theorem dX12_fresh_22 : decode cX12_fresh 22 = .ok (.aload_n 0, 1) := by decide +kernel
theorem dX12_fresh_23 : decode cX12_fresh 23 = .ok (.getfield 32, 3) := by decide +kernel
theorem dX12_fresh_26 : decode cX12_fresh 26 = .ok (.invokevirtual 341, 3) := by decide +kernel
theorem dX12_fresh_29 : decode cX12_fresh 29 = .ok (.ifCond .eq 12, 3) := by decide +kernel
theorem dX12_fresh_32 : decode cX12_fresh 32 = .ok (.aload_n 0, 1) := by decide +kernel
theorem dX12_fresh_33 : decode cX12_fresh 33 = .ok (.iconst 1, 1) := by decide +kernel
theorem dX12_fresh_34 : decode cX12_fresh 34 = .ok (.aload_n 0, 1) := by decide +kernel
theorem dX12_fresh_35 : decode cX12_fresh 35 = .ok (.getfield 23, 3) := by decide +kernel
theorem dX12_fresh_38 : decode cX12_fresh 38 = .ok (.invokevirtual 233, 3) := by decide +kernel
theorem dX12_fresh_41 : decode cX12_fresh 41 = .ok (.aload_n 0, 1) := by decide +kernel
theorem dX12_fresh_42 : decode cX12_fresh 42 = .ok (.getfield 36, 3) := by decide +kernel
theorem dX12_fresh_45 : decode cX12_fresh 45 = .ok (.ifCond .ne 23, 3) := by decide +kernel
theorem dX12_fresh_48 : decode cX12_fresh 48 = .ok (.aload_n 0, 1) := by decide +kernel
theorem dX12_fresh_49 : decode cX12_fresh 49 = .ok (.aload_n 0, 1) := by decide +kernel
theorem dX12_fresh_50 : decode cX12_fresh 50 = .ok (.getfield 32, 3) := by decide +kernel
theorem dX12_fresh_53 : decode cX12_fresh 53 = .ok (.invokevirtual 344, 3) := by decide +kernel
theorem dX12_fresh_56 : decode cX12_fresh 56 = .ok (.ifCond .eq 12, 3) := by decide +kernel
theorem dX12_fresh_59 : decode cX12_fresh 59 = .ok (.aload_n 0, 1) := by decide +kernel
theorem dX12_fresh_60 : decode cX12_fresh 60 = .ok (.iconst 2, 1) := by decide +kernel
theorem dX12_fresh_61 : decode cX12_fresh 61 = .ok (.aload_n 0, 1) := by decide +kernel
theorem dX12_fresh_62 : decode cX12_fresh 62 = .ok (.getfield 23, 3) := by decide +kernel
theorem dX12_fresh_65 : decode cX12_fresh 65 = .ok (.invokevirtual 233, 3) := by decide +kernel
theorem dX12_fresh_68 : decode cX12_fresh 68 = .ok (.aload_n 0, 1) := by decide +kernel
theorem dX12_fresh_69 : decode cX12_fresh 69 = .ok (.getfield 32, 3) := by decide +kernel
theorem dX12_fresh_72 : decode cX12_fresh 72 = .ok (.lstore_n 1, 1) := by decide +kernel
theorem dX12_fresh_73 : decode cX12_fresh 73 = .ok (.aload_n 0, 1) := by decide +kernel
theorem dX12_fresh_74 : decode cX12_fresh 74 = .ok (.getfield 36, 3) := by decide +kernel
theorem dX12_fresh_77 : decode cX12_fresh 77 = .ok (.ifCond .ne 7, 3) := by decide +kernel
theorem dX12_fresh_80 : decode cX12_fresh 80 = .ok (.aload_n 0, 1) := by decide +kernel
theorem dX12_fresh_81 : decode cX12_fresh 81 = .ok (.invokevirtual 250, 3) := by decide +kernel
theorem dX12_fresh_84 : decode cX12_fresh 84 = .ok (.lload_n 1, 1) := by decide +kernel
theorem dX12_fresh_85 : decode cX12_fresh 85 = .ok (.lreturn, 1) := by decide +kernel
theorem dX12_voicing_0 : decode cX12_voicing 0 = .ok (.aload_n 0, 1) := by decide +kernel
theorem dX12_voicing_1 : decode cX12_voicing 1 = .ok (.aload_n 0, 1) := by decide +kernel
theorem dX12_voicing_2 : decode cX12_voicing 2 = .ok (.getfield 54, 3) := by decide +kernel
theorem dX12_voicing_5 : decode cX12_voicing 5 = .ok (.aload_n 0, 1) := by decide +kernel
theorem dX12_voicing_6 : decode cX12_voicing 6 = .ok (.getfield 106, 3) := by decide +kernel
theorem dX12_voicing_9 : decode cX12_voicing 9 = .ok (.iaload, 1) := by decide +kernel
theorem dX12_voicing_10 : decode cX12_voicing 10 = .ok (.bipush 7, 2) := by decide +kernel
theorem dX12_voicing_12 : decode cX12_voicing 12 = .ok (.if_icmp .ne 7, 3) := by decide +kernel
theorem dX12_voicing_15 : decode cX12_voicing 15 = .ok (.iconst 1, 1) := by decide +kernel
theorem dX12_voicing_16 : decode cX12_voicing 16 = .ok (.goto 4, 3) := by decide +kernel
theorem dX12_voicing_19 : decode cX12_voicing 19 = .ok (.iconst 0, 1) := by decide +kernel
theorem dX12_voicing_20 : decode cX12_voicing 20 = .ok (.invokevirtual 347, 3) := by decide +kernel
theorem dX12_voicing_23 : decode cX12_voicing 23 = .ok (.ifCond .ne 4, 3) := by decide +kernel
theorem dX12_voicing_26 : decode cX12_voicing 26 = .ok (.return_, 1) := by decide +kernel
theorem dX12_voicing_27 : decode cX12_voicing 27 = .ok (.bipush 7, 2) := by decide +kernel
theorem dX12_voicing_29 : decode cX12_voicing 29 = .ok (.aload_n 0, 1) := by decide +kernel
theorem dX12_voicing_30 : decode cX12_voicing 30 = .ok (.getfield 106, 3) := by decide +kernel
theorem dX12_voicing_33 : decode cX12_voicing 33 = .ok (.imul, 1) := by decide +kernel
theorem dX12_voicing_34 : decode cX12_voicing 34 = .ok (.aload_n 0, 1) := by decide +kernel
theorem dX12_voicing_35 : decode cX12_voicing 35 = .ok (.getfield 54, 3) := by decide +kernel
theorem dX12_voicing_38 : decode cX12_voicing 38 = .ok (.aload_n 0, 1) := by decide +kernel
theorem dX12_voicing_39 : decode cX12_voicing 39 = .ok (.getfield 106, 3) := by decide +kernel
theorem dX12_voicing_42 : decode cX12_voicing 42 = .ok (.iaload, 1) := by decide +kernel
theorem dX12_voicing_43 : decode cX12_voicing 43 = .ok (.iadd, 1) := by decide +kernel
theorem dX12_voicing_44 : decode cX12_voicing 44 = .ok (.istore_n 1, 1) := by decide +kernel
theorem dX12_voicing_45 : decode cX12_voicing 45 = .ok (.aload_n 0, 1) := by decide +kernel
theorem dX12_voicing_46 : decode cX12_voicing 46 = .ok (.getfield 96, 3) := by decide +kernel
theorem dX12_voicing_49 : decode cX12_voicing 49 = .ok (.iload_n 1, 1) := by decide +kernel
theorem dX12_voicing_50 : decode cX12_voicing 50 = .ok (.aload_n 0, 1) := by decide +kernel
theorem dX12_voicing_51 : decode cX12_voicing 51 = .ok (.invokevirtual 351, 3) := by decide +kernel
theorem dX12_voicing_54 : decode cX12_voicing 54 = .ok (.lastore, 1) := by decide +kernel
theorem dX12_voicing_55 : decode cX12_voicing 55 = .ok (.aload_n 0, 1) := by decide +kernel
theorem dX12_voicing_56 : decode cX12_voicing 56 = .ok (.ldc2_w 255, 3) := by decide +kernel
theorem dX12_voicing_59 : decode cX12_voicing 59 = .ok (.invokevirtual 355, 3) := by decide +kernel
theorem dX12_voicing_62 : decode cX12_voicing 62 = .ok (.aload_n 0, 1) := by decide +kernel
theorem dX12_voicing_63 : decode cX12_voicing 63 = .ok (.getfield 57, 3) := by decide +kernel
theorem dX12_voicing_66 : decode cX12_voicing 66 = .ok (.iload_n 1, 1) := by decide +kernel
theorem dX12_voicing_67 : decode cX12_voicing 67 = .ok (.aload_n 0, 1) := by decide +kernel
theorem dX12_voicing_68 : decode cX12_voicing 68 = .ok (.iconst 0, 1) := by decide +kernel
theorem dX12_voicing_69 : decode cX12_voicing 69 = .ok (.bipush 9, 2) := by decide +kernel
theorem dX12_voicing_71 : decode cX12_voicing 71 = .ok (.invokevirtual 359, 3) := by decide +kernel
theorem dX12_voicing_74 : decode cX12_voicing 74 = .ok (.iastore, 1) := by decide +kernel
theorem dX12_voicing_75 : decode cX12_voicing 75 = .ok (.aload_n 0, 1) := by decide +kernel
theorem dX12_voicing_76 : decode cX12_voicing 76 = .ok (.getfield 36, 3) := by decide +kernel
theorem dX12_voicing_79 : decode cX12_voicing 79 = .ok (.ifCond .ne 16, 3) := by decide +kernel
theorem dX12_voicing_82 : decode cX12_voicing 82 = .ok (.aload_n 0, 1) := by decide +kernel
theorem dX12_voicing_83 : decode cX12_voicing 83 = .ok (.getfield 54, 3) := by decide +kernel
theorem dX12_voicing_86 : decode cX12_voicing 86 = .ok (.aload_n 0, 1) := by decide +kernel
theorem dX12_voicing_87 : decode cX12_voicing 87 = .ok (.getfield 106, 3) := by decide +kernel
theorem dX12_voicing_90 : decode cX12_voicing 90 = .ok (.dup2, 1) := by decide +kernel
theorem dX12_voicing_91 : decode cX12_voicing 91 = .ok (.iaload, 1) := by decide +kernel
theorem dX12_voicing_92 : decode cX12_voicing 92 = .ok (.iconst 1, 1) := by decide +kernel
theorem dX12_voicing_93 : decode cX12_voicing 93 = .ok (.iadd, 1) := by decide +kernel
theorem dX12_voicing_94 : decode cX12_voicing 94 = .ok (.iastore, 1) := by decide +kernel
theorem dX12_voicing_95 : decode cX12_voicing 95 = .ok (.return_, 1) := by decide +kernel
theorem dX12_personing_0 : decode cX12_personing 0 = .ok (.aload_n 0, 1) := by decide +kernel
theorem dX12_personing_1 : decode cX12_personing 1 = .ok (.aload_n 0, 1) := by decide +kernel
theorem dX12_personing_2 : decode cX12_personing 2 = .ok (.getfield 60, 3) := by decide +kernel
theorem dX12_personing_5 : decode cX12_personing 5 = .ok (.aload_n 0, 1) := by decide +kernel
theorem dX12_personing_6 : decode cX12_personing 6 = .ok (.getfield 106, 3) := by decide +kernel
theorem dX12_personing_9 : decode cX12_personing 9 = .ok (.iaload, 1) := by decide +kernel
theorem dX12_personing_10 : decode cX12_personing 10 = .ok (.bipush 8, 2) := by decide +kernel
theorem dX12_personing_12 : decode cX12_personing 12 = .ok (.if_icmp .ne 7, 3) := by decide +kernel
theorem dX12_personing_15 : decode cX12_personing 15 = .ok (.iconst 1, 1) := by decide +kernel
theorem dX12_personing_16 : decode cX12_personing 16 = .ok (.goto 4, 3) := by decide +kernel
theorem dX12_personing_19 : decode cX12_personing 19 = .ok (.iconst 0, 1) := by decide +kernel
theorem dX12_personing_20 : decode cX12_personing 20 = .ok (.invokevirtual 347, 3) := by decide +kernel
theorem dX12_personing_23 : decode cX12_personing 23 = .ok (.ifCond .ne 4, 3) := by decide +kernel
theorem dX12_personing_26 : decode cX12_personing 26 = .ok (.return_, 1) := by decide +kernel
theorem dX12_personing_27 : decode cX12_personing 27 = .ok (.bipush 8, 2) := by decide +kernel
theorem dX12_personing_29 : decode cX12_personing 29 = .ok (.aload_n 0, 1) := by decide +kernel
theorem dX12_personing_30 : decode cX12_personing 30 = .ok (.getfield 106, 3) := by decide +kernel
theorem dX12_personing_33 : decode cX12_personing 33 = .ok (.imul, 1) := by decide +kernel
theorem dX12_personing_34 : decode cX12_personing 34 = .ok (.aload_n 0, 1) := by decide +kernel
theorem dX12_personing_35 : decode cX12_personing 35 = .ok (.getfield 60, 3) := by decide +kernel
theorem dX12_personing_38 : decode cX12_personing 38 = .ok (.aload_n 0, 1) := by decide +kernel
theorem dX12_personing_39 : decode cX12_personing 39 = .ok (.getfield 106, 3) := by decide +kernel
theorem dX12_personing_42 : decode cX12_personing 42 = .ok (.iaload, 1) := by decide +kernel
theorem dX12_personing_43 : decode cX12_personing 43 = .ok (.iadd, 1) := by decide +kernel
theorem dX12_personing_44 : decode cX12_personing 44 = .ok (.istore_n 1, 1) := by decide +kernel
theorem dX12_personing_45 : decode cX12_personing 45 = .ok (.aload_n 0, 1) := by decide +kernel
theorem dX12_personing_46 : decode cX12_personing 46 = .ok (.getfield 100, 3) := by decide +kernel
theorem dX12_personing_49 : decode cX12_personing 49 = .ok (.iload_n 1, 1) := by decide +kernel
theorem dX12_personing_50 : decode cX12_personing 50 = .ok (.aload_n 0, 1) := by decide +kernel
theorem dX12_personing_51 : decode cX12_personing 51 = .ok (.invokevirtual 351, 3) := by decide +kernel
theorem dX12_personing_54 : decode cX12_personing 54 = .ok (.lastore, 1) := by decide +kernel
theorem dX12_personing_55 : decode cX12_personing 55 = .ok (.aload_n 0, 1) := by decide +kernel
theorem dX12_personing_56 : decode cX12_personing 56 = .ok (.ldc2_w 255, 3) := by decide +kernel
theorem dX12_personing_59 : decode cX12_personing 59 = .ok (.invokevirtual 355, 3) := by decide +kernel
theorem dX12_personing_62 : decode cX12_personing 62 = .ok (.aload_n 0, 1) := by decide +kernel
theorem dX12_personing_63 : decode cX12_personing 63 = .ok (.getfield 63, 3) := by decide +kernel
theorem dX12_personing_66 : decode cX12_personing 66 = .ok (.iload_n 1, 1) := by decide +kernel
theorem dX12_personing_67 : decode cX12_personing 67 = .ok (.aload_n 0, 1) := by decide +kernel
theorem dX12_personing_68 : decode cX12_personing 68 = .ok (.iconst 0, 1) := by decide +kernel
theorem dX12_personing_69 : decode cX12_personing 69 = .ok (.bipush 9, 2) := by decide +kernel
theorem dX12_personing_71 : decode cX12_personing 71 = .ok (.invokevirtual 359, 3) := by decide +kernel
theorem dX12_personing_74 : decode cX12_personing 74 = .ok (.iastore, 1) := by decide +kernel
theorem dX12_personing_75 : decode cX12_personing 75 = .ok (.aload_n 0, 1) := by decide +kernel
theorem dX12_personing_76 : decode cX12_personing 76 = .ok (.ldc2_w 259, 3) := by decide +kernel
theorem dX12_personing_79 : decode cX12_personing 79 = .ok (.invokevirtual 355, 3) := by decide +kernel
theorem dX12_personing_82 : decode cX12_personing 82 = .ok (.aload_n 0, 1) := by decide +kernel
theorem dX12_personing_83 : decode cX12_personing 83 = .ok (.getfield 66, 3) := by decide +kernel
theorem dX12_personing_86 : decode cX12_personing 86 = .ok (.iload_n 1, 1) := by decide +kernel
theorem dX12_personing_87 : decode cX12_personing 87 = .ok (.aload_n 0, 1) := by decide +kernel
theorem dX12_personing_88 : decode cX12_personing 88 = .ok (.iconst 0, 1) := by decide +kernel
theorem dX12_personing_89 : decode cX12_personing 89 = .ok (.bipush 99, 2) := by decide +kernel
theorem dX12_personing_91 : decode cX12_personing 91 = .ok (.invokevirtual 359, 3) := by decide +kernel
theorem dX12_personing_94 : decode cX12_personing 94 = .ok (.iastore, 1) := by decide +kernel
theorem dX12_personing_95 : decode cX12_personing 95 = .ok (.aload_n 0, 1) := by decide +kernel
theorem dX12_personing_96 : decode cX12_personing 96 = .ok (.getfield 36, 3) := by decide +kernel
theorem dX12_personing_99 : decode cX12_personing 99 = .ok (.ifCond .ne 16, 3) := by decide +kernel
theorem dX12_personing_102 : decode cX12_personing 102 = .ok (.aload_n 0, 1) := by decide +kernel
theorem dX12_personing_103 : decode cX12_personing 103 = .ok (.getfield 60, 3) := by decide +kernel
theorem dX12_personing_106 : decode cX12_personing 106 = .ok (.aload_n 0, 1) := by decide +kernel
theorem dX12_personing_107 : decode cX12_personing 107 = .ok (.getfield 106, 3) := by decide +kernel
theorem dX12_personing_110 : decode cX12_personing 110 = .ok (.dup2, 1) := by decide +kernel
theorem dX12_personing_111 : decode cX12_personing 111 = .ok (.iaload, 1) := by decide +kernel
theorem dX12_personing_112 : decode cX12_personing 112 = .ok (.iconst 1, 1) := by decide +kernel
theorem dX12_personing_113 : decode cX12_personing 113 = .ok (.iadd, 1) := by decide +kernel
theorem dX12_personing_114 : decode cX12_personing 114 = .ok (.iastore, 1) := by decide +kernel
theorem dX12_personing_115 : decode cX12_personing 115 = .ok (.return_, 1) := by decide +kernel
theorem dX12_wanting_0 : decode cX12_wanting 0 = .ok (.aload_n 0, 1) := by decide +kernel
theorem dX12_wanting_1 : decode cX12_wanting 1 = .ok (.aload_n 0, 1) := by decide +kernel
theorem dX12_wanting_2 : decode cX12_wanting 2 = .ok (.getfield 69, 3) := by decide +kernel
theorem dX12_wanting_5 : decode cX12_wanting 5 = .ok (.aload_n 0, 1) := by decide +kernel
theorem dX12_wanting_6 : decode cX12_wanting 6 = .ok (.getfield 106, 3) := by decide +kernel
theorem dX12_wanting_9 : decode cX12_wanting 9 = .ok (.iaload, 1) := by decide +kernel
theorem dX12_wanting_10 : decode cX12_wanting 10 = .ok (.bipush 12, 2) := by decide +kernel
theorem dX12_wanting_12 : decode cX12_wanting 12 = .ok (.if_icmp .ne 7, 3) := by decide +kernel
theorem dX12_wanting_15 : decode cX12_wanting 15 = .ok (.iconst 1, 1) := by decide +kernel
theorem dX12_wanting_16 : decode cX12_wanting 16 = .ok (.goto 4, 3) := by decide +kernel
theorem dX12_wanting_19 : decode cX12_wanting 19 = .ok (.iconst 0, 1) := by decide +kernel
theorem dX12_wanting_20 : decode cX12_wanting 20 = .ok (.invokevirtual 347, 3) := by decide +kernel
theorem dX12_wanting_23 : decode cX12_wanting 23 = .ok (.ifCond .ne 4, 3) := by decide +kernel
theorem dX12_wanting_26 : decode cX12_wanting 26 = .ok (.return_, 1) := by decide +kernel
theorem dX12_wanting_27 : decode cX12_wanting 27 = .ok (.aload_n 0, 1) := by decide +kernel
theorem dX12_wanting_28 : decode cX12_wanting 28 = .ok (.invokevirtual 244, 3) := by decide +kernel
theorem dX12_wanting_31 : decode cX12_wanting 31 = .ok (.aload_n 0, 1) := by decide +kernel
theorem dX12_wanting_32 : decode cX12_wanting 32 = .ok (.getfield 36, 3) := by decide +kernel
theorem dX12_wanting_35 : decode cX12_wanting 35 = .ok (.ifCond .le 4, 3) := by decide +kernel
theorem dX12_wanting_38 : decode cX12_wanting 38 = .ok (.return_, 1) := by decide +kernel
theorem dX12_wanting_39 : decode cX12_wanting 39 = .ok (.aload_n 0, 1) := by decide +kernel
theorem dX12_wanting_40 : decode cX12_wanting 40 = .ok (.getfield 20, 3) := by decide +kernel
theorem dX12_wanting_43 : decode cX12_wanting 43 = .ok (.iconst 1, 1) := by decide +kernel
theorem dX12_wanting_44 : decode cX12_wanting 44 = .ok (.if_icmp .ne 14, 3) := by decide +kernel
theorem dX12_wanting_47 : decode cX12_wanting 47 = .ok (.aload_n 0, 1) := by decide +kernel
theorem dX12_wanting_48 : decode cX12_wanting 48 = .ok (.aload_n 0, 1) := by decide +kernel
theorem dX12_wanting_49 : decode cX12_wanting 49 = .ok (.getfield 32, 3) := by decide +kernel
theorem dX12_wanting_52 : decode cX12_wanting 52 = .ok (.invokevirtual 341, 3) := by decide +kernel
theorem dX12_wanting_55 : decode cX12_wanting 55 = .ok (.ifCond .eq 12, 3) := by decide +kernel
theorem dX12_wanting_58 : decode cX12_wanting 58 = .ok (.aload_n 0, 1) := by decide +kernel
theorem dX12_wanting_59 : decode cX12_wanting 59 = .ok (.iconst 1, 1) := by decide +kernel
theorem dX12_wanting_60 : decode cX12_wanting 60 = .ok (.aload_n 0, 1) := by decide +kernel
theorem dX12_wanting_61 : decode cX12_wanting 61 = .ok (.getfield 23, 3) := by decide +kernel
theorem dX12_wanting_64 : decode cX12_wanting 64 = .ok (.invokevirtual 233, 3) := by decide +kernel
theorem dX12_wanting_67 : decode cX12_wanting 67 = .ok (.aload_n 0, 1) := by decide +kernel
theorem dX12_wanting_68 : decode cX12_wanting 68 = .ok (.getfield 36, 3) := by decide +kernel
theorem dX12_wanting_71 : decode cX12_wanting 71 = .ok (.ifCond .le 7, 3) := by decide +kernel
theorem dX12_wanting_74 : decode cX12_wanting 74 = .ok (.iconst 0, 1) := by decide +kernel
theorem dX12_wanting_75 : decode cX12_wanting 75 = .ok (.goto 11, 3) := by decide +kernel
theorem dX12_wanting_78 : decode cX12_wanting 78 = .ok (.aload_n 0, 1) := by decide +kernel
theorem dX12_wanting_79 : decode cX12_wanting 79 = .ok (.aload_n 0, 1) := by decide +kernel
theorem dX12_wanting_80 : decode cX12_wanting 80 = .ok (.getfield 32, 3) := by decide +kernel
theorem dX12_wanting_83 : decode cX12_wanting 83 = .ok (.invokevirtual 299, 3) := by decide +kernel
theorem dX12_wanting_86 : decode cX12_wanting 86 = .ok (.istore_n 1, 1) := by decide +kernel
theorem dX12_wanting_87 : decode cX12_wanting 87 = .ok (.aload_n 0, 1) := by decide +kernel
theorem dX12_wanting_88 : decode cX12_wanting 88 = .ok (.getfield 36, 3) := by decide +kernel
theorem dX12_wanting_91 : decode cX12_wanting 91 = .ok (.ifCond .ne 17, 3) := by decide +kernel
theorem dX12_wanting_94 : decode cX12_wanting 94 = .ok (.iload_n 1, 1) := by decide +kernel
theorem dX12_wanting_95 : decode cX12_wanting 95 = .ok (.iconst (-1), 1) := by decide +kernel
theorem dX12_wanting_96 : decode cX12_wanting 96 = .ok (.if_icmp .ne 12, 3) := by decide +kernel
theorem dX12_wanting_99 : decode cX12_wanting 99 = .ok (.aload_n 0, 1) := by decide +kernel
theorem dX12_wanting_100 : decode cX12_wanting 100 = .ok (.iconst 3, 1) := by decide +kernel
theorem dX12_wanting_101 : decode cX12_wanting 101 = .ok (.aload_n 0, 1) := by decide +kernel
theorem dX12_wanting_102 : decode cX12_wanting 102 = .ok (.getfield 23, 3) := by decide +kernel
theorem dX12_wanting_105 : decode cX12_wanting 105 = .ok (.invokevirtual 233, 3) := by decide +kernel
theorem dX12_wanting_108 : decode cX12_wanting 108 = .ok (.aload_n 0, 1) := by decide +kernel
theorem dX12_wanting_109 : decode cX12_wanting 109 = .ok (.getfield 36, 3) := by decide +kernel
theorem dX12_wanting_112 : decode cX12_wanting 112 = .ok (.ifCond .le 4, 3) := by decide +kernel
theorem dX12_wanting_115 : decode cX12_wanting 115 = .ok (.return_, 1) := by decide +kernel
theorem dX12_wanting_116 : decode cX12_wanting 116 = .ok (.aload_n 0, 1) := by decide +kernel
theorem dX12_wanting_117 : decode cX12_wanting 117 = .ok (.invokevirtual 250, 3) := by decide +kernel
theorem dX12_wanting_120 : decode cX12_wanting 120 = .ok (.bipush 12, 2) := by decide +kernel
theorem dX12_wanting_122 : decode cX12_wanting 122 = .ok (.aload_n 0, 1) := by decide +kernel
theorem dX12_wanting_123 : decode cX12_wanting 123 = .ok (.getfield 106, 3) := by decide +kernel
theorem dX12_wanting_126 : decode cX12_wanting 126 = .ok (.imul, 1) := by decide +kernel
theorem dX12_wanting_127 : decode cX12_wanting 127 = .ok (.aload_n 0, 1) := by decide +kernel
theorem dX12_wanting_128 : decode cX12_wanting 128 = .ok (.getfield 69, 3) := by decide +kernel
theorem dX12_wanting_131 : decode cX12_wanting 131 = .ok (.aload_n 0, 1) := by decide +kernel
theorem dX12_wanting_132 : decode cX12_wanting 132 = .ok (.getfield 106, 3) := by decide +kernel
theorem dX12_wanting_135 : decode cX12_wanting 135 = .ok (.iaload, 1) := by decide +kernel
theorem dX12_wanting_136 : decode cX12_wanting 136 = .ok (.iadd, 1) := by decide +kernel
theorem dX12_wanting_137 : decode cX12_wanting 137 = .ok (.istore_n 2, 1) := by decide +kernel
theorem dX12_wanting_138 : decode cX12_wanting 138 = .ok (.aload_n 0, 1) := by decide +kernel
theorem dX12_wanting_139 : decode cX12_wanting 139 = .ok (.getfield 72, 3) := by decide +kernel
theorem dX12_wanting_142 : decode cX12_wanting 142 = .ok (.iload_n 2, 1) := by decide +kernel
theorem dX12_wanting_143 : decode cX12_wanting 143 = .ok (.iload_n 1, 1) := by decide +kernel
theorem dX12_wanting_144 : decode cX12_wanting 144 = .ok (.iastore, 1) := by decide +kernel
theorem dX12_wanting_145 : decode cX12_wanting 145 = .ok (.aload_n 0, 1) := by decide +kernel
theorem dX12_wanting_146 : decode cX12_wanting 146 = .ok (.ldc2_w 263, 3) := by decide +kernel
theorem dX12_wanting_149 : decode cX12_wanting 149 = .ok (.invokevirtual 355, 3) := by decide +kernel
theorem dX12_wanting_152 : decode cX12_wanting 152 = .ok (.aload_n 0, 1) := by decide +kernel
theorem dX12_wanting_153 : decode cX12_wanting 153 = .ok (.getfield 75, 3) := by decide +kernel
theorem dX12_wanting_156 : decode cX12_wanting 156 = .ok (.iload_n 2, 1) := by decide +kernel
theorem dX12_wanting_157 : decode cX12_wanting 157 = .ok (.aload_n 0, 1) := by decide +kernel
theorem dX12_wanting_158 : decode cX12_wanting 158 = .ok (.iconst 0, 1) := by decide +kernel
theorem dX12_wanting_159 : decode cX12_wanting 159 = .ok (.sipush 999, 3) := by decide +kernel
theorem dX12_wanting_162 : decode cX12_wanting 162 = .ok (.invokevirtual 359, 3) := by decide +kernel
theorem dX12_wanting_165 : decode cX12_wanting 165 = .ok (.iastore, 1) := by decide +kernel
theorem dX12_wanting_166 : decode cX12_wanting 166 = .ok (.aload_n 0, 1) := by decide +kernel
theorem dX12_wanting_167 : decode cX12_wanting 167 = .ok (.ldc2_w 265, 3) := by decide +kernel
theorem dX12_wanting_170 : decode cX12_wanting 170 = .ok (.invokevirtual 355, 3) := by decide +kernel
theorem dX12_wanting_173 : decode cX12_wanting 173 = .ok (.aload_n 0, 1) := by decide +kernel
theorem dX12_wanting_174 : decode cX12_wanting 174 = .ok (.getfield 78, 3) := by decide +kernel
theorem dX12_wanting_177 : decode cX12_wanting 177 = .ok (.iload_n 2, 1) := by decide +kernel
theorem dX12_wanting_178 : decode cX12_wanting 178 = .ok (.aload_n 0, 1) := by decide +kernel
theorem dX12_wanting_179 : decode cX12_wanting 179 = .ok (.iconst 1, 1) := by decide +kernel
theorem dX12_wanting_180 : decode cX12_wanting 180 = .ok (.bipush 20, 2) := by decide +kernel
theorem dX12_wanting_182 : decode cX12_wanting 182 = .ok (.invokevirtual 359, 3) := by decide +kernel
theorem dX12_wanting_185 : decode cX12_wanting 185 = .ok (.iastore, 1) := by decide +kernel
theorem dX12_wanting_186 : decode cX12_wanting 186 = .ok (.aload_n 0, 1) := by decide +kernel
theorem dX12_wanting_187 : decode cX12_wanting 187 = .ok (.getfield 36, 3) := by decide +kernel
theorem dX12_wanting_190 : decode cX12_wanting 190 = .ok (.ifCond .ne 16, 3) := by decide +kernel
theorem dX12_wanting_193 : decode cX12_wanting 193 = .ok (.aload_n 0, 1) := by decide +kernel
theorem dX12_wanting_194 : decode cX12_wanting 194 = .ok (.getfield 69, 3) := by decide +kernel
theorem dX12_wanting_197 : decode cX12_wanting 197 = .ok (.aload_n 0, 1) := by decide +kernel
theorem dX12_wanting_198 : decode cX12_wanting 198 = .ok (.getfield 106, 3) := by decide +kernel
theorem dX12_wanting_201 : decode cX12_wanting 201 = .ok (.dup2, 1) := by decide +kernel
theorem dX12_wanting_202 : decode cX12_wanting 202 = .ok (.iaload, 1) := by decide +kernel
theorem dX12_wanting_203 : decode cX12_wanting 203 = .ok (.iconst 1, 1) := by decide +kernel
theorem dX12_wanting_204 : decode cX12_wanting 204 = .ok (.iadd, 1) := by decide +kernel
theorem dX12_wanting_205 : decode cX12_wanting 205 = .ok (.iastore, 1) := by decide +kernel
theorem dX12_wanting_206 : decode cX12_wanting 206 = .ok (.return_, 1) := by decide +kernel
theorem dX12_reading_0 : decode cX12_reading 0 = .ok (.iconst 3, 1) := by decide +kernel
theorem dX12_reading_1 : decode cX12_reading 1 = .ok (.aload_n 0, 1) := by decide +kernel
theorem dX12_reading_2 : decode cX12_reading 2 = .ok (.getfield 106, 3) := by decide +kernel
theorem dX12_reading_5 : decode cX12_reading 5 = .ok (.imul, 1) := by decide +kernel
theorem dX12_reading_6 : decode cX12_reading 6 = .ok (.iload_n 1, 1) := by decide +kernel
theorem dX12_reading_7 : decode cX12_reading 7 = .ok (.iadd, 1) := by decide +kernel
theorem dX12_reading_8 : decode cX12_reading 8 = .ok (.istore_n 2, 1) := by decide +kernel
theorem dX12_reading_9 : decode cX12_reading 9 = .ok (.aload_n 0, 1) := by decide +kernel
theorem dX12_reading_10 : decode cX12_reading 10 = .ok (.aload_n 0, 1) := by decide +kernel
theorem dX12_reading_11 : decode cX12_reading 11 = .ok (.getfield 84, 3) := by decide +kernel
theorem dX12_reading_14 : decode cX12_reading 14 = .ok (.iload_n 2, 1) := by decide +kernel
theorem dX12_reading_15 : decode cX12_reading 15 = .ok (.iaload, 1) := by decide +kernel
theorem dX12_reading_16 : decode cX12_reading 16 = .ok (.iconst (-1), 1) := by decide +kernel
theorem dX12_reading_17 : decode cX12_reading 17 = .ok (.if_icmp .eq 7, 3) := by decide +kernel
theorem dX12_reading_20 : decode cX12_reading 20 = .ok (.iconst 1, 1) := by decide +kernel
theorem dX12_reading_21 : decode cX12_reading 21 = .ok (.goto 4, 3) := by decide +kernel
theorem dX12_reading_24 : decode cX12_reading 24 = .ok (.iconst 0, 1) := by decide +kernel
theorem dX12_reading_25 : decode cX12_reading 25 = .ok (.invokevirtual 347, 3) := by decide +kernel
theorem dX12_reading_28 : decode cX12_reading 28 = .ok (.ifCond .ne 4, 3) := by decide +kernel
theorem dX12_reading_31 : decode cX12_reading 31 = .ok (.return_, 1) := by decide +kernel
theorem dX12_reading_32 : decode cX12_reading 32 = .ok (.aload_n 0, 1) := by decide +kernel
theorem dX12_reading_33 : decode cX12_reading 33 = .ok (.iload_n 1, 1) := by decide +kernel
theorem dX12_reading_34 : decode cX12_reading 34 = .ok (.putfield 109, 3) := by decide +kernel
theorem dX12_reading_37 : decode cX12_reading 37 = .ok (.aload_n 0, 1) := by decide +kernel
theorem dX12_reading_38 : decode cX12_reading 38 = .ok (.getfield 84, 3) := by decide +kernel
theorem dX12_reading_41 : decode cX12_reading 41 = .ok (.iload_n 2, 1) := by decide +kernel
theorem dX12_reading_42 : decode cX12_reading 42 = .ok (.aload_n 0, 1) := by decide +kernel
theorem dX12_reading_43 : decode cX12_reading 43 = .ok (.getfield 103, 3) := by decide +kernel
theorem dX12_reading_46 : decode cX12_reading 46 = .ok (.iastore, 1) := by decide +kernel
theorem dX12_reading_47 : decode cX12_reading 47 = .ok (.aload_n 0, 1) := by decide +kernel
theorem dX12_reading_48 : decode cX12_reading 48 = .ok (.iload_n 1, 1) := by decide +kernel
theorem dX12_reading_49 : decode cX12_reading 49 = .ok (.ifCond .eq 7, 3) := by decide +kernel
theorem dX12_reading_52 : decode cX12_reading 52 = .ok (.iconst 1, 1) := by decide +kernel
theorem dX12_reading_53 : decode cX12_reading 53 = .ok (.goto 4, 3) := by decide +kernel
theorem dX12_reading_56 : decode cX12_reading 56 = .ok (.iconst 0, 1) := by decide +kernel
theorem dX12_reading_57 : decode cX12_reading 57 = .ok (.invokevirtual 363, 3) := by decide +kernel
theorem dX12_reading_60 : decode cX12_reading 60 = .ok (.aload_n 0, 1) := by decide +kernel
theorem dX12_reading_61 : decode cX12_reading 61 = .ok (.getfield 87, 3) := by decide +kernel
theorem dX12_reading_64 : decode cX12_reading 64 = .ok (.iload_n 2, 1) := by decide +kernel
theorem dX12_reading_65 : decode cX12_reading 65 = .ok (.aload_n 0, 1) := by decide +kernel
theorem dX12_reading_66 : decode cX12_reading 66 = .ok (.getfield 103, 3) := by decide +kernel
theorem dX12_reading_69 : decode cX12_reading 69 = .ok (.iastore, 1) := by decide +kernel
theorem dX12_reading_70 : decode cX12_reading 70 = .ok (.return_, 1) := by decide +kernel
theorem dX12_stroking_0 : decode cX12_stroking 0 = .ok (.aload_n 0, 1) := by decide +kernel
theorem dX12_stroking_1 : decode cX12_stroking 1 = .ok (.iconst 0, 1) := by decide +kernel
theorem dX12_stroking_2 : decode cX12_stroking 2 = .ok (.invokevirtual 347, 3) := by decide +kernel
theorem dX12_stroking_5 : decode cX12_stroking 5 = .ok (.ifCond .ne 4, 3) := by decide +kernel
theorem dX12_stroking_8 : decode cX12_stroking 8 = .ok (.return_, 1) := by decide +kernel
theorem dX12_stroking_9 : decode cX12_stroking 9 = .ok (.aload_n 0, 1) := by decide +kernel
theorem dX12_stroking_10 : decode cX12_stroking 10 = .ok (.iconst 0, 1) := by decide +kernel
theorem dX12_stroking_11 : decode cX12_stroking 11 = .ok (.bipush 100, 2) := by decide +kernel
theorem dX12_stroking_13 : decode cX12_stroking 13 = .ok (.invokevirtual 359, 3) := by decide +kernel
theorem dX12_stroking_16 : decode cX12_stroking 16 = .ok (.istore_n 1, 1) := by decide +kernel
theorem dX12_stroking_17 : decode cX12_stroking 17 = .ok (.aload_n 0, 1) := by decide +kernel
theorem dX12_stroking_18 : decode cX12_stroking 18 = .ok (.getfield 36, 3) := by decide +kernel
theorem dX12_stroking_21 : decode cX12_stroking 21 = .ok (.ifCond .ne 13, 3) := by decide +kernel
theorem dX12_stroking_24 : decode cX12_stroking 24 = .ok (.aload_n 0, 1) := by decide +kernel
theorem dX12_stroking_25 : decode cX12_stroking 25 = .ok (.getfield 81, 3) := by decide +kernel
theorem dX12_stroking_28 : decode cX12_stroking 28 = .ok (.aload_n 0, 1) := by decide +kernel
theorem dX12_stroking_29 : decode cX12_stroking 29 = .ok (.getfield 106, 3) := by decide +kernel
theorem dX12_stroking_32 : decode cX12_stroking 32 = .ok (.iload_n 1, 1) := by decide +kernel
theorem dX12_stroking_33 : decode cX12_stroking 33 = .ok (.iastore, 1) := by decide +kernel
theorem dX12_stroking_34 : decode cX12_stroking 34 = .ok (.return_, 1) := by decide +kernel
theorem dX12_statement_0 : decode cX12_statement 0 = .ok (.aload_n 0, 1) := by decide +kernel
theorem dX12_statement_1 : decode cX12_statement 1 = .ok (.invokevirtual 244, 3) := by decide +kernel
theorem dX12_statement_4 : decode cX12_statement 4 = .ok (.aload_n 0, 1) := by decide +kernel
theorem dX12_statement_5 : decode cX12_statement 5 = .ok (.getfield 36, 3) := by decide +kernel
theorem dX12_statement_8 : decode cX12_statement 8 = .ok (.ifCond .le 4, 3) := by decide +kernel
theorem dX12_statement_11 : decode cX12_statement 11 = .ok (.return_, 1) := by decide +kernel
theorem dX12_statement_12 : decode cX12_statement 12 = .ok (.aload_n 0, 1) := by decide +kernel
theorem dX12_statement_13 : decode cX12_statement 13 = .ok (.ldc2_w 253, 3) := by decide +kernel
theorem dX12_statement_16 : decode cX12_statement 16 = .ok (.invokevirtual 319, 3) := by decide +kernel
theorem dX12_statement_19 : decode cX12_statement 19 = .ok (.ifCond .eq 10, 3) := by decide +kernel
theorem dX12_statement_22 : decode cX12_statement 22 = .ok (.aload_n 0, 1) := by decide +kernel
theorem dX12_statement_23 : decode cX12_statement 23 = .ok (.invokevirtual 367, 3) := by decide +kernel
theorem dX12_statement_26 : decode cX12_statement 26 = .ok (.goto 117, 3) := by decide +kernel
theorem dX12_statement_29 : decode cX12_statement 29 = .ok (.aload_n 0, 1) := by decide +kernel
theorem dX12_statement_30 : decode cX12_statement 30 = .ok (.ldc2_w 257, 3) := by decide +kernel
theorem dX12_statement_33 : decode cX12_statement 33 = .ok (.invokevirtual 319, 3) := by decide +kernel
theorem dX12_statement_36 : decode cX12_statement 36 = .ok (.ifCond .eq 10, 3) := by decide +kernel
theorem dX12_statement_39 : decode cX12_statement 39 = .ok (.aload_n 0, 1) := by decide +kernel
theorem dX12_statement_40 : decode cX12_statement 40 = .ok (.invokevirtual 370, 3) := by decide +kernel
theorem dX12_statement_43 : decode cX12_statement 43 = .ok (.goto 100, 3) := by decide +kernel
theorem dX12_statement_46 : decode cX12_statement 46 = .ok (.aload_n 0, 1) := by decide +kernel
theorem dX12_statement_47 : decode cX12_statement 47 = .ok (.ldc2_w 261, 3) := by decide +kernel
theorem dX12_statement_50 : decode cX12_statement 50 = .ok (.invokevirtual 319, 3) := by decide +kernel
theorem dX12_statement_53 : decode cX12_statement 53 = .ok (.ifCond .eq 10, 3) := by decide +kernel
theorem dX12_statement_56 : decode cX12_statement 56 = .ok (.aload_n 0, 1) := by decide +kernel
theorem dX12_statement_57 : decode cX12_statement 57 = .ok (.invokevirtual 373, 3) := by decide +kernel
theorem dX12_statement_60 : decode cX12_statement 60 = .ok (.goto 83, 3) := by decide +kernel
theorem dX12_statement_63 : decode cX12_statement 63 = .ok (.aload_n 0, 1) := by decide +kernel
theorem dX12_statement_64 : decode cX12_statement 64 = .ok (.ldc2_w 267, 3) := by decide +kernel
theorem dX12_statement_67 : decode cX12_statement 67 = .ok (.invokevirtual 319, 3) := by decide +kernel
theorem dX12_statement_70 : decode cX12_statement 70 = .ok (.ifCond .eq 11, 3) := by decide +kernel
theorem dX12_statement_73 : decode cX12_statement 73 = .ok (.aload_n 0, 1) := by decide +kernel
theorem dX12_statement_74 : decode cX12_statement 74 = .ok (.iconst 0, 1) := by decide +kernel
theorem dX12_statement_75 : decode cX12_statement 75 = .ok (.invokevirtual 376, 3) := by decide +kernel
theorem dX12_statement_78 : decode cX12_statement 78 = .ok (.goto 65, 3) := by decide +kernel
theorem dX12_statement_81 : decode cX12_statement 81 = .ok (.aload_n 0, 1) := by decide +kernel
theorem dX12_statement_82 : decode cX12_statement 82 = .ok (.ldc2_w 269, 3) := by decide +kernel
theorem dX12_statement_85 : decode cX12_statement 85 = .ok (.invokevirtual 319, 3) := by decide +kernel
theorem dX12_statement_88 : decode cX12_statement 88 = .ok (.ifCond .eq 11, 3) := by decide +kernel
theorem dX12_statement_91 : decode cX12_statement 91 = .ok (.aload_n 0, 1) := by decide +kernel
theorem dX12_statement_92 : decode cX12_statement 92 = .ok (.iconst 1, 1) := by decide +kernel
theorem dX12_statement_93 : decode cX12_statement 93 = .ok (.invokevirtual 376, 3) := by decide +kernel
theorem dX12_statement_96 : decode cX12_statement 96 = .ok (.goto 47, 3) := by decide +kernel
theorem dX12_statement_99 : decode cX12_statement 99 = .ok (.aload_n 0, 1) := by decide +kernel
theorem dX12_statement_100 : decode cX12_statement 100 = .ok (.ldc2_w 271, 3) := by decide +kernel
theorem dX12_statement_103 : decode cX12_statement 103 = .ok (.invokevirtual 319, 3) := by decide +kernel
theorem dX12_statement_106 : decode cX12_statement 106 = .ok (.ifCond .eq 11, 3) := by decide +kernel
theorem dX12_statement_109 : decode cX12_statement 109 = .ok (.aload_n 0, 1) := by decide +kernel
theorem dX12_statement_110 : decode cX12_statement 110 = .ok (.iconst 2, 1) := by decide +kernel
theorem dX12_statement_111 : decode cX12_statement 111 = .ok (.invokevirtual 376, 3) := by decide +kernel
theorem dX12_statement_114 : decode cX12_statement 114 = .ok (.goto 29, 3) := by decide +kernel
theorem dX12_statement_117 : decode cX12_statement 117 = .ok (.aload_n 0, 1) := by decide +kernel
theorem dX12_statement_118 : decode cX12_statement 118 = .ok (.ldc2_w 273, 3) := by decide +kernel
theorem dX12_statement_121 : decode cX12_statement 121 = .ok (.invokevirtual 319, 3) := by decide +kernel
theorem dX12_statement_124 : decode cX12_statement 124 = .ok (.ifCond .eq 10, 3) := by decide +kernel
theorem dX12_statement_127 : decode cX12_statement 127 = .ok (.aload_n 0, 1) := by decide +kernel
theorem dX12_statement_128 : decode cX12_statement 128 = .ok (.invokevirtual 379, 3) := by decide +kernel
theorem dX12_statement_131 : decode cX12_statement 131 = .ok (.goto 12, 3) := by decide +kernel
theorem dX12_statement_134 : decode cX12_statement 134 = .ok (.aload_n 0, 1) := by decide +kernel
theorem dX12_statement_135 : decode cX12_statement 135 = .ok (.iconst 1, 1) := by decide +kernel
theorem dX12_statement_136 : decode cX12_statement 136 = .ok (.aload_n 0, 1) := by decide +kernel
theorem dX12_statement_137 : decode cX12_statement 137 = .ok (.getfield 23, 3) := by decide +kernel
theorem dX12_statement_140 : decode cX12_statement 140 = .ok (.invokevirtual 233, 3) := by decide +kernel
theorem dX12_statement_143 : decode cX12_statement 143 = .ok (.return_, 1) := by decide +kernel
theorem dX12_finishes_0 : decode cX12_finishes 0 = .ok (.aload_n 0, 1) := by decide +kernel
theorem dX12_finishes_1 : decode cX12_finishes 1 = .ok (.invokevirtual 244, 3) := by decide +kernel
theorem dX12_finishes_4 : decode cX12_finishes 4 = .ok (.aload_n 0, 1) := by decide +kernel
theorem dX12_finishes_5 : decode cX12_finishes 5 = .ok (.getfield 36, 3) := by decide +kernel
theorem dX12_finishes_8 : decode cX12_finishes 8 = .ok (.ifCond .le 4, 3) := by decide +kernel
theorem dX12_finishes_11 : decode cX12_finishes 11 = .ok (.return_, 1) := by decide +kernel
theorem dX12_finishes_12 : decode cX12_finishes 12 = .ok (.aload_n 0, 1) := by decide +kernel
theorem dX12_finishes_13 : decode cX12_finishes 13 = .ok (.getfield 26, 3) := by decide +kernel
theorem dX12_finishes_16 : decode cX12_finishes 16 = .ok (.istore_n 2, 1) := by decide +kernel
theorem dX12_finishes_17 : decode cX12_finishes 17 = .ok (.iload_n 2, 1) := by decide +kernel
theorem dX12_finishes_18 : decode cX12_finishes 18 = .ok (.aload_n 0, 1) := by decide +kernel
theorem dX12_finishes_19 : decode cX12_finishes 19 = .ok (.getfield 17, 3) := by decide +kernel
theorem dX12_finishes_22 : decode cX12_finishes 22 = .ok (.if_icmp .ge 31, 3) := by decide +kernel
theorem dX12_finishes_25 : decode cX12_finishes 25 = .ok (.aload_n 0, 1) := by decide +kernel
theorem dX12_finishes_26 : decode cX12_finishes 26 = .ok (.getfield 7, 3) := by decide +kernel
theorem dX12_finishes_29 : decode cX12_finishes 29 = .ok (.iload_n 2, 1) := by decide +kernel
theorem dX12_finishes_30 : decode cX12_finishes 30 = .ok (.iaload, 1) := by decide +kernel
theorem dX12_finishes_31 : decode cX12_finishes 31 = .ok (.bipush 32, 2) := by decide +kernel
theorem dX12_finishes_33 : decode cX12_finishes 33 = .ok (.if_icmp .eq 14, 3) := by decide +kernel
theorem dX12_finishes_36 : decode cX12_finishes 36 = .ok (.aload_n 0, 1) := by decide +kernel
theorem dX12_finishes_37 : decode cX12_finishes 37 = .ok (.getfield 7, 3) := by decide +kernel
theorem dX12_finishes_40 : decode cX12_finishes 40 = .ok (.iload_n 2, 1) := by decide +kernel
theorem dX12_finishes_41 : decode cX12_finishes 41 = .ok (.iaload, 1) := by decide +kernel
theorem dX12_finishes_42 : decode cX12_finishes 42 = .ok (.bipush 10, 2) := by decide +kernel
theorem dX12_finishes_44 : decode cX12_finishes 44 = .ok (.if_icmp .ne 9, 3) := by decide +kernel
theorem dX12_finishes_47 : decode cX12_finishes 47 = .ok (.iinc 2 1, 3) := by decide +kernel
theorem dX12_finishes_50 : decode cX12_finishes 50 = .ok (.goto (-33), 3) := by decide +kernel
theorem dX12_finishes_53 : decode cX12_finishes 53 = .ok (.aload_n 0, 1) := by decide +kernel
theorem dX12_finishes_54 : decode cX12_finishes 54 = .ok (.bipush 59, 2) := by decide +kernel
theorem dX12_finishes_56 : decode cX12_finishes 56 = .ok (.invokevirtual 247, 3) := by decide +kernel
theorem dX12_finishes_59 : decode cX12_finishes 59 = .ok (.ifCond .eq 24, 3) := by decide +kernel
theorem dX12_finishes_62 : decode cX12_finishes 62 = .ok (.iload_n 1, 1) := by decide +kernel
theorem dX12_finishes_63 : decode cX12_finishes 63 = .ok (.bipush 80, 2) := by decide +kernel
theorem dX12_finishes_65 : decode cX12_finishes 65 = .ok (.if_icmp .ne 18, 3) := by decide +kernel
theorem dX12_finishes_68 : decode cX12_finishes 68 = .ok (.iload_n 2, 1) := by decide +kernel
theorem dX12_finishes_69 : decode cX12_finishes 69 = .ok (.aload_n 0, 1) := by decide +kernel
theorem dX12_finishes_70 : decode cX12_finishes 70 = .ok (.getfield 17, 3) := by decide +kernel
theorem dX12_finishes_73 : decode cX12_finishes 73 = .ok (.if_icmp .ge 10, 3) := by decide +kernel
theorem dX12_finishes_76 : decode cX12_finishes 76 = .ok (.aload_n 0, 1) := by decide +kernel
theorem dX12_finishes_77 : decode cX12_finishes 77 = .ok (.bipush 6, 2) := by decide +kernel
theorem dX12_finishes_79 : decode cX12_finishes 79 = .ok (.iload_n 2, 1) := by decide +kernel
theorem dX12_finishes_80 : decode cX12_finishes 80 = .ok (.invokevirtual 233, 3) := by decide +kernel
theorem dX12_finishes_83 : decode cX12_finishes 83 = .ok (.aload_n 0, 1) := by decide +kernel
theorem dX12_finishes_84 : decode cX12_finishes 84 = .ok (.bipush 59, 2) := by decide +kernel
theorem dX12_finishes_86 : decode cX12_finishes 86 = .ok (.invokevirtual 382, 3) := by decide +kernel
theorem dX12_finishes_89 : decode cX12_finishes 89 = .ok (.return_, 1) := by decide +kernel
theorem dX12_begin_0 : decode cX12_begin 0 = .ok (.aload_n 0, 1) := by decide +kernel
theorem dX12_begin_1 : decode cX12_begin 1 = .ok (.getfield 147, 3) := by decide +kernel
theorem dX12_begin_4 : decode cX12_begin 4 = .ok (.iconst 0, 1) := by decide +kernel
theorem dX12_begin_5 : decode cX12_begin 5 = .ok (.iconst 0, 1) := by decide +kernel
theorem dX12_begin_6 : decode cX12_begin 6 = .ok (.iastore, 1) := by decide +kernel
theorem dX12_begin_7 : decode cX12_begin 7 = .ok (.aload_n 0, 1) := by decide +kernel
theorem dX12_begin_8 : decode cX12_begin 8 = .ok (.getfield 156, 3) := by decide +kernel
theorem dX12_begin_11 : decode cX12_begin 11 = .ok (.iconst 0, 1) := by decide +kernel
theorem dX12_begin_12 : decode cX12_begin 12 = .ok (.iconst 0, 1) := by decide +kernel
theorem dX12_begin_13 : decode cX12_begin 13 = .ok (.iastore, 1) := by decide +kernel
theorem dX12_begin_14 : decode cX12_begin 14 = .ok (.aload_n 0, 1) := by decide +kernel
theorem dX12_begin_15 : decode cX12_begin 15 = .ok (.getfield 174, 3) := by decide +kernel
theorem dX12_begin_18 : decode cX12_begin 18 = .ok (.iconst 0, 1) := by decide +kernel
theorem dX12_begin_19 : decode cX12_begin 19 = .ok (.iconst 0, 1) := by decide +kernel
theorem dX12_begin_20 : decode cX12_begin 20 = .ok (.iastore, 1) := by decide +kernel
theorem dX12_begin_21 : decode cX12_begin 21 = .ok (.iconst 0, 1) := by decide +kernel
theorem dX12_begin_22 : decode cX12_begin 22 = .ok (.istore_n 1, 1) := by decide +kernel
theorem dX12_begin_23 : decode cX12_begin 23 = .ok (.iload_n 1, 1) := by decide +kernel
theorem dX12_begin_24 : decode cX12_begin 24 = .ok (.bipush 7, 2) := by decide +kernel
theorem dX12_begin_26 : decode cX12_begin 26 = .ok (.if_icmp .ge 36, 3) := by decide +kernel
theorem dX12_begin_29 : decode cX12_begin 29 = .ok (.aload_n 0, 1) := by decide +kernel
theorem dX12_begin_30 : decode cX12_begin 30 = .ok (.getfield 150, 3) := by decide +kernel
theorem dX12_begin_33 : decode cX12_begin 33 = .ok (.iload_n 1, 1) := by decide +kernel
theorem dX12_begin_34 : decode cX12_begin 34 = .ok (.aload_n 0, 1) := by decide +kernel
theorem dX12_begin_35 : decode cX12_begin 35 = .ok (.getfield 57, 3) := by decide +kernel
theorem dX12_begin_38 : decode cX12_begin 38 = .ok (.bipush 7, 2) := by decide +kernel
theorem dX12_begin_40 : decode cX12_begin 40 = .ok (.aload_n 0, 1) := by decide +kernel
theorem dX12_begin_41 : decode cX12_begin 41 = .ok (.getfield 51, 3) := by decide +kernel
theorem dX12_begin_44 : decode cX12_begin 44 = .ok (.imul, 1) := by decide +kernel
theorem dX12_begin_45 : decode cX12_begin 45 = .ok (.iload_n 1, 1) := by decide +kernel
theorem dX12_begin_46 : decode cX12_begin 46 = .ok (.iadd, 1) := by decide +kernel
theorem dX12_begin_47 : decode cX12_begin 47 = .ok (.iaload, 1) := by decide +kernel
theorem dX12_begin_48 : decode cX12_begin 48 = .ok (.iastore, 1) := by decide +kernel
theorem dX12_begin_49 : decode cX12_begin 49 = .ok (.aload_n 0, 1) := by decide +kernel
theorem dX12_begin_50 : decode cX12_begin 50 = .ok (.getfield 153, 3) := by decide +kernel
theorem dX12_begin_53 : decode cX12_begin 53 = .ok (.iload_n 1, 1) := by decide +kernel
theorem dX12_begin_54 : decode cX12_begin 54 = .ok (.iconst 0, 1) := by decide +kernel
theorem dX12_begin_55 : decode cX12_begin 55 = .ok (.iastore, 1) := by decide +kernel
theorem dX12_begin_56 : decode cX12_begin 56 = .ok (.iinc 1 1, 3) := by decide +kernel
theorem dX12_begin_59 : decode cX12_begin 59 = .ok (.goto (-36), 3) := by decide +kernel
theorem dX12_begin_62 : decode cX12_begin 62 = .ok (.iconst 0, 1) := by decide +kernel
theorem dX12_begin_63 : decode cX12_begin 63 = .ok (.istore_n 1, 1) := by decide +kernel
theorem dX12_begin_64 : decode cX12_begin 64 = .ok (.iload_n 1, 1) := by decide +kernel
theorem dX12_begin_65 : decode cX12_begin 65 = .ok (.bipush 12, 2) := by decide +kernel
theorem dX12_begin_67 : decode cX12_begin 67 = .ok (.if_icmp .ge 57, 3) := by decide +kernel
theorem dX12_begin_70 : decode cX12_begin 70 = .ok (.aload_n 0, 1) := by decide +kernel
theorem dX12_begin_71 : decode cX12_begin 71 = .ok (.getfield 159, 3) := by decide +kernel
theorem dX12_begin_74 : decode cX12_begin 74 = .ok (.iload_n 1, 1) := by decide +kernel
theorem dX12_begin_75 : decode cX12_begin 75 = .ok (.iconst 0, 1) := by decide +kernel
theorem dX12_begin_76 : decode cX12_begin 76 = .ok (.iastore, 1) := by decide +kernel
theorem dX12_begin_77 : decode cX12_begin 77 = .ok (.aload_n 0, 1) := by decide +kernel
theorem dX12_begin_78 : decode cX12_begin 78 = .ok (.getfield 162, 3) := by decide +kernel
theorem dX12_begin_81 : decode cX12_begin 81 = .ok (.iload_n 1, 1) := by decide +kernel
theorem dX12_begin_82 : decode cX12_begin 82 = .ok (.aload_n 0, 1) := by decide +kernel
theorem dX12_begin_83 : decode cX12_begin 83 = .ok (.getfield 75, 3) := by decide +kernel
theorem dX12_begin_86 : decode cX12_begin 86 = .ok (.bipush 12, 2) := by decide +kernel
theorem dX12_begin_88 : decode cX12_begin 88 = .ok (.aload_n 0, 1) := by decide +kernel
theorem dX12_begin_89 : decode cX12_begin 89 = .ok (.getfield 51, 3) := by decide +kernel
theorem dX12_begin_92 : decode cX12_begin 92 = .ok (.imul, 1) := by decide +kernel
theorem dX12_begin_93 : decode cX12_begin 93 = .ok (.iload_n 1, 1) := by decide +kernel
theorem dX12_begin_94 : decode cX12_begin 94 = .ok (.iadd, 1) := by decide +kernel
theorem dX12_begin_95 : decode cX12_begin 95 = .ok (.iaload, 1) := by decide +kernel
theorem dX12_begin_96 : decode cX12_begin 96 = .ok (.iastore, 1) := by decide +kernel
theorem dX12_begin_97 : decode cX12_begin 97 = .ok (.aload_n 0, 1) := by decide +kernel
theorem dX12_begin_98 : decode cX12_begin 98 = .ok (.getfield 165, 3) := by decide +kernel
theorem dX12_begin_101 : decode cX12_begin 101 = .ok (.iload_n 1, 1) := by decide +kernel
theorem dX12_begin_102 : decode cX12_begin 102 = .ok (.iconst 0, 1) := by decide +kernel
theorem dX12_begin_103 : decode cX12_begin 103 = .ok (.iastore, 1) := by decide +kernel
theorem dX12_begin_104 : decode cX12_begin 104 = .ok (.aload_n 0, 1) := by decide +kernel
theorem dX12_begin_105 : decode cX12_begin 105 = .ok (.getfield 168, 3) := by decide +kernel
theorem dX12_begin_108 : decode cX12_begin 108 = .ok (.iload_n 1, 1) := by decide +kernel
theorem dX12_begin_109 : decode cX12_begin 109 = .ok (.iconst (-1), 1) := by decide +kernel
theorem dX12_begin_110 : decode cX12_begin 110 = .ok (.iastore, 1) := by decide +kernel
theorem dX12_begin_111 : decode cX12_begin 111 = .ok (.aload_n 0, 1) := by decide +kernel
theorem dX12_begin_112 : decode cX12_begin 112 = .ok (.getfield 171, 3) := by decide +kernel
theorem dX12_begin_115 : decode cX12_begin 115 = .ok (.iload_n 1, 1) := by decide +kernel
theorem dX12_begin_116 : decode cX12_begin 116 = .ok (.iconst 0, 1) := by decide +kernel
theorem dX12_begin_117 : decode cX12_begin 117 = .ok (.iastore, 1) := by decide +kernel
theorem dX12_begin_118 : decode cX12_begin 118 = .ok (.iinc 1 1, 3) := by decide +kernel
theorem dX12_begin_121 : decode cX12_begin 121 = .ok (.goto (-57), 3) := by decide +kernel
theorem dX12_begin_124 : decode cX12_begin 124 = .ok (.aload_n 0, 1) := by decide +kernel
theorem dX12_begin_125 : decode cX12_begin 125 = .ok (.getfield 177, 3) := by decide +kernel
theorem dX12_begin_128 : decode cX12_begin 128 = .ok (.iconst 0, 1) := by decide +kernel
theorem dX12_begin_129 : decode cX12_begin 129 = .ok (.iconst 0, 1) := by decide +kernel
theorem dX12_begin_130 : decode cX12_begin 130 = .ok (.iastore, 1) := by decide +kernel
theorem dX12_begin_131 : decode cX12_begin 131 = .ok (.aload_n 0, 1) := by decide +kernel
theorem dX12_begin_132 : decode cX12_begin 132 = .ok (.iconst 0, 1) := by decide +kernel
theorem dX12_begin_133 : decode cX12_begin 133 = .ok (.putfield 186, 3) := by decide +kernel
theorem dX12_begin_136 : decode cX12_begin 136 = .ok (.aload_n 0, 1) := by decide +kernel
theorem dX12_begin_137 : decode cX12_begin 137 = .ok (.iconst 0, 1) := by decide +kernel
theorem dX12_begin_138 : decode cX12_begin 138 = .ok (.putfield 204, 3) := by decide +kernel
theorem dX12_begin_141 : decode cX12_begin 141 = .ok (.return_, 1) := by decide +kernel
theorem dX12_town_0 : decode cX12_town 0 = .ok (.aload_n 0, 1) := by decide +kernel
theorem dX12_town_1 : decode cX12_town 1 = .ok (.aload_n 0, 1) := by decide +kernel
theorem dX12_town_2 : decode cX12_town 2 = .ok (.getfield 13, 3) := by decide +kernel
theorem dX12_town_5 : decode cX12_town 5 = .ok (.putfield 17, 3) := by decide +kernel
theorem dX12_town_8 : decode cX12_town 8 = .ok (.aload_n 0, 1) := by decide +kernel
theorem dX12_town_9 : decode cX12_town 9 = .ok (.iconst 0, 1) := by decide +kernel
theorem dX12_town_10 : decode cX12_town 10 = .ok (.putfield 13, 3) := by decide +kernel
theorem dX12_town_13 : decode cX12_town 13 = .ok (.aload_n 0, 1) := by decide +kernel
theorem dX12_town_14 : decode cX12_town 14 = .ok (.iconst 0, 1) := by decide +kernel
theorem dX12_town_15 : decode cX12_town 15 = .ok (.putfield 26, 3) := by decide +kernel
theorem dX12_town_18 : decode cX12_town 18 = .ok (.aload_n 0, 1) := by decide +kernel
theorem dX12_town_19 : decode cX12_town 19 = .ok (.iconst 0, 1) := by decide +kernel
theorem dX12_town_20 : decode cX12_town 20 = .ok (.putfield 36, 3) := by decide +kernel
theorem dX12_town_23 : decode cX12_town 23 = .ok (.aload_n 0, 1) := by decide +kernel
theorem dX12_town_24 : decode cX12_town 24 = .ok (.iconst (-1), 1) := by decide +kernel
theorem dX12_town_25 : decode cX12_town 25 = .ok (.putfield 39, 3) := by decide +kernel
theorem dX12_town_28 : decode cX12_town 28 = .ok (.aload_n 0, 1) := by decide +kernel
theorem dX12_town_29 : decode cX12_town 29 = .ok (.iconst 1, 1) := by decide +kernel
theorem dX12_town_30 : decode cX12_town 30 = .ok (.aload_n 0, 1) := by decide +kernel
theorem dX12_town_31 : decode cX12_town 31 = .ok (.getfield 51, 3) := by decide +kernel
theorem dX12_town_34 : decode cX12_town 34 = .ok (.isub, 1) := by decide +kernel
theorem dX12_town_35 : decode cX12_town 35 = .ok (.putfield 106, 3) := by decide +kernel
theorem dX12_town_38 : decode cX12_town 38 = .ok (.aload_n 0, 1) := by decide +kernel
theorem dX12_town_39 : decode cX12_town 39 = .ok (.getfield 54, 3) := by decide +kernel
theorem dX12_town_42 : decode cX12_town 42 = .ok (.aload_n 0, 1) := by decide +kernel
theorem dX12_town_43 : decode cX12_town 43 = .ok (.getfield 106, 3) := by decide +kernel
theorem dX12_town_46 : decode cX12_town 46 = .ok (.iconst 0, 1) := by decide +kernel
theorem dX12_town_47 : decode cX12_town 47 = .ok (.iastore, 1) := by decide +kernel
theorem dX12_town_48 : decode cX12_town 48 = .ok (.aload_n 0, 1) := by decide +kernel
theorem dX12_town_49 : decode cX12_town 49 = .ok (.getfield 60, 3) := by decide +kernel
theorem dX12_town_52 : decode cX12_town 52 = .ok (.aload_n 0, 1) := by decide +kernel
theorem dX12_town_53 : decode cX12_town 53 = .ok (.getfield 106, 3) := by decide +kernel
theorem dX12_town_56 : decode cX12_town 56 = .ok (.iconst 0, 1) := by decide +kernel
theorem dX12_town_57 : decode cX12_town 57 = .ok (.iastore, 1) := by decide +kernel
theorem dX12_town_58 : decode cX12_town 58 = .ok (.aload_n 0, 1) := by decide +kernel
theorem dX12_town_59 : decode cX12_town 59 = .ok (.getfield 69, 3) := by decide +kernel
theorem dX12_town_62 : decode cX12_town 62 = .ok (.aload_n 0, 1) := by decide +kernel
theorem dX12_town_63 : decode cX12_town 63 = .ok (.getfield 106, 3) := by decide +kernel
theorem dX12_town_66 : decode cX12_town 66 = .ok (.iconst 0, 1) := by decide +kernel
theorem dX12_town_67 : decode cX12_town 67 = .ok (.iastore, 1) := by decide +kernel
theorem dX12_town_68 : decode cX12_town 68 = .ok (.aload_n 0, 1) := by decide +kernel
theorem dX12_town_69 : decode cX12_town 69 = .ok (.getfield 81, 3) := by decide +kernel
theorem dX12_town_72 : decode cX12_town 72 = .ok (.aload_n 0, 1) := by decide +kernel
theorem dX12_town_73 : decode cX12_town 73 = .ok (.getfield 106, 3) := by decide +kernel
theorem dX12_town_76 : decode cX12_town 76 = .ok (.iconst 0, 1) := by decide +kernel
theorem dX12_town_77 : decode cX12_town 77 = .ok (.iastore, 1) := by decide +kernel
theorem dX12_town_78 : decode cX12_town 78 = .ok (.iconst 3, 1) := by decide +kernel
theorem dX12_town_79 : decode cX12_town 79 = .ok (.aload_n 0, 1) := by decide +kernel
theorem dX12_town_80 : decode cX12_town 80 = .ok (.getfield 106, 3) := by decide +kernel
theorem dX12_town_83 : decode cX12_town 83 = .ok (.imul, 1) := by decide +kernel
theorem dX12_town_84 : decode cX12_town 84 = .ok (.istore_n 1, 1) := by decide +kernel
theorem dX12_town_85 : decode cX12_town 85 = .ok (.iload_n 1, 1) := by decide +kernel
theorem dX12_town_86 : decode cX12_town 86 = .ok (.iconst 3, 1) := by decide +kernel
theorem dX12_town_87 : decode cX12_town 87 = .ok (.aload_n 0, 1) := by decide +kernel
theorem dX12_town_88 : decode cX12_town 88 = .ok (.getfield 106, 3) := by decide +kernel
theorem dX12_town_91 : decode cX12_town 91 = .ok (.imul, 1) := by decide +kernel
theorem dX12_town_92 : decode cX12_town 92 = .ok (.iconst 3, 1) := by decide +kernel
theorem dX12_town_93 : decode cX12_town 93 = .ok (.iadd, 1) := by decide +kernel
theorem dX12_town_94 : decode cX12_town 94 = .ok (.if_icmp .ge 16, 3) := by decide +kernel
theorem dX12_town_97 : decode cX12_town 97 = .ok (.aload_n 0, 1) := by decide +kernel
theorem dX12_town_98 : decode cX12_town 98 = .ok (.getfield 84, 3) := by decide +kernel
theorem dX12_town_101 : decode cX12_town 101 = .ok (.iload_n 1, 1) := by decide +kernel
theorem dX12_town_102 : decode cX12_town 102 = .ok (.iconst (-1), 1) := by decide +kernel
theorem dX12_town_103 : decode cX12_town 103 = .ok (.iastore, 1) := by decide +kernel
theorem dX12_town_104 : decode cX12_town 104 = .ok (.iinc 1 1, 3) := by decide +kernel
theorem dX12_town_107 : decode cX12_town 107 = .ok (.goto (-22), 3) := by decide +kernel
theorem dX12_town_110 : decode cX12_town 110 = .ok (.aload_n 0, 1) := by decide +kernel
theorem dX12_town_111 : decode cX12_town 111 = .ok (.iconst 0, 1) := by decide +kernel
theorem dX12_town_112 : decode cX12_town 112 = .ok (.putfield 103, 3) := by decide +kernel
theorem dX12_town_115 : decode cX12_town 115 = .ok (.iconst 0, 1) := by decide +kernel
theorem dX12_town_116 : decode cX12_town 116 = .ok (.istore_n 1, 1) := by decide +kernel
theorem dX12_town_117 : decode cX12_town 117 = .ok (.aload_n 0, 1) := by decide +kernel
theorem dX12_town_118 : decode cX12_town 118 = .ok (.invokevirtual 250, 3) := by decide +kernel
theorem dX12_town_121 : decode cX12_town 121 = .ok (.aload_n 0, 1) := by decide +kernel
theorem dX12_town_122 : decode cX12_town 122 = .ok (.getfield 36, 3) := by decide +kernel
theorem dX12_town_125 : decode cX12_town 125 = .ok (.ifCond .ne 25, 3) := by decide +kernel
theorem dX12_town_128 : decode cX12_town 128 = .ok (.aload_n 0, 1) := by decide +kernel
theorem dX12_town_129 : decode cX12_town 129 = .ok (.getfield 20, 3) := by decide +kernel
theorem dX12_town_132 : decode cX12_town 132 = .ok (.ifCond .eq 18, 3) := by decide +kernel
theorem dX12_town_135 : decode cX12_town 135 = .ok (.aload_n 0, 1) := by decide +kernel
theorem dX12_town_136 : decode cX12_town 136 = .ok (.invokevirtual 384, 3) := by decide +kernel
theorem dX12_town_139 : decode cX12_town 139 = .ok (.iinc 1 1, 3) := by decide +kernel
theorem dX12_town_142 : decode cX12_town 142 = .ok (.aload_n 0, 1) := by decide +kernel
theorem dX12_town_143 : decode cX12_town 143 = .ok (.iload_n 1, 1) := by decide +kernel
theorem dX12_town_144 : decode cX12_town 144 = .ok (.invokevirtual 387, 3) := by decide +kernel
theorem dX12_town_147 : decode cX12_town 147 = .ok (.goto (-26), 3) := by decide +kernel
theorem dX12_town_150 : decode cX12_town 150 = .ok (.aload_n 0, 1) := by decide +kernel
theorem dX12_town_151 : decode cX12_town 151 = .ok (.aload_n 0, 1) := by decide +kernel
theorem dX12_town_152 : decode cX12_town 152 = .ok (.getfield 36, 3) := by decide +kernel
theorem dX12_town_155 : decode cX12_town 155 = .ok (.putfield 42, 3) := by decide +kernel
theorem dX12_town_158 : decode cX12_town 158 = .ok (.aload_n 0, 1) := by decide +kernel
theorem dX12_town_159 : decode cX12_town 159 = .ok (.aload_n 0, 1) := by decide +kernel
theorem dX12_town_160 : decode cX12_town 160 = .ok (.getfield 39, 3) := by decide +kernel
theorem dX12_town_163 : decode cX12_town 163 = .ok (.putfield 45, 3) := by decide +kernel
theorem dX12_town_166 : decode cX12_town 166 = .ok (.aload_n 0, 1) := by decide +kernel
theorem dX12_town_167 : decode cX12_town 167 = .ok (.getfield 36, 3) := by decide +kernel
theorem dX12_town_170 : decode cX12_town 170 = .ok (.ifCond .le 9, 3) := by decide +kernel
theorem dX12_town_173 : decode cX12_town 173 = .ok (.aload_n 0, 1) := by decide +kernel
theorem dX12_town_174 : decode cX12_town 174 = .ok (.iconst 1, 1) := by decide +kernel
theorem dX12_town_175 : decode cX12_town 175 = .ok (.invokevirtual 225, 3) := by decide +kernel
theorem dX12_town_178 : decode cX12_town 178 = .ok (.ireturn, 1) := by decide +kernel
theorem dX12_town_179 : decode cX12_town 179 = .ok (.aload_n 0, 1) := by decide +kernel
theorem dX12_town_180 : decode cX12_town 180 = .ok (.aload_n 0, 1) := by decide +kernel
theorem dX12_town_181 : decode cX12_town 181 = .ok (.getfield 106, 3) := by decide +kernel
theorem dX12_town_184 : decode cX12_town 184 = .ok (.putfield 51, 3) := by decide +kernel
theorem dX12_town_187 : decode cX12_town 187 = .ok (.aload_n 0, 1) := by decide +kernel
theorem dX12_town_188 : decode cX12_town 188 = .ok (.invokevirtual 390, 3) := by decide +kernel
theorem dX12_town_191 : decode cX12_town 191 = .ok (.iload_n 1, 1) := by decide +kernel
theorem dX12_town_192 : decode cX12_town 192 = .ok (.ireturn, 1) := by decide +kernel
theorem dX12_fault_0 : decode cX12_fault 0 = .ok (.iload_n 1, 1) := by decide +kernel
theorem dX12_fault_1 : decode cX12_fault 1 = .ok (.ifCond .ne 10, 3) := by decide +kernel
theorem dX12_fault_4 : decode cX12_fault 4 = .ok (.aload_n 0, 1) := by decide +kernel
theorem dX12_fault_5 : decode cX12_fault 5 = .ok (.getfield 42, 3) := by decide +kernel
theorem dX12_fault_8 : decode cX12_fault 8 = .ok (.goto 16, 3) := by decide +kernel
theorem dX12_fault_11 : decode cX12_fault 11 = .ok (.iload_n 1, 1) := by decide +kernel
theorem dX12_fault_12 : decode cX12_fault 12 = .ok (.iconst 1, 1) := by decide +kernel
theorem dX12_fault_13 : decode cX12_fault 13 = .ok (.if_icmp .ne 10, 3) := by decide +kernel
theorem dX12_fault_16 : decode cX12_fault 16 = .ok (.aload_n 0, 1) := by decide +kernel
theorem dX12_fault_17 : decode cX12_fault 17 = .ok (.getfield 45, 3) := by decide +kernel
theorem dX12_fault_20 : decode cX12_fault 20 = .ok (.goto 4, 3) := by decide +kernel
theorem dX12_fault_23 : decode cX12_fault 23 = .ok (.iconst (-1), 1) := by decide +kernel
theorem dX12_fault_24 : decode cX12_fault 24 = .ok (.ireturn, 1) := by decide +kernel
section
variable {p : Program} {l : Launch} {e : Env} {s : State} {m : MethodId} {args : Array Value} {below : List Frame} {meth : Method} {c : Code} {D : va_G} {E : Nat → ClassId} {b : Nat}
set_option maxHeartbeats 4000000 in
set_option maxRecDepth 20000 in
theorem w_m_goesOn_B499 (C : mCX p s m args meth c cX12_goesOn 5 RX12 D E b) (hr : meth.sig.returnType = (some .boolean)) {r0 : Bool} {M0 : Mem} {M : Mem} {v1 : Int} {s1 : Int} {s2 : Int} (h : m_goesOn_B499 v1 s1 s2 M = some (r0, M0)) :
    mWX p l e 3 57 s m args below meth c 5 D E b (some (vB r0)) M0 M 499 [(0, vR b 0), (1, vI v1)] [vI s2, vI s1, vR b 18] := by
  unfold m_goesOn_B499 at h
  obtain ⟨hi499, h⟩ := chk_inv h
  obtain ⟨M_499, hM_499, h⟩ := lt_inv h
  refine r_iast (pc := 499) C m_s18 (by decide) (by decide) hi499 rfl hM_499 dX12_goesOn_499 ?_
  refine r_aload_n (pc := 500) C 0 rfl rfl dX12_goesOn_500 ?_
  refine r_getR (pc := 501) C fl_RX12_115 m_s0 (by decide) m_k34 m_r34 dX12_goesOn_501 ?_
  refine r_iload_n (pc := 504) C 1 rfl rfl dX12_goesOn_504 ?_
  refine r_iconst (pc := 505) C dX12_goesOn_505 ?_
  obtain ⟨hi506, h⟩ := chk_inv h
  obtain ⟨M_506, hM_506, h⟩ := lt_inv h
  refine r_iast (pc := 506) C m_s19 (by decide) (by decide) hi506 rfl hM_506 dX12_goesOn_506 ?_
  refine r_aload_n (pc := 507) C 0 rfl rfl dX12_goesOn_507 ?_
  obtain ⟨M5, hq5, h⟩ := bnd_inv h
  refine r_callV (pc := 508) (rest := []) (st1 := []) C (mExtOK b) [] (c_m_ahead l hq5) cl_RX12_250 m_s0 (by decide) rfl rfl rfl rfl ⟨Nat.le_of_ble_eq_true rfl, Nat.le_of_ble_eq_true rfl⟩ (Nat.le_of_ble_eq_true rfl) rfl rfl dX12_goesOn_508 ?_
  refine r_aload_n (pc := 511) C 0 rfl rfl dX12_goesOn_511 ?_
  refine r_iconst (pc := 512) C dX12_goesOn_512 ?_
  obtain ⟨M_513, hM_513, h⟩ := lt_inv h
  refine r_putZ (pc := 513) C fl_RX12_140 mw_ft m_w42 m_s0 (by decide) m_k42 (Or.inl rfl) hM_513 dX12_goesOn_513 ?_
  refine r_iconst (pc := 516) C dX12_goesOn_516 ?_
  have e := Option.some.inj h
  exact r_zret (pc := 517) C hr (Or.inr rfl) (congrArg (fun z => some (vB z)) (Prod.mk.inj e).1.symm) (Prod.mk.inj e).2.symm dX12_goesOn_517
set_option maxHeartbeats 4000000 in
set_option maxRecDepth 20000 in
theorem w_m_goesOn_B470 (C : mCX p s m args meth c cX12_goesOn 5 RX12 D E b) (hr : meth.sig.returnType = (some .boolean)) {r0 : Bool} {M0 : Mem} {M : Mem} {v1 : Int} {v2 : Int} (h : m_goesOn_B470 v1 v2 M = some (r0, M0)) :
    mWX p l e 3 57 s m args below meth c 5 D E b (some (vB r0)) M0 M 470 [(0, vR b 0), (1, vI v1), (2, vI v2)] [] := by
  unfold m_goesOn_B470 at h
  refine r_aload_n (pc := 470) C 0 rfl rfl dX12_goesOn_470 ?_
  refine r_getI (pc := 471) C fl_RX12_36 m_s0 (by decide) m_k8 dX12_goesOn_471 ?_
  refine r_if_le (pc := 474) (tgt := 479) C h dX12_goesOn_474 (by decide) (fun hc474 h => ?_) (fun hc474 h => ?_)
  · refine r_aload_n (pc := 479) C 0 rfl rfl dX12_goesOn_479 ?_
    refine r_iconst (pc := 480) C dX12_goesOn_480 ?_
    obtain ⟨M4, hq4, h⟩ := bnd_inv h
    refine r_callV (pc := 481) (rest := []) (st1 := []) C (mExtOK b) [vI 1] (c_m_joins l hq4) cl_RX12_332 m_s0 (by decide) rfl rfl rfl rfl ⟨Nat.le_of_ble_eq_true rfl, Nat.le_of_ble_eq_true rfl⟩ (Nat.le_of_ble_eq_true rfl) rfl rfl dX12_goesOn_481 ?_
    refine r_aload_n (pc := 484) C 0 rfl rfl dX12_goesOn_484 ?_
    refine r_getR (pc := 485) C fl_RX12_112 m_s0 (by decide) m_k33 m_r33 dX12_goesOn_485 ?_
    refine r_iload_n (pc := 488) C 1 rfl rfl dX12_goesOn_488 ?_
    refine r_iload_n (pc := 489) C 2 rfl rfl dX12_goesOn_489 ?_
    refine r_iconst (pc := 490) C dX12_goesOn_490 ?_
    refine r_icmp_ne (pc := 491) (tgt := 498) C h dX12_goesOn_491 (by decide) (fun hc491 h => ?_) (fun hc491 h => ?_)
    · refine r_iconst (pc := 498) C dX12_goesOn_498 ?_
      refine r_sub (lv' := [(0, vR b 0), (1, vI v1)]) [0, 1] rfl ?_
      exact w_m_goesOn_B499 C hr h
    · refine r_iconst (pc := 494) C dX12_goesOn_494 ?_
      refine r_goto (pc := 495) (tgt := 499) C dX12_goesOn_495 (by decide) ?_
      refine r_sub (lv' := [(0, vR b 0), (1, vI v1)]) [0, 1] rfl ?_
      exact w_m_goesOn_B499 C hr h
  · refine r_iconst (pc := 477) C dX12_goesOn_477 ?_
    have e := Option.some.inj h
    exact r_zret (pc := 478) C hr (Or.inl rfl) (congrArg (fun z => some (vB z)) (Prod.mk.inj e).1.symm) (Prod.mk.inj e).2.symm dX12_goesOn_478
set_option maxHeartbeats 4000000 in
set_option maxRecDepth 20000 in
theorem w_m_goesOn_B452 (C : mCX p s m args meth c cX12_goesOn 5 RX12 D E b) (hr : meth.sig.returnType = (some .boolean)) {r0 : Bool} {M0 : Mem} {M : Mem} {v1 : Int} {v2 : Int} (h : m_goesOn_B452 v1 v2 M = some (r0, M0)) :
    mWX p l e 3 57 s m args below meth c 5 D E b (some (vB r0)) M0 M 452 [(0, vR b 0), (1, vI v1), (2, vI v2)] [] := by
  unfold m_goesOn_B452 at h
  refine r_aload_n (pc := 452) C 0 rfl rfl dX12_goesOn_452 ?_
  refine r_bipush (pc := 453) (j := 44) C (by decide +kernel) dX12_goesOn_453 ?_
  obtain ⟨r3, hq3, h⟩ := bnd_inv h
  refine r_callV (pc := 455) (rest := []) (st1 := [vB r3]) C (mExtOK b) [vI 44] (c_m_isSign l hq3) cl_RX12_247 m_s0 (by decide) rfl rfl rfl rfl ⟨Nat.le_of_ble_eq_true rfl, Nat.le_of_ble_eq_true rfl⟩ (Nat.le_of_ble_eq_true rfl) rfl rfl dX12_goesOn_455 ?_
  refine r_if_neB (pc := 458) (tgt := 470) C h dX12_goesOn_458 (by decide) (fun hc458 h => ?_) (fun hc458 h => ?_)
  · refine r_sub (lv' := [(0, vR b 0), (1, vI v1), (2, vI v2)]) [0, 1, 2] rfl ?_
    exact w_m_goesOn_B470 C hr h
  · refine r_aload_n (pc := 461) C 0 rfl rfl dX12_goesOn_461 ?_
    refine r_iconst (pc := 462) C dX12_goesOn_462 ?_
    refine r_aload_n (pc := 463) C 0 rfl rfl dX12_goesOn_463 ?_
    refine r_getI (pc := 464) C fl_RX12_23 m_s0 (by decide) m_k4 dX12_goesOn_464 ?_
    obtain ⟨M6, hq6, h⟩ := bnd_inv h
    refine r_callV (pc := 467) (rest := []) (st1 := []) C (mExtOK b) [vI 1, vI (M 0 4)] (c_m_blame l hq6) cl_RX12_233 m_s0 (by decide) rfl rfl rfl rfl ⟨Nat.le_of_ble_eq_true rfl, Nat.le_of_ble_eq_true rfl⟩ (Nat.le_of_ble_eq_true rfl) rfl rfl dX12_goesOn_467 ?_
    refine r_sub (lv' := [(0, vR b 0), (1, vI v1), (2, vI v2)]) [0, 1, 2] rfl ?_
    exact w_m_goesOn_B470 C hr h
set_option maxHeartbeats 4000000 in
set_option maxRecDepth 20000 in
theorem w_m_goesOn_B596 (C : mCX p s m args meth c cX12_goesOn 5 RX12 D E b) (hr : meth.sig.returnType = (some .boolean)) {r0 : Bool} {M0 : Mem} {M : Mem} {v2 : Int} (h : m_goesOn_B596 v2 M = some (r0, M0)) :
    mWX p l e 3 57 s m args below meth c 5 D E b (some (vB r0)) M0 M 596 [(0, vR b 0), (2, vI v2)] [] := by
  unfold m_goesOn_B596 at h
  refine r_iload_n (pc := 596) C 1 rfl rfl dX12_goesOn_596 ?_
  refine r_iconst (pc := 597) C dX12_goesOn_597 ?_
  refine r_icmp_ne (pc := 598) (tgt := 613) C h dX12_goesOn_598 (by decide) (fun hc598 h => ?_) (fun hc598 h => ?_)
  · refine r_aload_n (pc := 613) C 0 rfl rfl dX12_goesOn_613 ?_
    obtain ⟨M9, hq9, h⟩ := bnd_inv h
    refine r_callV (pc := 614) (rest := []) (st1 := []) C (mExtOK b) [] (c_m_ahead l hq9) cl_RX12_250 m_s0 (by decide) rfl rfl rfl rfl ⟨Nat.le_of_ble_eq_true rfl, Nat.le_of_ble_eq_true rfl⟩ (Nat.le_of_ble_eq_true rfl) rfl rfl dX12_goesOn_614 ?_
    refine r_iconst (pc := 617) C dX12_goesOn_617 ?_
    have e := Option.some.inj h
    exact r_zret (pc := 618) C hr (Or.inr rfl) (congrArg (fun z => some (vB z)) (Prod.mk.inj e).1.symm) (Prod.mk.inj e).2.symm dX12_goesOn_618
  · refine r_aload_n (pc := 601) C 0 rfl rfl dX12_goesOn_601 ?_
    refine r_getR (pc := 602) C fl_RX12_115 m_s0 (by decide) m_k34 m_r34 dX12_goesOn_602 ?_
    refine r_aload_n (pc := 605) C 0 rfl rfl dX12_goesOn_605 ?_
    refine r_getI (pc := 606) C fl_RX12_128 m_s0 (by decide) m_k38 dX12_goesOn_606 ?_
    refine r_iconst (pc := 609) C dX12_goesOn_609 ?_
    refine r_isub (pc := 610) C dX12_goesOn_610 ?_
    refine r_iconst (pc := 611) C dX12_goesOn_611 ?_
    obtain ⟨hi612, h⟩ := chk_inv h
    obtain ⟨M_612, hM_612, h⟩ := lt_inv h
    refine r_iast (pc := 612) C m_s19 (by decide) (by decide) hi612 rfl hM_612 dX12_goesOn_612 ?_
    refine r_aload_n (pc := 613) C 0 rfl rfl dX12_goesOn_613 ?_
    obtain ⟨M10, hq10, h⟩ := bnd_inv h
    refine r_callV (pc := 614) (rest := []) (st1 := []) C (mExtOK b) [] (c_m_ahead l hq10) cl_RX12_250 m_s0 (by decide) rfl rfl rfl rfl ⟨Nat.le_of_ble_eq_true rfl, Nat.le_of_ble_eq_true rfl⟩ (Nat.le_of_ble_eq_true rfl) rfl rfl dX12_goesOn_614 ?_
    refine r_iconst (pc := 617) C dX12_goesOn_617 ?_
    have e := Option.some.inj h
    exact r_zret (pc := 618) C hr (Or.inr rfl) (congrArg (fun z => some (vB z)) (Prod.mk.inj e).1.symm) (Prod.mk.inj e).2.symm dX12_goesOn_618
set_option maxHeartbeats 4000000 in
set_option maxRecDepth 20000 in
theorem w_m_goesOn_B546 (C : mCX p s m args meth c cX12_goesOn 5 RX12 D E b) (hr : meth.sig.returnType = (some .boolean)) {r0 : Bool} {M0 : Mem} {M : Mem} {v1 : Int} {v2 : Int} (h : m_goesOn_B546 v1 v2 M = some (r0, M0)) :
    mWX p l e 3 57 s m args below meth c 5 D E b (some (vB r0)) M0 M 546 [(0, vR b 0), (1, vI v1), (2, vI v2)] [] := by
  unfold m_goesOn_B546 at h
  refine r_aload_n (pc := 546) C 0 rfl rfl dX12_goesOn_546 ?_
  refine r_getI (pc := 547) C fl_RX12_36 m_s0 (by decide) m_k8 dX12_goesOn_547 ?_
  refine r_if_le (pc := 550) (tgt := 555) C h dX12_goesOn_550 (by decide) (fun hc550 h => ?_) (fun hc550 h => ?_)
  · refine r_aload_n (pc := 555) C 0 rfl rfl dX12_goesOn_555 ?_
    refine r_iconst (pc := 556) C dX12_goesOn_556 ?_
    obtain ⟨M8, hq8, h⟩ := bnd_inv h
    refine r_callV (pc := 557) (rest := []) (st1 := []) C (mExtOK b) [vI 1] (c_m_joins l hq8) cl_RX12_332 m_s0 (by decide) rfl rfl rfl rfl ⟨Nat.le_of_ble_eq_true rfl, Nat.le_of_ble_eq_true rfl⟩ (Nat.le_of_ble_eq_true rfl) rfl rfl dX12_goesOn_557 ?_
    refine r_aload_n (pc := 560) C 0 rfl rfl dX12_goesOn_560 ?_
    refine r_dup (pc := 561) C rfl dX12_goesOn_561 ?_
    refine r_getI (pc := 562) C fl_RX12_128 m_s0 (by decide) m_k38 dX12_goesOn_562 ?_
    refine r_iconst (pc := 565) C dX12_goesOn_565 ?_
    refine r_isub (pc := 566) C dX12_goesOn_566 ?_
    obtain ⟨M_567, hM_567, h⟩ := lt_inv h
    refine r_putI (pc := 567) C fl_RX12_128 mw_ft m_w38 m_s0 (by decide) m_k38 hM_567 dX12_goesOn_567 ?_
    refine r_aload_n (pc := 570) C 0 rfl rfl dX12_goesOn_570 ?_
    refine r_dup (pc := 571) C rfl dX12_goesOn_571 ?_
    refine r_getI (pc := 572) C fl_RX12_131 m_s0 (by decide) m_k39 dX12_goesOn_572 ?_
    refine r_iconst (pc := 575) C dX12_goesOn_575 ?_
    refine r_isub (pc := 576) C dX12_goesOn_576 ?_
    obtain ⟨M_577, hM_577, h⟩ := lt_inv h
    refine r_putI (pc := 577) C fl_RX12_131 mw_ft m_w39 m_s0 (by decide) m_k39 hM_577 dX12_goesOn_577 ?_
    refine r_iload_n (pc := 580) C 2 rfl rfl dX12_goesOn_580 ?_
    refine r_iconst (pc := 581) C dX12_goesOn_581 ?_
    refine r_icmp_ne (pc := 582) (tgt := 596) C h dX12_goesOn_582 (by decide) (fun hc582 h => ?_) (fun hc582 h => ?_)
    · refine r_sub (lv' := [(0, vR b 0), (2, vI v2)]) [0, 2] rfl ?_
      exact w_m_goesOn_B596 C hr h
    · refine r_aload_n (pc := 585) C 0 rfl rfl dX12_goesOn_585 ?_
      refine r_aload_n (pc := 586) C 0 rfl rfl dX12_goesOn_586 ?_
      refine r_getR (pc := 587) C fl_RX12_122 m_s0 (by decide) m_k36 m_r36 dX12_goesOn_587 ?_
      refine r_iload_n (pc := 590) C 1 rfl rfl dX12_goesOn_590 ?_
      obtain ⟨hi591, h⟩ := chk_inv h
      refine r_iald (pc := 591) C m_s21 (by decide) (by decide) hi591 rfl dX12_goesOn_591 ?_
      refine r_iconst (pc := 592) C dX12_goesOn_592 ?_
      obtain ⟨M11, hq11, h⟩ := bnd_inv h
      refine r_callV (pc := 593) (rest := []) (st1 := []) C (mExtOK b) [vI (M_577 21 v1.toNat), vI 0] (c_m_add l hq11) cl_RX12_310 m_s0 (by decide) rfl rfl rfl rfl ⟨Nat.le_of_ble_eq_true rfl, Nat.le_of_ble_eq_true rfl⟩ (Nat.le_of_ble_eq_true rfl) rfl rfl dX12_goesOn_593 ?_
      refine r_sub (lv' := [(0, vR b 0), (2, vI v2)]) [0, 2] rfl ?_
      exact w_m_goesOn_B596 C hr h
  · refine r_iconst (pc := 553) C dX12_goesOn_553 ?_
    have e := Option.some.inj h
    exact r_zret (pc := 554) C hr (Or.inl rfl) (congrArg (fun z => some (vB z)) (Prod.mk.inj e).1.symm) (Prod.mk.inj e).2.symm dX12_goesOn_554
set_option maxHeartbeats 4000000 in
set_option maxRecDepth 20000 in
theorem w_m_goesOn_B531 (C : mCX p s m args meth c cX12_goesOn 5 RX12 D E b) (hr : meth.sig.returnType = (some .boolean)) {r0 : Bool} {M0 : Mem} {M : Mem} {v1 : Int} {v2 : Int} {s1 : Int} (h : m_goesOn_B531 v1 v2 s1 M = some (r0, M0)) :
    mWX p l e 3 57 s m args below meth c 5 D E b (some (vB r0)) M0 M 531 [(0, vR b 0), (1, vI v1), (2, vI v2)] [vI s1, vR b 0] := by
  unfold m_goesOn_B531 at h
  obtain ⟨r7, hq7, h⟩ := bnd_inv h
  refine r_callV (pc := 531) (rest := []) (st1 := [vB r7]) C (mExtOK b) [vI s1] (c_m_isSign l hq7) cl_RX12_247 m_s0 (by decide) rfl rfl rfl rfl ⟨Nat.le_of_ble_eq_true rfl, Nat.le_of_ble_eq_true rfl⟩ (Nat.le_of_ble_eq_true rfl) rfl rfl dX12_goesOn_531 ?_
  refine r_if_neB (pc := 534) (tgt := 546) C h dX12_goesOn_534 (by decide) (fun hc534 h => ?_) (fun hc534 h => ?_)
  · refine r_sub (lv' := [(0, vR b 0), (1, vI v1), (2, vI v2)]) [0, 1, 2] rfl ?_
    exact w_m_goesOn_B546 C hr h
  · refine r_aload_n (pc := 537) C 0 rfl rfl dX12_goesOn_537 ?_
    refine r_iconst (pc := 538) C dX12_goesOn_538 ?_
    refine r_aload_n (pc := 539) C 0 rfl rfl dX12_goesOn_539 ?_
    refine r_getI (pc := 540) C fl_RX12_23 m_s0 (by decide) m_k4 dX12_goesOn_540 ?_
    obtain ⟨M12, hq12, h⟩ := bnd_inv h
    refine r_callV (pc := 543) (rest := []) (st1 := []) C (mExtOK b) [vI 1, vI (M 0 4)] (c_m_blame l hq12) cl_RX12_233 m_s0 (by decide) rfl rfl rfl rfl ⟨Nat.le_of_ble_eq_true rfl, Nat.le_of_ble_eq_true rfl⟩ (Nat.le_of_ble_eq_true rfl) rfl rfl dX12_goesOn_543 ?_
    refine r_sub (lv' := [(0, vR b 0), (1, vI v1), (2, vI v2)]) [0, 1, 2] rfl ?_
    exact w_m_goesOn_B546 C hr h
set_option maxHeartbeats 4000000 in
set_option maxRecDepth 20000 in
theorem w_m_goesOn_B422 (C : mCX p s m args meth c cX12_goesOn 5 RX12 D E b) (hr : meth.sig.returnType = (some .boolean)) {r0 : Bool} {M0 : Mem} {M : Mem} {v1 : Int} {v2 : Int} (h : m_goesOn_B422 v1 v2 M = some (r0, M0)) :
    mWX p l e 3 57 s m args below meth c 5 D E b (some (vB r0)) M0 M 422 [(0, vR b 0), (1, vI v1), (2, vI v2)] [] := by
  unfold m_goesOn_B422 at h
  refine r_iload_n (pc := 422) C 2 rfl rfl dX12_goesOn_422 ?_
  refine r_iconst (pc := 423) C dX12_goesOn_423 ?_
  refine r_icmp_ge (pc := 424) (tgt := 441) C h dX12_goesOn_424 (by decide) (fun hc424 h => ?_) (fun hc424 h => ?_)
  · refine r_iload_n (pc := 441) C 2 rfl rfl dX12_goesOn_441 ?_
    refine r_iconst (pc := 442) C dX12_goesOn_442 ?_
    refine r_icmp_eq (pc := 443) (tgt := 452) C h dX12_goesOn_443 (by decide) (fun hc443 h => ?_) (fun hc443 h => ?_)
    · refine r_sub (lv' := [(0, vR b 0), (1, vI v1), (2, vI v2)]) [0, 1, 2] rfl ?_
      exact w_m_goesOn_B452 C hr h
    · refine r_iload_n (pc := 446) C 2 rfl rfl dX12_goesOn_446 ?_
      refine r_bipush (pc := 447) (j := 6) C (by decide +kernel) dX12_goesOn_447 ?_
      refine r_icmp_ne (pc := 449) (tgt := 518) C h dX12_goesOn_449 (by decide) (fun hc449 h => ?_) (fun hc449 h => ?_)
      · refine r_aload_n (pc := 518) C 0 rfl rfl dX12_goesOn_518 ?_
        refine r_iload_n (pc := 519) C 2 rfl rfl dX12_goesOn_519 ?_
        refine r_iconst (pc := 520) C dX12_goesOn_520 ?_
        refine r_icmp_ne (pc := 521) (tgt := 529) C h dX12_goesOn_521 (by decide) (fun hc521 h => ?_) (fun hc521 h => ?_)
        · refine r_bipush (pc := 529) (j := 41) C (by decide +kernel) dX12_goesOn_529 ?_
          refine r_sub (lv' := [(0, vR b 0), (1, vI v1), (2, vI v2)]) [0, 1, 2] rfl ?_
          exact w_m_goesOn_B531 C hr h
        · refine r_bipush (pc := 524) (j := 93) C (by decide +kernel) dX12_goesOn_524 ?_
          refine r_goto (pc := 526) (tgt := 531) C dX12_goesOn_526 (by decide) ?_
          refine r_sub (lv' := [(0, vR b 0), (1, vI v1), (2, vI v2)]) [0, 1, 2] rfl ?_
          exact w_m_goesOn_B531 C hr h
      · refine r_sub (lv' := [(0, vR b 0), (1, vI v1), (2, vI v2)]) [0, 1, 2] rfl ?_
        exact w_m_goesOn_B452 C hr h
  · refine r_aload_n (pc := 427) C 0 rfl rfl dX12_goesOn_427 ?_
    refine r_getI (pc := 428) C fl_RX12_36 m_s0 (by decide) m_k8 dX12_goesOn_428 ?_
    refine r_if_ne (pc := 431) (tgt := 439) C h dX12_goesOn_431 (by decide) (fun hc431 h => ?_) (fun hc431 h => ?_)
    · refine r_iconst (pc := 439) C dX12_goesOn_439 ?_
      have e := Option.some.inj h
      exact r_zret (pc := 440) C hr (Or.inl rfl) (congrArg (fun z => some (vB z)) (Prod.mk.inj e).1.symm) (Prod.mk.inj e).2.symm dX12_goesOn_440
    · refine r_aload_n (pc := 434) C 0 rfl rfl dX12_goesOn_434 ?_
      refine r_iconst (pc := 435) C dX12_goesOn_435 ?_
      obtain ⟨M13, hq13, h⟩ := bnd_inv h
      refine r_callV (pc := 436) (rest := []) (st1 := []) C (mExtOK b) [vI 1] (c_m_joins l hq13) cl_RX12_332 m_s0 (by decide) rfl rfl rfl rfl ⟨Nat.le_of_ble_eq_true rfl, Nat.le_of_ble_eq_true rfl⟩ (Nat.le_of_ble_eq_true rfl) rfl rfl dX12_goesOn_436 ?_
      refine r_iconst (pc := 439) C dX12_goesOn_439 ?_
      have e := Option.some.inj h
      exact r_zret (pc := 440) C hr (Or.inl rfl) (congrArg (fun z => some (vB z)) (Prod.mk.inj e).1.symm) (Prod.mk.inj e).2.symm dX12_goesOn_440
set_option maxHeartbeats 4000000 in
set_option maxRecDepth 20000 in
theorem w_m_goesOn_B400 (C : mCX p s m args meth c cX12_goesOn 5 RX12 D E b) (hr : meth.sig.returnType = (some .boolean)) {r0 : Bool} {M0 : Mem} {M : Mem} {v1 : Int} {v2 : Int} {v3 : Int} (h : m_goesOn_B400 v1 v2 v3 M = some (r0, M0)) :
    mWX p l e 3 57 s m args below meth c 5 D E b (some (vB r0)) M0 M 400 [(0, vR b 0), (1, vI v1), (2, vI v2), (3, vI v3)] [] := by
  unfold m_goesOn_B400 at h
  refine r_iload_n (pc := 400) C 3 rfl rfl dX12_goesOn_400 ?_
  refine r_if_eq (pc := 401) (tgt := 422) C h dX12_goesOn_401 (by decide) (fun hc401 h => ?_) (fun hc401 h => ?_)
  · refine r_sub (lv' := [(0, vR b 0), (1, vI v1), (2, vI v2)]) [0, 1, 2] rfl ?_
    exact w_m_goesOn_B422 C hr h
  · refine r_aload_n (pc := 404) C 0 rfl rfl dX12_goesOn_404 ?_
    refine r_getR (pc := 405) C fl_RX12_115 m_s0 (by decide) m_k34 m_r34 dX12_goesOn_405 ?_
    refine r_iload_n (pc := 408) C 1 rfl rfl dX12_goesOn_408 ?_
    obtain ⟨hi409, h⟩ := chk_inv h
    refine r_iald (pc := 409) C m_s19 (by decide) (by decide) hi409 rfl dX12_goesOn_409 ?_
    refine r_if_ne (pc := 410) (tgt := 422) C h dX12_goesOn_410 (by decide) (fun hc410 h => ?_) (fun hc410 h => ?_)
    · refine r_sub (lv' := [(0, vR b 0), (1, vI v1), (2, vI v2)]) [0, 1, 2] rfl ?_
      exact w_m_goesOn_B422 C hr h
    · refine r_aload_n (pc := 413) C 0 rfl rfl dX12_goesOn_413 ?_
      refine r_iconst (pc := 414) C dX12_goesOn_414 ?_
      refine r_aload_n (pc := 415) C 0 rfl rfl dX12_goesOn_415 ?_
      refine r_getI (pc := 416) C fl_RX12_23 m_s0 (by decide) m_k4 dX12_goesOn_416 ?_
      obtain ⟨M14, hq14, h⟩ := bnd_inv h
      refine r_callV (pc := 419) (rest := []) (st1 := []) C (mExtOK b) [vI 1, vI (M 0 4)] (c_m_blame l hq14) cl_RX12_233 m_s0 (by decide) rfl rfl rfl rfl ⟨Nat.le_of_ble_eq_true rfl, Nat.le_of_ble_eq_true rfl⟩ (Nat.le_of_ble_eq_true rfl) rfl rfl dX12_goesOn_419 ?_
      refine r_sub (lv' := [(0, vR b 0), (1, vI v1), (2, vI v2)]) [0, 1, 2] rfl ?_
      exact w_m_goesOn_B422 C hr h
set_option maxHeartbeats 4000000 in
set_option maxRecDepth 20000 in
theorem w_m_goesOn_B372 (C : mCX p s m args meth c cX12_goesOn 5 RX12 D E b) (hr : meth.sig.returnType = (some .boolean)) {r0 : Bool} {M0 : Mem} {M : Mem} {v1 : Int} {s1 : Int} (h : m_goesOn_B372 v1 s1 M = some (r0, M0)) :
    mWX p l e 3 57 s m args below meth c 5 D E b (some (vB r0)) M0 M 372 [(0, vR b 0), (1, vI v1)] [vI s1, vR b 0] := by
  unfold m_goesOn_B372 at h
  obtain ⟨M18, hq18, h⟩ := bnd_inv h
  refine r_callV (pc := 372) (rest := []) (st1 := []) C (mExtOK b) [vI s1] (c_m_holdsBack l hq18) cl_RX12_323 m_s0 (by decide) rfl rfl rfl rfl ⟨Nat.le_of_ble_eq_true rfl, Nat.le_of_ble_eq_true rfl⟩ (Nat.le_of_ble_eq_true rfl) rfl rfl dX12_goesOn_372 ?_
  refine r_aload_n (pc := 375) C 0 rfl rfl dX12_goesOn_375 ?_
  refine r_getR (pc := 376) C fl_RX12_115 m_s0 (by decide) m_k34 m_r34 dX12_goesOn_376 ?_
  refine r_iload_n (pc := 379) C 1 rfl rfl dX12_goesOn_379 ?_
  refine r_iconst (pc := 380) C dX12_goesOn_380 ?_
  obtain ⟨hi381, h⟩ := chk_inv h
  obtain ⟨M_381, hM_381, h⟩ := lt_inv h
  refine r_iast (pc := 381) C m_s19 (by decide) (by decide) hi381 rfl hM_381 dX12_goesOn_381 ?_
  refine r_aload_n (pc := 382) C 0 rfl rfl dX12_goesOn_382 ?_
  refine r_getR (pc := 383) C fl_RX12_118 m_s0 (by decide) m_k35 m_r35 dX12_goesOn_383 ?_
  refine r_iload_n (pc := 386) C 1 rfl rfl dX12_goesOn_386 ?_
  refine r_iconst (pc := 387) C dX12_goesOn_387 ?_
  obtain ⟨hi388, h⟩ := chk_inv h
  obtain ⟨M_388, hM_388, h⟩ := lt_inv h
  refine r_zast (pc := 388) C m_s20 (by decide) (by decide) hi388 rfl (Or.inr rfl) hM_388 dX12_goesOn_388 ?_
  refine r_aload_n (pc := 389) C 0 rfl rfl dX12_goesOn_389 ?_
  obtain ⟨M19, hq19, h⟩ := bnd_inv h
  refine r_callV (pc := 390) (rest := []) (st1 := []) C (mExtOK b) [] (c_m_ahead l hq19) cl_RX12_250 m_s0 (by decide) rfl rfl rfl rfl ⟨Nat.le_of_ble_eq_true rfl, Nat.le_of_ble_eq_true rfl⟩ (Nat.le_of_ble_eq_true rfl) rfl rfl dX12_goesOn_390 ?_
  refine r_aload_n (pc := 393) C 0 rfl rfl dX12_goesOn_393 ?_
  refine r_iconst (pc := 394) C dX12_goesOn_394 ?_
  obtain ⟨M_395, hM_395, h⟩ := lt_inv h
  refine r_putZ (pc := 395) C fl_RX12_140 mw_ft m_w42 m_s0 (by decide) m_k42 (Or.inl rfl) hM_395 dX12_goesOn_395 ?_
  refine r_iconst (pc := 398) C dX12_goesOn_398 ?_
  have e := Option.some.inj h
  exact r_zret (pc := 399) C hr (Or.inr rfl) (congrArg (fun z => some (vB z)) (Prod.mk.inj e).1.symm) (Prod.mk.inj e).2.symm dX12_goesOn_399
set_option maxHeartbeats 4000000 in
set_option maxRecDepth 20000 in
theorem w_m_goesOn_B356 (C : mCX p s m args meth c cX12_goesOn 5 RX12 D E b) (hr : meth.sig.returnType = (some .boolean)) {r0 : Bool} {M0 : Mem} {M : Mem} {v1 : Int} {v4 : Int} {s1 : Int} (h : m_goesOn_B356 v1 v4 s1 M = some (r0, M0)) :
    mWX p l e 3 57 s m args below meth c 5 D E b (some (vB r0)) M0 M 356 [(0, vR b 0), (1, vI v1), (4, vI v4)] [vI s1, vR b 0] := by
  unfold m_goesOn_B356 at h
  obtain ⟨M17, hq17, h⟩ := bnd_inv h
  refine r_callV (pc := 356) (rest := []) (st1 := []) C (mExtOK b) [vI s1] (c_m_joins l hq17) cl_RX12_332 m_s0 (by decide) rfl rfl rfl rfl ⟨Nat.le_of_ble_eq_true rfl, Nat.le_of_ble_eq_true rfl⟩ (Nat.le_of_ble_eq_true rfl) rfl rfl dX12_goesOn_356 ?_
  refine r_aload_n (pc := 359) C 0 rfl rfl dX12_goesOn_359 ?_
  refine r_iload (pc := 360) C 2 rfl dX12_goesOn_360 ?_
  refine r_if_eq (pc := 362) (tgt := 370) C h dX12_goesOn_362 (by decide) (fun hc362 h => ?_) (fun hc362 h => ?_)
  · refine r_bipush (pc := 370) (j := 42) C (by decide +kernel) dX12_goesOn_370 ?_
    refine r_sub (lv' := [(0, vR b 0), (1, vI v1)]) [0, 1] rfl ?_
    exact w_m_goesOn_B372 C hr h
  · refine r_bipush (pc := 365) (j := 41) C (by decide +kernel) dX12_goesOn_365 ?_
    refine r_goto (pc := 367) (tgt := 372) C dX12_goesOn_367 (by decide) ?_
    refine r_sub (lv' := [(0, vR b 0), (1, vI v1)]) [0, 1] rfl ?_
    exact w_m_goesOn_B372 C hr h
set_option maxHeartbeats 4000000 in
set_option maxRecDepth 20000 in
theorem w_m_goesOn_B327 (C : mCX p s m args meth c cX12_goesOn 5 RX12 D E b) (hr : meth.sig.returnType = (some .boolean)) {r0 : Bool} {M0 : Mem} {M : Mem} {v1 : Int} (h : m_goesOn_B327 v1 M = some (r0, M0)) :
    mWX p l e 3 57 s m args below meth c 5 D E b (some (vB r0)) M0 M 327 [(0, vR b 0), (1, vI v1)] [] := by
  unfold m_goesOn_B327 at h
  refine r_aload_n (pc := 327) C 0 rfl rfl dX12_goesOn_327 ?_
  refine r_getI (pc := 328) C fl_RX12_36 m_s0 (by decide) m_k8 dX12_goesOn_328 ?_
  refine r_if_le (pc := 331) (tgt := 336) C h dX12_goesOn_331 (by decide) (fun hc331 h => ?_) (fun hc331 h => ?_)
  · refine r_aload_n (pc := 336) C 0 rfl rfl dX12_goesOn_336 ?_
    refine r_ldc2 (pc := 337) (j := 6385252) C (by decide +kernel) gk_RX12_289 dX12_goesOn_337 ?_
    obtain ⟨r16, hq16, h⟩ := bnd_inv h
    refine r_callV (pc := 340) (rest := []) (st1 := [vB r16]) C (mExtOK b) [vL 6385252] (c_m_isWord l hq16) cl_RX12_319 m_s0 (by decide) rfl rfl rfl rfl ⟨Nat.le_of_ble_eq_true rfl, Nat.le_of_ble_eq_true rfl⟩ (Nat.le_of_ble_eq_true rfl) rfl rfl dX12_goesOn_340 ?_
    obtain ⟨v4_343, hv4_343, h⟩ := lt_inv h
    refine r_topI hv4_343 ?_
    refine r_istore (pc := 343) (lv' := [(4, vI v4_343), (0, vR b 0), (1, vI v1)]) C dX12_goesOn_343 (by decide) rfl ?_
    refine r_aload_n (pc := 345) C 1 rfl rfl dX12_goesOn_345 ?_
    refine r_iload (pc := 346) C 0 rfl dX12_goesOn_346 ?_
    refine r_if_eq (pc := 348) (tgt := 355) C h dX12_goesOn_348 (by decide) (fun hc348 h => ?_) (fun hc348 h => ?_)
    · refine r_iconst (pc := 355) C dX12_goesOn_355 ?_
      refine r_sub (lv' := [(0, vR b 0), (1, vI v1), (4, vI v4_343)]) [1, 2, 0] rfl ?_
      exact w_m_goesOn_B356 C hr h
    · refine r_iconst (pc := 351) C dX12_goesOn_351 ?_
      refine r_goto (pc := 352) (tgt := 356) C dX12_goesOn_352 (by decide) ?_
      refine r_sub (lv' := [(0, vR b 0), (1, vI v1), (4, vI v4_343)]) [1, 2, 0] rfl ?_
      exact w_m_goesOn_B356 C hr h
  · refine r_iconst (pc := 334) C dX12_goesOn_334 ?_
    have e := Option.some.inj h
    exact r_zret (pc := 335) C hr (Or.inl rfl) (congrArg (fun z => some (vB z)) (Prod.mk.inj e).1.symm) (Prod.mk.inj e).2.symm dX12_goesOn_335
set_option maxHeartbeats 4000000 in
set_option maxRecDepth 20000 in
theorem w_m_goesOn_B309 (C : mCX p s m args meth c cX12_goesOn 5 RX12 D E b) (hr : meth.sig.returnType = (some .boolean)) {r0 : Bool} {M0 : Mem} {M : Mem} {v1 : Int} (h : m_goesOn_B309 v1 M = some (r0, M0)) :
    mWX p l e 3 57 s m args below meth c 5 D E b (some (vB r0)) M0 M 309 [(0, vR b 0), (1, vI v1)] [] := by
  unfold m_goesOn_B309 at h
  refine r_aload_n (pc := 309) C 0 rfl rfl dX12_goesOn_309 ?_
  refine r_getR (pc := 310) C fl_RX12_115 m_s0 (by decide) m_k34 m_r34 dX12_goesOn_310 ?_
  refine r_iload_n (pc := 313) C 1 rfl rfl dX12_goesOn_313 ?_
  obtain ⟨hi314, h⟩ := chk_inv h
  refine r_iald (pc := 314) C m_s19 (by decide) (by decide) hi314 rfl dX12_goesOn_314 ?_
  refine r_if_ne (pc := 315) (tgt := 327) C h dX12_goesOn_315 (by decide) (fun hc315 h => ?_) (fun hc315 h => ?_)
  · refine r_sub (lv' := [(0, vR b 0), (1, vI v1)]) [0, 1] rfl ?_
    exact w_m_goesOn_B327 C hr h
  · refine r_aload_n (pc := 318) C 0 rfl rfl dX12_goesOn_318 ?_
    refine r_iconst (pc := 319) C dX12_goesOn_319 ?_
    refine r_aload_n (pc := 320) C 0 rfl rfl dX12_goesOn_320 ?_
    refine r_getI (pc := 321) C fl_RX12_23 m_s0 (by decide) m_k4 dX12_goesOn_321 ?_
    obtain ⟨M20, hq20, h⟩ := bnd_inv h
    refine r_callV (pc := 324) (rest := []) (st1 := []) C (mExtOK b) [vI 1, vI (M 0 4)] (c_m_blame l hq20) cl_RX12_233 m_s0 (by decide) rfl rfl rfl rfl ⟨Nat.le_of_ble_eq_true rfl, Nat.le_of_ble_eq_true rfl⟩ (Nat.le_of_ble_eq_true rfl) rfl rfl dX12_goesOn_324 ?_
    refine r_sub (lv' := [(0, vR b 0), (1, vI v1)]) [0, 1] rfl ?_
    exact w_m_goesOn_B327 C hr h
set_option maxHeartbeats 4000000 in
set_option maxRecDepth 20000 in
theorem w_m_goesOn_B285 (C : mCX p s m args meth c cX12_goesOn 5 RX12 D E b) (hr : meth.sig.returnType = (some .boolean)) {r0 : Bool} {M0 : Mem} {M : Mem} {v1 : Int} {v2 : Int} {v3 : Int} (h : m_goesOn_B285 v1 v2 v3 M = some (r0, M0)) :
    mWX p l e 3 57 s m args below meth c 5 D E b (some (vB r0)) M0 M 285 [(0, vR b 0), (1, vI v1), (2, vI v2), (3, vI v3)] [] := by
  unfold m_goesOn_B285 at h
  refine r_iload_n (pc := 285) C 3 rfl rfl dX12_goesOn_285 ?_
  refine r_if_eq (pc := 286) (tgt := 400) C h dX12_goesOn_286 (by decide) (fun hc286 h => ?_) (fun hc286 h => ?_)
  · refine r_sub (lv' := [(0, vR b 0), (1, vI v1), (2, vI v2), (3, vI v3)]) [0, 1, 2, 3] rfl ?_
    exact w_m_goesOn_B400 C hr h
  · refine r_aload_n (pc := 289) C 0 rfl rfl dX12_goesOn_289 ?_
    refine r_ldc2 (pc := 290) (j := 6385252) C (by decide +kernel) gk_RX12_289 dX12_goesOn_290 ?_
    obtain ⟨r15, hq15, h⟩ := bnd_inv h
    refine r_callV (pc := 293) (rest := []) (st1 := [vB r15]) C (mExtOK b) [vL 6385252] (c_m_isWord l hq15) cl_RX12_319 m_s0 (by decide) rfl rfl rfl rfl ⟨Nat.le_of_ble_eq_true rfl, Nat.le_of_ble_eq_true rfl⟩ (Nat.le_of_ble_eq_true rfl) rfl rfl dX12_goesOn_293 ?_
    refine r_if_neB (pc := 296) (tgt := 309) C h dX12_goesOn_296 (by decide) (fun hc296 h => ?_) (fun hc296 h => ?_)
    · refine r_sub (lv' := [(0, vR b 0), (1, vI v1)]) [0, 1] rfl ?_
      exact w_m_goesOn_B309 C hr h
    · refine r_aload_n (pc := 299) C 0 rfl rfl dX12_goesOn_299 ?_
      refine r_ldc2 (pc := 300) (j := 28530) C (by decide +kernel) gk_RX12_287 dX12_goesOn_300 ?_
      obtain ⟨r21, hq21, h⟩ := bnd_inv h
      refine r_callV (pc := 303) (rest := []) (st1 := [vB r21]) C (mExtOK b) [vL 28530] (c_m_isWord l hq21) cl_RX12_319 m_s0 (by decide) rfl rfl rfl rfl ⟨Nat.le_of_ble_eq_true rfl, Nat.le_of_ble_eq_true rfl⟩ (Nat.le_of_ble_eq_true rfl) rfl rfl dX12_goesOn_303 ?_
      refine r_if_eqB (pc := 306) (tgt := 400) C h dX12_goesOn_306 (by decide) (fun hc306 h => ?_) (fun hc306 h => ?_)
      · refine r_sub (lv' := [(0, vR b 0), (1, vI v1)]) [0, 1] rfl ?_
        exact w_m_goesOn_B309 C hr h
      · refine r_sub (lv' := [(0, vR b 0), (1, vI v1), (2, vI v2), (3, vI v3)]) [0, 1, 2, 3] rfl ?_
        exact w_m_goesOn_B400 C hr h
set_option maxHeartbeats 4000000 in
set_option maxRecDepth 20000 in
theorem w_m_goesOn_B264 (C : mCX p s m args meth c cX12_goesOn 5 RX12 D E b) (hr : meth.sig.returnType = (some .boolean)) {r0 : Bool} {M0 : Mem} {M : Mem} {v1 : Int} {s1 : Int} (h : m_goesOn_B264 v1 s1 M = some (r0, M0)) :
    mWX p l e 3 57 s m args below meth c 5 D E b (some (vB r0)) M0 M 264 [(0, vR b 0), (1, vI v1)] [vI s1, vR b 0] := by
  unfold m_goesOn_B264 at h
  obtain ⟨M26, hq26, h⟩ := bnd_inv h
  refine r_callV (pc := 264) (rest := []) (st1 := []) C (mExtOK b) [vI s1] (c_m_holdsBack l hq26) cl_RX12_323 m_s0 (by decide) rfl rfl rfl rfl ⟨Nat.le_of_ble_eq_true rfl, Nat.le_of_ble_eq_true rfl⟩ (Nat.le_of_ble_eq_true rfl) rfl rfl dX12_goesOn_264 ?_
  refine r_aload_n (pc := 267) C 0 rfl rfl dX12_goesOn_267 ?_
  refine r_getR (pc := 268) C fl_RX12_115 m_s0 (by decide) m_k34 m_r34 dX12_goesOn_268 ?_
  refine r_iload_n (pc := 271) C 1 rfl rfl dX12_goesOn_271 ?_
  refine r_iconst (pc := 272) C dX12_goesOn_272 ?_
  obtain ⟨hi273, h⟩ := chk_inv h
  obtain ⟨M_273, hM_273, h⟩ := lt_inv h
  refine r_iast (pc := 273) C m_s19 (by decide) (by decide) hi273 rfl hM_273 dX12_goesOn_273 ?_
  refine r_aload_n (pc := 274) C 0 rfl rfl dX12_goesOn_274 ?_
  obtain ⟨M27, hq27, h⟩ := bnd_inv h
  refine r_callV (pc := 275) (rest := []) (st1 := []) C (mExtOK b) [] (c_m_ahead l hq27) cl_RX12_250 m_s0 (by decide) rfl rfl rfl rfl ⟨Nat.le_of_ble_eq_true rfl, Nat.le_of_ble_eq_true rfl⟩ (Nat.le_of_ble_eq_true rfl) rfl rfl dX12_goesOn_275 ?_
  refine r_aload_n (pc := 278) C 0 rfl rfl dX12_goesOn_278 ?_
  refine r_iconst (pc := 279) C dX12_goesOn_279 ?_
  obtain ⟨M_280, hM_280, h⟩ := lt_inv h
  refine r_putZ (pc := 280) C fl_RX12_140 mw_ft m_w42 m_s0 (by decide) m_k42 (Or.inl rfl) hM_280 dX12_goesOn_280 ?_
  refine r_iconst (pc := 283) C dX12_goesOn_283 ?_
  have e := Option.some.inj h
  exact r_zret (pc := 284) C hr (Or.inr rfl) (congrArg (fun z => some (vB z)) (Prod.mk.inj e).1.symm) (Prod.mk.inj e).2.symm dX12_goesOn_284
set_option maxHeartbeats 4000000 in
set_option maxRecDepth 20000 in
theorem w_m_goesOn_B228 (C : mCX p s m args meth c cX12_goesOn 5 RX12 D E b) (hr : meth.sig.returnType = (some .boolean)) {r0 : Bool} {M0 : Mem} {M : Mem} {v1 : Int} (h : m_goesOn_B228 v1 M = some (r0, M0)) :
    mWX p l e 3 57 s m args below meth c 5 D E b (some (vB r0)) M0 M 228 [(0, vR b 0), (1, vI v1)] [] := by
  unfold m_goesOn_B228 at h
  refine r_aload_n (pc := 228) C 0 rfl rfl dX12_goesOn_228 ?_
  refine r_iconst (pc := 229) C dX12_goesOn_229 ?_
  obtain ⟨M23, hq23, h⟩ := bnd_inv h
  refine r_callV (pc := 230) (rest := []) (st1 := []) C (mExtOK b) [vI 5] (c_m_joins l hq23) cl_RX12_332 m_s0 (by decide) rfl rfl rfl rfl ⟨Nat.le_of_ble_eq_true rfl, Nat.le_of_ble_eq_true rfl⟩ (Nat.le_of_ble_eq_true rfl) rfl rfl dX12_goesOn_230 ?_
  refine r_aload_n (pc := 233) C 0 rfl rfl dX12_goesOn_233 ?_
  refine r_aload_n (pc := 234) C 0 rfl rfl dX12_goesOn_234 ?_
  refine r_bipush (pc := 235) (j := 60) C (by decide +kernel) dX12_goesOn_235 ?_
  obtain ⟨r24, hq24, h⟩ := bnd_inv h
  refine r_callV (pc := 237) (rest := [vR b 0]) (st1 := [vB r24, vR b 0]) C (mExtOK b) [vI 60] (c_m_isSign l hq24) cl_RX12_247 m_s0 (by decide) rfl rfl rfl rfl ⟨Nat.le_of_ble_eq_true rfl, Nat.le_of_ble_eq_true rfl⟩ (Nat.le_of_ble_eq_true rfl) rfl rfl dX12_goesOn_237 ?_
  refine r_if_eqB (pc := 240) (tgt := 248) C h dX12_goesOn_240 (by decide) (fun hc240 h => ?_) (fun hc240 h => ?_)
  · refine r_bipush (pc := 243) (j := 38) C (by decide +kernel) dX12_goesOn_243 ?_
    refine r_goto (pc := 245) (tgt := 264) C dX12_goesOn_245 (by decide) ?_
    refine r_sub (lv' := [(0, vR b 0), (1, vI v1)]) [0, 1] rfl ?_
    exact w_m_goesOn_B264 C hr h
  · refine r_aload_n (pc := 248) C 0 rfl rfl dX12_goesOn_248 ?_
    refine r_bipush (pc := 249) (j := 62) C (by decide +kernel) dX12_goesOn_249 ?_
    obtain ⟨r25, hq25, h⟩ := bnd_inv h
    refine r_callV (pc := 251) (rest := [vR b 0]) (st1 := [vB r25, vR b 0]) C (mExtOK b) [vI 62] (c_m_isSign l hq25) cl_RX12_247 m_s0 (by decide) rfl rfl rfl rfl ⟨Nat.le_of_ble_eq_true rfl, Nat.le_of_ble_eq_true rfl⟩ (Nat.le_of_ble_eq_true rfl) rfl rfl dX12_goesOn_251 ?_
    refine r_if_eqB (pc := 254) (tgt := 262) C h dX12_goesOn_254 (by decide) (fun hc254 h => ?_) (fun hc254 h => ?_)
    · refine r_bipush (pc := 257) (j := 39) C (by decide +kernel) dX12_goesOn_257 ?_
      refine r_goto (pc := 259) (tgt := 264) C dX12_goesOn_259 (by decide) ?_
      refine r_sub (lv' := [(0, vR b 0), (1, vI v1)]) [0, 1] rfl ?_
      exact w_m_goesOn_B264 C hr h
    · refine r_bipush (pc := 262) (j := 40) C (by decide +kernel) dX12_goesOn_262 ?_
      refine r_sub (lv' := [(0, vR b 0), (1, vI v1)]) [0, 1] rfl ?_
      exact w_m_goesOn_B264 C hr h
set_option maxHeartbeats 4000000 in
set_option maxRecDepth 20000 in
theorem w_m_goesOn_B188 (C : mCX p s m args meth c cX12_goesOn 5 RX12 D E b) (hr : meth.sig.returnType = (some .boolean)) {r0 : Bool} {M0 : Mem} {M : Mem} {v1 : Int} {v2 : Int} {v3 : Int} (h : m_goesOn_B188 v1 v2 v3 M = some (r0, M0)) :
    mWX p l e 3 57 s m args below meth c 5 D E b (some (vB r0)) M0 M 188 [(0, vR b 0), (1, vI v1), (2, vI v2), (3, vI v3)] [] := by
  unfold m_goesOn_B188 at h
  refine r_iload_n (pc := 188) C 3 rfl rfl dX12_goesOn_188 ?_
  refine r_if_eq (pc := 189) (tgt := 285) C h dX12_goesOn_189 (by decide) (fun hc189 h => ?_) (fun hc189 h => ?_)
  · refine r_sub (lv' := [(0, vR b 0), (1, vI v1), (2, vI v2), (3, vI v3)]) [0, 1, 2, 3] rfl ?_
    exact w_m_goesOn_B285 C hr h
  · refine r_aload_n (pc := 192) C 0 rfl rfl dX12_goesOn_192 ?_
    refine r_getR (pc := 193) C fl_RX12_115 m_s0 (by decide) m_k34 m_r34 dX12_goesOn_193 ?_
    refine r_iload_n (pc := 196) C 1 rfl rfl dX12_goesOn_196 ?_
    obtain ⟨hi197, h⟩ := chk_inv h
    refine r_iald (pc := 197) C m_s19 (by decide) (by decide) hi197 rfl dX12_goesOn_197 ?_
    refine r_if_ne (pc := 198) (tgt := 285) C h dX12_goesOn_198 (by decide) (fun hc198 h => ?_) (fun hc198 h => ?_)
    · refine r_sub (lv' := [(0, vR b 0), (1, vI v1), (2, vI v2), (3, vI v3)]) [0, 1, 2, 3] rfl ?_
      exact w_m_goesOn_B285 C hr h
    · refine r_aload_n (pc := 201) C 0 rfl rfl dX12_goesOn_201 ?_
      refine r_bipush (pc := 202) (j := 60) C (by decide +kernel) dX12_goesOn_202 ?_
      obtain ⟨r22, hq22, h⟩ := bnd_inv h
      refine r_callV (pc := 204) (rest := []) (st1 := [vB r22]) C (mExtOK b) [vI 60] (c_m_isSign l hq22) cl_RX12_247 m_s0 (by decide) rfl rfl rfl rfl ⟨Nat.le_of_ble_eq_true rfl, Nat.le_of_ble_eq_true rfl⟩ (Nat.le_of_ble_eq_true rfl) rfl rfl dX12_goesOn_204 ?_
      refine r_if_neB (pc := 207) (tgt := 228) C h dX12_goesOn_207 (by decide) (fun hc207 h => ?_) (fun hc207 h => ?_)
      · refine r_sub (lv' := [(0, vR b 0), (1, vI v1)]) [0, 1] rfl ?_
        exact w_m_goesOn_B228 C hr h
      · refine r_aload_n (pc := 210) C 0 rfl rfl dX12_goesOn_210 ?_
        refine r_bipush (pc := 211) (j := 62) C (by decide +kernel) dX12_goesOn_211 ?_
        obtain ⟨r28, hq28, h⟩ := bnd_inv h
        refine r_callV (pc := 213) (rest := []) (st1 := [vB r28]) C (mExtOK b) [vI 62] (c_m_isSign l hq28) cl_RX12_247 m_s0 (by decide) rfl rfl rfl rfl ⟨Nat.le_of_ble_eq_true rfl, Nat.le_of_ble_eq_true rfl⟩ (Nat.le_of_ble_eq_true rfl) rfl rfl dX12_goesOn_213 ?_
        refine r_if_neB (pc := 216) (tgt := 228) C h dX12_goesOn_216 (by decide) (fun hc216 h => ?_) (fun hc216 h => ?_)
        · refine r_sub (lv' := [(0, vR b 0), (1, vI v1)]) [0, 1] rfl ?_
          exact w_m_goesOn_B228 C hr h
        · refine r_aload_n (pc := 219) C 0 rfl rfl dX12_goesOn_219 ?_
          refine r_bipush (pc := 220) (j := 61) C (by decide +kernel) dX12_goesOn_220 ?_
          obtain ⟨r29, hq29, h⟩ := bnd_inv h
          refine r_callV (pc := 222) (rest := []) (st1 := [vB r29]) C (mExtOK b) [vI 61] (c_m_isSign l hq29) cl_RX12_247 m_s0 (by decide) rfl rfl rfl rfl ⟨Nat.le_of_ble_eq_true rfl, Nat.le_of_ble_eq_true rfl⟩ (Nat.le_of_ble_eq_true rfl) rfl rfl dX12_goesOn_222 ?_
          refine r_if_eqB (pc := 225) (tgt := 285) C h dX12_goesOn_225 (by decide) (fun hc225 h => ?_) (fun hc225 h => ?_)
          · refine r_sub (lv' := [(0, vR b 0), (1, vI v1)]) [0, 1] rfl ?_
            exact w_m_goesOn_B228 C hr h
          · refine r_sub (lv' := [(0, vR b 0), (1, vI v1), (2, vI v2), (3, vI v3)]) [0, 1, 2, 3] rfl ?_
            exact w_m_goesOn_B285 C hr h
set_option maxHeartbeats 4000000 in
set_option maxRecDepth 20000 in
theorem w_m_goesOn_B174 (C : mCX p s m args meth c cX12_goesOn 5 RX12 D E b) (hr : meth.sig.returnType = (some .boolean)) {r0 : Bool} {M0 : Mem} {M : Mem} {s1 : Int} (h : m_goesOn_B174 s1 M = some (r0, M0)) :
    mWX p l e 3 57 s m args below meth c 5 D E b (some (vB r0)) M0 M 174 [(0, vR b 0)] [vI s1, vR b 0] := by
  unfold m_goesOn_B174 at h
  obtain ⟨M37, hq37, h⟩ := bnd_inv h
  refine r_callV (pc := 174) (rest := []) (st1 := []) C (mExtOK b) [vI s1] (c_m_holdsBack l hq37) cl_RX12_323 m_s0 (by decide) rfl rfl rfl rfl ⟨Nat.le_of_ble_eq_true rfl, Nat.le_of_ble_eq_true rfl⟩ (Nat.le_of_ble_eq_true rfl) rfl rfl dX12_goesOn_174 ?_
  refine r_aload_n (pc := 177) C 0 rfl rfl dX12_goesOn_177 ?_
  obtain ⟨M38, hq38, h⟩ := bnd_inv h
  refine r_callV (pc := 178) (rest := []) (st1 := []) C (mExtOK b) [] (c_m_ahead l hq38) cl_RX12_250 m_s0 (by decide) rfl rfl rfl rfl ⟨Nat.le_of_ble_eq_true rfl, Nat.le_of_ble_eq_true rfl⟩ (Nat.le_of_ble_eq_true rfl) rfl rfl dX12_goesOn_178 ?_
  refine r_aload_n (pc := 181) C 0 rfl rfl dX12_goesOn_181 ?_
  refine r_iconst (pc := 182) C dX12_goesOn_182 ?_
  obtain ⟨M_183, hM_183, h⟩ := lt_inv h
  refine r_putZ (pc := 183) C fl_RX12_140 mw_ft m_w42 m_s0 (by decide) m_k42 (Or.inl rfl) hM_183 dX12_goesOn_183 ?_
  refine r_iconst (pc := 186) C dX12_goesOn_186 ?_
  have e := Option.some.inj h
  exact r_zret (pc := 187) C hr (Or.inr rfl) (congrArg (fun z => some (vB z)) (Prod.mk.inj e).1.symm) (Prod.mk.inj e).2.symm dX12_goesOn_187
set_option maxHeartbeats 4000000 in
set_option maxRecDepth 20000 in
theorem w_m_goesOn_B112 (C : mCX p s m args meth c cX12_goesOn 5 RX12 D E b) (hr : meth.sig.returnType = (some .boolean)) {r0 : Bool} {M0 : Mem} {M : Mem} {s1 : Int} (h : m_goesOn_B112 s1 M = some (r0, M0)) :
    mWX p l e 3 57 s m args below meth c 5 D E b (some (vB r0)) M0 M 112 [(0, vR b 0)] [vI s1, vR b 0] := by
  unfold m_goesOn_B112 at h
  obtain ⟨M32, hq32, h⟩ := bnd_inv h
  refine r_callV (pc := 112) (rest := []) (st1 := []) C (mExtOK b) [vI s1] (c_m_joins l hq32) cl_RX12_332 m_s0 (by decide) rfl rfl rfl rfl ⟨Nat.le_of_ble_eq_true rfl, Nat.le_of_ble_eq_true rfl⟩ (Nat.le_of_ble_eq_true rfl) rfl rfl dX12_goesOn_112 ?_
  refine r_aload_n (pc := 115) C 0 rfl rfl dX12_goesOn_115 ?_
  refine r_aload_n (pc := 116) C 0 rfl rfl dX12_goesOn_116 ?_
  refine r_bipush (pc := 117) (j := 43) C (by decide +kernel) dX12_goesOn_117 ?_
  obtain ⟨r33, hq33, h⟩ := bnd_inv h
  refine r_callV (pc := 119) (rest := [vR b 0]) (st1 := [vB r33, vR b 0]) C (mExtOK b) [vI 43] (c_m_isSign l hq33) cl_RX12_247 m_s0 (by decide) rfl rfl rfl rfl ⟨Nat.le_of_ble_eq_true rfl, Nat.le_of_ble_eq_true rfl⟩ (Nat.le_of_ble_eq_true rfl) rfl rfl dX12_goesOn_119 ?_
  refine r_if_eqB (pc := 122) (tgt := 130) C h dX12_goesOn_122 (by decide) (fun hc122 h => ?_) (fun hc122 h => ?_)
  · refine r_bipush (pc := 125) (j := 31) C (by decide +kernel) dX12_goesOn_125 ?_
    refine r_goto (pc := 127) (tgt := 174) C dX12_goesOn_127 (by decide) ?_
    refine r_sub (lv' := [(0, vR b 0)]) [0] rfl ?_
    exact w_m_goesOn_B174 C hr h
  · refine r_aload_n (pc := 130) C 0 rfl rfl dX12_goesOn_130 ?_
    refine r_bipush (pc := 131) (j := 45) C (by decide +kernel) dX12_goesOn_131 ?_
    obtain ⟨r34, hq34, h⟩ := bnd_inv h
    refine r_callV (pc := 133) (rest := [vR b 0]) (st1 := [vB r34, vR b 0]) C (mExtOK b) [vI 45] (c_m_isSign l hq34) cl_RX12_247 m_s0 (by decide) rfl rfl rfl rfl ⟨Nat.le_of_ble_eq_true rfl, Nat.le_of_ble_eq_true rfl⟩ (Nat.le_of_ble_eq_true rfl) rfl rfl dX12_goesOn_133 ?_
    refine r_if_eqB (pc := 136) (tgt := 144) C h dX12_goesOn_136 (by decide) (fun hc136 h => ?_) (fun hc136 h => ?_)
    · refine r_bipush (pc := 139) (j := 32) C (by decide +kernel) dX12_goesOn_139 ?_
      refine r_goto (pc := 141) (tgt := 174) C dX12_goesOn_141 (by decide) ?_
      refine r_sub (lv' := [(0, vR b 0)]) [0] rfl ?_
      exact w_m_goesOn_B174 C hr h
    · refine r_aload_n (pc := 144) C 0 rfl rfl dX12_goesOn_144 ?_
      refine r_bipush (pc := 145) (j := 42) C (by decide +kernel) dX12_goesOn_145 ?_
      obtain ⟨r35, hq35, h⟩ := bnd_inv h
      refine r_callV (pc := 147) (rest := [vR b 0]) (st1 := [vB r35, vR b 0]) C (mExtOK b) [vI 42] (c_m_isSign l hq35) cl_RX12_247 m_s0 (by decide) rfl rfl rfl rfl ⟨Nat.le_of_ble_eq_true rfl, Nat.le_of_ble_eq_true rfl⟩ (Nat.le_of_ble_eq_true rfl) rfl rfl dX12_goesOn_147 ?_
      refine r_if_eqB (pc := 150) (tgt := 158) C h dX12_goesOn_150 (by decide) (fun hc150 h => ?_) (fun hc150 h => ?_)
      · refine r_bipush (pc := 153) (j := 33) C (by decide +kernel) dX12_goesOn_153 ?_
        refine r_goto (pc := 155) (tgt := 174) C dX12_goesOn_155 (by decide) ?_
        refine r_sub (lv' := [(0, vR b 0)]) [0] rfl ?_
        exact w_m_goesOn_B174 C hr h
      · refine r_aload_n (pc := 158) C 0 rfl rfl dX12_goesOn_158 ?_
        refine r_bipush (pc := 159) (j := 47) C (by decide +kernel) dX12_goesOn_159 ?_
        obtain ⟨r36, hq36, h⟩ := bnd_inv h
        refine r_callV (pc := 161) (rest := [vR b 0]) (st1 := [vB r36, vR b 0]) C (mExtOK b) [vI 47] (c_m_isSign l hq36) cl_RX12_247 m_s0 (by decide) rfl rfl rfl rfl ⟨Nat.le_of_ble_eq_true rfl, Nat.le_of_ble_eq_true rfl⟩ (Nat.le_of_ble_eq_true rfl) rfl rfl dX12_goesOn_161 ?_
        refine r_if_eqB (pc := 164) (tgt := 172) C h dX12_goesOn_164 (by decide) (fun hc164 h => ?_) (fun hc164 h => ?_)
        · refine r_bipush (pc := 167) (j := 34) C (by decide +kernel) dX12_goesOn_167 ?_
          refine r_goto (pc := 169) (tgt := 174) C dX12_goesOn_169 (by decide) ?_
          refine r_sub (lv' := [(0, vR b 0)]) [0] rfl ?_
          exact w_m_goesOn_B174 C hr h
        · refine r_bipush (pc := 172) (j := 35) C (by decide +kernel) dX12_goesOn_172 ?_
          refine r_sub (lv' := [(0, vR b 0)]) [0] rfl ?_
          exact w_m_goesOn_B174 C hr h
set_option maxHeartbeats 4000000 in
set_option maxRecDepth 20000 in
theorem w_m_goesOn_B106 (C : mCX p s m args meth c cX12_goesOn 5 RX12 D E b) (hr : meth.sig.returnType = (some .boolean)) {r0 : Bool} {M0 : Mem} {M : Mem} (h : m_goesOn_B106 M = some (r0, M0)) :
    mWX p l e 3 57 s m args below meth c 5 D E b (some (vB r0)) M0 M 106 [(0, vR b 0)] [vR b 0] := by
  unfold m_goesOn_B106 at h
  refine r_iconst (pc := 106) C dX12_goesOn_106 ?_
  refine r_goto (pc := 107) (tgt := 112) C dX12_goesOn_107 (by decide) ?_
  refine r_sub (lv' := [(0, vR b 0)]) [0] rfl ?_
  exact w_m_goesOn_B112 C hr h
set_option maxHeartbeats 4000000 in
set_option maxRecDepth 20000 in
theorem w_m_goesOn_B87 (C : mCX p s m args meth c cX12_goesOn 5 RX12 D E b) (hr : meth.sig.returnType = (some .boolean)) {r0 : Bool} {M0 : Mem} {M : Mem} (h : m_goesOn_B87 M = some (r0, M0)) :
    mWX p l e 3 57 s m args below meth c 5 D E b (some (vB r0)) M0 M 87 [(0, vR b 0)] [] := by
  unfold m_goesOn_B87 at h
  refine r_aload_n (pc := 87) C 0 rfl rfl dX12_goesOn_87 ?_
  refine r_aload_n (pc := 88) C 0 rfl rfl dX12_goesOn_88 ?_
  refine r_bipush (pc := 89) (j := 43) C (by decide +kernel) dX12_goesOn_89 ?_
  obtain ⟨r31, hq31, h⟩ := bnd_inv h
  refine r_callV (pc := 91) (rest := [vR b 0]) (st1 := [vB r31, vR b 0]) C (mExtOK b) [vI 43] (c_m_isSign l hq31) cl_RX12_247 m_s0 (by decide) rfl rfl rfl rfl ⟨Nat.le_of_ble_eq_true rfl, Nat.le_of_ble_eq_true rfl⟩ (Nat.le_of_ble_eq_true rfl) rfl rfl dX12_goesOn_91 ?_
  refine r_if_neB (pc := 94) (tgt := 106) C h dX12_goesOn_94 (by decide) (fun hc94 h => ?_) (fun hc94 h => ?_)
  · refine r_sub (lv' := [(0, vR b 0)]) [0] rfl ?_
    exact w_m_goesOn_B106 C hr h
  · refine r_aload_n (pc := 97) C 0 rfl rfl dX12_goesOn_97 ?_
    refine r_bipush (pc := 98) (j := 45) C (by decide +kernel) dX12_goesOn_98 ?_
    obtain ⟨r39, hq39, h⟩ := bnd_inv h
    refine r_callV (pc := 100) (rest := [vR b 0]) (st1 := [vB r39, vR b 0]) C (mExtOK b) [vI 45] (c_m_isSign l hq39) cl_RX12_247 m_s0 (by decide) rfl rfl rfl rfl ⟨Nat.le_of_ble_eq_true rfl, Nat.le_of_ble_eq_true rfl⟩ (Nat.le_of_ble_eq_true rfl) rfl rfl dX12_goesOn_100 ?_
    refine r_if_eqB (pc := 103) (tgt := 110) C h dX12_goesOn_103 (by decide) (fun hc103 h => ?_) (fun hc103 h => ?_)
    · refine r_sub (lv' := [(0, vR b 0)]) [0] rfl ?_
      exact w_m_goesOn_B106 C hr h
    · refine r_bipush (pc := 110) (j := 6) C (by decide +kernel) dX12_goesOn_110 ?_
      refine r_sub (lv' := [(0, vR b 0)]) [0] rfl ?_
      exact w_m_goesOn_B112 C hr h
set_option maxHeartbeats 4000000 in
set_option maxRecDepth 20000 in
theorem c_m_goesOn (l : Launch) {M : Mem} {r0 : Bool} {M0 : Mem} (h : m_goesOn M = some (r0, M0)) : Ct l yX12_goesOn cX12_goesOn 5 (some .boolean) 3 57 vwCl mSh mN mRf mExt (fun b => [vR b 0]) M (fun b => (some (vB r0))) M0 := by
  refine Ct_of mExtOK (by decide) (fun b => Nat.le_of_ble_eq_true rfl) ?_
  intro p e s m args below meth c D E b C hr
  unfold m_goesOn at h
  refine (show mWX p l e 3 57 s m args below meth c 5 D E b (some (vB r0)) M0 M 0 [(0, vR b 0)] [] from ?_)
  refine r_aload_n (pc := 0) C 0 rfl rfl dX12_goesOn_0 ?_
  obtain ⟨M1, hq1, h⟩ := bnd_inv h
  refine r_callV (pc := 1) (rest := []) (st1 := []) C (mExtOK b) [] (c_m_lex l hq1) cl_RX12_244 m_s0 (by decide) rfl rfl rfl rfl ⟨Nat.le_of_ble_eq_true rfl, Nat.le_of_ble_eq_true rfl⟩ (Nat.le_of_ble_eq_true rfl) rfl rfl dX12_goesOn_1 ?_
  refine r_aload_n (pc := 4) C 0 rfl rfl dX12_goesOn_4 ?_
  refine r_getI (pc := 5) C fl_RX12_36 m_s0 (by decide) m_k8 dX12_goesOn_5 ?_
  refine r_if_le (pc := 8) (tgt := 13) C h dX12_goesOn_8 (by decide) (fun hc8 h => ?_) (fun hc8 h => ?_)
  · refine r_aload_n (pc := 13) C 0 rfl rfl dX12_goesOn_13 ?_
    refine r_getI (pc := 14) C fl_RX12_128 m_s0 (by decide) m_k38 dX12_goesOn_14 ?_
    refine r_iconst (pc := 17) C dX12_goesOn_17 ?_
    refine r_isub (pc := 18) C dX12_goesOn_18 ?_
    obtain ⟨v1_19, hv1_19, h⟩ := lt_inv h
    refine r_topI hv1_19 ?_
    refine r_istore_n (pc := 19) (lv' := [(1, vI v1_19), (0, vR b 0)]) C rfl dX12_goesOn_19 (by decide) rfl ?_
    refine r_aload_n (pc := 20) C 1 rfl rfl dX12_goesOn_20 ?_
    refine r_getR (pc := 21) C fl_RX12_112 m_s0 (by decide) m_k33 m_r33 dX12_goesOn_21 ?_
    refine r_iload_n (pc := 24) C 0 rfl rfl dX12_goesOn_24 ?_
    obtain ⟨hi25, h⟩ := chk_inv h
    refine r_iald (pc := 25) C m_s18 (by decide) (by decide) hi25 rfl dX12_goesOn_25 ?_
    obtain ⟨v2_26, hv2_26, h⟩ := lt_inv h
    refine r_topI hv2_26 ?_
    refine r_istore_n (pc := 26) (lv' := [(2, vI v2_26), (1, vI v1_19), (0, vR b 0)]) C rfl dX12_goesOn_26 (by decide) rfl ?_
    refine r_iload_n (pc := 27) C 0 rfl rfl dX12_goesOn_27 ?_
    obtain ⟨r2, hq2, h⟩ := bnd_inv h
    refine r_callS (pc := 28) (rest := []) (st1 := [vB r2]) C (mExtOK b) [vI v2_26] (c_m_isTest l hq2) cl_RX12_316 rfl rfl ⟨Nat.le_of_ble_eq_true rfl, Nat.le_of_ble_eq_true rfl⟩ (Nat.le_of_ble_eq_true rfl) rfl rfl dX12_goesOn_28 ?_
    obtain ⟨v3_31, hv3_31, h⟩ := lt_inv h
    refine r_topI hv3_31 ?_
    refine r_istore_n (pc := 31) (lv' := [(3, vI v3_31), (2, vI v2_26), (1, vI v1_19), (0, vR b 0)]) C rfl dX12_goesOn_31 (by decide) rfl ?_
    refine r_aload_n (pc := 32) C 3 rfl rfl dX12_goesOn_32 ?_
    refine r_getR (pc := 33) C fl_RX12_115 m_s0 (by decide) m_k34 m_r34 dX12_goesOn_33 ?_
    refine r_iload_n (pc := 36) C 2 rfl rfl dX12_goesOn_36 ?_
    obtain ⟨hi37, h⟩ := chk_inv h
    refine r_iald (pc := 37) C m_s19 (by decide) (by decide) hi37 rfl dX12_goesOn_37 ?_
    refine r_iconst (pc := 38) C dX12_goesOn_38 ?_
    refine r_icmp_ge (pc := 39) (tgt := 188) C h dX12_goesOn_39 (by decide) (fun hc39 h => ?_) (fun hc39 h => ?_)
    · refine r_sub (lv' := [(0, vR b 0), (1, vI v1_19), (2, vI v2_26), (3, vI v3_31)]) [3, 2, 1, 0] rfl ?_
      exact w_m_goesOn_B188 C hr h
    · refine r_aload_n (pc := 42) C 3 rfl rfl dX12_goesOn_42 ?_
      refine r_bipush (pc := 43) (j := 43) C (by decide +kernel) dX12_goesOn_43 ?_
      obtain ⟨r30, hq30, h⟩ := bnd_inv h
      refine r_callV (pc := 45) (rest := []) (st1 := [vB r30]) C (mExtOK b) [vI 43] (c_m_isSign l hq30) cl_RX12_247 m_s0 (by decide) rfl rfl rfl rfl ⟨Nat.le_of_ble_eq_true rfl, Nat.le_of_ble_eq_true rfl⟩ (Nat.le_of_ble_eq_true rfl) rfl rfl dX12_goesOn_45 ?_
      refine r_if_neB (pc := 48) (tgt := 87) C h dX12_goesOn_48 (by decide) (fun hc48 h => ?_) (fun hc48 h => ?_)
      · refine r_sub (lv' := [(0, vR b 0)]) [3] rfl ?_
        exact w_m_goesOn_B87 C hr h
      · refine r_aload_n (pc := 51) C 3 rfl rfl dX12_goesOn_51 ?_
        refine r_bipush (pc := 52) (j := 45) C (by decide +kernel) dX12_goesOn_52 ?_
        obtain ⟨r40, hq40, h⟩ := bnd_inv h
        refine r_callV (pc := 54) (rest := []) (st1 := [vB r40]) C (mExtOK b) [vI 45] (c_m_isSign l hq40) cl_RX12_247 m_s0 (by decide) rfl rfl rfl rfl ⟨Nat.le_of_ble_eq_true rfl, Nat.le_of_ble_eq_true rfl⟩ (Nat.le_of_ble_eq_true rfl) rfl rfl dX12_goesOn_54 ?_
        refine r_if_neB (pc := 57) (tgt := 87) C h dX12_goesOn_57 (by decide) (fun hc57 h => ?_) (fun hc57 h => ?_)
        · refine r_sub (lv' := [(0, vR b 0)]) [3] rfl ?_
          exact w_m_goesOn_B87 C hr h
        · refine r_aload_n (pc := 60) C 3 rfl rfl dX12_goesOn_60 ?_
          refine r_bipush (pc := 61) (j := 42) C (by decide +kernel) dX12_goesOn_61 ?_
          obtain ⟨r41, hq41, h⟩ := bnd_inv h
          refine r_callV (pc := 63) (rest := []) (st1 := [vB r41]) C (mExtOK b) [vI 42] (c_m_isSign l hq41) cl_RX12_247 m_s0 (by decide) rfl rfl rfl rfl ⟨Nat.le_of_ble_eq_true rfl, Nat.le_of_ble_eq_true rfl⟩ (Nat.le_of_ble_eq_true rfl) rfl rfl dX12_goesOn_63 ?_
          refine r_if_neB (pc := 66) (tgt := 87) C h dX12_goesOn_66 (by decide) (fun hc66 h => ?_) (fun hc66 h => ?_)
          · refine r_sub (lv' := [(0, vR b 0)]) [3] rfl ?_
            exact w_m_goesOn_B87 C hr h
          · refine r_aload_n (pc := 69) C 3 rfl rfl dX12_goesOn_69 ?_
            refine r_bipush (pc := 70) (j := 47) C (by decide +kernel) dX12_goesOn_70 ?_
            obtain ⟨r42, hq42, h⟩ := bnd_inv h
            refine r_callV (pc := 72) (rest := []) (st1 := [vB r42]) C (mExtOK b) [vI 47] (c_m_isSign l hq42) cl_RX12_247 m_s0 (by decide) rfl rfl rfl rfl ⟨Nat.le_of_ble_eq_true rfl, Nat.le_of_ble_eq_true rfl⟩ (Nat.le_of_ble_eq_true rfl) rfl rfl dX12_goesOn_72 ?_
            refine r_if_neB (pc := 75) (tgt := 87) C h dX12_goesOn_75 (by decide) (fun hc75 h => ?_) (fun hc75 h => ?_)
            · refine r_sub (lv' := [(0, vR b 0)]) [3] rfl ?_
              exact w_m_goesOn_B87 C hr h
            · refine r_aload_n (pc := 78) C 3 rfl rfl dX12_goesOn_78 ?_
              refine r_bipush (pc := 79) (j := 37) C (by decide +kernel) dX12_goesOn_79 ?_
              obtain ⟨r43, hq43, h⟩ := bnd_inv h
              refine r_callV (pc := 81) (rest := []) (st1 := [vB r43]) C (mExtOK b) [vI 37] (c_m_isSign l hq43) cl_RX12_247 m_s0 (by decide) rfl rfl rfl rfl ⟨Nat.le_of_ble_eq_true rfl, Nat.le_of_ble_eq_true rfl⟩ (Nat.le_of_ble_eq_true rfl) rfl rfl dX12_goesOn_81 ?_
              refine r_if_eqB (pc := 84) (tgt := 188) C h dX12_goesOn_84 (by decide) (fun hc84 h => ?_) (fun hc84 h => ?_)
              · refine r_sub (lv' := [(0, vR b 0)]) [3] rfl ?_
                exact w_m_goesOn_B87 C hr h
              · refine r_sub (lv' := [(0, vR b 0), (1, vI v1_19), (2, vI v2_26), (3, vI v3_31)]) [3, 2, 1, 0] rfl ?_
                exact w_m_goesOn_B188 C hr h
  · refine r_iconst (pc := 11) C dX12_goesOn_11 ?_
    have e := Option.some.inj h
    exact r_zret (pc := 12) C hr (Or.inl rfl) (congrArg (fun z => some (vB z)) (Prod.mk.inj e).1.symm) (Prod.mk.inj e).2.symm dX12_goesOn_12
set_option maxHeartbeats 4000000 in
set_option maxRecDepth 20000 in
theorem w_m_reads_L43_B70 (C : mCX p s m args meth c cX12_reads 3 RX12 D E b) (hr : meth.sig.returnType = none) {M0 : Mem} {M : Mem} {v2 : Int} {q : Int × Mem} {rec : Int → Mem → Option (Int × Mem)} (hrec : ∀ (v2 : Int) (M : Mem), rec v2 M = some q → mWX p l e 5 101 s m args below meth c 3 D E b none M0 M 43 [(0, vR b 0), (2, vI v2)] []) (hfol : ∀ (v2 : Int) (M : Mem), q = (v2, M) → mWX p l e 5 101 s m args below meth c 3 D E b none M0 M 90 [] []) (h : m_reads_L43_B70 rec v2 M = some q) :
    mWX p l e 5 101 s m args below meth c 3 D E b none M0 M 70 [(0, vR b 0), (2, vI v2)] [] := by
  unfold m_reads_L43_B70 at h
  refine r_iload_n (pc := 70) C 1 rfl rfl dX12_reads_70 ?_
  refine r_if_eq (pc := 71) (tgt := 85) C h dX12_reads_71 (by decide) (fun hc71 h => ?_) (fun hc71 h => ?_)
  · refine r_iconst (pc := 85) C dX12_reads_85 ?_
    refine r_istore_n (pc := 86) (lv' := [(2, vI 0), (0, vR b 0)]) C rfl dX12_reads_86 (by decide) rfl ?_
    refine r_goto (pc := 87) (tgt := 43) C dX12_reads_87 (by decide) ?_
    refine r_sub (lv' := [(0, vR b 0), (2, vI 0)]) [1, 0] rfl ?_
    exact hrec _ _ h
  · refine r_aload_n (pc := 74) C 0 rfl rfl dX12_reads_74 ?_
    refine r_getI (pc := 75) C fl_RX12_36 m_s0 (by decide) m_k8 dX12_reads_75 ?_
    refine r_if_ne (pc := 78) (tgt := 85) C h dX12_reads_78 (by decide) (fun hc78 h => ?_) (fun hc78 h => ?_)
    · refine r_iconst (pc := 85) C dX12_reads_85 ?_
      refine r_istore_n (pc := 86) (lv' := [(2, vI 0), (0, vR b 0)]) C rfl dX12_reads_86 (by decide) rfl ?_
      refine r_goto (pc := 87) (tgt := 43) C dX12_reads_87 (by decide) ?_
      refine r_sub (lv' := [(0, vR b 0), (2, vI 0)]) [1, 0] rfl ?_
      exact hrec _ _ h
    · refine r_iconst (pc := 81) C dX12_reads_81 ?_
      refine r_goto (pc := 82) (tgt := 86) C dX12_reads_82 (by decide) ?_
      refine r_istore_n (pc := 86) (lv' := [(2, vI 1), (0, vR b 0)]) C rfl dX12_reads_86 (by decide) rfl ?_
      refine r_goto (pc := 87) (tgt := 43) C dX12_reads_87 (by decide) ?_
      refine r_sub (lv' := [(0, vR b 0), (2, vI 1)]) [1, 0] rfl ?_
      exact hrec _ _ h
set_option maxHeartbeats 4000000 in
set_option maxRecDepth 20000 in
theorem w_m_reads_L43_s (C : mCX p s m args meth c cX12_reads 3 RX12 D E b) (hr : meth.sig.returnType = none) {M0 : Mem} {v2 : Int} {M : Mem} {q : Int × Mem} {rec : Int → Mem → Option (Int × Mem)} (hrec : ∀ (v2 : Int) (M : Mem), rec v2 M = some q → mWX p l e 5 101 s m args below meth c 3 D E b none M0 M 43 [(0, vR b 0), (2, vI v2)] []) (hfol : ∀ (v2 : Int) (M : Mem), q = (v2, M) → mWX p l e 5 101 s m args below meth c 3 D E b none M0 M 90 [] []) (h : m_reads_L43 rec v2 M = some q) :
    mWX p l e 5 101 s m args below meth c 3 D E b none M0 M 43 [(0, vR b 0), (2, vI v2)] [] := by
  unfold m_reads_L43 at h
  refine r_iload_n (pc := 43) C 1 rfl rfl dX12_reads_43 ?_
  refine r_if_eq (pc := 44) (tgt := 90) C h dX12_reads_44 (by decide) (fun hc44 h => ?_) (fun hc44 h => ?_)
  · refine r_sub (lv' := []) [] rfl ?_
    exact hfol _ _ (Option.some.inj h).symm
  · refine r_aload_n (pc := 47) C 0 rfl rfl dX12_reads_47 ?_
    refine r_getZ (pc := 48) C fl_RX12_140 m_s0 (by decide) m_k42 dX12_reads_48 ?_
    refine r_if_ne (pc := 51) (tgt := 65) C h dX12_reads_51 (by decide) (fun hc51 h => ?_) (fun hc51 h => ?_)
    · refine r_aload_n (pc := 65) C 0 rfl rfl dX12_reads_65 ?_
      obtain ⟨r2, M2, hq2, h⟩ := bnd2_inv h
      refine r_callV (pc := 66) (rest := []) (st1 := [vB r2]) C (mExtOK b) [] (c_m_goesOn l hq2) cl_RX12_338 m_s0 (by decide) rfl rfl rfl rfl ⟨Nat.le_of_ble_eq_true rfl, Nat.le_of_ble_eq_true rfl⟩ (Nat.le_of_ble_eq_true rfl) rfl rfl dX12_reads_66 ?_
      obtain ⟨v2_69, hv2_69, h⟩ := lt_inv h
      refine r_topI hv2_69 ?_
      refine r_istore_n (pc := 69) (lv' := [(2, vI v2_69), (0, vR b 0)]) C rfl dX12_reads_69 (by decide) rfl ?_
      refine r_sub (lv' := [(0, vR b 0), (2, vI v2_69)]) [1, 0] rfl ?_
      exact w_m_reads_L43_B70 C hr hrec hfol h
    · refine r_aload_n (pc := 54) C 0 rfl rfl dX12_reads_54 ?_
      refine r_aload_n (pc := 55) C 0 rfl rfl dX12_reads_55 ?_
      obtain ⟨r3, M3, hq3, h⟩ := bnd2_inv h
      refine r_callV (pc := 56) (rest := [vR b 0]) (st1 := [vB r3, vR b 0]) C (mExtOK b) [] (c_m_operand l hq3) cl_RX12_335 m_s0 (by decide) rfl rfl rfl rfl ⟨Nat.le_of_ble_eq_true rfl, Nat.le_of_ble_eq_true rfl⟩ (Nat.le_of_ble_eq_true rfl) rfl rfl dX12_reads_56 ?_
      obtain ⟨hb59, h⟩ := chk_inv h
      obtain ⟨M_59, hM_59, h⟩ := lt_inv h
      refine r_putZ (pc := 59) C fl_RX12_140 mw_ft m_w42 m_s0 (by decide) m_k42 hb59 hM_59 dX12_reads_59 ?_
      refine r_goto (pc := 62) (tgt := 70) C dX12_reads_62 (by decide) ?_
      refine r_sub (lv' := [(0, vR b 0), (2, vI v2)]) [0, 1] rfl ?_
      exact w_m_reads_L43_B70 C hr hrec hfol h
set_option maxHeartbeats 4000000 in
theorem w_m_reads_L43 (C : mCX p s m args meth c cX12_reads 3 RX12 D E b) (hr : meth.sig.returnType = none) {M0 : Mem} {q : Int × Mem} (hfol : ∀ (v2 : Int) (M : Mem), q = (v2, M) → mWX p l e 5 101 s m args below meth c 3 D E b none M0 M 90 [] []) : ∀ (n : Nat) (v2 : Int) (M : Mem), itr2 (m_reads_L43) n v2 M = some q →
    mWX p l e 5 101 s m args below meth c 3 D E b none M0 M 43 [(0, vR b 0), (2, vI v2)] [] := by
  intro n
  induction n with
  | zero => exact fun _ _ h => itr_z h
  | succ n ih => exact fun _ _ h => w_m_reads_L43_s C hr ih hfol h
set_option maxHeartbeats 4000000 in
set_option maxRecDepth 20000 in
theorem w_m_reads_B38 (C : mCX p s m args meth c cX12_reads 3 RX12 D E b) (hr : meth.sig.returnType = none) {M0 : Mem} {M : Mem} {s1 : Int} (h : m_reads_B38 s1 M = some M0) :
    mWX p l e 5 101 s m args below meth c 3 D E b none M0 M 38 [(0, vR b 0)] [vI s1, vR b 0] := by
  unfold m_reads_B38 at h
  obtain ⟨M1, hq1, h⟩ := bnd_inv h
  refine r_callV (pc := 38) (rest := []) (st1 := []) C (mExtOK b) [vI s1] (c_m_pushes l hq1) cl_RX12_313 m_s0 (by decide) rfl rfl rfl rfl ⟨Nat.le_of_ble_eq_true rfl, Nat.le_of_ble_eq_true rfl⟩ (Nat.le_of_ble_eq_true rfl) rfl rfl dX12_reads_38 ?_
  refine r_iconst (pc := 41) C dX12_reads_41 ?_
  refine r_istore_n (pc := 42) (lv' := [(2, vI 1), (0, vR b 0)]) C rfl dX12_reads_42 (by decide) rfl ?_
  refine r_sub (lv' := [(0, vR b 0), (2, vI 1)]) [1, 0] rfl ?_
  obtain ⟨q4, hl4, h⟩ := bnd_inv h
  refine w_m_reads_L43 C hr (fun v2_4 M_4 hq => ?_) FUEL _ _ hl4
  have hq := hq.symm
  subst hq
  have e := Option.some.inj h
  exact r_vret (pc := 90) C hr rfl e.symm dX12_reads_90
set_option maxHeartbeats 4000000 in
set_option maxRecDepth 20000 in
theorem c_m_reads (l : Launch) {x1 : Int} {M : Mem} {M0 : Mem} (h : m_reads x1 M = some M0) : Ct l yX12_reads cX12_reads 3 none 5 101 vwCl mSh mN mRf mExt (fun b => [vR b 0, vI x1]) M (fun b => none) M0 := by
  refine Ct_of mExtOK (by decide) (fun b => Nat.le_of_ble_eq_true rfl) ?_
  intro p e s m args below meth c D E b C hr
  unfold m_reads at h
  refine (show mWX p l e 5 101 s m args below meth c 3 D E b none M0 M 0 [(0, vR b 0), (1, vI x1)] [] from ?_)
  refine r_aload_n (pc := 0) C 0 rfl rfl dX12_reads_0 ?_
  refine r_getI (pc := 1) C fl_RX12_36 m_s0 (by decide) m_k8 dX12_reads_1 ?_
  refine r_if_le (pc := 4) (tgt := 8) C h dX12_reads_4 (by decide) (fun hc4 h => ?_) (fun hc4 h => ?_)
  · refine r_aload_n (pc := 8) C 0 rfl rfl dX12_reads_8 ?_
    refine r_iconst (pc := 9) C dX12_reads_9 ?_
    obtain ⟨M_10, hM_10, h⟩ := lt_inv h
    refine r_putI (pc := 10) C fl_RX12_128 mw_ft m_w38 m_s0 (by decide) m_k38 hM_10 dX12_reads_10 ?_
    refine r_aload_n (pc := 13) C 0 rfl rfl dX12_reads_13 ?_
    refine r_iconst (pc := 14) C dX12_reads_14 ?_
    obtain ⟨M_15, hM_15, h⟩ := lt_inv h
    refine r_putI (pc := 15) C fl_RX12_131 mw_ft m_w39 m_s0 (by decide) m_k39 hM_15 dX12_reads_15 ?_
    refine r_aload_n (pc := 18) C 0 rfl rfl dX12_reads_18 ?_
    refine r_iconst (pc := 19) C dX12_reads_19 ?_
    obtain ⟨M_20, hM_20, h⟩ := lt_inv h
    refine r_putI (pc := 20) C fl_RX12_137 mw_ft m_w41 m_s0 (by decide) m_k41 hM_20 dX12_reads_20 ?_
    refine r_aload_n (pc := 23) C 0 rfl rfl dX12_reads_23 ?_
    refine r_iconst (pc := 24) C dX12_reads_24 ?_
    obtain ⟨M_25, hM_25, h⟩ := lt_inv h
    refine r_putZ (pc := 25) C fl_RX12_140 mw_ft m_w42 m_s0 (by decide) m_k42 (Or.inl rfl) hM_25 dX12_reads_25 ?_
    refine r_aload_n (pc := 28) C 0 rfl rfl dX12_reads_28 ?_
    refine r_iload_n (pc := 29) C 1 rfl rfl dX12_reads_29 ?_
    refine r_if_eq (pc := 30) (tgt := 37) C h dX12_reads_30 (by decide) (fun hc30 h => ?_) (fun hc30 h => ?_)
    · refine r_iconst (pc := 37) C dX12_reads_37 ?_
      refine r_sub (lv' := [(0, vR b 0)]) [0] rfl ?_
      exact w_m_reads_B38 C hr h
    · refine r_iconst (pc := 33) C dX12_reads_33 ?_
      refine r_goto (pc := 34) (tgt := 38) C dX12_reads_34 (by decide) ?_
      refine r_sub (lv' := [(0, vR b 0)]) [0] rfl ?_
      exact w_m_reads_B38 C hr h
  · have e := Option.some.inj h
    exact r_vret (pc := 7) C hr rfl e.symm dX12_reads_7
set_option maxHeartbeats 4000000 in
set_option maxRecDepth 20000 in
theorem w_m_isCounted_B32 (C : mCX p s m args meth c cX12_isCounted 2 RX12 D E b) (hr : meth.sig.returnType = (some .boolean)) {r0 : Bool} {M0 : Mem} {M : Mem} (h : m_isCounted_B32 M = some (r0, M0)) :
    mWX p l e 3 57 s m args below meth c 2 D E b (some (vB r0)) M0 M 32 [(0, vR b 0)] [] := by
  unfold m_isCounted_B32 at h
  refine r_aload_n (pc := 32) C 0 rfl rfl dX12_isCounted_32 ?_
  refine r_getI (pc := 33) C fl_RX12_36 m_s0 (by decide) m_k8 dX12_isCounted_33 ?_
  refine r_if_ne (pc := 36) (tgt := 43) C h dX12_isCounted_36 (by decide) (fun hc36 h => ?_) (fun hc36 h => ?_)
  · refine r_iconst (pc := 43) C dX12_isCounted_43 ?_
    have e := Option.some.inj h
    exact r_zret (pc := 44) C hr (Or.inl rfl) (congrArg (fun z => some (vB z)) (Prod.mk.inj e).1.symm) (Prod.mk.inj e).2.symm dX12_isCounted_44
  · refine r_iconst (pc := 39) C dX12_isCounted_39 ?_
    refine r_goto (pc := 40) (tgt := 44) C dX12_isCounted_40 (by decide) ?_
    have e := Option.some.inj h
    exact r_zret (pc := 44) C hr (Or.inr rfl) (congrArg (fun z => some (vB z)) (Prod.mk.inj e).1.symm) (Prod.mk.inj e).2.symm dX12_isCounted_44
set_option maxHeartbeats 4000000 in
set_option maxRecDepth 20000 in
theorem w_m_isCounted_B21 (C : mCX p s m args meth c cX12_isCounted 2 RX12 D E b) (hr : meth.sig.returnType = (some .boolean)) {r0 : Bool} {M0 : Mem} {M : Mem} (h : m_isCounted_B21 M = some (r0, M0)) :
    mWX p l e 3 57 s m args below meth c 2 D E b (some (vB r0)) M0 M 21 [(0, vR b 0)] [] := by
  unfold m_isCounted_B21 at h
  refine r_aload_n (pc := 21) C 0 rfl rfl dX12_isCounted_21 ?_
  refine r_getI (pc := 22) C fl_RX12_36 m_s0 (by decide) m_k8 dX12_isCounted_22 ?_
  refine r_if_ne (pc := 25) (tgt := 32) C h dX12_isCounted_25 (by decide) (fun hc25 h => ?_) (fun hc25 h => ?_)
  · refine r_sub (lv' := [(0, vR b 0)]) [0] rfl ?_
    exact w_m_isCounted_B32 C hr h
  · refine r_aload_n (pc := 28) C 0 rfl rfl dX12_isCounted_28 ?_
    obtain ⟨M1, hq1, h⟩ := bnd_inv h
    refine r_callV (pc := 29) (rest := []) (st1 := []) C (mExtOK b) [] (c_m_ahead l hq1) cl_RX12_250 m_s0 (by decide) rfl rfl rfl rfl ⟨Nat.le_of_ble_eq_true rfl, Nat.le_of_ble_eq_true rfl⟩ (Nat.le_of_ble_eq_true rfl) rfl rfl dX12_isCounted_29 ?_
    refine r_sub (lv' := [(0, vR b 0)]) [0] rfl ?_
    exact w_m_isCounted_B32 C hr h
set_option maxHeartbeats 4000000 in
set_option maxRecDepth 20000 in
theorem c_m_isCounted (l : Launch) {x1 : Int} {M : Mem} {r0 : Bool} {M0 : Mem} (h : m_isCounted x1 M = some (r0, M0)) : Ct l yX12_isCounted cX12_isCounted 2 (some .boolean) 3 57 vwCl mSh mN mRf mExt (fun b => [vR b 0, vI x1]) M (fun b => (some (vB r0))) M0 := by
  refine Ct_of mExtOK (by decide) (fun b => Nat.le_of_ble_eq_true rfl) ?_
  intro p e s m args below meth c D E b C hr
  unfold m_isCounted at h
  refine (show mWX p l e 3 57 s m args below meth c 2 D E b (some (vB r0)) M0 M 0 [(0, vR b 0), (1, vI x1)] [] from ?_)
  refine r_aload_n (pc := 0) C 0 rfl rfl dX12_isCounted_0 ?_
  refine r_getI (pc := 1) C fl_RX12_36 m_s0 (by decide) m_k8 dX12_isCounted_1 ?_
  refine r_if_ne (pc := 4) (tgt := 21) C h dX12_isCounted_4 (by decide) (fun hc4 h => ?_) (fun hc4 h => ?_)
  · refine r_sub (lv' := [(0, vR b 0)]) [0] rfl ?_
    exact w_m_isCounted_B21 C hr h
  · refine r_iload_n (pc := 7) C 1 rfl rfl dX12_isCounted_7 ?_
    refine r_if_eq (pc := 8) (tgt := 21) C h dX12_isCounted_8 (by decide) (fun hc8 h => ?_) (fun hc8 h => ?_)
    · refine r_sub (lv' := [(0, vR b 0)]) [0] rfl ?_
      exact w_m_isCounted_B21 C hr h
    · refine r_aload_n (pc := 11) C 0 rfl rfl dX12_isCounted_11 ?_
      refine r_bipush (pc := 12) (j := 6) C (by decide +kernel) dX12_isCounted_12 ?_
      refine r_aload_n (pc := 14) C 0 rfl rfl dX12_isCounted_14 ?_
      refine r_getI (pc := 15) C fl_RX12_23 m_s0 (by decide) m_k4 dX12_isCounted_15 ?_
      obtain ⟨M2, hq2, h⟩ := bnd_inv h
      refine r_callV (pc := 18) (rest := []) (st1 := []) C (mExtOK b) [vI 6, vI (M 0 4)] (c_m_blame l hq2) cl_RX12_233 m_s0 (by decide) rfl rfl rfl rfl ⟨Nat.le_of_ble_eq_true rfl, Nat.le_of_ble_eq_true rfl⟩ (Nat.le_of_ble_eq_true rfl) rfl rfl dX12_isCounted_18 ?_
      refine r_sub (lv' := [(0, vR b 0)]) [0] rfl ?_
      exact w_m_isCounted_B21 C hr h
set_option maxHeartbeats 4000000 in
set_option maxRecDepth 20000 in
theorem w_m_must__B29 (C : mCX p s m args meth c cX12_must_ 3 RX12 D E b) (hr : meth.sig.returnType = none) {M0 : Mem} {M : Mem} (h : m_must__B29 M = some M0) :
    mWX p l e 3 57 s m args below meth c 3 D E b none M0 M 29 [(0, vR b 0)] [] := by
  unfold m_must__B29 at h
  refine r_aload_n (pc := 29) C 0 rfl rfl dX12_must__29 ?_
  refine r_getI (pc := 30) C fl_RX12_36 m_s0 (by decide) m_k8 dX12_must__30 ?_
  refine r_if_ne (pc := 33) (tgt := 40) C h dX12_must__33 (by decide) (fun hc33 h => ?_) (fun hc33 h => ?_)
  · have e := Option.some.inj h
    exact r_vret (pc := 40) C hr rfl e.symm dX12_must__40
  · refine r_aload_n (pc := 36) C 0 rfl rfl dX12_must__36 ?_
    obtain ⟨M3, hq3, h⟩ := bnd_inv h
    refine r_callV (pc := 37) (rest := []) (st1 := []) C (mExtOK b) [] (c_m_ahead l hq3) cl_RX12_250 m_s0 (by decide) rfl rfl rfl rfl ⟨Nat.le_of_ble_eq_true rfl, Nat.le_of_ble_eq_true rfl⟩ (Nat.le_of_ble_eq_true rfl) rfl rfl dX12_must__37 ?_
    have e := Option.some.inj h
    exact r_vret (pc := 40) C hr rfl e.symm dX12_must__40
set_option maxHeartbeats 4000000 in
set_option maxRecDepth 20000 in
theorem c_m_must_ (l : Launch) {x1 : Int} {M : Mem} {M0 : Mem} (h : m_must_ x1 M = some M0) : Ct l yX12_must_ cX12_must_ 3 none 3 57 vwCl mSh mN mRf mExt (fun b => [vR b 0, vL x1]) M (fun b => none) M0 := by
  refine Ct_of mExtOK (by decide) (fun b => Nat.le_of_ble_eq_true rfl) ?_
  intro p e s m args below meth c D E b C hr
  unfold m_must_ at h
  refine (show mWX p l e 3 57 s m args below meth c 3 D E b none M0 M 0 [(0, vR b 0), (1, vL x1)] [] from ?_)
  refine r_aload_n (pc := 0) C 0 rfl rfl dX12_must__0 ?_
  obtain ⟨M1, hq1, h⟩ := bnd_inv h
  refine r_callV (pc := 1) (rest := []) (st1 := []) C (mExtOK b) [] (c_m_lex l hq1) cl_RX12_244 m_s0 (by decide) rfl rfl rfl rfl ⟨Nat.le_of_ble_eq_true rfl, Nat.le_of_ble_eq_true rfl⟩ (Nat.le_of_ble_eq_true rfl) rfl rfl dX12_must__1 ?_
  refine r_aload_n (pc := 4) C 0 rfl rfl dX12_must__4 ?_
  refine r_getI (pc := 5) C fl_RX12_36 m_s0 (by decide) m_k8 dX12_must__5 ?_
  refine r_if_le (pc := 8) (tgt := 12) C h dX12_must__8 (by decide) (fun hc8 h => ?_) (fun hc8 h => ?_)
  · refine r_aload_n (pc := 12) C 0 rfl rfl dX12_must__12 ?_
    refine r_lload_n (pc := 13) C 1 rfl rfl dX12_must__13 ?_
    obtain ⟨r2, hq2, h⟩ := bnd_inv h
    refine r_callV (pc := 14) (rest := []) (st1 := [vB r2]) C (mExtOK b) [vL x1] (c_m_isWord l hq2) cl_RX12_319 m_s0 (by decide) rfl rfl rfl rfl ⟨Nat.le_of_ble_eq_true rfl, Nat.le_of_ble_eq_true rfl⟩ (Nat.le_of_ble_eq_true rfl) rfl rfl dX12_must__14 ?_
    refine r_if_neB (pc := 17) (tgt := 29) C h dX12_must__17 (by decide) (fun hc17 h => ?_) (fun hc17 h => ?_)
    · refine r_sub (lv' := [(0, vR b 0)]) [0] rfl ?_
      exact w_m_must__B29 C hr h
    · refine r_aload_n (pc := 20) C 0 rfl rfl dX12_must__20 ?_
      refine r_iconst (pc := 21) C dX12_must__21 ?_
      refine r_aload_n (pc := 22) C 0 rfl rfl dX12_must__22 ?_
      refine r_getI (pc := 23) C fl_RX12_23 m_s0 (by decide) m_k4 dX12_must__23 ?_
      obtain ⟨M4, hq4, h⟩ := bnd_inv h
      refine r_callV (pc := 26) (rest := []) (st1 := []) C (mExtOK b) [vI 1, vI (M1 0 4)] (c_m_blame l hq4) cl_RX12_233 m_s0 (by decide) rfl rfl rfl rfl ⟨Nat.le_of_ble_eq_true rfl, Nat.le_of_ble_eq_true rfl⟩ (Nat.le_of_ble_eq_true rfl) rfl rfl dX12_must__26 ?_
      refine r_sub (lv' := [(0, vR b 0)]) [0] rfl ?_
      exact w_m_must__B29 C hr h
  · have e := Option.some.inj h
    exact r_vret (pc := 11) C hr rfl e.symm dX12_must__11
set_option maxHeartbeats 4000000 in
set_option maxRecDepth 20000 in
theorem c_m_has2 (l : Launch) {x0 : Int} {x1 : Int} {M : Mem} {r0 : Bool} (h : m_has2 x0 x1 = some r0) : Ct l yX12_has2 cX12_has2 2 (some .boolean) 1 12 vwCl mSh mN mRf mExt (fun b => [vI x0, vI x1]) M (fun b => (some (vB r0))) M := by
  refine Ct_of mExtOK (by decide) (fun b => Nat.le_of_ble_eq_true rfl) ?_
  intro p e s m args below meth c D E b C hr
  unfold m_has2 at h
  refine (show mWX p l e 1 12 s m args below meth c 2 D E b (some (vB r0)) M M 0 [(0, vI x0), (1, vI x1)] [] from ?_)
  refine r_iload_n (pc := 0) C 0 rfl rfl dX12_has2_0 ?_
  refine r_iload_n (pc := 1) C 1 rfl rfl dX12_has2_1 ?_
  refine r_ishr (pc := 2) C dX12_has2_2 ?_
  refine r_iconst (pc := 3) C dX12_has2_3 ?_
  refine r_iand (pc := 4) C dX12_has2_4 ?_
  refine r_iconst (pc := 5) C dX12_has2_5 ?_
  refine r_icmp_ne (pc := 6) (tgt := 13) C h dX12_has2_6 (by decide) (fun hc6 h => ?_) (fun hc6 h => ?_)
  · refine r_iconst (pc := 13) C dX12_has2_13 ?_
    have e := Option.some.inj h
    exact r_zret (pc := 14) C hr (Or.inl rfl) (congrArg (fun z => some (vB z)) e.symm) rfl dX12_has2_14
  · refine r_iconst (pc := 9) C dX12_has2_9 ?_
    refine r_goto (pc := 10) (tgt := 14) C dX12_has2_10 (by decide) ?_
    have e := Option.some.inj h
    exact r_zret (pc := 14) C hr (Or.inr rfl) (congrArg (fun z => some (vB z)) e.symm) rfl dX12_has2_14
set_option maxHeartbeats 4000000 in
set_option maxRecDepth 20000 in
theorem w_m_fresh_B68 (C : mCX p s m args meth c cX12_fresh 3 RX12 D E b) (hr : meth.sig.returnType = (some .long)) {r0 : Int} {M0 : Mem} {M : Mem} (h : m_fresh_B68 M = some (r0, M0)) :
    mWX p l e 3 58 s m args below meth c 3 D E b (some (vL r0)) M0 M 68 [(0, vR b 0)] [] := by
  unfold m_fresh_B68 at h
  refine r_aload_n (pc := 68) C 0 rfl rfl dX12_fresh_68 ?_
  refine r_getL (pc := 69) C fl_RX12_32 m_s0 (by decide) m_k7 dX12_fresh_69 ?_
  obtain ⟨v1_72, hv1_72, h⟩ := lt_inv h
  refine r_topL hv1_72 ?_
  refine r_lstore_n (pc := 72) (lv' := [(1, vL v1_72), (0, vR b 0)]) C rfl dX12_fresh_72 (by decide) rfl ?_
  refine r_aload_n (pc := 73) C 1 rfl rfl dX12_fresh_73 ?_
  refine r_getI (pc := 74) C fl_RX12_36 m_s0 (by decide) m_k8 dX12_fresh_74 ?_
  refine r_if_ne (pc := 77) (tgt := 84) C h dX12_fresh_77 (by decide) (fun hc77 h => ?_) (fun hc77 h => ?_)
  · refine r_lload_n (pc := 84) C 0 rfl rfl dX12_fresh_84 ?_
    have e := Option.some.inj h
    exact r_lret (pc := 85) C hr (congrArg (fun z => some (vL z)) (Prod.mk.inj e).1.symm) (Prod.mk.inj e).2.symm dX12_fresh_85
  · refine r_aload_n (pc := 80) C 1 rfl rfl dX12_fresh_80 ?_
    obtain ⟨M3, hq3, h⟩ := bnd_inv h
    refine r_callV (pc := 81) (rest := []) (st1 := []) C (mExtOK b) [] (c_m_ahead l hq3) cl_RX12_250 m_s0 (by decide) rfl rfl rfl rfl ⟨Nat.le_of_ble_eq_true rfl, Nat.le_of_ble_eq_true rfl⟩ (Nat.le_of_ble_eq_true rfl) rfl rfl dX12_fresh_81 ?_
    refine r_lload_n (pc := 84) C 0 rfl rfl dX12_fresh_84 ?_
    have e := Option.some.inj h
    exact r_lret (pc := 85) C hr (congrArg (fun z => some (vL z)) (Prod.mk.inj e).1.symm) (Prod.mk.inj e).2.symm dX12_fresh_85
set_option maxHeartbeats 4000000 in
set_option maxRecDepth 20000 in
theorem w_m_fresh_B41 (C : mCX p s m args meth c cX12_fresh 3 RX12 D E b) (hr : meth.sig.returnType = (some .long)) {r0 : Int} {M0 : Mem} {M : Mem} (h : m_fresh_B41 M = some (r0, M0)) :
    mWX p l e 3 58 s m args below meth c 3 D E b (some (vL r0)) M0 M 41 [(0, vR b 0)] [] := by
  unfold m_fresh_B41 at h
  refine r_aload_n (pc := 41) C 0 rfl rfl dX12_fresh_41 ?_
  refine r_getI (pc := 42) C fl_RX12_36 m_s0 (by decide) m_k8 dX12_fresh_42 ?_
  refine r_if_ne (pc := 45) (tgt := 68) C h dX12_fresh_45 (by decide) (fun hc45 h => ?_) (fun hc45 h => ?_)
  · refine r_sub (lv' := [(0, vR b 0)]) [0] rfl ?_
    exact w_m_fresh_B68 C hr h
  · refine r_aload_n (pc := 48) C 0 rfl rfl dX12_fresh_48 ?_
    refine r_aload_n (pc := 49) C 0 rfl rfl dX12_fresh_49 ?_
    refine r_getL (pc := 50) C fl_RX12_32 m_s0 (by decide) m_k7 dX12_fresh_50 ?_
    obtain ⟨r4, hq4, h⟩ := bnd_inv h
    refine r_callV (pc := 53) (rest := []) (st1 := [vB r4]) C (mExtOK b) [vL (M 0 7)] (c_m_isNamed l hq4) cl_RX12_344 m_s0 (by decide) rfl rfl rfl rfl ⟨Nat.le_of_ble_eq_true rfl, Nat.le_of_ble_eq_true rfl⟩ (Nat.le_of_ble_eq_true rfl) rfl rfl dX12_fresh_53 ?_
    refine r_if_eqB (pc := 56) (tgt := 68) C h dX12_fresh_56 (by decide) (fun hc56 h => ?_) (fun hc56 h => ?_)
    · refine r_aload_n (pc := 59) C 0 rfl rfl dX12_fresh_59 ?_
      refine r_iconst (pc := 60) C dX12_fresh_60 ?_
      refine r_aload_n (pc := 61) C 0 rfl rfl dX12_fresh_61 ?_
      refine r_getI (pc := 62) C fl_RX12_23 m_s0 (by decide) m_k4 dX12_fresh_62 ?_
      obtain ⟨M5, hq5, h⟩ := bnd_inv h
      refine r_callV (pc := 65) (rest := []) (st1 := []) C (mExtOK b) [vI 2, vI (M 0 4)] (c_m_blame l hq5) cl_RX12_233 m_s0 (by decide) rfl rfl rfl rfl ⟨Nat.le_of_ble_eq_true rfl, Nat.le_of_ble_eq_true rfl⟩ (Nat.le_of_ble_eq_true rfl) rfl rfl dX12_fresh_65 ?_
      refine r_sub (lv' := [(0, vR b 0)]) [0] rfl ?_
      exact w_m_fresh_B68 C hr h
    · refine r_sub (lv' := [(0, vR b 0)]) [0] rfl ?_
      exact w_m_fresh_B68 C hr h
set_option maxHeartbeats 4000000 in
set_option maxRecDepth 20000 in
theorem w_m_fresh_B32 (C : mCX p s m args meth c cX12_fresh 3 RX12 D E b) (hr : meth.sig.returnType = (some .long)) {r0 : Int} {M0 : Mem} {M : Mem} (h : m_fresh_B32 M = some (r0, M0)) :
    mWX p l e 3 58 s m args below meth c 3 D E b (some (vL r0)) M0 M 32 [(0, vR b 0)] [] := by
  unfold m_fresh_B32 at h
  refine r_aload_n (pc := 32) C 0 rfl rfl dX12_fresh_32 ?_
  refine r_iconst (pc := 33) C dX12_fresh_33 ?_
  refine r_aload_n (pc := 34) C 0 rfl rfl dX12_fresh_34 ?_
  refine r_getI (pc := 35) C fl_RX12_23 m_s0 (by decide) m_k4 dX12_fresh_35 ?_
  obtain ⟨M2, hq2, h⟩ := bnd_inv h
  refine r_callV (pc := 38) (rest := []) (st1 := []) C (mExtOK b) [vI 1, vI (M 0 4)] (c_m_blame l hq2) cl_RX12_233 m_s0 (by decide) rfl rfl rfl rfl ⟨Nat.le_of_ble_eq_true rfl, Nat.le_of_ble_eq_true rfl⟩ (Nat.le_of_ble_eq_true rfl) rfl rfl dX12_fresh_38 ?_
  refine r_sub (lv' := [(0, vR b 0)]) [0] rfl ?_
  exact w_m_fresh_B41 C hr h
set_option maxHeartbeats 4000000 in
set_option maxRecDepth 20000 in
theorem c_m_fresh (l : Launch) {M : Mem} {r0 : Int} {M0 : Mem} (h : m_fresh M = some (r0, M0)) : Ct l yX12_fresh cX12_fresh 3 (some .long) 3 58 vwCl mSh mN mRf mExt (fun b => [vR b 0]) M (fun b => (some (vL r0))) M0 := by
  refine Ct_of mExtOK (by decide) (fun b => Nat.le_of_ble_eq_true rfl) ?_
  intro p e s m args below meth c D E b C hr
  unfold m_fresh at h
  refine (show mWX p l e 3 58 s m args below meth c 3 D E b (some (vL r0)) M0 M 0 [(0, vR b 0)] [] from ?_)
  refine r_aload_n (pc := 0) C 0 rfl rfl dX12_fresh_0 ?_
  obtain ⟨M1, hq1, h⟩ := bnd_inv h
  refine r_callV (pc := 1) (rest := []) (st1 := []) C (mExtOK b) [] (c_m_lex l hq1) cl_RX12_244 m_s0 (by decide) rfl rfl rfl rfl ⟨Nat.le_of_ble_eq_true rfl, Nat.le_of_ble_eq_true rfl⟩ (Nat.le_of_ble_eq_true rfl) rfl rfl dX12_fresh_1 ?_
  refine r_aload_n (pc := 4) C 0 rfl rfl dX12_fresh_4 ?_
  refine r_getI (pc := 5) C fl_RX12_36 m_s0 (by decide) m_k8 dX12_fresh_5 ?_
  refine r_if_le (pc := 8) (tgt := 13) C h dX12_fresh_8 (by decide) (fun hc8 h => ?_) (fun hc8 h => ?_)
  · refine r_aload_n (pc := 13) C 0 rfl rfl dX12_fresh_13 ?_
    refine r_getI (pc := 14) C fl_RX12_20 m_s0 (by decide) m_k3 dX12_fresh_14 ?_
    refine r_iconst (pc := 17) C dX12_fresh_17 ?_
    refine r_icmp_ne (pc := 18) (tgt := 32) C h dX12_fresh_18 (by decide) (fun hc18 h => ?_) (fun hc18 h => ?_)
    · refine r_sub (lv' := [(0, vR b 0)]) [0] rfl ?_
      exact w_m_fresh_B32 C hr h
    · refine r_aload_n (pc := 21) C 0 rfl rfl dX12_fresh_21 ?_
      refine r_aload_n (pc := 22) C 0 rfl rfl dX12_fresh_22 ?_
      refine r_getL (pc := 23) C fl_RX12_32 m_s0 (by decide) m_k7 dX12_fresh_23 ?_
      obtain ⟨r6, hq6, h⟩ := bnd_inv h
      refine r_callV (pc := 26) (rest := []) (st1 := [vB r6]) C (mExtOK b) [vL (M1 0 7)] (c_m_isOwn l hq6) cl_RX12_341 m_s0 (by decide) rfl rfl rfl rfl ⟨Nat.le_of_ble_eq_true rfl, Nat.le_of_ble_eq_true rfl⟩ (Nat.le_of_ble_eq_true rfl) rfl rfl dX12_fresh_26 ?_
      refine r_if_eqB (pc := 29) (tgt := 41) C h dX12_fresh_29 (by decide) (fun hc29 h => ?_) (fun hc29 h => ?_)
      · refine r_sub (lv' := [(0, vR b 0)]) [0] rfl ?_
        exact w_m_fresh_B32 C hr h
      · refine r_sub (lv' := [(0, vR b 0)]) [0] rfl ?_
        exact w_m_fresh_B41 C hr h
  · refine r_lconst (pc := 11) (j := 0) C rfl dX12_fresh_11 ?_
    have e := Option.some.inj h
    exact r_lret (pc := 12) C hr (congrArg (fun z => some (vL z)) (Prod.mk.inj e).1.symm) (Prod.mk.inj e).2.symm dX12_fresh_12
set_option maxHeartbeats 4000000 in
set_option maxRecDepth 20000 in
theorem w_m_voicing_B20 (C : mCX p s m args meth c cX12_voicing 2 RX12 D E b) (hr : meth.sig.returnType = none) {M0 : Mem} {M : Mem} {s1 : Int} (h : m_voicing_B20 s1 M = some M0) :
    mWX p l e 4 80 s m args below meth c 2 D E b none M0 M 20 [(0, vR b 0)] [vI s1, vR b 0] := by
  unfold m_voicing_B20 at h
  obtain ⟨r1, M1, hq1, h⟩ := bnd2_inv h
  refine r_callV (pc := 20) (rest := []) (st1 := [vB r1]) C (mExtOK b) [vI s1] (c_m_isCounted l hq1) cl_RX12_347 m_s0 (by decide) rfl rfl rfl rfl ⟨Nat.le_of_ble_eq_true rfl, Nat.le_of_ble_eq_true rfl⟩ (Nat.le_of_ble_eq_true rfl) rfl rfl dX12_voicing_20 ?_
  refine r_if_neB (pc := 23) (tgt := 27) C h dX12_voicing_23 (by decide) (fun hc23 h => ?_) (fun hc23 h => ?_)
  · refine r_bipush (pc := 27) (j := 7) C (by decide +kernel) dX12_voicing_27 ?_
    refine r_aload_n (pc := 29) C 0 rfl rfl dX12_voicing_29 ?_
    refine r_getI (pc := 30) C fl_RX12_106 m_s0 (by decide) m_k31 dX12_voicing_30 ?_
    refine r_imul (pc := 33) C dX12_voicing_33 ?_
    refine r_aload_n (pc := 34) C 0 rfl rfl dX12_voicing_34 ?_
    refine r_getR (pc := 35) C fl_RX12_54 m_s0 (by decide) m_k14 m_r14 dX12_voicing_35 ?_
    refine r_aload_n (pc := 38) C 0 rfl rfl dX12_voicing_38 ?_
    refine r_getI (pc := 39) C fl_RX12_106 m_s0 (by decide) m_k31 dX12_voicing_39 ?_
    obtain ⟨hi42, h⟩ := chk_inv h
    refine r_iald (pc := 42) C m_s2 (by decide) (by decide) hi42 rfl dX12_voicing_42 ?_
    refine r_iadd (pc := 43) C dX12_voicing_43 ?_
    obtain ⟨v1_44, hv1_44, h⟩ := lt_inv h
    refine r_topI hv1_44 ?_
    refine r_istore_n (pc := 44) (lv' := [(1, vI v1_44), (0, vR b 0)]) C rfl dX12_voicing_44 (by decide) rfl ?_
    refine r_aload_n (pc := 45) C 1 rfl rfl dX12_voicing_45 ?_
    refine r_getR (pc := 46) C fl_RX12_96 m_s0 (by decide) m_k28 m_r28 dX12_voicing_46 ?_
    refine r_iload_n (pc := 49) C 0 rfl rfl dX12_voicing_49 ?_
    refine r_aload_n (pc := 50) C 1 rfl rfl dX12_voicing_50 ?_
    obtain ⟨r2, M2, hq2, h⟩ := bnd2_inv h
    refine r_callV (pc := 51) (rest := [vI v1_44, vR b 16]) (st1 := [vL r2, vI v1_44, vR b 16]) C (mExtOK b) [] (c_m_fresh l hq2) cl_RX12_351 m_s0 (by decide) rfl rfl rfl rfl ⟨Nat.le_of_ble_eq_true rfl, Nat.le_of_ble_eq_true rfl⟩ (Nat.le_of_ble_eq_true rfl) rfl rfl dX12_voicing_51 ?_
    obtain ⟨hi54, h⟩ := chk_inv h
    obtain ⟨M_54, hM_54, h⟩ := lt_inv h
    refine r_last (pc := 54) C m_s16 (by decide) (by decide) hi54 rfl hM_54 dX12_voicing_54 ?_
    refine r_aload_n (pc := 55) C 1 rfl rfl dX12_voicing_55 ?_
    refine r_ldc2 (pc := 56) (j := 482805572456) C (by decide +kernel) gk_RX12_255 dX12_voicing_56 ?_
    obtain ⟨M3, hq3, h⟩ := bnd_inv h
    refine r_callV (pc := 59) (rest := []) (st1 := []) C (mExtOK b) [vL 482805572456] (c_m_must_ l hq3) cl_RX12_355 m_s0 (by decide) rfl rfl rfl rfl ⟨Nat.le_of_ble_eq_true rfl, Nat.le_of_ble_eq_true rfl⟩ (Nat.le_of_ble_eq_true rfl) rfl rfl dX12_voicing_59 ?_
    refine r_aload_n (pc := 62) C 1 rfl rfl dX12_voicing_62 ?_
    refine r_getR (pc := 63) C fl_RX12_57 m_s0 (by decide) m_k15 m_r15 dX12_voicing_63 ?_
    refine r_iload_n (pc := 66) C 0 rfl rfl dX12_voicing_66 ?_
    refine r_aload_n (pc := 67) C 1 rfl rfl dX12_voicing_67 ?_
    refine r_iconst (pc := 68) C dX12_voicing_68 ?_
    refine r_bipush (pc := 69) (j := 9) C (by decide +kernel) dX12_voicing_69 ?_
    obtain ⟨r4, M4, hq4, h⟩ := bnd2_inv h
    refine r_callV (pc := 71) (rest := [vI v1_44, vR b 3]) (st1 := [vI r4, vI v1_44, vR b 3]) C (mExtOK b) [vI 0, vI 9] (c_m_number l hq4) cl_RX12_359 m_s0 (by decide) rfl rfl rfl rfl ⟨Nat.le_of_ble_eq_true rfl, Nat.le_of_ble_eq_true rfl⟩ (Nat.le_of_ble_eq_true rfl) rfl rfl dX12_voicing_71 ?_
    obtain ⟨hi74, h⟩ := chk_inv h
    obtain ⟨M_74, hM_74, h⟩ := lt_inv h
    refine r_iast (pc := 74) C m_s3 (by decide) (by decide) hi74 rfl hM_74 dX12_voicing_74 ?_
    refine r_aload_n (pc := 75) C 1 rfl rfl dX12_voicing_75 ?_
    refine r_getI (pc := 76) C fl_RX12_36 m_s0 (by decide) m_k8 dX12_voicing_76 ?_
    refine r_if_ne (pc := 79) (tgt := 95) C h dX12_voicing_79 (by decide) (fun hc79 h => ?_) (fun hc79 h => ?_)
    · have e := Option.some.inj h
      exact r_vret (pc := 95) C hr rfl e.symm dX12_voicing_95
    · refine r_aload_n (pc := 82) C 1 rfl rfl dX12_voicing_82 ?_
      refine r_getR (pc := 83) C fl_RX12_54 m_s0 (by decide) m_k14 m_r14 dX12_voicing_83 ?_
      refine r_aload_n (pc := 86) C 1 rfl rfl dX12_voicing_86 ?_
      refine r_getI (pc := 87) C fl_RX12_106 m_s0 (by decide) m_k31 dX12_voicing_87 ?_
      refine r_dup2 (pc := 90) C rfl rfl dX12_voicing_90 ?_
      obtain ⟨hi91, h⟩ := chk_inv h
      refine r_iald (pc := 91) C m_s2 (by decide) (by decide) hi91 rfl dX12_voicing_91 ?_
      refine r_iconst (pc := 92) C dX12_voicing_92 ?_
      refine r_iadd (pc := 93) C dX12_voicing_93 ?_
      obtain ⟨hi94, h⟩ := chk_inv h
      obtain ⟨M_94, hM_94, h⟩ := lt_inv h
      refine r_iast (pc := 94) C m_s2 (by decide) (by decide) hi94 rfl hM_94 dX12_voicing_94 ?_
      have e := Option.some.inj h
      exact r_vret (pc := 95) C hr rfl e.symm dX12_voicing_95
  · have e := Option.some.inj h
    exact r_vret (pc := 26) C hr rfl e.symm dX12_voicing_26
set_option maxHeartbeats 4000000 in
set_option maxRecDepth 20000 in
theorem c_m_voicing (l : Launch) {M : Mem} {M0 : Mem} (h : m_voicing M = some M0) : Ct l yX12_voicing cX12_voicing 2 none 4 80 vwCl mSh mN mRf mExt (fun b => [vR b 0]) M (fun b => none) M0 := by
  refine Ct_of mExtOK (by decide) (fun b => Nat.le_of_ble_eq_true rfl) ?_
  intro p e s m args below meth c D E b C hr
  unfold m_voicing at h
  refine (show mWX p l e 4 80 s m args below meth c 2 D E b none M0 M 0 [(0, vR b 0)] [] from ?_)
  refine r_aload_n (pc := 0) C 0 rfl rfl dX12_voicing_0 ?_
  refine r_aload_n (pc := 1) C 0 rfl rfl dX12_voicing_1 ?_
  refine r_getR (pc := 2) C fl_RX12_54 m_s0 (by decide) m_k14 m_r14 dX12_voicing_2 ?_
  refine r_aload_n (pc := 5) C 0 rfl rfl dX12_voicing_5 ?_
  refine r_getI (pc := 6) C fl_RX12_106 m_s0 (by decide) m_k31 dX12_voicing_6 ?_
  obtain ⟨hi9, h⟩ := chk_inv h
  refine r_iald (pc := 9) C m_s2 (by decide) (by decide) hi9 rfl dX12_voicing_9 ?_
  refine r_bipush (pc := 10) (j := 7) C (by decide +kernel) dX12_voicing_10 ?_
  refine r_icmp_ne (pc := 12) (tgt := 19) C h dX12_voicing_12 (by decide) (fun hc12 h => ?_) (fun hc12 h => ?_)
  · refine r_iconst (pc := 19) C dX12_voicing_19 ?_
    refine r_sub (lv' := [(0, vR b 0)]) [0] rfl ?_
    exact w_m_voicing_B20 C hr h
  · refine r_iconst (pc := 15) C dX12_voicing_15 ?_
    refine r_goto (pc := 16) (tgt := 20) C dX12_voicing_16 (by decide) ?_
    refine r_sub (lv' := [(0, vR b 0)]) [0] rfl ?_
    exact w_m_voicing_B20 C hr h
set_option maxHeartbeats 4000000 in
set_option maxRecDepth 20000 in
theorem w_m_personing_B20 (C : mCX p s m args meth c cX12_personing 2 RX12 D E b) (hr : meth.sig.returnType = none) {M0 : Mem} {M : Mem} {s1 : Int} (h : m_personing_B20 s1 M = some M0) :
    mWX p l e 4 80 s m args below meth c 2 D E b none M0 M 20 [(0, vR b 0)] [vI s1, vR b 0] := by
  unfold m_personing_B20 at h
  obtain ⟨r1, M1, hq1, h⟩ := bnd2_inv h
  refine r_callV (pc := 20) (rest := []) (st1 := [vB r1]) C (mExtOK b) [vI s1] (c_m_isCounted l hq1) cl_RX12_347 m_s0 (by decide) rfl rfl rfl rfl ⟨Nat.le_of_ble_eq_true rfl, Nat.le_of_ble_eq_true rfl⟩ (Nat.le_of_ble_eq_true rfl) rfl rfl dX12_personing_20 ?_
  refine r_if_neB (pc := 23) (tgt := 27) C h dX12_personing_23 (by decide) (fun hc23 h => ?_) (fun hc23 h => ?_)
  · refine r_bipush (pc := 27) (j := 8) C (by decide +kernel) dX12_personing_27 ?_
    refine r_aload_n (pc := 29) C 0 rfl rfl dX12_personing_29 ?_
    refine r_getI (pc := 30) C fl_RX12_106 m_s0 (by decide) m_k31 dX12_personing_30 ?_
    refine r_imul (pc := 33) C dX12_personing_33 ?_
    refine r_aload_n (pc := 34) C 0 rfl rfl dX12_personing_34 ?_
    refine r_getR (pc := 35) C fl_RX12_60 m_s0 (by decide) m_k16 m_r16 dX12_personing_35 ?_
    refine r_aload_n (pc := 38) C 0 rfl rfl dX12_personing_38 ?_
    refine r_getI (pc := 39) C fl_RX12_106 m_s0 (by decide) m_k31 dX12_personing_39 ?_
    obtain ⟨hi42, h⟩ := chk_inv h
    refine r_iald (pc := 42) C m_s4 (by decide) (by decide) hi42 rfl dX12_personing_42 ?_
    refine r_iadd (pc := 43) C dX12_personing_43 ?_
    obtain ⟨v1_44, hv1_44, h⟩ := lt_inv h
    refine r_topI hv1_44 ?_
    refine r_istore_n (pc := 44) (lv' := [(1, vI v1_44), (0, vR b 0)]) C rfl dX12_personing_44 (by decide) rfl ?_
    refine r_aload_n (pc := 45) C 1 rfl rfl dX12_personing_45 ?_
    refine r_getR (pc := 46) C fl_RX12_100 m_s0 (by decide) m_k29 m_r29 dX12_personing_46 ?_
    refine r_iload_n (pc := 49) C 0 rfl rfl dX12_personing_49 ?_
    refine r_aload_n (pc := 50) C 1 rfl rfl dX12_personing_50 ?_
    obtain ⟨r2, M2, hq2, h⟩ := bnd2_inv h
    refine r_callV (pc := 51) (rest := [vI v1_44, vR b 17]) (st1 := [vL r2, vI v1_44, vR b 17]) C (mExtOK b) [] (c_m_fresh l hq2) cl_RX12_351 m_s0 (by decide) rfl rfl rfl rfl ⟨Nat.le_of_ble_eq_true rfl, Nat.le_of_ble_eq_true rfl⟩ (Nat.le_of_ble_eq_true rfl) rfl rfl dX12_personing_51 ?_
    obtain ⟨hi54, h⟩ := chk_inv h
    obtain ⟨M_54, hM_54, h⟩ := lt_inv h
    refine r_last (pc := 54) C m_s17 (by decide) (by decide) hi54 rfl hM_54 dX12_personing_54 ?_
    refine r_aload_n (pc := 55) C 1 rfl rfl dX12_personing_55 ?_
    refine r_ldc2 (pc := 56) (j := 482805572456) C (by decide +kernel) gk_RX12_255 dX12_personing_56 ?_
    obtain ⟨M3, hq3, h⟩ := bnd_inv h
    refine r_callV (pc := 59) (rest := []) (st1 := []) C (mExtOK b) [vL 482805572456] (c_m_must_ l hq3) cl_RX12_355 m_s0 (by decide) rfl rfl rfl rfl ⟨Nat.le_of_ble_eq_true rfl, Nat.le_of_ble_eq_true rfl⟩ (Nat.le_of_ble_eq_true rfl) rfl rfl dX12_personing_59 ?_
    refine r_aload_n (pc := 62) C 1 rfl rfl dX12_personing_62 ?_
    refine r_getR (pc := 63) C fl_RX12_63 m_s0 (by decide) m_k17 m_r17 dX12_personing_63 ?_
    refine r_iload_n (pc := 66) C 0 rfl rfl dX12_personing_66 ?_
    refine r_aload_n (pc := 67) C 1 rfl rfl dX12_personing_67 ?_
    refine r_iconst (pc := 68) C dX12_personing_68 ?_
    refine r_bipush (pc := 69) (j := 9) C (by decide +kernel) dX12_personing_69 ?_
    obtain ⟨r4, M4, hq4, h⟩ := bnd2_inv h
    refine r_callV (pc := 71) (rest := [vI v1_44, vR b 5]) (st1 := [vI r4, vI v1_44, vR b 5]) C (mExtOK b) [vI 0, vI 9] (c_m_number l hq4) cl_RX12_359 m_s0 (by decide) rfl rfl rfl rfl ⟨Nat.le_of_ble_eq_true rfl, Nat.le_of_ble_eq_true rfl⟩ (Nat.le_of_ble_eq_true rfl) rfl rfl dX12_personing_71 ?_
    obtain ⟨hi74, h⟩ := chk_inv h
    obtain ⟨M_74, hM_74, h⟩ := lt_inv h
    refine r_iast (pc := 74) C m_s5 (by decide) (by decide) hi74 rfl hM_74 dX12_personing_74 ?_
    refine r_aload_n (pc := 75) C 1 rfl rfl dX12_personing_75 ?_
    refine r_ldc2 (pc := 76) (j := 1667329133) C (by decide +kernel) gk_RX12_259 dX12_personing_76 ?_
    obtain ⟨M5, hq5, h⟩ := bnd_inv h
    refine r_callV (pc := 79) (rest := []) (st1 := []) C (mExtOK b) [vL 1667329133] (c_m_must_ l hq5) cl_RX12_355 m_s0 (by decide) rfl rfl rfl rfl ⟨Nat.le_of_ble_eq_true rfl, Nat.le_of_ble_eq_true rfl⟩ (Nat.le_of_ble_eq_true rfl) rfl rfl dX12_personing_79 ?_
    refine r_aload_n (pc := 82) C 1 rfl rfl dX12_personing_82 ?_
    refine r_getR (pc := 83) C fl_RX12_66 m_s0 (by decide) m_k18 m_r18 dX12_personing_83 ?_
    refine r_iload_n (pc := 86) C 0 rfl rfl dX12_personing_86 ?_
    refine r_aload_n (pc := 87) C 1 rfl rfl dX12_personing_87 ?_
    refine r_iconst (pc := 88) C dX12_personing_88 ?_
    refine r_bipush (pc := 89) (j := 99) C (by decide +kernel) dX12_personing_89 ?_
    obtain ⟨r6, M6, hq6, h⟩ := bnd2_inv h
    refine r_callV (pc := 91) (rest := [vI v1_44, vR b 6]) (st1 := [vI r6, vI v1_44, vR b 6]) C (mExtOK b) [vI 0, vI 99] (c_m_number l hq6) cl_RX12_359 m_s0 (by decide) rfl rfl rfl rfl ⟨Nat.le_of_ble_eq_true rfl, Nat.le_of_ble_eq_true rfl⟩ (Nat.le_of_ble_eq_true rfl) rfl rfl dX12_personing_91 ?_
    obtain ⟨hi94, h⟩ := chk_inv h
    obtain ⟨M_94, hM_94, h⟩ := lt_inv h
    refine r_iast (pc := 94) C m_s6 (by decide) (by decide) hi94 rfl hM_94 dX12_personing_94 ?_
    refine r_aload_n (pc := 95) C 1 rfl rfl dX12_personing_95 ?_
    refine r_getI (pc := 96) C fl_RX12_36 m_s0 (by decide) m_k8 dX12_personing_96 ?_
    refine r_if_ne (pc := 99) (tgt := 115) C h dX12_personing_99 (by decide) (fun hc99 h => ?_) (fun hc99 h => ?_)
    · have e := Option.some.inj h
      exact r_vret (pc := 115) C hr rfl e.symm dX12_personing_115
    · refine r_aload_n (pc := 102) C 1 rfl rfl dX12_personing_102 ?_
      refine r_getR (pc := 103) C fl_RX12_60 m_s0 (by decide) m_k16 m_r16 dX12_personing_103 ?_
      refine r_aload_n (pc := 106) C 1 rfl rfl dX12_personing_106 ?_
      refine r_getI (pc := 107) C fl_RX12_106 m_s0 (by decide) m_k31 dX12_personing_107 ?_
      refine r_dup2 (pc := 110) C rfl rfl dX12_personing_110 ?_
      obtain ⟨hi111, h⟩ := chk_inv h
      refine r_iald (pc := 111) C m_s4 (by decide) (by decide) hi111 rfl dX12_personing_111 ?_
      refine r_iconst (pc := 112) C dX12_personing_112 ?_
      refine r_iadd (pc := 113) C dX12_personing_113 ?_
      obtain ⟨hi114, h⟩ := chk_inv h
      obtain ⟨M_114, hM_114, h⟩ := lt_inv h
      refine r_iast (pc := 114) C m_s4 (by decide) (by decide) hi114 rfl hM_114 dX12_personing_114 ?_
      have e := Option.some.inj h
      exact r_vret (pc := 115) C hr rfl e.symm dX12_personing_115
  · have e := Option.some.inj h
    exact r_vret (pc := 26) C hr rfl e.symm dX12_personing_26
set_option maxHeartbeats 4000000 in
set_option maxRecDepth 20000 in
theorem c_m_personing (l : Launch) {M : Mem} {M0 : Mem} (h : m_personing M = some M0) : Ct l yX12_personing cX12_personing 2 none 4 80 vwCl mSh mN mRf mExt (fun b => [vR b 0]) M (fun b => none) M0 := by
  refine Ct_of mExtOK (by decide) (fun b => Nat.le_of_ble_eq_true rfl) ?_
  intro p e s m args below meth c D E b C hr
  unfold m_personing at h
  refine (show mWX p l e 4 80 s m args below meth c 2 D E b none M0 M 0 [(0, vR b 0)] [] from ?_)
  refine r_aload_n (pc := 0) C 0 rfl rfl dX12_personing_0 ?_
  refine r_aload_n (pc := 1) C 0 rfl rfl dX12_personing_1 ?_
  refine r_getR (pc := 2) C fl_RX12_60 m_s0 (by decide) m_k16 m_r16 dX12_personing_2 ?_
  refine r_aload_n (pc := 5) C 0 rfl rfl dX12_personing_5 ?_
  refine r_getI (pc := 6) C fl_RX12_106 m_s0 (by decide) m_k31 dX12_personing_6 ?_
  obtain ⟨hi9, h⟩ := chk_inv h
  refine r_iald (pc := 9) C m_s4 (by decide) (by decide) hi9 rfl dX12_personing_9 ?_
  refine r_bipush (pc := 10) (j := 8) C (by decide +kernel) dX12_personing_10 ?_
  refine r_icmp_ne (pc := 12) (tgt := 19) C h dX12_personing_12 (by decide) (fun hc12 h => ?_) (fun hc12 h => ?_)
  · refine r_iconst (pc := 19) C dX12_personing_19 ?_
    refine r_sub (lv' := [(0, vR b 0)]) [0] rfl ?_
    exact w_m_personing_B20 C hr h
  · refine r_iconst (pc := 15) C dX12_personing_15 ?_
    refine r_goto (pc := 16) (tgt := 20) C dX12_personing_16 (by decide) ?_
    refine r_sub (lv' := [(0, vR b 0)]) [0] rfl ?_
    exact w_m_personing_B20 C hr h
set_option maxHeartbeats 4000000 in
set_option maxRecDepth 20000 in
theorem w_m_wanting_B108 (C : mCX p s m args meth c cX12_wanting 3 RX12 D E b) (hr : meth.sig.returnType = none) {M0 : Mem} {M : Mem} {v1 : Int} (h : m_wanting_B108 v1 M = some M0) :
    mWX p l e 4 80 s m args below meth c 3 D E b none M0 M 108 [(0, vR b 0), (1, vI v1)] [] := by
  unfold m_wanting_B108 at h
  refine r_aload_n (pc := 108) C 0 rfl rfl dX12_wanting_108 ?_
  refine r_getI (pc := 109) C fl_RX12_36 m_s0 (by decide) m_k8 dX12_wanting_109 ?_
  refine r_if_le (pc := 112) (tgt := 116) C h dX12_wanting_112 (by decide) (fun hc112 h => ?_) (fun hc112 h => ?_)
  · refine r_aload_n (pc := 116) C 0 rfl rfl dX12_wanting_116 ?_
    obtain ⟨M5, hq5, h⟩ := bnd_inv h
    refine r_callV (pc := 117) (rest := []) (st1 := []) C (mExtOK b) [] (c_m_ahead l hq5) cl_RX12_250 m_s0 (by decide) rfl rfl rfl rfl ⟨Nat.le_of_ble_eq_true rfl, Nat.le_of_ble_eq_true rfl⟩ (Nat.le_of_ble_eq_true rfl) rfl rfl dX12_wanting_117 ?_
    refine r_bipush (pc := 120) (j := 12) C (by decide +kernel) dX12_wanting_120 ?_
    refine r_aload_n (pc := 122) C 0 rfl rfl dX12_wanting_122 ?_
    refine r_getI (pc := 123) C fl_RX12_106 m_s0 (by decide) m_k31 dX12_wanting_123 ?_
    refine r_imul (pc := 126) C dX12_wanting_126 ?_
    refine r_aload_n (pc := 127) C 0 rfl rfl dX12_wanting_127 ?_
    refine r_getR (pc := 128) C fl_RX12_69 m_s0 (by decide) m_k19 m_r19 dX12_wanting_128 ?_
    refine r_aload_n (pc := 131) C 0 rfl rfl dX12_wanting_131 ?_
    refine r_getI (pc := 132) C fl_RX12_106 m_s0 (by decide) m_k31 dX12_wanting_132 ?_
    obtain ⟨hi135, h⟩ := chk_inv h
    refine r_iald (pc := 135) C m_s7 (by decide) (by decide) hi135 rfl dX12_wanting_135 ?_
    refine r_iadd (pc := 136) C dX12_wanting_136 ?_
    obtain ⟨v2_137, hv2_137, h⟩ := lt_inv h
    refine r_topI hv2_137 ?_
    refine r_istore_n (pc := 137) (lv' := [(2, vI v2_137), (0, vR b 0), (1, vI v1)]) C rfl dX12_wanting_137 (by decide) rfl ?_
    refine r_aload_n (pc := 138) C 1 rfl rfl dX12_wanting_138 ?_
    refine r_getR (pc := 139) C fl_RX12_72 m_s0 (by decide) m_k20 m_r20 dX12_wanting_139 ?_
    refine r_iload_n (pc := 142) C 0 rfl rfl dX12_wanting_142 ?_
    refine r_iload_n (pc := 143) C 2 rfl rfl dX12_wanting_143 ?_
    obtain ⟨hi144, h⟩ := chk_inv h
    obtain ⟨M_144, hM_144, h⟩ := lt_inv h
    refine r_iast (pc := 144) C m_s8 (by decide) (by decide) hi144 rfl hM_144 dX12_wanting_144 ?_
    refine r_aload_n (pc := 145) C 1 rfl rfl dX12_wanting_145 ?_
    refine r_ldc2 (pc := 146) (j := 24948) C (by decide +kernel) gk_RX12_263 dX12_wanting_146 ?_
    obtain ⟨M6, hq6, h⟩ := bnd_inv h
    refine r_callV (pc := 149) (rest := []) (st1 := []) C (mExtOK b) [vL 24948] (c_m_must_ l hq6) cl_RX12_355 m_s0 (by decide) rfl rfl rfl rfl ⟨Nat.le_of_ble_eq_true rfl, Nat.le_of_ble_eq_true rfl⟩ (Nat.le_of_ble_eq_true rfl) rfl rfl dX12_wanting_149 ?_
    refine r_aload_n (pc := 152) C 1 rfl rfl dX12_wanting_152 ?_
    refine r_getR (pc := 153) C fl_RX12_75 m_s0 (by decide) m_k21 m_r21 dX12_wanting_153 ?_
    refine r_iload_n (pc := 156) C 0 rfl rfl dX12_wanting_156 ?_
    refine r_aload_n (pc := 157) C 1 rfl rfl dX12_wanting_157 ?_
    refine r_iconst (pc := 158) C dX12_wanting_158 ?_
    refine r_sipush (pc := 159) (j := 999) C (by decide +kernel) dX12_wanting_159 ?_
    obtain ⟨r7, M7, hq7, h⟩ := bnd2_inv h
    refine r_callV (pc := 162) (rest := [vI v2_137, vR b 9]) (st1 := [vI r7, vI v2_137, vR b 9]) C (mExtOK b) [vI 0, vI 999] (c_m_number l hq7) cl_RX12_359 m_s0 (by decide) rfl rfl rfl rfl ⟨Nat.le_of_ble_eq_true rfl, Nat.le_of_ble_eq_true rfl⟩ (Nat.le_of_ble_eq_true rfl) rfl rfl dX12_wanting_162 ?_
    obtain ⟨hi165, h⟩ := chk_inv h
    obtain ⟨M_165, hM_165, h⟩ := lt_inv h
    refine r_iast (pc := 165) C m_s9 (by decide) (by decide) hi165 rfl hM_165 dX12_wanting_165 ?_
    refine r_aload_n (pc := 166) C 1 rfl rfl dX12_wanting_166 ?_
    refine r_ldc2 (pc := 167) (j := 1819242087) C (by decide +kernel) gk_RX12_265 dX12_wanting_167 ?_
    obtain ⟨M8, hq8, h⟩ := bnd_inv h
    refine r_callV (pc := 170) (rest := []) (st1 := []) C (mExtOK b) [vL 1819242087] (c_m_must_ l hq8) cl_RX12_355 m_s0 (by decide) rfl rfl rfl rfl ⟨Nat.le_of_ble_eq_true rfl, Nat.le_of_ble_eq_true rfl⟩ (Nat.le_of_ble_eq_true rfl) rfl rfl dX12_wanting_170 ?_
    refine r_aload_n (pc := 173) C 1 rfl rfl dX12_wanting_173 ?_
    refine r_getR (pc := 174) C fl_RX12_78 m_s0 (by decide) m_k22 m_r22 dX12_wanting_174 ?_
    refine r_iload_n (pc := 177) C 0 rfl rfl dX12_wanting_177 ?_
    refine r_aload_n (pc := 178) C 1 rfl rfl dX12_wanting_178 ?_
    refine r_iconst (pc := 179) C dX12_wanting_179 ?_
    refine r_bipush (pc := 180) (j := 20) C (by decide +kernel) dX12_wanting_180 ?_
    obtain ⟨r9, M9, hq9, h⟩ := bnd2_inv h
    refine r_callV (pc := 182) (rest := [vI v2_137, vR b 10]) (st1 := [vI r9, vI v2_137, vR b 10]) C (mExtOK b) [vI 1, vI 20] (c_m_number l hq9) cl_RX12_359 m_s0 (by decide) rfl rfl rfl rfl ⟨Nat.le_of_ble_eq_true rfl, Nat.le_of_ble_eq_true rfl⟩ (Nat.le_of_ble_eq_true rfl) rfl rfl dX12_wanting_182 ?_
    obtain ⟨hi185, h⟩ := chk_inv h
    obtain ⟨M_185, hM_185, h⟩ := lt_inv h
    refine r_iast (pc := 185) C m_s10 (by decide) (by decide) hi185 rfl hM_185 dX12_wanting_185 ?_
    refine r_aload_n (pc := 186) C 1 rfl rfl dX12_wanting_186 ?_
    refine r_getI (pc := 187) C fl_RX12_36 m_s0 (by decide) m_k8 dX12_wanting_187 ?_
    refine r_if_ne (pc := 190) (tgt := 206) C h dX12_wanting_190 (by decide) (fun hc190 h => ?_) (fun hc190 h => ?_)
    · have e := Option.some.inj h
      exact r_vret (pc := 206) C hr rfl e.symm dX12_wanting_206
    · refine r_aload_n (pc := 193) C 1 rfl rfl dX12_wanting_193 ?_
      refine r_getR (pc := 194) C fl_RX12_69 m_s0 (by decide) m_k19 m_r19 dX12_wanting_194 ?_
      refine r_aload_n (pc := 197) C 1 rfl rfl dX12_wanting_197 ?_
      refine r_getI (pc := 198) C fl_RX12_106 m_s0 (by decide) m_k31 dX12_wanting_198 ?_
      refine r_dup2 (pc := 201) C rfl rfl dX12_wanting_201 ?_
      obtain ⟨hi202, h⟩ := chk_inv h
      refine r_iald (pc := 202) C m_s7 (by decide) (by decide) hi202 rfl dX12_wanting_202 ?_
      refine r_iconst (pc := 203) C dX12_wanting_203 ?_
      refine r_iadd (pc := 204) C dX12_wanting_204 ?_
      obtain ⟨hi205, h⟩ := chk_inv h
      obtain ⟨M_205, hM_205, h⟩ := lt_inv h
      refine r_iast (pc := 205) C m_s7 (by decide) (by decide) hi205 rfl hM_205 dX12_wanting_205 ?_
      have e := Option.some.inj h
      exact r_vret (pc := 206) C hr rfl e.symm dX12_wanting_206
  · have e := Option.some.inj h
    exact r_vret (pc := 115) C hr rfl e.symm dX12_wanting_115
set_option maxHeartbeats 4000000 in
set_option maxRecDepth 20000 in
theorem w_m_wanting_B86 (C : mCX p s m args meth c cX12_wanting 3 RX12 D E b) (hr : meth.sig.returnType = none) {M0 : Mem} {M : Mem} {s0 : Int} (h : m_wanting_B86 s0 M = some M0) :
    mWX p l e 4 80 s m args below meth c 3 D E b none M0 M 86 [(0, vR b 0)] [vI s0] := by
  unfold m_wanting_B86 at h
  refine r_istore_n (pc := 86) (lv' := [(1, vI s0), (0, vR b 0)]) C rfl dX12_wanting_86 (by decide) rfl ?_
  refine r_aload_n (pc := 87) C 1 rfl rfl dX12_wanting_87 ?_
  refine r_getI (pc := 88) C fl_RX12_36 m_s0 (by decide) m_k8 dX12_wanting_88 ?_
  refine r_if_ne (pc := 91) (tgt := 108) C h dX12_wanting_91 (by decide) (fun hc91 h => ?_) (fun hc91 h => ?_)
  · refine r_sub (lv' := [(0, vR b 0), (1, vI s0)]) [1, 0] rfl ?_
    exact w_m_wanting_B108 C hr h
  · refine r_iload_n (pc := 94) C 0 rfl rfl dX12_wanting_94 ?_
    refine r_iconst (pc := 95) C dX12_wanting_95 ?_
    refine r_icmp_ne (pc := 96) (tgt := 108) C h dX12_wanting_96 (by decide) (fun hc96 h => ?_) (fun hc96 h => ?_)
    · refine r_sub (lv' := [(0, vR b 0), (1, vI s0)]) [1, 0] rfl ?_
      exact w_m_wanting_B108 C hr h
    · refine r_aload_n (pc := 99) C 1 rfl rfl dX12_wanting_99 ?_
      refine r_iconst (pc := 100) C dX12_wanting_100 ?_
      refine r_aload_n (pc := 101) C 1 rfl rfl dX12_wanting_101 ?_
      refine r_getI (pc := 102) C fl_RX12_23 m_s0 (by decide) m_k4 dX12_wanting_102 ?_
      obtain ⟨M10, hq10, h⟩ := bnd_inv h
      refine r_callV (pc := 105) (rest := []) (st1 := []) C (mExtOK b) [vI 3, vI (M 0 4)] (c_m_blame l hq10) cl_RX12_233 m_s0 (by decide) rfl rfl rfl rfl ⟨Nat.le_of_ble_eq_true rfl, Nat.le_of_ble_eq_true rfl⟩ (Nat.le_of_ble_eq_true rfl) rfl rfl dX12_wanting_105 ?_
      refine r_sub (lv' := [(0, vR b 0), (1, vI s0)]) [1, 0] rfl ?_
      exact w_m_wanting_B108 C hr h
set_option maxHeartbeats 4000000 in
set_option maxRecDepth 20000 in
theorem w_m_wanting_B67 (C : mCX p s m args meth c cX12_wanting 3 RX12 D E b) (hr : meth.sig.returnType = none) {M0 : Mem} {M : Mem} (h : m_wanting_B67 M = some M0) :
    mWX p l e 4 80 s m args below meth c 3 D E b none M0 M 67 [(0, vR b 0)] [] := by
  unfold m_wanting_B67 at h
  refine r_aload_n (pc := 67) C 0 rfl rfl dX12_wanting_67 ?_
  refine r_getI (pc := 68) C fl_RX12_36 m_s0 (by decide) m_k8 dX12_wanting_68 ?_
  refine r_if_le (pc := 71) (tgt := 78) C h dX12_wanting_71 (by decide) (fun hc71 h => ?_) (fun hc71 h => ?_)
  · refine r_aload_n (pc := 78) C 0 rfl rfl dX12_wanting_78 ?_
    refine r_aload_n (pc := 79) C 0 rfl rfl dX12_wanting_79 ?_
    refine r_getL (pc := 80) C fl_RX12_32 m_s0 (by decide) m_k7 dX12_wanting_80 ?_
    obtain ⟨r4, hq4, h⟩ := bnd_inv h
    refine r_callV (pc := 83) (rest := []) (st1 := [vI r4]) C (mExtOK b) [vL (M 0 7)] (c_m_personNamed l hq4) cl_RX12_299 m_s0 (by decide) rfl rfl rfl rfl ⟨Nat.le_of_ble_eq_true rfl, Nat.le_of_ble_eq_true rfl⟩ (Nat.le_of_ble_eq_true rfl) rfl rfl dX12_wanting_83 ?_
    refine r_sub (lv' := [(0, vR b 0)]) [0] rfl ?_
    exact w_m_wanting_B86 C hr h
  · refine r_iconst (pc := 74) C dX12_wanting_74 ?_
    refine r_goto (pc := 75) (tgt := 86) C dX12_wanting_75 (by decide) ?_
    refine r_sub (lv' := [(0, vR b 0)]) [0] rfl ?_
    exact w_m_wanting_B86 C hr h
set_option maxHeartbeats 4000000 in
set_option maxRecDepth 20000 in
theorem w_m_wanting_B58 (C : mCX p s m args meth c cX12_wanting 3 RX12 D E b) (hr : meth.sig.returnType = none) {M0 : Mem} {M : Mem} (h : m_wanting_B58 M = some M0) :
    mWX p l e 4 80 s m args below meth c 3 D E b none M0 M 58 [(0, vR b 0)] [] := by
  unfold m_wanting_B58 at h
  refine r_aload_n (pc := 58) C 0 rfl rfl dX12_wanting_58 ?_
  refine r_iconst (pc := 59) C dX12_wanting_59 ?_
  refine r_aload_n (pc := 60) C 0 rfl rfl dX12_wanting_60 ?_
  refine r_getI (pc := 61) C fl_RX12_23 m_s0 (by decide) m_k4 dX12_wanting_61 ?_
  obtain ⟨M3, hq3, h⟩ := bnd_inv h
  refine r_callV (pc := 64) (rest := []) (st1 := []) C (mExtOK b) [vI 1, vI (M 0 4)] (c_m_blame l hq3) cl_RX12_233 m_s0 (by decide) rfl rfl rfl rfl ⟨Nat.le_of_ble_eq_true rfl, Nat.le_of_ble_eq_true rfl⟩ (Nat.le_of_ble_eq_true rfl) rfl rfl dX12_wanting_64 ?_
  refine r_sub (lv' := [(0, vR b 0)]) [0] rfl ?_
  exact w_m_wanting_B67 C hr h
set_option maxHeartbeats 4000000 in
set_option maxRecDepth 20000 in
theorem w_m_wanting_B20 (C : mCX p s m args meth c cX12_wanting 3 RX12 D E b) (hr : meth.sig.returnType = none) {M0 : Mem} {M : Mem} {s1 : Int} (h : m_wanting_B20 s1 M = some M0) :
    mWX p l e 4 80 s m args below meth c 3 D E b none M0 M 20 [(0, vR b 0)] [vI s1, vR b 0] := by
  unfold m_wanting_B20 at h
  obtain ⟨r1, M1, hq1, h⟩ := bnd2_inv h
  refine r_callV (pc := 20) (rest := []) (st1 := [vB r1]) C (mExtOK b) [vI s1] (c_m_isCounted l hq1) cl_RX12_347 m_s0 (by decide) rfl rfl rfl rfl ⟨Nat.le_of_ble_eq_true rfl, Nat.le_of_ble_eq_true rfl⟩ (Nat.le_of_ble_eq_true rfl) rfl rfl dX12_wanting_20 ?_
  refine r_if_neB (pc := 23) (tgt := 27) C h dX12_wanting_23 (by decide) (fun hc23 h => ?_) (fun hc23 h => ?_)
  · refine r_aload_n (pc := 27) C 0 rfl rfl dX12_wanting_27 ?_
    obtain ⟨M2, hq2, h⟩ := bnd_inv h
    refine r_callV (pc := 28) (rest := []) (st1 := []) C (mExtOK b) [] (c_m_lex l hq2) cl_RX12_244 m_s0 (by decide) rfl rfl rfl rfl ⟨Nat.le_of_ble_eq_true rfl, Nat.le_of_ble_eq_true rfl⟩ (Nat.le_of_ble_eq_true rfl) rfl rfl dX12_wanting_28 ?_
    refine r_aload_n (pc := 31) C 0 rfl rfl dX12_wanting_31 ?_
    refine r_getI (pc := 32) C fl_RX12_36 m_s0 (by decide) m_k8 dX12_wanting_32 ?_
    refine r_if_le (pc := 35) (tgt := 39) C h dX12_wanting_35 (by decide) (fun hc35 h => ?_) (fun hc35 h => ?_)
    · refine r_aload_n (pc := 39) C 0 rfl rfl dX12_wanting_39 ?_
      refine r_getI (pc := 40) C fl_RX12_20 m_s0 (by decide) m_k3 dX12_wanting_40 ?_
      refine r_iconst (pc := 43) C dX12_wanting_43 ?_
      refine r_icmp_ne (pc := 44) (tgt := 58) C h dX12_wanting_44 (by decide) (fun hc44 h => ?_) (fun hc44 h => ?_)
      · refine r_sub (lv' := [(0, vR b 0)]) [0] rfl ?_
        exact w_m_wanting_B58 C hr h
      · refine r_aload_n (pc := 47) C 0 rfl rfl dX12_wanting_47 ?_
        refine r_aload_n (pc := 48) C 0 rfl rfl dX12_wanting_48 ?_
        refine r_getL (pc := 49) C fl_RX12_32 m_s0 (by decide) m_k7 dX12_wanting_49 ?_
        obtain ⟨r11, hq11, h⟩ := bnd_inv h
        refine r_callV (pc := 52) (rest := []) (st1 := [vB r11]) C (mExtOK b) [vL (M2 0 7)] (c_m_isOwn l hq11) cl_RX12_341 m_s0 (by decide) rfl rfl rfl rfl ⟨Nat.le_of_ble_eq_true rfl, Nat.le_of_ble_eq_true rfl⟩ (Nat.le_of_ble_eq_true rfl) rfl rfl dX12_wanting_52 ?_
        refine r_if_eqB (pc := 55) (tgt := 67) C h dX12_wanting_55 (by decide) (fun hc55 h => ?_) (fun hc55 h => ?_)
        · refine r_sub (lv' := [(0, vR b 0)]) [0] rfl ?_
          exact w_m_wanting_B58 C hr h
        · refine r_sub (lv' := [(0, vR b 0)]) [0] rfl ?_
          exact w_m_wanting_B67 C hr h
    · have e := Option.some.inj h
      exact r_vret (pc := 38) C hr rfl e.symm dX12_wanting_38
  · have e := Option.some.inj h
    exact r_vret (pc := 26) C hr rfl e.symm dX12_wanting_26
set_option maxHeartbeats 4000000 in
set_option maxRecDepth 20000 in
theorem c_m_wanting (l : Launch) {M : Mem} {M0 : Mem} (h : m_wanting M = some M0) : Ct l yX12_wanting cX12_wanting 3 none 4 80 vwCl mSh mN mRf mExt (fun b => [vR b 0]) M (fun b => none) M0 := by
  refine Ct_of mExtOK (by decide) (fun b => Nat.le_of_ble_eq_true rfl) ?_
  intro p e s m args below meth c D E b C hr
  unfold m_wanting at h
  refine (show mWX p l e 4 80 s m args below meth c 3 D E b none M0 M 0 [(0, vR b 0)] [] from ?_)
  refine r_aload_n (pc := 0) C 0 rfl rfl dX12_wanting_0 ?_
  refine r_aload_n (pc := 1) C 0 rfl rfl dX12_wanting_1 ?_
  refine r_getR (pc := 2) C fl_RX12_69 m_s0 (by decide) m_k19 m_r19 dX12_wanting_2 ?_
  refine r_aload_n (pc := 5) C 0 rfl rfl dX12_wanting_5 ?_
  refine r_getI (pc := 6) C fl_RX12_106 m_s0 (by decide) m_k31 dX12_wanting_6 ?_
  obtain ⟨hi9, h⟩ := chk_inv h
  refine r_iald (pc := 9) C m_s7 (by decide) (by decide) hi9 rfl dX12_wanting_9 ?_
  refine r_bipush (pc := 10) (j := 12) C (by decide +kernel) dX12_wanting_10 ?_
  refine r_icmp_ne (pc := 12) (tgt := 19) C h dX12_wanting_12 (by decide) (fun hc12 h => ?_) (fun hc12 h => ?_)
  · refine r_iconst (pc := 19) C dX12_wanting_19 ?_
    refine r_sub (lv' := [(0, vR b 0)]) [0] rfl ?_
    exact w_m_wanting_B20 C hr h
  · refine r_iconst (pc := 15) C dX12_wanting_15 ?_
    refine r_goto (pc := 16) (tgt := 20) C dX12_wanting_16 (by decide) ?_
    refine r_sub (lv' := [(0, vR b 0)]) [0] rfl ?_
    exact w_m_wanting_B20 C hr h
set_option maxHeartbeats 4000000 in
set_option maxRecDepth 20000 in
theorem w_m_reading_B57 (C : mCX p s m args meth c cX12_reading 3 RX12 D E b) (hr : meth.sig.returnType = none) {M0 : Mem} {M : Mem} {v2 : Int} {s1 : Int} (h : m_reading_B57 v2 s1 M = some M0) :
    mWX p l e 6 123 s m args below meth c 3 D E b none M0 M 57 [(0, vR b 0), (2, vI v2)] [vI s1, vR b 0] := by
  unfold m_reading_B57 at h
  obtain ⟨M2, hq2, h⟩ := bnd_inv h
  refine r_callV (pc := 57) (rest := []) (st1 := []) C (mExtOK b) [vI s1] (c_m_reads l hq2) cl_RX12_363 m_s0 (by decide) rfl rfl rfl rfl ⟨Nat.le_of_ble_eq_true rfl, Nat.le_of_ble_eq_true rfl⟩ (Nat.le_of_ble_eq_true rfl) rfl rfl dX12_reading_57 ?_
  refine r_aload_n (pc := 60) C 0 rfl rfl dX12_reading_60 ?_
  refine r_getR (pc := 61) C fl_RX12_87 m_s0 (by decide) m_k25 m_r25 dX12_reading_61 ?_
  refine r_iload_n (pc := 64) C 1 rfl rfl dX12_reading_64 ?_
  refine r_aload_n (pc := 65) C 0 rfl rfl dX12_reading_65 ?_
  refine r_getI (pc := 66) C fl_RX12_103 m_s0 (by decide) m_k30 dX12_reading_66 ?_
  obtain ⟨hi69, h⟩ := chk_inv h
  obtain ⟨M_69, hM_69, h⟩ := lt_inv h
  refine r_iast (pc := 69) C m_s13 (by decide) (by decide) hi69 rfl hM_69 dX12_reading_69 ?_
  have e := Option.some.inj h
  exact r_vret (pc := 70) C hr rfl e.symm dX12_reading_70
set_option maxHeartbeats 4000000 in
set_option maxRecDepth 20000 in
theorem w_m_reading_B25 (C : mCX p s m args meth c cX12_reading 3 RX12 D E b) (hr : meth.sig.returnType = none) {M0 : Mem} {M : Mem} {v1 : Int} {v2 : Int} {s1 : Int} (h : m_reading_B25 v1 v2 s1 M = some M0) :
    mWX p l e 6 123 s m args below meth c 3 D E b none M0 M 25 [(0, vR b 0), (1, vI v1), (2, vI v2)] [vI s1, vR b 0] := by
  unfold m_reading_B25 at h
  obtain ⟨r1, M1, hq1, h⟩ := bnd2_inv h
  refine r_callV (pc := 25) (rest := []) (st1 := [vB r1]) C (mExtOK b) [vI s1] (c_m_isCounted l hq1) cl_RX12_347 m_s0 (by decide) rfl rfl rfl rfl ⟨Nat.le_of_ble_eq_true rfl, Nat.le_of_ble_eq_true rfl⟩ (Nat.le_of_ble_eq_true rfl) rfl rfl dX12_reading_25 ?_
  refine r_if_neB (pc := 28) (tgt := 32) C h dX12_reading_28 (by decide) (fun hc28 h => ?_) (fun hc28 h => ?_)
  · refine r_aload_n (pc := 32) C 0 rfl rfl dX12_reading_32 ?_
    refine r_iload_n (pc := 33) C 1 rfl rfl dX12_reading_33 ?_
    obtain ⟨M_34, hM_34, h⟩ := lt_inv h
    refine r_putI (pc := 34) C fl_RX12_109 mw_ft m_w32 m_s0 (by decide) m_k32 hM_34 dX12_reading_34 ?_
    refine r_aload_n (pc := 37) C 0 rfl rfl dX12_reading_37 ?_
    refine r_getR (pc := 38) C fl_RX12_84 m_s0 (by decide) m_k24 m_r24 dX12_reading_38 ?_
    refine r_iload_n (pc := 41) C 2 rfl rfl dX12_reading_41 ?_
    refine r_aload_n (pc := 42) C 0 rfl rfl dX12_reading_42 ?_
    refine r_getI (pc := 43) C fl_RX12_103 m_s0 (by decide) m_k30 dX12_reading_43 ?_
    obtain ⟨hi46, h⟩ := chk_inv h
    obtain ⟨M_46, hM_46, h⟩ := lt_inv h
    refine r_iast (pc := 46) C m_s12 (by decide) (by decide) hi46 rfl hM_46 dX12_reading_46 ?_
    refine r_aload_n (pc := 47) C 0 rfl rfl dX12_reading_47 ?_
    refine r_iload_n (pc := 48) C 1 rfl rfl dX12_reading_48 ?_
    refine r_if_eq (pc := 49) (tgt := 56) C h dX12_reading_49 (by decide) (fun hc49 h => ?_) (fun hc49 h => ?_)
    · refine r_iconst (pc := 56) C dX12_reading_56 ?_
      refine r_sub (lv' := [(0, vR b 0), (2, vI v2)]) [0, 2] rfl ?_
      exact w_m_reading_B57 C hr h
    · refine r_iconst (pc := 52) C dX12_reading_52 ?_
      refine r_goto (pc := 53) (tgt := 57) C dX12_reading_53 (by decide) ?_
      refine r_sub (lv' := [(0, vR b 0), (2, vI v2)]) [0, 2] rfl ?_
      exact w_m_reading_B57 C hr h
  · have e := Option.some.inj h
    exact r_vret (pc := 31) C hr rfl e.symm dX12_reading_31
set_option maxHeartbeats 4000000 in
set_option maxRecDepth 20000 in
theorem c_m_reading (l : Launch) {x1 : Int} {M : Mem} {M0 : Mem} (h : m_reading x1 M = some M0) : Ct l yX12_reading cX12_reading 3 none 6 123 vwCl mSh mN mRf mExt (fun b => [vR b 0, vI x1]) M (fun b => none) M0 := by
  refine Ct_of mExtOK (by decide) (fun b => Nat.le_of_ble_eq_true rfl) ?_
  intro p e s m args below meth c D E b C hr
  unfold m_reading at h
  refine (show mWX p l e 6 123 s m args below meth c 3 D E b none M0 M 0 [(0, vR b 0), (1, vI x1)] [] from ?_)
  refine r_iconst (pc := 0) C dX12_reading_0 ?_
  refine r_aload_n (pc := 1) C 0 rfl rfl dX12_reading_1 ?_
  refine r_getI (pc := 2) C fl_RX12_106 m_s0 (by decide) m_k31 dX12_reading_2 ?_
  refine r_imul (pc := 5) C dX12_reading_5 ?_
  refine r_iload_n (pc := 6) C 1 rfl rfl dX12_reading_6 ?_
  refine r_iadd (pc := 7) C dX12_reading_7 ?_
  obtain ⟨v2_8, hv2_8, h⟩ := lt_inv h
  refine r_topI hv2_8 ?_
  refine r_istore_n (pc := 8) (lv' := [(2, vI v2_8), (0, vR b 0), (1, vI x1)]) C rfl dX12_reading_8 (by decide) rfl ?_
  refine r_aload_n (pc := 9) C 1 rfl rfl dX12_reading_9 ?_
  refine r_aload_n (pc := 10) C 1 rfl rfl dX12_reading_10 ?_
  refine r_getR (pc := 11) C fl_RX12_84 m_s0 (by decide) m_k24 m_r24 dX12_reading_11 ?_
  refine r_iload_n (pc := 14) C 0 rfl rfl dX12_reading_14 ?_
  obtain ⟨hi15, h⟩ := chk_inv h
  refine r_iald (pc := 15) C m_s12 (by decide) (by decide) hi15 rfl dX12_reading_15 ?_
  refine r_iconst (pc := 16) C dX12_reading_16 ?_
  refine r_icmp_eq (pc := 17) (tgt := 24) C h dX12_reading_17 (by decide) (fun hc17 h => ?_) (fun hc17 h => ?_)
  · refine r_iconst (pc := 24) C dX12_reading_24 ?_
    refine r_sub (lv' := [(0, vR b 0), (1, vI x1), (2, vI v2_8)]) [1, 2, 0] rfl ?_
    exact w_m_reading_B25 C hr h
  · refine r_iconst (pc := 20) C dX12_reading_20 ?_
    refine r_goto (pc := 21) (tgt := 25) C dX12_reading_21 (by decide) ?_
    refine r_sub (lv' := [(0, vR b 0), (1, vI x1), (2, vI v2_8)]) [1, 2, 0] rfl ?_
    exact w_m_reading_B25 C hr h
set_option maxHeartbeats 4000000 in
set_option maxRecDepth 20000 in
theorem c_m_stroking (l : Launch) {M : Mem} {M0 : Mem} (h : m_stroking M = some M0) : Ct l yX12_stroking cX12_stroking 2 none 4 80 vwCl mSh mN mRf mExt (fun b => [vR b 0]) M (fun b => none) M0 := by
  refine Ct_of mExtOK (by decide) (fun b => Nat.le_of_ble_eq_true rfl) ?_
  intro p e s m args below meth c D E b C hr
  unfold m_stroking at h
  refine (show mWX p l e 4 80 s m args below meth c 2 D E b none M0 M 0 [(0, vR b 0)] [] from ?_)
  refine r_aload_n (pc := 0) C 0 rfl rfl dX12_stroking_0 ?_
  refine r_iconst (pc := 1) C dX12_stroking_1 ?_
  obtain ⟨r1, M1, hq1, h⟩ := bnd2_inv h
  refine r_callV (pc := 2) (rest := []) (st1 := [vB r1]) C (mExtOK b) [vI 0] (c_m_isCounted l hq1) cl_RX12_347 m_s0 (by decide) rfl rfl rfl rfl ⟨Nat.le_of_ble_eq_true rfl, Nat.le_of_ble_eq_true rfl⟩ (Nat.le_of_ble_eq_true rfl) rfl rfl dX12_stroking_2 ?_
  refine r_if_neB (pc := 5) (tgt := 9) C h dX12_stroking_5 (by decide) (fun hc5 h => ?_) (fun hc5 h => ?_)
  · refine r_aload_n (pc := 9) C 0 rfl rfl dX12_stroking_9 ?_
    refine r_iconst (pc := 10) C dX12_stroking_10 ?_
    refine r_bipush (pc := 11) (j := 100) C (by decide +kernel) dX12_stroking_11 ?_
    obtain ⟨r2, M2, hq2, h⟩ := bnd2_inv h
    refine r_callV (pc := 13) (rest := []) (st1 := [vI r2]) C (mExtOK b) [vI 0, vI 100] (c_m_number l hq2) cl_RX12_359 m_s0 (by decide) rfl rfl rfl rfl ⟨Nat.le_of_ble_eq_true rfl, Nat.le_of_ble_eq_true rfl⟩ (Nat.le_of_ble_eq_true rfl) rfl rfl dX12_stroking_13 ?_
    refine r_istore_n (pc := 16) (lv' := [(1, vI r2), (0, vR b 0)]) C rfl dX12_stroking_16 (by decide) rfl ?_
    refine r_aload_n (pc := 17) C 1 rfl rfl dX12_stroking_17 ?_
    refine r_getI (pc := 18) C fl_RX12_36 m_s0 (by decide) m_k8 dX12_stroking_18 ?_
    refine r_if_ne (pc := 21) (tgt := 34) C h dX12_stroking_21 (by decide) (fun hc21 h => ?_) (fun hc21 h => ?_)
    · have e := Option.some.inj h
      exact r_vret (pc := 34) C hr rfl e.symm dX12_stroking_34
    · refine r_aload_n (pc := 24) C 1 rfl rfl dX12_stroking_24 ?_
      refine r_getR (pc := 25) C fl_RX12_81 m_s0 (by decide) m_k23 m_r23 dX12_stroking_25 ?_
      refine r_aload_n (pc := 28) C 1 rfl rfl dX12_stroking_28 ?_
      refine r_getI (pc := 29) C fl_RX12_106 m_s0 (by decide) m_k31 dX12_stroking_29 ?_
      refine r_iload_n (pc := 32) C 0 rfl rfl dX12_stroking_32 ?_
      obtain ⟨hi33, h⟩ := chk_inv h
      obtain ⟨M_33, hM_33, h⟩ := lt_inv h
      refine r_iast (pc := 33) C m_s11 (by decide) (by decide) hi33 rfl hM_33 dX12_stroking_33 ?_
      have e := Option.some.inj h
      exact r_vret (pc := 34) C hr rfl e.symm dX12_stroking_34
  · have e := Option.some.inj h
    exact r_vret (pc := 8) C hr rfl e.symm dX12_stroking_8
set_option maxHeartbeats 4000000 in
set_option maxRecDepth 20000 in
theorem c_m_statement (l : Launch) {M : Mem} {M0 : Mem} (h : m_statement M = some M0) : Ct l yX12_statement cX12_statement 1 none 7 145 vwCl mSh mN mRf mExt (fun b => [vR b 0]) M (fun b => none) M0 := by
  refine Ct_of mExtOK (by decide) (fun b => Nat.le_of_ble_eq_true rfl) ?_
  intro p e s m args below meth c D E b C hr
  unfold m_statement at h
  refine (show mWX p l e 7 145 s m args below meth c 1 D E b none M0 M 0 [(0, vR b 0)] [] from ?_)
  refine r_aload_n (pc := 0) C 0 rfl rfl dX12_statement_0 ?_
  obtain ⟨M1, hq1, h⟩ := bnd_inv h
  refine r_callV (pc := 1) (rest := []) (st1 := []) C (mExtOK b) [] (c_m_lex l hq1) cl_RX12_244 m_s0 (by decide) rfl rfl rfl rfl ⟨Nat.le_of_ble_eq_true rfl, Nat.le_of_ble_eq_true rfl⟩ (Nat.le_of_ble_eq_true rfl) rfl rfl dX12_statement_1 ?_
  refine r_aload_n (pc := 4) C 0 rfl rfl dX12_statement_4 ?_
  refine r_getI (pc := 5) C fl_RX12_36 m_s0 (by decide) m_k8 dX12_statement_5 ?_
  refine r_if_le (pc := 8) (tgt := 12) C h dX12_statement_8 (by decide) (fun hc8 h => ?_) (fun hc8 h => ?_)
  · refine r_aload_n (pc := 12) C 0 rfl rfl dX12_statement_12 ?_
    refine r_ldc2 (pc := 13) (j := 508675318629) C (by decide +kernel) gk_RX12_253 dX12_statement_13 ?_
    obtain ⟨r2, hq2, h⟩ := bnd_inv h
    refine r_callV (pc := 16) (rest := []) (st1 := [vB r2]) C (mExtOK b) [vL 508675318629] (c_m_isWord l hq2) cl_RX12_319 m_s0 (by decide) rfl rfl rfl rfl ⟨Nat.le_of_ble_eq_true rfl, Nat.le_of_ble_eq_true rfl⟩ (Nat.le_of_ble_eq_true rfl) rfl rfl dX12_statement_16 ?_
    refine r_if_eqB (pc := 19) (tgt := 29) C h dX12_statement_19 (by decide) (fun hc19 h => ?_) (fun hc19 h => ?_)
    · refine r_aload_n (pc := 22) C 0 rfl rfl dX12_statement_22 ?_
      obtain ⟨M16, hq16, h⟩ := bnd_inv h
      refine r_callV (pc := 23) (rest := []) (st1 := []) C (mExtOK b) [] (c_m_voicing l hq16) cl_RX12_367 m_s0 (by decide) rfl rfl rfl rfl ⟨Nat.le_of_ble_eq_true rfl, Nat.le_of_ble_eq_true rfl⟩ (Nat.le_of_ble_eq_true rfl) rfl rfl dX12_statement_23 ?_
      refine r_goto (pc := 26) (tgt := 143) C dX12_statement_26 (by decide) ?_
      have e := Option.some.inj h
      exact r_vret (pc := 143) C hr rfl e.symm dX12_statement_143
    · refine r_aload_n (pc := 29) C 0 rfl rfl dX12_statement_29 ?_
      refine r_ldc2 (pc := 30) (j := 123581014175598) C (by decide +kernel) gk_RX12_257 dX12_statement_30 ?_
      obtain ⟨r3, hq3, h⟩ := bnd_inv h
      refine r_callV (pc := 33) (rest := []) (st1 := [vB r3]) C (mExtOK b) [vL 123581014175598] (c_m_isWord l hq3) cl_RX12_319 m_s0 (by decide) rfl rfl rfl rfl ⟨Nat.le_of_ble_eq_true rfl, Nat.le_of_ble_eq_true rfl⟩ (Nat.le_of_ble_eq_true rfl) rfl rfl dX12_statement_33 ?_
      refine r_if_eqB (pc := 36) (tgt := 46) C h dX12_statement_36 (by decide) (fun hc36 h => ?_) (fun hc36 h => ?_)
      · refine r_aload_n (pc := 39) C 0 rfl rfl dX12_statement_39 ?_
        obtain ⟨M15, hq15, h⟩ := bnd_inv h
        refine r_callV (pc := 40) (rest := []) (st1 := []) C (mExtOK b) [] (c_m_personing l hq15) cl_RX12_370 m_s0 (by decide) rfl rfl rfl rfl ⟨Nat.le_of_ble_eq_true rfl, Nat.le_of_ble_eq_true rfl⟩ (Nat.le_of_ble_eq_true rfl) rfl rfl dX12_statement_40 ?_
        refine r_goto (pc := 43) (tgt := 143) C dX12_statement_43 (by decide) ?_
        have e := Option.some.inj h
        exact r_vret (pc := 143) C hr rfl e.symm dX12_statement_143
      · refine r_aload_n (pc := 46) C 0 rfl rfl dX12_statement_46 ?_
        refine r_ldc2 (pc := 47) (j := 512735736947) C (by decide +kernel) gk_RX12_261 dX12_statement_47 ?_
        obtain ⟨r4, hq4, h⟩ := bnd_inv h
        refine r_callV (pc := 50) (rest := []) (st1 := [vB r4]) C (mExtOK b) [vL 512735736947] (c_m_isWord l hq4) cl_RX12_319 m_s0 (by decide) rfl rfl rfl rfl ⟨Nat.le_of_ble_eq_true rfl, Nat.le_of_ble_eq_true rfl⟩ (Nat.le_of_ble_eq_true rfl) rfl rfl dX12_statement_50 ?_
        refine r_if_eqB (pc := 53) (tgt := 63) C h dX12_statement_53 (by decide) (fun hc53 h => ?_) (fun hc53 h => ?_)
        · refine r_aload_n (pc := 56) C 0 rfl rfl dX12_statement_56 ?_
          obtain ⟨M14, hq14, h⟩ := bnd_inv h
          refine r_callV (pc := 57) (rest := []) (st1 := []) C (mExtOK b) [] (c_m_wanting l hq14) cl_RX12_373 m_s0 (by decide) rfl rfl rfl rfl ⟨Nat.le_of_ble_eq_true rfl, Nat.le_of_ble_eq_true rfl⟩ (Nat.le_of_ble_eq_true rfl) rfl rfl dX12_statement_57 ?_
          refine r_goto (pc := 60) (tgt := 143) C dX12_statement_60 (by decide) ?_
          have e := Option.some.inj h
          exact r_vret (pc := 143) C hr rfl e.symm dX12_statement_143
        · refine r_aload_n (pc := 63) C 0 rfl rfl dX12_statement_63 ?_
          refine r_ldc2 (pc := 64) (j := 482804460403) C (by decide +kernel) gk_RX12_267 dX12_statement_64 ?_
          obtain ⟨r5, hq5, h⟩ := bnd_inv h
          refine r_callV (pc := 67) (rest := []) (st1 := [vB r5]) C (mExtOK b) [vL 482804460403] (c_m_isWord l hq5) cl_RX12_319 m_s0 (by decide) rfl rfl rfl rfl ⟨Nat.le_of_ble_eq_true rfl, Nat.le_of_ble_eq_true rfl⟩ (Nat.le_of_ble_eq_true rfl) rfl rfl dX12_statement_67 ?_
          refine r_if_eqB (pc := 70) (tgt := 81) C h dX12_statement_70 (by decide) (fun hc70 h => ?_) (fun hc70 h => ?_)
          · refine r_aload_n (pc := 73) C 0 rfl rfl dX12_statement_73 ?_
            refine r_iconst (pc := 74) C dX12_statement_74 ?_
            obtain ⟨M13, hq13, h⟩ := bnd_inv h
            refine r_callV (pc := 75) (rest := []) (st1 := []) C (mExtOK b) [vI 0] (c_m_reading l hq13) cl_RX12_376 m_s0 (by decide) rfl rfl rfl rfl ⟨Nat.le_of_ble_eq_true rfl, Nat.le_of_ble_eq_true rfl⟩ (Nat.le_of_ble_eq_true rfl) rfl rfl dX12_statement_75 ?_
            refine r_goto (pc := 78) (tgt := 143) C dX12_statement_78 (by decide) ?_
            have e := Option.some.inj h
            exact r_vret (pc := 143) C hr rfl e.symm dX12_statement_143
          · refine r_aload_n (pc := 81) C 0 rfl rfl dX12_statement_81 ?_
            refine r_ldc2 (pc := 82) (j := 469920933235) C (by decide +kernel) gk_RX12_269 dX12_statement_82 ?_
            obtain ⟨r6, hq6, h⟩ := bnd_inv h
            refine r_callV (pc := 85) (rest := []) (st1 := [vB r6]) C (mExtOK b) [vL 469920933235] (c_m_isWord l hq6) cl_RX12_319 m_s0 (by decide) rfl rfl rfl rfl ⟨Nat.le_of_ble_eq_true rfl, Nat.le_of_ble_eq_true rfl⟩ (Nat.le_of_ble_eq_true rfl) rfl rfl dX12_statement_85 ?_
            refine r_if_eqB (pc := 88) (tgt := 99) C h dX12_statement_88 (by decide) (fun hc88 h => ?_) (fun hc88 h => ?_)
            · refine r_aload_n (pc := 91) C 0 rfl rfl dX12_statement_91 ?_
              refine r_iconst (pc := 92) C dX12_statement_92 ?_
              obtain ⟨M12, hq12, h⟩ := bnd_inv h
              refine r_callV (pc := 93) (rest := []) (st1 := []) C (mExtOK b) [vI 1] (c_m_reading l hq12) cl_RX12_376 m_s0 (by decide) rfl rfl rfl rfl ⟨Nat.le_of_ble_eq_true rfl, Nat.le_of_ble_eq_true rfl⟩ (Nat.le_of_ble_eq_true rfl) rfl rfl dX12_statement_93 ?_
              refine r_goto (pc := 96) (tgt := 143) C dX12_statement_96 (by decide) ?_
              have e := Option.some.inj h
              exact r_vret (pc := 143) C hr rfl e.symm dX12_statement_143
            · refine r_aload_n (pc := 99) C 0 rfl rfl dX12_statement_99 ?_
              refine r_ldc2 (pc := 100) (j := 1752527720) C (by decide +kernel) gk_RX12_271 dX12_statement_100 ?_
              obtain ⟨r7, hq7, h⟩ := bnd_inv h
              refine r_callV (pc := 103) (rest := []) (st1 := [vB r7]) C (mExtOK b) [vL 1752527720] (c_m_isWord l hq7) cl_RX12_319 m_s0 (by decide) rfl rfl rfl rfl ⟨Nat.le_of_ble_eq_true rfl, Nat.le_of_ble_eq_true rfl⟩ (Nat.le_of_ble_eq_true rfl) rfl rfl dX12_statement_103 ?_
              refine r_if_eqB (pc := 106) (tgt := 117) C h dX12_statement_106 (by decide) (fun hc106 h => ?_) (fun hc106 h => ?_)
              · refine r_aload_n (pc := 109) C 0 rfl rfl dX12_statement_109 ?_
                refine r_iconst (pc := 110) C dX12_statement_110 ?_
                obtain ⟨M11, hq11, h⟩ := bnd_inv h
                refine r_callV (pc := 111) (rest := []) (st1 := []) C (mExtOK b) [vI 2] (c_m_reading l hq11) cl_RX12_376 m_s0 (by decide) rfl rfl rfl rfl ⟨Nat.le_of_ble_eq_true rfl, Nat.le_of_ble_eq_true rfl⟩ (Nat.le_of_ble_eq_true rfl) rfl rfl dX12_statement_111 ?_
                refine r_goto (pc := 114) (tgt := 143) C dX12_statement_114 (by decide) ?_
                have e := Option.some.inj h
                exact r_vret (pc := 143) C hr rfl e.symm dX12_statement_143
              · refine r_aload_n (pc := 117) C 0 rfl rfl dX12_statement_117 ?_
                refine r_ldc2 (pc := 118) (j := 126943973305189) C (by decide +kernel) gk_RX12_273 dX12_statement_118 ?_
                obtain ⟨r8, hq8, h⟩ := bnd_inv h
                refine r_callV (pc := 121) (rest := []) (st1 := [vB r8]) C (mExtOK b) [vL 126943973305189] (c_m_isWord l hq8) cl_RX12_319 m_s0 (by decide) rfl rfl rfl rfl ⟨Nat.le_of_ble_eq_true rfl, Nat.le_of_ble_eq_true rfl⟩ (Nat.le_of_ble_eq_true rfl) rfl rfl dX12_statement_121 ?_
                refine r_if_eqB (pc := 124) (tgt := 134) C h dX12_statement_124 (by decide) (fun hc124 h => ?_) (fun hc124 h => ?_)
                · refine r_aload_n (pc := 127) C 0 rfl rfl dX12_statement_127 ?_
                  obtain ⟨M10, hq10, h⟩ := bnd_inv h
                  refine r_callV (pc := 128) (rest := []) (st1 := []) C (mExtOK b) [] (c_m_stroking l hq10) cl_RX12_379 m_s0 (by decide) rfl rfl rfl rfl ⟨Nat.le_of_ble_eq_true rfl, Nat.le_of_ble_eq_true rfl⟩ (Nat.le_of_ble_eq_true rfl) rfl rfl dX12_statement_128 ?_
                  refine r_goto (pc := 131) (tgt := 143) C dX12_statement_131 (by decide) ?_
                  have e := Option.some.inj h
                  exact r_vret (pc := 143) C hr rfl e.symm dX12_statement_143
                · refine r_aload_n (pc := 134) C 0 rfl rfl dX12_statement_134 ?_
                  refine r_iconst (pc := 135) C dX12_statement_135 ?_
                  refine r_aload_n (pc := 136) C 0 rfl rfl dX12_statement_136 ?_
                  refine r_getI (pc := 137) C fl_RX12_23 m_s0 (by decide) m_k4 dX12_statement_137 ?_
                  obtain ⟨M9, hq9, h⟩ := bnd_inv h
                  refine r_callV (pc := 140) (rest := []) (st1 := []) C (mExtOK b) [vI 1, vI (M1 0 4)] (c_m_blame l hq9) cl_RX12_233 m_s0 (by decide) rfl rfl rfl rfl ⟨Nat.le_of_ble_eq_true rfl, Nat.le_of_ble_eq_true rfl⟩ (Nat.le_of_ble_eq_true rfl) rfl rfl dX12_statement_140 ?_
                  have e := Option.some.inj h
                  exact r_vret (pc := 143) C hr rfl e.symm dX12_statement_143
  · have e := Option.some.inj h
    exact r_vret (pc := 11) C hr rfl e.symm dX12_statement_11
set_option maxHeartbeats 4000000 in
set_option maxRecDepth 20000 in
theorem w_m_finishes_L17_s (C : mCX p s m args meth c cX12_finishes 3 RX12 D E b) (hr : meth.sig.returnType = none) {M0 : Mem} {v1 : Int} {M : Mem} {v2 : Int} {q : Int} {rec : Int → Option (Int)} (hrec : ∀ (v2 : Int), rec v2 = some q → mWX p l e 4 78 s m args below meth c 3 D E b none M0 M 17 [(0, vR b 0), (1, vI v1), (2, vI v2)] []) (hfol : ∀ (v2 : Int), q = v2 → mWX p l e 4 78 s m args below meth c 3 D E b none M0 M 53 [(0, vR b 0), (1, vI v1), (2, vI v2)] []) (h : m_finishes_L17 v1 M rec v2 = some q) :
    mWX p l e 4 78 s m args below meth c 3 D E b none M0 M 17 [(0, vR b 0), (1, vI v1), (2, vI v2)] [] := by
  unfold m_finishes_L17 at h
  refine r_iload_n (pc := 17) C 2 rfl rfl dX12_finishes_17 ?_
  refine r_aload_n (pc := 18) C 0 rfl rfl dX12_finishes_18 ?_
  refine r_getI (pc := 19) C fl_RX12_17 m_s0 (by decide) m_k2 dX12_finishes_19 ?_
  refine r_icmp_ge (pc := 22) (tgt := 53) C h dX12_finishes_22 (by decide) (fun hc22 h => ?_) (fun hc22 h => ?_)
  · refine r_sub (lv' := [(0, vR b 0), (1, vI v1), (2, vI v2)]) [0, 1, 2] rfl ?_
    exact hfol _ (Option.some.inj h).symm
  · refine r_aload_n (pc := 25) C 0 rfl rfl dX12_finishes_25 ?_
    refine r_getR (pc := 26) C fl_RX12_7 m_s0 (by decide) m_k0 m_r0 dX12_finishes_26 ?_
    refine r_iload_n (pc := 29) C 2 rfl rfl dX12_finishes_29 ?_
    obtain ⟨hi30, h⟩ := chk_inv h
    refine r_iald (pc := 30) C m_s1 (by decide) (by decide) hi30 rfl dX12_finishes_30 ?_
    refine r_bipush (pc := 31) (j := 32) C (by decide +kernel) dX12_finishes_31 ?_
    refine r_icmp_eq (pc := 33) (tgt := 47) C h dX12_finishes_33 (by decide) (fun hc33 h => ?_) (fun hc33 h => ?_)
    · obtain ⟨v2_47, hv2_47, h⟩ := lt_inv h
      refine r_iincN (pc := 47) (y := v2_47) (lv' := [(2, vI v2_47), (0, vR b 0), (1, vI v1)]) C 2 rfl hv2_47 dX12_finishes_47 (by decide) rfl ?_
      refine r_goto (pc := 50) (tgt := 17) C dX12_finishes_50 (by decide) ?_
      refine r_sub (lv' := [(0, vR b 0), (1, vI v1), (2, vI v2_47)]) [1, 2, 0] rfl ?_
      exact hrec _ h
    · refine r_aload_n (pc := 36) C 0 rfl rfl dX12_finishes_36 ?_
      refine r_getR (pc := 37) C fl_RX12_7 m_s0 (by decide) m_k0 m_r0 dX12_finishes_37 ?_
      refine r_iload_n (pc := 40) C 2 rfl rfl dX12_finishes_40 ?_
      obtain ⟨hi41, h⟩ := chk_inv h
      refine r_iald (pc := 41) C m_s1 (by decide) (by decide) hi41 rfl dX12_finishes_41 ?_
      refine r_bipush (pc := 42) (j := 10) C (by decide +kernel) dX12_finishes_42 ?_
      refine r_icmp_ne (pc := 44) (tgt := 53) C h dX12_finishes_44 (by decide) (fun hc44 h => ?_) (fun hc44 h => ?_)
      · refine r_sub (lv' := [(0, vR b 0), (1, vI v1), (2, vI v2)]) [0, 1, 2] rfl ?_
        exact hfol _ (Option.some.inj h).symm
      · obtain ⟨v2_47, hv2_47, h⟩ := lt_inv h
        refine r_iincN (pc := 47) (y := v2_47) (lv' := [(2, vI v2_47), (0, vR b 0), (1, vI v1)]) C 2 rfl hv2_47 dX12_finishes_47 (by decide) rfl ?_
        refine r_goto (pc := 50) (tgt := 17) C dX12_finishes_50 (by decide) ?_
        refine r_sub (lv' := [(0, vR b 0), (1, vI v1), (2, vI v2_47)]) [1, 2, 0] rfl ?_
        exact hrec _ h
set_option maxHeartbeats 4000000 in
theorem w_m_finishes_L17 (C : mCX p s m args meth c cX12_finishes 3 RX12 D E b) (hr : meth.sig.returnType = none) {M0 : Mem} {v1 : Int} {M : Mem} {q : Int} (hfol : ∀ (v2 : Int), q = v2 → mWX p l e 4 78 s m args below meth c 3 D E b none M0 M 53 [(0, vR b 0), (1, vI v1), (2, vI v2)] []) : ∀ (n : Nat) (v2 : Int), itr1 (m_finishes_L17 v1 M) n v2 = some q →
    mWX p l e 4 78 s m args below meth c 3 D E b none M0 M 17 [(0, vR b 0), (1, vI v1), (2, vI v2)] [] := by
  intro n
  induction n with
  | zero => exact fun _ h => itr_z h
  | succ n ih => exact fun _ h => w_m_finishes_L17_s C hr ih hfol h
set_option maxHeartbeats 4000000 in
set_option maxRecDepth 20000 in
theorem c_m_finishes (l : Launch) {x1 : Int} {M : Mem} {M0 : Mem} (h : m_finishes x1 M = some M0) : Ct l yX12_finishes cX12_finishes 3 none 4 78 vwCl mSh mN mRf mExt (fun b => [vR b 0, vI x1]) M (fun b => none) M0 := by
  refine Ct_of mExtOK (by decide) (fun b => Nat.le_of_ble_eq_true rfl) ?_
  intro p e s m args below meth c D E b C hr
  unfold m_finishes at h
  refine (show mWX p l e 4 78 s m args below meth c 3 D E b none M0 M 0 [(0, vR b 0), (1, vI x1)] [] from ?_)
  refine r_aload_n (pc := 0) C 0 rfl rfl dX12_finishes_0 ?_
  obtain ⟨M1, hq1, h⟩ := bnd_inv h
  refine r_callV (pc := 1) (rest := []) (st1 := []) C (mExtOK b) [] (c_m_lex l hq1) cl_RX12_244 m_s0 (by decide) rfl rfl rfl rfl ⟨Nat.le_of_ble_eq_true rfl, Nat.le_of_ble_eq_true rfl⟩ (Nat.le_of_ble_eq_true rfl) rfl rfl dX12_finishes_1 ?_
  refine r_aload_n (pc := 4) C 0 rfl rfl dX12_finishes_4 ?_
  refine r_getI (pc := 5) C fl_RX12_36 m_s0 (by decide) m_k8 dX12_finishes_5 ?_
  refine r_if_le (pc := 8) (tgt := 12) C h dX12_finishes_8 (by decide) (fun hc8 h => ?_) (fun hc8 h => ?_)
  · refine r_aload_n (pc := 12) C 0 rfl rfl dX12_finishes_12 ?_
    refine r_getI (pc := 13) C fl_RX12_26 m_s0 (by decide) m_k5 dX12_finishes_13 ?_
    obtain ⟨v2_16, hv2_16, h⟩ := lt_inv h
    refine r_topI hv2_16 ?_
    refine r_istore_n (pc := 16) (lv' := [(2, vI v2_16), (0, vR b 0), (1, vI x1)]) C rfl dX12_finishes_16 (by decide) rfl ?_
    refine r_sub (lv' := [(0, vR b 0), (1, vI x1), (2, vI v2_16)]) [1, 2, 0] rfl ?_
    obtain ⟨q2, hl2, h⟩ := bnd_inv h
    refine w_m_finishes_L17 C hr (fun v2_2 hq => ?_) FUEL _ hl2
    have hq := hq.symm
    subst hq
    refine r_aload_n (pc := 53) C 0 rfl rfl dX12_finishes_53 ?_
    refine r_bipush (pc := 54) (j := 59) C (by decide +kernel) dX12_finishes_54 ?_
    obtain ⟨r3, hq3, h⟩ := bnd_inv h
    refine r_callV (pc := 56) (rest := []) (st1 := [vB r3]) C (mExtOK b) [vI 59] (c_m_isSign l hq3) cl_RX12_247 m_s0 (by decide) rfl rfl rfl rfl ⟨Nat.le_of_ble_eq_true rfl, Nat.le_of_ble_eq_true rfl⟩ (Nat.le_of_ble_eq_true rfl) rfl rfl dX12_finishes_56 ?_
    refine r_if_eqB (pc := 59) (tgt := 83) C h dX12_finishes_59 (by decide) (fun hc59 h => ?_) (fun hc59 h => ?_)
    · refine r_iload_n (pc := 62) C 1 rfl rfl dX12_finishes_62 ?_
      refine r_bipush (pc := 63) (j := 80) C (by decide +kernel) dX12_finishes_63 ?_
      refine r_icmp_ne (pc := 65) (tgt := 83) C h dX12_finishes_65 (by decide) (fun hc65 h => ?_) (fun hc65 h => ?_)
      · refine r_aload_n (pc := 83) C 0 rfl rfl dX12_finishes_83 ?_
        refine r_bipush (pc := 84) (j := 59) C (by decide +kernel) dX12_finishes_84 ?_
        obtain ⟨M5, hq5, h⟩ := bnd_inv h
        refine r_callV (pc := 86) (rest := []) (st1 := []) C (mExtOK b) [vI 59] (c_m_must l hq5) cl_RX12_382 m_s0 (by decide) rfl rfl rfl rfl ⟨Nat.le_of_ble_eq_true rfl, Nat.le_of_ble_eq_true rfl⟩ (Nat.le_of_ble_eq_true rfl) rfl rfl dX12_finishes_86 ?_
        have e := Option.some.inj h
        exact r_vret (pc := 89) C hr rfl e.symm dX12_finishes_89
      · refine r_iload_n (pc := 68) C 2 rfl rfl dX12_finishes_68 ?_
        refine r_aload_n (pc := 69) C 0 rfl rfl dX12_finishes_69 ?_
        refine r_getI (pc := 70) C fl_RX12_17 m_s0 (by decide) m_k2 dX12_finishes_70 ?_
        refine r_icmp_ge (pc := 73) (tgt := 83) C h dX12_finishes_73 (by decide) (fun hc73 h => ?_) (fun hc73 h => ?_)
        · refine r_aload_n (pc := 83) C 0 rfl rfl dX12_finishes_83 ?_
          refine r_bipush (pc := 84) (j := 59) C (by decide +kernel) dX12_finishes_84 ?_
          obtain ⟨M6, hq6, h⟩ := bnd_inv h
          refine r_callV (pc := 86) (rest := []) (st1 := []) C (mExtOK b) [vI 59] (c_m_must l hq6) cl_RX12_382 m_s0 (by decide) rfl rfl rfl rfl ⟨Nat.le_of_ble_eq_true rfl, Nat.le_of_ble_eq_true rfl⟩ (Nat.le_of_ble_eq_true rfl) rfl rfl dX12_finishes_86 ?_
          have e := Option.some.inj h
          exact r_vret (pc := 89) C hr rfl e.symm dX12_finishes_89
        · refine r_aload_n (pc := 76) C 0 rfl rfl dX12_finishes_76 ?_
          refine r_bipush (pc := 77) (j := 6) C (by decide +kernel) dX12_finishes_77 ?_
          refine r_iload_n (pc := 79) C 2 rfl rfl dX12_finishes_79 ?_
          obtain ⟨M7, hq7, h⟩ := bnd_inv h
          refine r_callV (pc := 80) (rest := []) (st1 := []) C (mExtOK b) [vI 6, vI v2_2] (c_m_blame l hq7) cl_RX12_233 m_s0 (by decide) rfl rfl rfl rfl ⟨Nat.le_of_ble_eq_true rfl, Nat.le_of_ble_eq_true rfl⟩ (Nat.le_of_ble_eq_true rfl) rfl rfl dX12_finishes_80 ?_
          refine r_aload_n (pc := 83) C 0 rfl rfl dX12_finishes_83 ?_
          refine r_bipush (pc := 84) (j := 59) C (by decide +kernel) dX12_finishes_84 ?_
          obtain ⟨M8, hq8, h⟩ := bnd_inv h
          refine r_callV (pc := 86) (rest := []) (st1 := []) C (mExtOK b) [vI 59] (c_m_must l hq8) cl_RX12_382 m_s0 (by decide) rfl rfl rfl rfl ⟨Nat.le_of_ble_eq_true rfl, Nat.le_of_ble_eq_true rfl⟩ (Nat.le_of_ble_eq_true rfl) rfl rfl dX12_finishes_86 ?_
          have e := Option.some.inj h
          exact r_vret (pc := 89) C hr rfl e.symm dX12_finishes_89
    · refine r_aload_n (pc := 83) C 0 rfl rfl dX12_finishes_83 ?_
      refine r_bipush (pc := 84) (j := 59) C (by decide +kernel) dX12_finishes_84 ?_
      obtain ⟨M4, hq4, h⟩ := bnd_inv h
      refine r_callV (pc := 86) (rest := []) (st1 := []) C (mExtOK b) [vI 59] (c_m_must l hq4) cl_RX12_382 m_s0 (by decide) rfl rfl rfl rfl ⟨Nat.le_of_ble_eq_true rfl, Nat.le_of_ble_eq_true rfl⟩ (Nat.le_of_ble_eq_true rfl) rfl rfl dX12_finishes_86 ?_
      have e := Option.some.inj h
      exact r_vret (pc := 89) C hr rfl e.symm dX12_finishes_89
  · have e := Option.some.inj h
    exact r_vret (pc := 11) C hr rfl e.symm dX12_finishes_11
set_option maxHeartbeats 4000000 in
set_option maxRecDepth 20000 in
theorem w_m_begin_L23_s (C : mCX p s m args meth c cX12_begin 2 RX12 D E b) (hr : meth.sig.returnType = none) {M0 : Mem} {v1 : Int} {M : Mem} {q : Int × Mem} {rec : Int → Mem → Option (Int × Mem)} (hrec : ∀ (v1 : Int) (M : Mem), rec v1 M = some q → mWX p l e 1 12 s m args below meth c 2 D E b none M0 M 23 [(0, vR b 0), (1, vI v1)] []) (hfol : ∀ (v1 : Int) (M : Mem), q = (v1, M) → mWX p l e 1 12 s m args below meth c 2 D E b none M0 M 62 [(0, vR b 0)] []) (h : m_begin_L23 rec v1 M = some q) :
    mWX p l e 1 12 s m args below meth c 2 D E b none M0 M 23 [(0, vR b 0), (1, vI v1)] [] := by
  unfold m_begin_L23 at h
  refine r_iload_n (pc := 23) C 1 rfl rfl dX12_begin_23 ?_
  refine r_bipush (pc := 24) (j := 7) C (by decide +kernel) dX12_begin_24 ?_
  refine r_icmp_ge (pc := 26) (tgt := 62) C h dX12_begin_26 (by decide) (fun hc26 h => ?_) (fun hc26 h => ?_)
  · refine r_sub (lv' := [(0, vR b 0)]) [0] rfl ?_
    exact hfol _ _ (Option.some.inj h).symm
  · refine r_aload_n (pc := 29) C 0 rfl rfl dX12_begin_29 ?_
    refine r_getR (pc := 30) C fl_RX12_150 m_s0 (by decide) m_k45 m_r45 dX12_begin_30 ?_
    refine r_iload_n (pc := 33) C 1 rfl rfl dX12_begin_33 ?_
    refine r_aload_n (pc := 34) C 0 rfl rfl dX12_begin_34 ?_
    refine r_getR (pc := 35) C fl_RX12_57 m_s0 (by decide) m_k15 m_r15 dX12_begin_35 ?_
    refine r_bipush (pc := 38) (j := 7) C (by decide +kernel) dX12_begin_38 ?_
    refine r_aload_n (pc := 40) C 0 rfl rfl dX12_begin_40 ?_
    refine r_getI (pc := 41) C fl_RX12_51 m_s0 (by decide) m_k13 dX12_begin_41 ?_
    refine r_imul (pc := 44) C dX12_begin_44 ?_
    refine r_iload_n (pc := 45) C 1 rfl rfl dX12_begin_45 ?_
    refine r_iadd (pc := 46) C dX12_begin_46 ?_
    obtain ⟨hi47, h⟩ := chk_inv h
    refine r_iald (pc := 47) C m_s3 (by decide) (by decide) hi47 rfl dX12_begin_47 ?_
    obtain ⟨hi48, h⟩ := chk_inv h
    obtain ⟨M_48, hM_48, h⟩ := lt_inv h
    refine r_iast (pc := 48) C m_s26 (by decide) (by decide) hi48 rfl hM_48 dX12_begin_48 ?_
    refine r_aload_n (pc := 49) C 0 rfl rfl dX12_begin_49 ?_
    refine r_getR (pc := 50) C fl_RX12_153 m_s0 (by decide) m_k46 m_r46 dX12_begin_50 ?_
    refine r_iload_n (pc := 53) C 1 rfl rfl dX12_begin_53 ?_
    refine r_iconst (pc := 54) C dX12_begin_54 ?_
    obtain ⟨hi55, h⟩ := chk_inv h
    obtain ⟨M_55, hM_55, h⟩ := lt_inv h
    refine r_iast (pc := 55) C m_s27 (by decide) (by decide) hi55 rfl hM_55 dX12_begin_55 ?_
    obtain ⟨v1_56, hv1_56, h⟩ := lt_inv h
    refine r_iincN (pc := 56) (y := v1_56) (lv' := [(1, vI v1_56), (0, vR b 0)]) C 1 rfl hv1_56 dX12_begin_56 (by decide) rfl ?_
    refine r_goto (pc := 59) (tgt := 23) C dX12_begin_59 (by decide) ?_
    refine r_sub (lv' := [(0, vR b 0), (1, vI v1_56)]) [1, 0] rfl ?_
    exact hrec _ _ h
set_option maxHeartbeats 4000000 in
theorem w_m_begin_L23 (C : mCX p s m args meth c cX12_begin 2 RX12 D E b) (hr : meth.sig.returnType = none) {M0 : Mem} {q : Int × Mem} (hfol : ∀ (v1 : Int) (M : Mem), q = (v1, M) → mWX p l e 1 12 s m args below meth c 2 D E b none M0 M 62 [(0, vR b 0)] []) : ∀ (n : Nat) (v1 : Int) (M : Mem), itr2 (m_begin_L23) n v1 M = some q →
    mWX p l e 1 12 s m args below meth c 2 D E b none M0 M 23 [(0, vR b 0), (1, vI v1)] [] := by
  intro n
  induction n with
  | zero => exact fun _ _ h => itr_z h
  | succ n ih => exact fun _ _ h => w_m_begin_L23_s C hr ih hfol h
set_option maxHeartbeats 4000000 in
set_option maxRecDepth 20000 in
theorem w_m_begin_L64_s (C : mCX p s m args meth c cX12_begin 2 RX12 D E b) (hr : meth.sig.returnType = none) {M0 : Mem} {v1 : Int} {M : Mem} {q : Int × Mem} {rec : Int → Mem → Option (Int × Mem)} (hrec : ∀ (v1 : Int) (M : Mem), rec v1 M = some q → mWX p l e 1 12 s m args below meth c 2 D E b none M0 M 64 [(0, vR b 0), (1, vI v1)] []) (hfol : ∀ (v1 : Int) (M : Mem), q = (v1, M) → mWX p l e 1 12 s m args below meth c 2 D E b none M0 M 124 [(0, vR b 0)] []) (h : m_begin_L64 rec v1 M = some q) :
    mWX p l e 1 12 s m args below meth c 2 D E b none M0 M 64 [(0, vR b 0), (1, vI v1)] [] := by
  unfold m_begin_L64 at h
  refine r_iload_n (pc := 64) C 1 rfl rfl dX12_begin_64 ?_
  refine r_bipush (pc := 65) (j := 12) C (by decide +kernel) dX12_begin_65 ?_
  refine r_icmp_ge (pc := 67) (tgt := 124) C h dX12_begin_67 (by decide) (fun hc67 h => ?_) (fun hc67 h => ?_)
  · refine r_sub (lv' := [(0, vR b 0)]) [0] rfl ?_
    exact hfol _ _ (Option.some.inj h).symm
  · refine r_aload_n (pc := 70) C 0 rfl rfl dX12_begin_70 ?_
    refine r_getR (pc := 71) C fl_RX12_159 m_s0 (by decide) m_k48 m_r48 dX12_begin_71 ?_
    refine r_iload_n (pc := 74) C 1 rfl rfl dX12_begin_74 ?_
    refine r_iconst (pc := 75) C dX12_begin_75 ?_
    obtain ⟨hi76, h⟩ := chk_inv h
    obtain ⟨M_76, hM_76, h⟩ := lt_inv h
    refine r_iast (pc := 76) C m_s29 (by decide) (by decide) hi76 rfl hM_76 dX12_begin_76 ?_
    refine r_aload_n (pc := 77) C 0 rfl rfl dX12_begin_77 ?_
    refine r_getR (pc := 78) C fl_RX12_162 m_s0 (by decide) m_k49 m_r49 dX12_begin_78 ?_
    refine r_iload_n (pc := 81) C 1 rfl rfl dX12_begin_81 ?_
    refine r_aload_n (pc := 82) C 0 rfl rfl dX12_begin_82 ?_
    refine r_getR (pc := 83) C fl_RX12_75 m_s0 (by decide) m_k21 m_r21 dX12_begin_83 ?_
    refine r_bipush (pc := 86) (j := 12) C (by decide +kernel) dX12_begin_86 ?_
    refine r_aload_n (pc := 88) C 0 rfl rfl dX12_begin_88 ?_
    refine r_getI (pc := 89) C fl_RX12_51 m_s0 (by decide) m_k13 dX12_begin_89 ?_
    refine r_imul (pc := 92) C dX12_begin_92 ?_
    refine r_iload_n (pc := 93) C 1 rfl rfl dX12_begin_93 ?_
    refine r_iadd (pc := 94) C dX12_begin_94 ?_
    obtain ⟨hi95, h⟩ := chk_inv h
    refine r_iald (pc := 95) C m_s9 (by decide) (by decide) hi95 rfl dX12_begin_95 ?_
    obtain ⟨hi96, h⟩ := chk_inv h
    obtain ⟨M_96, hM_96, h⟩ := lt_inv h
    refine r_iast (pc := 96) C m_s30 (by decide) (by decide) hi96 rfl hM_96 dX12_begin_96 ?_
    refine r_aload_n (pc := 97) C 0 rfl rfl dX12_begin_97 ?_
    refine r_getR (pc := 98) C fl_RX12_165 m_s0 (by decide) m_k50 m_r50 dX12_begin_98 ?_
    refine r_iload_n (pc := 101) C 1 rfl rfl dX12_begin_101 ?_
    refine r_iconst (pc := 102) C dX12_begin_102 ?_
    obtain ⟨hi103, h⟩ := chk_inv h
    obtain ⟨M_103, hM_103, h⟩ := lt_inv h
    refine r_iast (pc := 103) C m_s31 (by decide) (by decide) hi103 rfl hM_103 dX12_begin_103 ?_
    refine r_aload_n (pc := 104) C 0 rfl rfl dX12_begin_104 ?_
    refine r_getR (pc := 105) C fl_RX12_168 m_s0 (by decide) m_k51 m_r51 dX12_begin_105 ?_
    refine r_iload_n (pc := 108) C 1 rfl rfl dX12_begin_108 ?_
    refine r_iconst (pc := 109) C dX12_begin_109 ?_
    obtain ⟨hi110, h⟩ := chk_inv h
    obtain ⟨M_110, hM_110, h⟩ := lt_inv h
    refine r_iast (pc := 110) C m_s32 (by decide) (by decide) hi110 rfl hM_110 dX12_begin_110 ?_
    refine r_aload_n (pc := 111) C 0 rfl rfl dX12_begin_111 ?_
    refine r_getR (pc := 112) C fl_RX12_171 m_s0 (by decide) m_k52 m_r52 dX12_begin_112 ?_
    refine r_iload_n (pc := 115) C 1 rfl rfl dX12_begin_115 ?_
    refine r_iconst (pc := 116) C dX12_begin_116 ?_
    obtain ⟨hi117, h⟩ := chk_inv h
    obtain ⟨M_117, hM_117, h⟩ := lt_inv h
    refine r_iast (pc := 117) C m_s33 (by decide) (by decide) hi117 rfl hM_117 dX12_begin_117 ?_
    obtain ⟨v1_118, hv1_118, h⟩ := lt_inv h
    refine r_iincN (pc := 118) (y := v1_118) (lv' := [(1, vI v1_118), (0, vR b 0)]) C 1 rfl hv1_118 dX12_begin_118 (by decide) rfl ?_
    refine r_goto (pc := 121) (tgt := 64) C dX12_begin_121 (by decide) ?_
    refine r_sub (lv' := [(0, vR b 0), (1, vI v1_118)]) [1, 0] rfl ?_
    exact hrec _ _ h
set_option maxHeartbeats 4000000 in
theorem w_m_begin_L64 (C : mCX p s m args meth c cX12_begin 2 RX12 D E b) (hr : meth.sig.returnType = none) {M0 : Mem} {q : Int × Mem} (hfol : ∀ (v1 : Int) (M : Mem), q = (v1, M) → mWX p l e 1 12 s m args below meth c 2 D E b none M0 M 124 [(0, vR b 0)] []) : ∀ (n : Nat) (v1 : Int) (M : Mem), itr2 (m_begin_L64) n v1 M = some q →
    mWX p l e 1 12 s m args below meth c 2 D E b none M0 M 64 [(0, vR b 0), (1, vI v1)] [] := by
  intro n
  induction n with
  | zero => exact fun _ _ h => itr_z h
  | succ n ih => exact fun _ _ h => w_m_begin_L64_s C hr ih hfol h
set_option maxHeartbeats 4000000 in
set_option maxRecDepth 20000 in
theorem c_m_begin (l : Launch) {M : Mem} {M0 : Mem} (h : m_begin M = some M0) : Ct l yX12_begin cX12_begin 2 none 1 12 vwCl mSh mN mRf mExt (fun b => [vR b 0]) M (fun b => none) M0 := by
  refine Ct_of mExtOK (by decide) (fun b => Nat.le_of_ble_eq_true rfl) ?_
  intro p e s m args below meth c D E b C hr
  unfold m_begin at h
  refine (show mWX p l e 1 12 s m args below meth c 2 D E b none M0 M 0 [(0, vR b 0)] [] from ?_)
  refine r_aload_n (pc := 0) C 0 rfl rfl dX12_begin_0 ?_
  refine r_getR (pc := 1) C fl_RX12_147 m_s0 (by decide) m_k44 m_r44 dX12_begin_1 ?_
  refine r_iconst (pc := 4) C dX12_begin_4 ?_
  refine r_iconst (pc := 5) C dX12_begin_5 ?_
  obtain ⟨M_6, hM_6, h⟩ := lt_inv h
  refine r_iast (pc := 6) C m_s25 (by decide) (by decide) (by decide) rfl hM_6 dX12_begin_6 ?_
  refine r_aload_n (pc := 7) C 0 rfl rfl dX12_begin_7 ?_
  refine r_getR (pc := 8) C fl_RX12_156 m_s0 (by decide) m_k47 m_r47 dX12_begin_8 ?_
  refine r_iconst (pc := 11) C dX12_begin_11 ?_
  refine r_iconst (pc := 12) C dX12_begin_12 ?_
  obtain ⟨M_13, hM_13, h⟩ := lt_inv h
  refine r_iast (pc := 13) C m_s28 (by decide) (by decide) (by decide) rfl hM_13 dX12_begin_13 ?_
  refine r_aload_n (pc := 14) C 0 rfl rfl dX12_begin_14 ?_
  refine r_getR (pc := 15) C fl_RX12_174 m_s0 (by decide) m_k53 m_r53 dX12_begin_15 ?_
  refine r_iconst (pc := 18) C dX12_begin_18 ?_
  refine r_iconst (pc := 19) C dX12_begin_19 ?_
  obtain ⟨M_20, hM_20, h⟩ := lt_inv h
  refine r_iast (pc := 20) C m_s34 (by decide) (by decide) (by decide) rfl hM_20 dX12_begin_20 ?_
  refine r_iconst (pc := 21) C dX12_begin_21 ?_
  refine r_istore_n (pc := 22) (lv' := [(1, vI 0), (0, vR b 0)]) C rfl dX12_begin_22 (by decide) rfl ?_
  refine r_sub (lv' := [(0, vR b 0), (1, vI 0)]) [1, 0] rfl ?_
  obtain ⟨q1, hl1, h⟩ := bnd_inv h
  refine w_m_begin_L23 C hr (fun v1_1 M_1 hq => ?_) FUEL _ _ hl1
  have hq := hq.symm
  subst hq
  refine r_iconst (pc := 62) C dX12_begin_62 ?_
  refine r_istore_n (pc := 63) (lv' := [(1, vI 0), (0, vR b 0)]) C rfl dX12_begin_63 (by decide) rfl ?_
  refine r_sub (lv' := [(0, vR b 0), (1, vI 0)]) [1, 0] rfl ?_
  obtain ⟨q2, hl2, h⟩ := bnd_inv h
  refine w_m_begin_L64 C hr (fun v1_2 M_2 hq => ?_) FUEL _ _ hl2
  have hq := hq.symm
  subst hq
  refine r_aload_n (pc := 124) C 0 rfl rfl dX12_begin_124 ?_
  refine r_getR (pc := 125) C fl_RX12_177 m_s0 (by decide) m_k54 m_r54 dX12_begin_125 ?_
  refine r_iconst (pc := 128) C dX12_begin_128 ?_
  refine r_iconst (pc := 129) C dX12_begin_129 ?_
  obtain ⟨M_130, hM_130, h⟩ := lt_inv h
  refine r_iast (pc := 130) C m_s35 (by decide) (by decide) (by decide) rfl hM_130 dX12_begin_130 ?_
  refine r_aload_n (pc := 131) C 0 rfl rfl dX12_begin_131 ?_
  refine r_iconst (pc := 132) C dX12_begin_132 ?_
  obtain ⟨M_133, hM_133, h⟩ := lt_inv h
  refine r_putI (pc := 133) C fl_RX12_186 mw_ft m_w57 m_s0 (by decide) m_k57 hM_133 dX12_begin_133 ?_
  refine r_aload_n (pc := 136) C 0 rfl rfl dX12_begin_136 ?_
  refine r_iconst (pc := 137) C dX12_begin_137 ?_
  obtain ⟨M_138, hM_138, h⟩ := lt_inv h
  refine r_putI (pc := 138) C fl_RX12_204 mw_ft m_w63 m_s0 (by decide) m_k63 hM_138 dX12_begin_138 ?_
  have e := Option.some.inj h
  exact r_vret (pc := 141) C hr rfl e.symm dX12_begin_141
set_option maxHeartbeats 4000000 in
set_option maxRecDepth 20000 in
theorem w_m_town_L85_s (C : mCX p s m args meth c cX12_town 2 RX12 D E b) (hr : meth.sig.returnType = (some .int)) {r0 : Int} {M0 : Mem} {v1 : Int} {M : Mem} {q : Int × Mem} {rec : Int → Mem → Option (Int × Mem)} (hrec : ∀ (v1 : Int) (M : Mem), rec v1 M = some q → mWX p l e 8 165 s m args below meth c 2 D E b (some (vI r0)) M0 M 85 [(0, vR b 0), (1, vI v1)] []) (hfol : ∀ (v1 : Int) (M : Mem), q = (v1, M) → mWX p l e 8 165 s m args below meth c 2 D E b (some (vI r0)) M0 M 110 [(0, vR b 0)] []) (h : m_town_L85 rec v1 M = some q) :
    mWX p l e 8 165 s m args below meth c 2 D E b (some (vI r0)) M0 M 85 [(0, vR b 0), (1, vI v1)] [] := by
  unfold m_town_L85 at h
  refine r_iload_n (pc := 85) C 1 rfl rfl dX12_town_85 ?_
  refine r_iconst (pc := 86) C dX12_town_86 ?_
  refine r_aload_n (pc := 87) C 0 rfl rfl dX12_town_87 ?_
  refine r_getI (pc := 88) C fl_RX12_106 m_s0 (by decide) m_k31 dX12_town_88 ?_
  refine r_imul (pc := 91) C dX12_town_91 ?_
  refine r_iconst (pc := 92) C dX12_town_92 ?_
  refine r_iadd (pc := 93) C dX12_town_93 ?_
  refine r_icmp_ge (pc := 94) (tgt := 110) C h dX12_town_94 (by decide) (fun hc94 h => ?_) (fun hc94 h => ?_)
  · refine r_sub (lv' := [(0, vR b 0)]) [0] rfl ?_
    exact hfol _ _ (Option.some.inj h).symm
  · refine r_aload_n (pc := 97) C 0 rfl rfl dX12_town_97 ?_
    refine r_getR (pc := 98) C fl_RX12_84 m_s0 (by decide) m_k24 m_r24 dX12_town_98 ?_
    refine r_iload_n (pc := 101) C 1 rfl rfl dX12_town_101 ?_
    refine r_iconst (pc := 102) C dX12_town_102 ?_
    obtain ⟨hi103, h⟩ := chk_inv h
    obtain ⟨M_103, hM_103, h⟩ := lt_inv h
    refine r_iast (pc := 103) C m_s12 (by decide) (by decide) hi103 rfl hM_103 dX12_town_103 ?_
    obtain ⟨v1_104, hv1_104, h⟩ := lt_inv h
    refine r_iincN (pc := 104) (y := v1_104) (lv' := [(1, vI v1_104), (0, vR b 0)]) C 1 rfl hv1_104 dX12_town_104 (by decide) rfl ?_
    refine r_goto (pc := 107) (tgt := 85) C dX12_town_107 (by decide) ?_
    refine r_sub (lv' := [(0, vR b 0), (1, vI v1_104)]) [1, 0] rfl ?_
    exact hrec _ _ h
set_option maxHeartbeats 4000000 in
theorem w_m_town_L85 (C : mCX p s m args meth c cX12_town 2 RX12 D E b) (hr : meth.sig.returnType = (some .int)) {r0 : Int} {M0 : Mem} {q : Int × Mem} (hfol : ∀ (v1 : Int) (M : Mem), q = (v1, M) → mWX p l e 8 165 s m args below meth c 2 D E b (some (vI r0)) M0 M 110 [(0, vR b 0)] []) : ∀ (n : Nat) (v1 : Int) (M : Mem), itr2 (m_town_L85) n v1 M = some q →
    mWX p l e 8 165 s m args below meth c 2 D E b (some (vI r0)) M0 M 85 [(0, vR b 0), (1, vI v1)] [] := by
  intro n
  induction n with
  | zero => exact fun _ _ h => itr_z h
  | succ n ih => exact fun _ _ h => w_m_town_L85_s C hr ih hfol h
set_option maxHeartbeats 4000000 in
set_option maxRecDepth 20000 in
theorem w_m_town_L121_s (C : mCX p s m args meth c cX12_town 2 RX12 D E b) (hr : meth.sig.returnType = (some .int)) {r0 : Int} {M0 : Mem} {v1 : Int} {M : Mem} {q : Int × Mem} {rec : Int → Mem → Option (Int × Mem)} (hrec : ∀ (v1 : Int) (M : Mem), rec v1 M = some q → mWX p l e 8 165 s m args below meth c 2 D E b (some (vI r0)) M0 M 121 [(0, vR b 0), (1, vI v1)] []) (hfol : ∀ (v1 : Int) (M : Mem), q = (v1, M) → mWX p l e 8 165 s m args below meth c 2 D E b (some (vI r0)) M0 M 150 [(0, vR b 0), (1, vI v1)] []) (h : m_town_L121 rec v1 M = some q) :
    mWX p l e 8 165 s m args below meth c 2 D E b (some (vI r0)) M0 M 121 [(0, vR b 0), (1, vI v1)] [] := by
  unfold m_town_L121 at h
  refine r_aload_n (pc := 121) C 0 rfl rfl dX12_town_121 ?_
  refine r_getI (pc := 122) C fl_RX12_36 m_s0 (by decide) m_k8 dX12_town_122 ?_
  refine r_if_ne (pc := 125) (tgt := 150) C h dX12_town_125 (by decide) (fun hc125 h => ?_) (fun hc125 h => ?_)
  · refine r_sub (lv' := [(0, vR b 0), (1, vI v1)]) [0, 1] rfl ?_
    exact hfol _ _ (Option.some.inj h).symm
  · refine r_aload_n (pc := 128) C 0 rfl rfl dX12_town_128 ?_
    refine r_getI (pc := 129) C fl_RX12_20 m_s0 (by decide) m_k3 dX12_town_129 ?_
    refine r_if_eq (pc := 132) (tgt := 150) C h dX12_town_132 (by decide) (fun hc132 h => ?_) (fun hc132 h => ?_)
    · refine r_sub (lv' := [(0, vR b 0), (1, vI v1)]) [0, 1] rfl ?_
      exact hfol _ _ (Option.some.inj h).symm
    · refine r_aload_n (pc := 135) C 0 rfl rfl dX12_town_135 ?_
      obtain ⟨M3, hq3, h⟩ := bnd_inv h
      refine r_callV (pc := 136) (rest := []) (st1 := []) C (mExtOK b) [] (c_m_statement l hq3) cl_RX12_384 m_s0 (by decide) rfl rfl rfl rfl ⟨Nat.le_of_ble_eq_true rfl, Nat.le_of_ble_eq_true rfl⟩ (Nat.le_of_ble_eq_true rfl) rfl rfl dX12_town_136 ?_
      obtain ⟨v1_139, hv1_139, h⟩ := lt_inv h
      refine r_iincN (pc := 139) (y := v1_139) (lv' := [(1, vI v1_139), (0, vR b 0)]) C 1 rfl hv1_139 dX12_town_139 (by decide) rfl ?_
      refine r_aload_n (pc := 142) C 1 rfl rfl dX12_town_142 ?_
      refine r_iload_n (pc := 143) C 0 rfl rfl dX12_town_143 ?_
      obtain ⟨M4, hq4, h⟩ := bnd_inv h
      refine r_callV (pc := 144) (rest := []) (st1 := []) C (mExtOK b) [vI v1_139] (c_m_finishes l hq4) cl_RX12_387 m_s0 (by decide) rfl rfl rfl rfl ⟨Nat.le_of_ble_eq_true rfl, Nat.le_of_ble_eq_true rfl⟩ (Nat.le_of_ble_eq_true rfl) rfl rfl dX12_town_144 ?_
      refine r_goto (pc := 147) (tgt := 121) C dX12_town_147 (by decide) ?_
      refine r_sub (lv' := [(0, vR b 0), (1, vI v1_139)]) [1, 0] rfl ?_
      exact hrec _ _ h
set_option maxHeartbeats 4000000 in
theorem w_m_town_L121 (C : mCX p s m args meth c cX12_town 2 RX12 D E b) (hr : meth.sig.returnType = (some .int)) {r0 : Int} {M0 : Mem} {q : Int × Mem} (hfol : ∀ (v1 : Int) (M : Mem), q = (v1, M) → mWX p l e 8 165 s m args below meth c 2 D E b (some (vI r0)) M0 M 150 [(0, vR b 0), (1, vI v1)] []) : ∀ (n : Nat) (v1 : Int) (M : Mem), itr2 (m_town_L121) n v1 M = some q →
    mWX p l e 8 165 s m args below meth c 2 D E b (some (vI r0)) M0 M 121 [(0, vR b 0), (1, vI v1)] [] := by
  intro n
  induction n with
  | zero => exact fun _ _ h => itr_z h
  | succ n ih => exact fun _ _ h => w_m_town_L121_s C hr ih hfol h
set_option maxHeartbeats 4000000 in
set_option maxRecDepth 20000 in
theorem c_m_town (l : Launch) {M : Mem} {r0 : Int} {M0 : Mem} (h : m_town M = some (r0, M0)) : Ct l yX12_town cX12_town 2 (some .int) 8 165 vwCl mSh mN mRf mExt (fun b => [vR b 0]) M (fun b => (some (vI r0))) M0 := by
  refine Ct_of mExtOK (by decide) (fun b => Nat.le_of_ble_eq_true rfl) ?_
  intro p e s m args below meth c D E b C hr
  unfold m_town at h
  refine (show mWX p l e 8 165 s m args below meth c 2 D E b (some (vI r0)) M0 M 0 [(0, vR b 0)] [] from ?_)
  refine r_aload_n (pc := 0) C 0 rfl rfl dX12_town_0 ?_
  refine r_aload_n (pc := 1) C 0 rfl rfl dX12_town_1 ?_
  refine r_getI (pc := 2) C fl_RX12_13 m_s0 (by decide) m_k1 dX12_town_2 ?_
  obtain ⟨M_5, hM_5, h⟩ := lt_inv h
  refine r_putI (pc := 5) C fl_RX12_17 mw_ft m_w2 m_s0 (by decide) m_k2 hM_5 dX12_town_5 ?_
  refine r_aload_n (pc := 8) C 0 rfl rfl dX12_town_8 ?_
  refine r_iconst (pc := 9) C dX12_town_9 ?_
  obtain ⟨M_10, hM_10, h⟩ := lt_inv h
  refine r_putI (pc := 10) C fl_RX12_13 mw_ft m_w1 m_s0 (by decide) m_k1 hM_10 dX12_town_10 ?_
  refine r_aload_n (pc := 13) C 0 rfl rfl dX12_town_13 ?_
  refine r_iconst (pc := 14) C dX12_town_14 ?_
  obtain ⟨M_15, hM_15, h⟩ := lt_inv h
  refine r_putI (pc := 15) C fl_RX12_26 mw_ft m_w5 m_s0 (by decide) m_k5 hM_15 dX12_town_15 ?_
  refine r_aload_n (pc := 18) C 0 rfl rfl dX12_town_18 ?_
  refine r_iconst (pc := 19) C dX12_town_19 ?_
  obtain ⟨M_20, hM_20, h⟩ := lt_inv h
  refine r_putI (pc := 20) C fl_RX12_36 mw_ft m_w8 m_s0 (by decide) m_k8 hM_20 dX12_town_20 ?_
  refine r_aload_n (pc := 23) C 0 rfl rfl dX12_town_23 ?_
  refine r_iconst (pc := 24) C dX12_town_24 ?_
  obtain ⟨M_25, hM_25, h⟩ := lt_inv h
  refine r_putI (pc := 25) C fl_RX12_39 mw_ft m_w9 m_s0 (by decide) m_k9 hM_25 dX12_town_25 ?_
  refine r_aload_n (pc := 28) C 0 rfl rfl dX12_town_28 ?_
  refine r_iconst (pc := 29) C dX12_town_29 ?_
  refine r_aload_n (pc := 30) C 0 rfl rfl dX12_town_30 ?_
  refine r_getI (pc := 31) C fl_RX12_51 m_s0 (by decide) m_k13 dX12_town_31 ?_
  refine r_isub (pc := 34) C dX12_town_34 ?_
  obtain ⟨M_35, hM_35, h⟩ := lt_inv h
  refine r_putI (pc := 35) C fl_RX12_106 mw_ft m_w31 m_s0 (by decide) m_k31 hM_35 dX12_town_35 ?_
  refine r_aload_n (pc := 38) C 0 rfl rfl dX12_town_38 ?_
  refine r_getR (pc := 39) C fl_RX12_54 m_s0 (by decide) m_k14 m_r14 dX12_town_39 ?_
  refine r_aload_n (pc := 42) C 0 rfl rfl dX12_town_42 ?_
  refine r_getI (pc := 43) C fl_RX12_106 m_s0 (by decide) m_k31 dX12_town_43 ?_
  refine r_iconst (pc := 46) C dX12_town_46 ?_
  obtain ⟨hi47, h⟩ := chk_inv h
  obtain ⟨M_47, hM_47, h⟩ := lt_inv h
  refine r_iast (pc := 47) C m_s2 (by decide) (by decide) hi47 rfl hM_47 dX12_town_47 ?_
  refine r_aload_n (pc := 48) C 0 rfl rfl dX12_town_48 ?_
  refine r_getR (pc := 49) C fl_RX12_60 m_s0 (by decide) m_k16 m_r16 dX12_town_49 ?_
  refine r_aload_n (pc := 52) C 0 rfl rfl dX12_town_52 ?_
  refine r_getI (pc := 53) C fl_RX12_106 m_s0 (by decide) m_k31 dX12_town_53 ?_
  refine r_iconst (pc := 56) C dX12_town_56 ?_
  obtain ⟨hi57, h⟩ := chk_inv h
  obtain ⟨M_57, hM_57, h⟩ := lt_inv h
  refine r_iast (pc := 57) C m_s4 (by decide) (by decide) hi57 rfl hM_57 dX12_town_57 ?_
  refine r_aload_n (pc := 58) C 0 rfl rfl dX12_town_58 ?_
  refine r_getR (pc := 59) C fl_RX12_69 m_s0 (by decide) m_k19 m_r19 dX12_town_59 ?_
  refine r_aload_n (pc := 62) C 0 rfl rfl dX12_town_62 ?_
  refine r_getI (pc := 63) C fl_RX12_106 m_s0 (by decide) m_k31 dX12_town_63 ?_
  refine r_iconst (pc := 66) C dX12_town_66 ?_
  obtain ⟨hi67, h⟩ := chk_inv h
  obtain ⟨M_67, hM_67, h⟩ := lt_inv h
  refine r_iast (pc := 67) C m_s7 (by decide) (by decide) hi67 rfl hM_67 dX12_town_67 ?_
  refine r_aload_n (pc := 68) C 0 rfl rfl dX12_town_68 ?_
  refine r_getR (pc := 69) C fl_RX12_81 m_s0 (by decide) m_k23 m_r23 dX12_town_69 ?_
  refine r_aload_n (pc := 72) C 0 rfl rfl dX12_town_72 ?_
  refine r_getI (pc := 73) C fl_RX12_106 m_s0 (by decide) m_k31 dX12_town_73 ?_
  refine r_iconst (pc := 76) C dX12_town_76 ?_
  obtain ⟨hi77, h⟩ := chk_inv h
  obtain ⟨M_77, hM_77, h⟩ := lt_inv h
  refine r_iast (pc := 77) C m_s11 (by decide) (by decide) hi77 rfl hM_77 dX12_town_77 ?_
  refine r_iconst (pc := 78) C dX12_town_78 ?_
  refine r_aload_n (pc := 79) C 0 rfl rfl dX12_town_79 ?_
  refine r_getI (pc := 80) C fl_RX12_106 m_s0 (by decide) m_k31 dX12_town_80 ?_
  refine r_imul (pc := 83) C dX12_town_83 ?_
  obtain ⟨v1_84, hv1_84, h⟩ := lt_inv h
  refine r_topI hv1_84 ?_
  refine r_istore_n (pc := 84) (lv' := [(1, vI v1_84), (0, vR b 0)]) C rfl dX12_town_84 (by decide) rfl ?_
  refine r_sub (lv' := [(0, vR b 0), (1, vI v1_84)]) [1, 0] rfl ?_
  obtain ⟨q1, hl1, h⟩ := bnd_inv h
  refine w_m_town_L85 C hr (fun v1_1 M_1 hq => ?_) FUEL _ _ hl1
  have hq := hq.symm
  subst hq
  refine r_aload_n (pc := 110) C 0 rfl rfl dX12_town_110 ?_
  refine r_iconst (pc := 111) C dX12_town_111 ?_
  obtain ⟨M_112, hM_112, h⟩ := lt_inv h
  refine r_putI (pc := 112) C fl_RX12_103 mw_ft m_w30 m_s0 (by decide) m_k30 hM_112 dX12_town_112 ?_
  refine r_iconst (pc := 115) C dX12_town_115 ?_
  refine r_istore_n (pc := 116) (lv' := [(1, vI 0), (0, vR b 0)]) C rfl dX12_town_116 (by decide) rfl ?_
  refine r_aload_n (pc := 117) C 1 rfl rfl dX12_town_117 ?_
  obtain ⟨M2, hq2, h⟩ := bnd_inv h
  refine r_callV (pc := 118) (rest := []) (st1 := []) C (mExtOK b) [] (c_m_ahead l hq2) cl_RX12_250 m_s0 (by decide) rfl rfl rfl rfl ⟨Nat.le_of_ble_eq_true rfl, Nat.le_of_ble_eq_true rfl⟩ (Nat.le_of_ble_eq_true rfl) rfl rfl dX12_town_118 ?_
  refine r_sub (lv' := [(0, vR b 0), (1, vI 0)]) [1, 0] rfl ?_
  obtain ⟨q5, hl5, h⟩ := bnd_inv h
  refine w_m_town_L121 C hr (fun v1_5 M_5 hq => ?_) FUEL _ _ hl5
  have hq := hq.symm
  subst hq
  refine r_aload_n (pc := 150) C 0 rfl rfl dX12_town_150 ?_
  refine r_aload_n (pc := 151) C 0 rfl rfl dX12_town_151 ?_
  refine r_getI (pc := 152) C fl_RX12_36 m_s0 (by decide) m_k8 dX12_town_152 ?_
  obtain ⟨M_155, hM_155, h⟩ := lt_inv h
  refine r_putI (pc := 155) C fl_RX12_42 mw_ft m_w10 m_s0 (by decide) m_k10 hM_155 dX12_town_155 ?_
  refine r_aload_n (pc := 158) C 0 rfl rfl dX12_town_158 ?_
  refine r_aload_n (pc := 159) C 0 rfl rfl dX12_town_159 ?_
  refine r_getI (pc := 160) C fl_RX12_39 m_s0 (by decide) m_k9 dX12_town_160 ?_
  obtain ⟨M_163, hM_163, h⟩ := lt_inv h
  refine r_putI (pc := 163) C fl_RX12_45 mw_ft m_w11 m_s0 (by decide) m_k11 hM_163 dX12_town_163 ?_
  refine r_aload_n (pc := 166) C 0 rfl rfl dX12_town_166 ?_
  refine r_getI (pc := 167) C fl_RX12_36 m_s0 (by decide) m_k8 dX12_town_167 ?_
  refine r_if_le (pc := 170) (tgt := 179) C h dX12_town_170 (by decide) (fun hc170 h => ?_) (fun hc170 h => ?_)
  · refine r_aload_n (pc := 179) C 0 rfl rfl dX12_town_179 ?_
    refine r_aload_n (pc := 180) C 0 rfl rfl dX12_town_180 ?_
    refine r_getI (pc := 181) C fl_RX12_106 m_s0 (by decide) m_k31 dX12_town_181 ?_
    obtain ⟨M_184, hM_184, h⟩ := lt_inv h
    refine r_putI (pc := 184) C fl_RX12_51 mw_ft m_w13 m_s0 (by decide) m_k13 hM_184 dX12_town_184 ?_
    refine r_aload_n (pc := 187) C 0 rfl rfl dX12_town_187 ?_
    obtain ⟨M6, hq6, h⟩ := bnd_inv h
    refine r_callV (pc := 188) (rest := []) (st1 := []) C (mExtOK b) [] (c_m_begin l hq6) cl_RX12_390 m_s0 (by decide) rfl rfl rfl rfl ⟨Nat.le_of_ble_eq_true rfl, Nat.le_of_ble_eq_true rfl⟩ (Nat.le_of_ble_eq_true rfl) rfl rfl dX12_town_188 ?_
    refine r_iload_n (pc := 191) C 1 rfl rfl dX12_town_191 ?_
    have e := Option.some.inj h
    exact r_iret (pc := 192) C hr (congrArg (fun z => some (vI z)) (Prod.mk.inj e).1.symm) (Prod.mk.inj e).2.symm dX12_town_192
  · refine r_aload_n (pc := 173) C 0 rfl rfl dX12_town_173 ?_
    refine r_iconst (pc := 174) C dX12_town_174 ?_
    obtain ⟨r7, M7, hq7, h⟩ := bnd2_inv h
    refine r_callV (pc := 175) (rest := []) (st1 := [vI r7]) C (mExtOK b) [vI 1] (c_m_refuses l hq7) cl_RX12_225 m_s0 (by decide) rfl rfl rfl rfl ⟨Nat.le_of_ble_eq_true rfl, Nat.le_of_ble_eq_true rfl⟩ (Nat.le_of_ble_eq_true rfl) rfl rfl dX12_town_175 ?_
    have e := Option.some.inj h
    exact r_iret (pc := 178) C hr (congrArg (fun z => some (vI z)) (Prod.mk.inj e).1.symm) (Prod.mk.inj e).2.symm dX12_town_178
set_option maxHeartbeats 4000000 in
set_option maxRecDepth 20000 in
theorem c_m_fault (l : Launch) {x1 : Int} {M : Mem} {r0 : Int} (h : m_fault x1 M = some r0) : Ct l yX12_fault cX12_fault 2 (some .int) 1 12 vwCl mSh mN mRf mExt (fun b => [vR b 0, vI x1]) M (fun b => (some (vI r0))) M := by
  refine Ct_of mExtOK (by decide) (fun b => Nat.le_of_ble_eq_true rfl) ?_
  intro p e s m args below meth c D E b C hr
  unfold m_fault at h
  refine (show mWX p l e 1 12 s m args below meth c 2 D E b (some (vI r0)) M M 0 [(0, vR b 0), (1, vI x1)] [] from ?_)
  refine r_iload_n (pc := 0) C 1 rfl rfl dX12_fault_0 ?_
  refine r_if_ne (pc := 1) (tgt := 11) C h dX12_fault_1 (by decide) (fun hc1 h => ?_) (fun hc1 h => ?_)
  · refine r_iload_n (pc := 11) C 1 rfl rfl dX12_fault_11 ?_
    refine r_iconst (pc := 12) C dX12_fault_12 ?_
    refine r_icmp_ne (pc := 13) (tgt := 23) C h dX12_fault_13 (by decide) (fun hc13 h => ?_) (fun hc13 h => ?_)
    · refine r_iconst (pc := 23) C dX12_fault_23 ?_
      have e := Option.some.inj h
      exact r_iret (pc := 24) C hr (congrArg (fun z => some (vI z)) e.symm) rfl dX12_fault_24
    · refine r_aload_n (pc := 16) C 0 rfl rfl dX12_fault_16 ?_
      refine r_getI (pc := 17) C fl_RX12_45 m_s0 (by decide) m_k11 dX12_fault_17 ?_
      refine r_goto (pc := 20) (tgt := 24) C dX12_fault_20 (by decide) ?_
      have e := Option.some.inj h
      exact r_iret (pc := 24) C hr (congrArg (fun z => some (vI z)) e.symm) rfl dX12_fault_24
  · refine r_aload_n (pc := 4) C 0 rfl rfl dX12_fault_4 ?_
    refine r_getI (pc := 5) C fl_RX12_42 m_s0 (by decide) m_k10 dX12_fault_5 ?_
    refine r_goto (pc := 8) (tgt := 24) C dX12_fault_8 (by decide) ?_
    have e := Option.some.inj h
    exact r_iret (pc := 24) C hr (congrArg (fun z => some (vI z)) e.symm) rfl dX12_fault_24
end
