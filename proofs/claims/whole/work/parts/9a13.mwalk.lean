theorem dX12_ticks_0 : decode cX12_ticks 0 = .ok (.iconst 0, 1) := by decide +kernel
theorem dX12_ticks_1 : decode cX12_ticks 1 = .ok (.istore_n 3, 1) := by decide +kernel
theorem dX12_ticks_2 : decode cX12_ticks 2 = .ok (.iload_n 3, 1) := by decide +kernel
theorem dX12_ticks_3 : decode cX12_ticks 3 = .ok (.aload_n 0, 1) := by decide +kernel
theorem dX12_ticks_4 : decode cX12_ticks 4 = .ok (.getfield 69, 3) := by decide +kernel
theorem dX12_ticks_7 : decode cX12_ticks 7 = .ok (.aload_n 0, 1) := by decide +kernel
theorem dX12_ticks_8 : decode cX12_ticks 8 = .ok (.getfield 51, 3) := by decide +kernel
theorem dX12_ticks_11 : decode cX12_ticks 11 = .ok (.iaload, 1) := by decide +kernel
theorem dX12_ticks_12 : decode cX12_ticks 12 = .ok (.if_icmp .ge 55, 3) := by decide +kernel
theorem dX12_ticks_15 : decode cX12_ticks 15 = .ok (.aload_n 0, 1) := by decide +kernel
theorem dX12_ticks_16 : decode cX12_ticks 16 = .ok (.getfield 159, 3) := by decide +kernel
theorem dX12_ticks_19 : decode cX12_ticks 19 = .ok (.bipush 12, 2) := by decide +kernel
theorem dX12_ticks_21 : decode cX12_ticks 21 = .ok (.iload_n 1, 1) := by decide +kernel
theorem dX12_ticks_22 : decode cX12_ticks 22 = .ok (.imul, 1) := by decide +kernel
theorem dX12_ticks_23 : decode cX12_ticks 23 = .ok (.iload_n 3, 1) := by decide +kernel
theorem dX12_ticks_24 : decode cX12_ticks 24 = .ok (.iadd, 1) := by decide +kernel
theorem dX12_ticks_25 : decode cX12_ticks 25 = .ok (.iaload, 1) := by decide +kernel
theorem dX12_ticks_26 : decode cX12_ticks 26 = .ok (.ifCond .ne 35, 3) := by decide +kernel
theorem dX12_ticks_29 : decode cX12_ticks 29 = .ok (.aload_n 0, 1) := by decide +kernel
theorem dX12_ticks_30 : decode cX12_ticks 30 = .ok (.getfield 162, 3) := by decide +kernel
theorem dX12_ticks_33 : decode cX12_ticks 33 = .ok (.bipush 12, 2) := by decide +kernel
theorem dX12_ticks_35 : decode cX12_ticks 35 = .ok (.iload_n 1, 1) := by decide +kernel
theorem dX12_ticks_36 : decode cX12_ticks 36 = .ok (.imul, 1) := by decide +kernel
theorem dX12_ticks_37 : decode cX12_ticks 37 = .ok (.iload_n 3, 1) := by decide +kernel
theorem dX12_ticks_38 : decode cX12_ticks 38 = .ok (.iadd, 1) := by decide +kernel
theorem dX12_ticks_39 : decode cX12_ticks 39 = .ok (.iaload, 1) := by decide +kernel
theorem dX12_ticks_40 : decode cX12_ticks 40 = .ok (.aload_n 0, 1) := by decide +kernel
theorem dX12_ticks_41 : decode cX12_ticks 41 = .ok (.getfield 147, 3) := by decide +kernel
theorem dX12_ticks_44 : decode cX12_ticks 44 = .ok (.iload_n 1, 1) := by decide +kernel
theorem dX12_ticks_45 : decode cX12_ticks 45 = .ok (.iaload, 1) := by decide +kernel
theorem dX12_ticks_46 : decode cX12_ticks 46 = .ok (.if_icmp .gt 15, 3) := by decide +kernel
theorem dX12_ticks_49 : decode cX12_ticks 49 = .ok (.aload_n 0, 1) := by decide +kernel
theorem dX12_ticks_50 : decode cX12_ticks 50 = .ok (.getfield 159, 3) := by decide +kernel
theorem dX12_ticks_53 : decode cX12_ticks 53 = .ok (.bipush 12, 2) := by decide +kernel
theorem dX12_ticks_55 : decode cX12_ticks 55 = .ok (.iload_n 1, 1) := by decide +kernel
theorem dX12_ticks_56 : decode cX12_ticks 56 = .ok (.imul, 1) := by decide +kernel
theorem dX12_ticks_57 : decode cX12_ticks 57 = .ok (.iload_n 3, 1) := by decide +kernel
theorem dX12_ticks_58 : decode cX12_ticks 58 = .ok (.iadd, 1) := by decide +kernel
theorem dX12_ticks_59 : decode cX12_ticks 59 = .ok (.iconst 1, 1) := by decide +kernel
theorem dX12_ticks_60 : decode cX12_ticks 60 = .ok (.iastore, 1) := by decide +kernel
theorem dX12_ticks_61 : decode cX12_ticks 61 = .ok (.iinc 3 1, 3) := by decide +kernel
theorem dX12_ticks_64 : decode cX12_ticks 64 = .ok (.goto (-62), 3) := by decide +kernel
theorem dX12_ticks_67 : decode cX12_ticks 67 = .ok (.iconst 0, 1) := by decide +kernel
theorem dX12_ticks_68 : decode cX12_ticks 68 = .ok (.istore_n 3, 1) := by decide +kernel
theorem dX12_ticks_69 : decode cX12_ticks 69 = .ok (.iload_n 3, 1) := by decide +kernel
theorem dX12_ticks_70 : decode cX12_ticks 70 = .ok (.aload_n 0, 1) := by decide +kernel
theorem dX12_ticks_71 : decode cX12_ticks 71 = .ok (.getfield 69, 3) := by decide +kernel
theorem dX12_ticks_74 : decode cX12_ticks 74 = .ok (.aload_n 0, 1) := by decide +kernel
theorem dX12_ticks_75 : decode cX12_ticks 75 = .ok (.getfield 51, 3) := by decide +kernel
theorem dX12_ticks_78 : decode cX12_ticks 78 = .ok (.iaload, 1) := by decide +kernel
theorem dX12_ticks_79 : decode cX12_ticks 79 = .ok (.if_icmp .ge 31, 3) := by decide +kernel
theorem dX12_ticks_82 : decode cX12_ticks 82 = .ok (.aload_n 0, 1) := by decide +kernel
theorem dX12_ticks_83 : decode cX12_ticks 83 = .ok (.getfield 159, 3) := by decide +kernel
theorem dX12_ticks_86 : decode cX12_ticks 86 = .ok (.bipush 12, 2) := by decide +kernel
theorem dX12_ticks_88 : decode cX12_ticks 88 = .ok (.iload_n 1, 1) := by decide +kernel
theorem dX12_ticks_89 : decode cX12_ticks 89 = .ok (.imul, 1) := by decide +kernel
theorem dX12_ticks_90 : decode cX12_ticks 90 = .ok (.iload_n 3, 1) := by decide +kernel
theorem dX12_ticks_91 : decode cX12_ticks 91 = .ok (.iadd, 1) := by decide +kernel
theorem dX12_ticks_92 : decode cX12_ticks 92 = .ok (.iaload, 1) := by decide +kernel
theorem dX12_ticks_93 : decode cX12_ticks 93 = .ok (.iconst 1, 1) := by decide +kernel
theorem dX12_ticks_94 : decode cX12_ticks 94 = .ok (.if_icmp .ne 10, 3) := by decide +kernel
theorem dX12_ticks_97 : decode cX12_ticks 97 = .ok (.aload_n 0, 1) := by decide +kernel
theorem dX12_ticks_98 : decode cX12_ticks 98 = .ok (.iload_n 1, 1) := by decide +kernel
theorem dX12_ticks_99 : decode cX12_ticks 99 = .ok (.iload_n 3, 1) := by decide +kernel
theorem dX12_ticks_100 : decode cX12_ticks 100 = .ok (.iload_n 2, 1) := by decide +kernel
theorem dX12_ticks_101 : decode cX12_ticks 101 = .ok (.invokevirtual 449, 3) := by decide +kernel
theorem dX12_ticks_104 : decode cX12_ticks 104 = .ok (.iinc 3 1, 3) := by decide +kernel
theorem dX12_ticks_107 : decode cX12_ticks 107 = .ok (.goto (-38), 3) := by decide +kernel
theorem dX12_ticks_110 : decode cX12_ticks 110 = .ok (.iconst 0, 1) := by decide +kernel
theorem dX12_ticks_111 : decode cX12_ticks 111 = .ok (.istore_n 3, 1) := by decide +kernel
theorem dX12_ticks_112 : decode cX12_ticks 112 = .ok (.iload_n 3, 1) := by decide +kernel
theorem dX12_ticks_113 : decode cX12_ticks 113 = .ok (.aload_n 0, 1) := by decide +kernel
theorem dX12_ticks_114 : decode cX12_ticks 114 = .ok (.getfield 69, 3) := by decide +kernel
theorem dX12_ticks_117 : decode cX12_ticks 117 = .ok (.aload_n 0, 1) := by decide +kernel
theorem dX12_ticks_118 : decode cX12_ticks 118 = .ok (.getfield 51, 3) := by decide +kernel
theorem dX12_ticks_121 : decode cX12_ticks 121 = .ok (.iaload, 1) := by decide +kernel
theorem dX12_ticks_122 : decode cX12_ticks 122 = .ok (.if_icmp .ge 74, 3) := by decide +kernel
theorem dX12_ticks_125 : decode cX12_ticks 125 = .ok (.aload_n 0, 1) := by decide +kernel
theorem dX12_ticks_126 : decode cX12_ticks 126 = .ok (.getfield 159, 3) := by decide +kernel
theorem dX12_ticks_129 : decode cX12_ticks 129 = .ok (.bipush 12, 2) := by decide +kernel
theorem dX12_ticks_131 : decode cX12_ticks 131 = .ok (.iload_n 1, 1) := by decide +kernel
theorem dX12_ticks_132 : decode cX12_ticks 132 = .ok (.imul, 1) := by decide +kernel
theorem dX12_ticks_133 : decode cX12_ticks 133 = .ok (.iload_n 3, 1) := by decide +kernel
theorem dX12_ticks_134 : decode cX12_ticks 134 = .ok (.iadd, 1) := by decide +kernel
theorem dX12_ticks_135 : decode cX12_ticks 135 = .ok (.iaload, 1) := by decide +kernel
theorem dX12_ticks_136 : decode cX12_ticks 136 = .ok (.iconst 1, 1) := by decide +kernel
theorem dX12_ticks_137 : decode cX12_ticks 137 = .ok (.if_icmp .eq 6, 3) := by decide +kernel
theorem dX12_ticks_140 : decode cX12_ticks 140 = .ok (.goto 50, 3) := by decide +kernel
theorem dX12_ticks_143 : decode cX12_ticks 143 = .ok (.aload_n 0, 1) := by decide +kernel
theorem dX12_ticks_144 : decode cX12_ticks 144 = .ok (.getfield 165, 3) := by decide +kernel
theorem dX12_ticks_147 : decode cX12_ticks 147 = .ok (.bipush 12, 2) := by decide +kernel
theorem dX12_ticks_149 : decode cX12_ticks 149 = .ok (.iload_n 1, 1) := by decide +kernel
theorem dX12_ticks_150 : decode cX12_ticks 150 = .ok (.imul, 1) := by decide +kernel
theorem dX12_ticks_151 : decode cX12_ticks 151 = .ok (.iload_n 3, 1) := by decide +kernel
theorem dX12_ticks_152 : decode cX12_ticks 152 = .ok (.iadd, 1) := by decide +kernel
theorem dX12_ticks_153 : decode cX12_ticks 153 = .ok (.iaload, 1) := by decide +kernel
theorem dX12_ticks_154 : decode cX12_ticks 154 = .ok (.bipush 99, 2) := by decide +kernel
theorem dX12_ticks_156 : decode cX12_ticks 156 = .ok (.if_icmp .ge 18, 3) := by decide +kernel
theorem dX12_ticks_159 : decode cX12_ticks 159 = .ok (.aload_n 0, 1) := by decide +kernel
theorem dX12_ticks_160 : decode cX12_ticks 160 = .ok (.getfield 165, 3) := by decide +kernel
theorem dX12_ticks_163 : decode cX12_ticks 163 = .ok (.bipush 12, 2) := by decide +kernel
theorem dX12_ticks_165 : decode cX12_ticks 165 = .ok (.iload_n 1, 1) := by decide +kernel
theorem dX12_ticks_166 : decode cX12_ticks 166 = .ok (.imul, 1) := by decide +kernel
theorem dX12_ticks_167 : decode cX12_ticks 167 = .ok (.iload_n 3, 1) := by decide +kernel
theorem dX12_ticks_168 : decode cX12_ticks 168 = .ok (.iadd, 1) := by decide +kernel
theorem dX12_ticks_169 : decode cX12_ticks 169 = .ok (.dup2, 1) := by decide +kernel
theorem dX12_ticks_170 : decode cX12_ticks 170 = .ok (.iaload, 1) := by decide +kernel
theorem dX12_ticks_171 : decode cX12_ticks 171 = .ok (.iconst 1, 1) := by decide +kernel
theorem dX12_ticks_172 : decode cX12_ticks 172 = .ok (.iadd, 1) := by decide +kernel
theorem dX12_ticks_173 : decode cX12_ticks 173 = .ok (.iastore, 1) := by decide +kernel
theorem dX12_ticks_174 : decode cX12_ticks 174 = .ok (.aload_n 0, 1) := by decide +kernel
theorem dX12_ticks_175 : decode cX12_ticks 175 = .ok (.iload_n 1, 1) := by decide +kernel
theorem dX12_ticks_176 : decode cX12_ticks 176 = .ok (.iload_n 3, 1) := by decide +kernel
theorem dX12_ticks_177 : decode cX12_ticks 177 = .ok (.invokevirtual 452, 3) := by decide +kernel
theorem dX12_ticks_180 : decode cX12_ticks 180 = .ok (.ifCond .eq 10, 3) := by decide +kernel
theorem dX12_ticks_183 : decode cX12_ticks 183 = .ok (.aload_n 0, 1) := by decide +kernel
theorem dX12_ticks_184 : decode cX12_ticks 184 = .ok (.iload_n 1, 1) := by decide +kernel
theorem dX12_ticks_185 : decode cX12_ticks 185 = .ok (.iload_n 3, 1) := by decide +kernel
theorem dX12_ticks_186 : decode cX12_ticks 186 = .ok (.iconst 4, 1) := by decide +kernel
theorem dX12_ticks_187 : decode cX12_ticks 187 = .ok (.invokevirtual 432, 3) := by decide +kernel
theorem dX12_ticks_190 : decode cX12_ticks 190 = .ok (.iinc 3 1, 3) := by decide +kernel
theorem dX12_ticks_193 : decode cX12_ticks 193 = .ok (.goto (-81), 3) := by decide +kernel
theorem dX12_ticks_196 : decode cX12_ticks 196 = .ok (.iconst 0, 1) := by decide +kernel
theorem dX12_ticks_197 : decode cX12_ticks 197 = .ok (.istore_n 3, 1) := by decide +kernel
theorem dX12_ticks_198 : decode cX12_ticks 198 = .ok (.iload_n 3, 1) := by decide +kernel
theorem dX12_ticks_199 : decode cX12_ticks 199 = .ok (.aload_n 0, 1) := by decide +kernel
theorem dX12_ticks_200 : decode cX12_ticks 200 = .ok (.getfield 69, 3) := by decide +kernel
theorem dX12_ticks_203 : decode cX12_ticks 203 = .ok (.aload_n 0, 1) := by decide +kernel
theorem dX12_ticks_204 : decode cX12_ticks 204 = .ok (.getfield 51, 3) := by decide +kernel
theorem dX12_ticks_207 : decode cX12_ticks 207 = .ok (.iaload, 1) := by decide +kernel
theorem dX12_ticks_208 : decode cX12_ticks 208 = .ok (.if_icmp .ge 94, 3) := by decide +kernel
theorem dX12_ticks_211 : decode cX12_ticks 211 = .ok (.aload_n 0, 1) := by decide +kernel
theorem dX12_ticks_212 : decode cX12_ticks 212 = .ok (.getfield 198, 3) := by decide +kernel
theorem dX12_ticks_215 : decode cX12_ticks 215 = .ok (.iload_n 3, 1) := by decide +kernel
theorem dX12_ticks_216 : decode cX12_ticks 216 = .ok (.aload_n 0, 1) := by decide +kernel
theorem dX12_ticks_217 : decode cX12_ticks 217 = .ok (.getfield 159, 3) := by decide +kernel
theorem dX12_ticks_220 : decode cX12_ticks 220 = .ok (.bipush 12, 2) := by decide +kernel
theorem dX12_ticks_222 : decode cX12_ticks 222 = .ok (.iload_n 1, 1) := by decide +kernel
theorem dX12_ticks_223 : decode cX12_ticks 223 = .ok (.imul, 1) := by decide +kernel
theorem dX12_ticks_224 : decode cX12_ticks 224 = .ok (.iload_n 3, 1) := by decide +kernel
theorem dX12_ticks_225 : decode cX12_ticks 225 = .ok (.iadd, 1) := by decide +kernel
theorem dX12_ticks_226 : decode cX12_ticks 226 = .ok (.iaload, 1) := by decide +kernel
theorem dX12_ticks_227 : decode cX12_ticks 227 = .ok (.iconst 2, 1) := by decide +kernel
theorem dX12_ticks_228 : decode cX12_ticks 228 = .ok (.if_icmp .ne 17, 3) := by decide +kernel
theorem dX12_ticks_231 : decode cX12_ticks 231 = .ok (.aload_n 0, 1) := by decide +kernel
theorem dX12_ticks_232 : decode cX12_ticks 232 = .ok (.getfield 168, 3) := by decide +kernel
theorem dX12_ticks_235 : decode cX12_ticks 235 = .ok (.bipush 12, 2) := by decide +kernel
theorem dX12_ticks_237 : decode cX12_ticks 237 = .ok (.iload_n 1, 1) := by decide +kernel
theorem dX12_ticks_238 : decode cX12_ticks 238 = .ok (.imul, 1) := by decide +kernel
theorem dX12_ticks_239 : decode cX12_ticks 239 = .ok (.iload_n 3, 1) := by decide +kernel
theorem dX12_ticks_240 : decode cX12_ticks 240 = .ok (.iadd, 1) := by decide +kernel
theorem dX12_ticks_241 : decode cX12_ticks 241 = .ok (.iaload, 1) := by decide +kernel
theorem dX12_ticks_242 : decode cX12_ticks 242 = .ok (.goto 4, 3) := by decide +kernel
theorem dX12_ticks_245 : decode cX12_ticks 245 = .ok (.iconst (-1), 1) := by decide +kernel
theorem dX12_ticks_246 : decode cX12_ticks 246 = .ok (.iastore, 1) := by decide +kernel
theorem dX12_ticks_247 : decode cX12_ticks 247 = .ok (.aload_n 0, 1) := by decide +kernel
theorem dX12_ticks_248 : decode cX12_ticks 248 = .ok (.getfield 198, 3) := by decide +kernel
theorem dX12_ticks_251 : decode cX12_ticks 251 = .ok (.iload_n 3, 1) := by decide +kernel
theorem dX12_ticks_252 : decode cX12_ticks 252 = .ok (.iaload, 1) := by decide +kernel
theorem dX12_ticks_253 : decode cX12_ticks 253 = .ok (.iconst (-1), 1) := by decide +kernel
theorem dX12_ticks_254 : decode cX12_ticks 254 = .ok (.if_icmp .ne 6, 3) := by decide +kernel
theorem dX12_ticks_257 : decode cX12_ticks 257 = .ok (.goto 39, 3) := by decide +kernel
theorem dX12_ticks_260 : decode cX12_ticks 260 = .ok (.aload_n 0, 1) := by decide +kernel
theorem dX12_ticks_261 : decode cX12_ticks 261 = .ok (.getfield 171, 3) := by decide +kernel
theorem dX12_ticks_264 : decode cX12_ticks 264 = .ok (.bipush 12, 2) := by decide +kernel
theorem dX12_ticks_266 : decode cX12_ticks 266 = .ok (.iload_n 1, 1) := by decide +kernel
theorem dX12_ticks_267 : decode cX12_ticks 267 = .ok (.imul, 1) := by decide +kernel
theorem dX12_ticks_268 : decode cX12_ticks 268 = .ok (.iload_n 3, 1) := by decide +kernel
theorem dX12_ticks_269 : decode cX12_ticks 269 = .ok (.iadd, 1) := by decide +kernel
theorem dX12_ticks_270 : decode cX12_ticks 270 = .ok (.dup2, 1) := by decide +kernel
theorem dX12_ticks_271 : decode cX12_ticks 271 = .ok (.iaload, 1) := by decide +kernel
theorem dX12_ticks_272 : decode cX12_ticks 272 = .ok (.iconst 1, 1) := by decide +kernel
theorem dX12_ticks_273 : decode cX12_ticks 273 = .ok (.isub, 1) := by decide +kernel
theorem dX12_ticks_274 : decode cX12_ticks 274 = .ok (.iastore, 1) := by decide +kernel
theorem dX12_ticks_275 : decode cX12_ticks 275 = .ok (.aload_n 0, 1) := by decide +kernel
theorem dX12_ticks_276 : decode cX12_ticks 276 = .ok (.getfield 171, 3) := by decide +kernel
theorem dX12_ticks_279 : decode cX12_ticks 279 = .ok (.bipush 12, 2) := by decide +kernel
theorem dX12_ticks_281 : decode cX12_ticks 281 = .ok (.iload_n 1, 1) := by decide +kernel
theorem dX12_ticks_282 : decode cX12_ticks 282 = .ok (.imul, 1) := by decide +kernel
theorem dX12_ticks_283 : decode cX12_ticks 283 = .ok (.iload_n 3, 1) := by decide +kernel
theorem dX12_ticks_284 : decode cX12_ticks 284 = .ok (.iadd, 1) := by decide +kernel
theorem dX12_ticks_285 : decode cX12_ticks 285 = .ok (.iaload, 1) := by decide +kernel
theorem dX12_ticks_286 : decode cX12_ticks 286 = .ok (.ifCond .ne 10, 3) := by decide +kernel
theorem dX12_ticks_289 : decode cX12_ticks 289 = .ok (.aload_n 0, 1) := by decide +kernel
theorem dX12_ticks_290 : decode cX12_ticks 290 = .ok (.iload_n 1, 1) := by decide +kernel
theorem dX12_ticks_291 : decode cX12_ticks 291 = .ok (.iload_n 3, 1) := by decide +kernel
theorem dX12_ticks_292 : decode cX12_ticks 292 = .ok (.iconst 3, 1) := by decide +kernel
theorem dX12_ticks_293 : decode cX12_ticks 293 = .ok (.invokevirtual 432, 3) := by decide +kernel
theorem dX12_ticks_296 : decode cX12_ticks 296 = .ok (.iinc 3 1, 3) := by decide +kernel
theorem dX12_ticks_299 : decode cX12_ticks 299 = .ok (.goto (-101), 3) := by decide +kernel
theorem dX12_ticks_302 : decode cX12_ticks 302 = .ok (.aload_n 0, 1) := by decide +kernel
theorem dX12_ticks_303 : decode cX12_ticks 303 = .ok (.getfield 147, 3) := by decide +kernel
theorem dX12_ticks_306 : decode cX12_ticks 306 = .ok (.iload_n 1, 1) := by decide +kernel
theorem dX12_ticks_307 : decode cX12_ticks 307 = .ok (.dup2, 1) := by decide +kernel
theorem dX12_ticks_308 : decode cX12_ticks 308 = .ok (.iaload, 1) := by decide +kernel
theorem dX12_ticks_309 : decode cX12_ticks 309 = .ok (.iconst 1, 1) := by decide +kernel
theorem dX12_ticks_310 : decode cX12_ticks 310 = .ok (.iadd, 1) := by decide +kernel
theorem dX12_ticks_311 : decode cX12_ticks 311 = .ok (.iastore, 1) := by decide +kernel
theorem dX12_ticks_312 : decode cX12_ticks 312 = .ok (.return_, 1) := by decide +kernel
theorem dX12_all_0 : decode cX12_all 0 = .ok (.iconst 1, 1) := by decide +kernel
theorem dX12_all_1 : decode cX12_all 1 = .ok (.aload_n 0, 1) := by decide +kernel
theorem dX12_all_2 : decode cX12_all 2 = .ok (.getfield 54, 3) := by decide +kernel
theorem dX12_all_5 : decode cX12_all 5 = .ok (.aload_n 0, 1) := by decide +kernel
theorem dX12_all_6 : decode cX12_all 6 = .ok (.getfield 51, 3) := by decide +kernel
theorem dX12_all_9 : decode cX12_all 9 = .ok (.iaload, 1) := by decide +kernel
theorem dX12_all_10 : decode cX12_all 10 = .ok (.ishl, 1) := by decide +kernel
theorem dX12_all_11 : decode cX12_all 11 = .ok (.iconst 1, 1) := by decide +kernel
theorem dX12_all_12 : decode cX12_all 12 = .ok (.isub, 1) := by decide +kernel
theorem dX12_all_13 : decode cX12_all 13 = .ok (.ireturn, 1) := by decide +kernel
theorem dX12_bits_0 : decode cX12_bits 0 = .ok (.iconst 0, 1) := by decide +kernel
theorem dX12_bits_1 : decode cX12_bits 1 = .ok (.istore_n 1, 1) := by decide +kernel
theorem dX12_bits_2 : decode cX12_bits 2 = .ok (.iload_n 0, 1) := by decide +kernel
theorem dX12_bits_3 : decode cX12_bits 3 = .ok (.istore_n 2, 1) := by decide +kernel
theorem dX12_bits_4 : decode cX12_bits 4 = .ok (.iload_n 2, 1) := by decide +kernel
theorem dX12_bits_5 : decode cX12_bits 5 = .ok (.ifCond .eq 15, 3) := by decide +kernel
theorem dX12_bits_8 : decode cX12_bits 8 = .ok (.iinc 1 1, 3) := by decide +kernel
theorem dX12_bits_11 : decode cX12_bits 11 = .ok (.iload_n 2, 1) := by decide +kernel
theorem dX12_bits_12 : decode cX12_bits 12 = .ok (.iload_n 2, 1) := by decide +kernel
theorem dX12_bits_13 : decode cX12_bits 13 = .ok (.iconst 1, 1) := by decide +kernel
theorem dX12_bits_14 : decode cX12_bits 14 = .ok (.isub, 1) := by decide +kernel
theorem dX12_bits_15 : decode cX12_bits 15 = .ok (.iand, 1) := by decide +kernel
theorem dX12_bits_16 : decode cX12_bits 16 = .ok (.istore_n 2, 1) := by decide +kernel
theorem dX12_bits_17 : decode cX12_bits 17 = .ok (.goto (-13), 3) := by decide +kernel
theorem dX12_bits_20 : decode cX12_bits 20 = .ok (.iload_n 1, 1) := by decide +kernel
theorem dX12_bits_21 : decode cX12_bits 21 = .ok (.ireturn, 1) := by decide +kernel
theorem dX12_manyOf_0 : decode cX12_manyOf 0 = .ok (.iconst 0, 1) := by decide +kernel
theorem dX12_manyOf_1 : decode cX12_manyOf 1 = .ok (.istore 4, 2) := by decide +kernel
theorem dX12_manyOf_3 : decode cX12_manyOf 3 = .ok (.iconst 0, 1) := by decide +kernel
theorem dX12_manyOf_4 : decode cX12_manyOf 4 = .ok (.istore 5, 2) := by decide +kernel
theorem dX12_manyOf_6 : decode cX12_manyOf 6 = .ok (.iload 5, 2) := by decide +kernel
theorem dX12_manyOf_8 : decode cX12_manyOf 8 = .ok (.aload_n 0, 1) := by decide +kernel
theorem dX12_manyOf_9 : decode cX12_manyOf 9 = .ok (.getfield 69, 3) := by decide +kernel
theorem dX12_manyOf_12 : decode cX12_manyOf 12 = .ok (.aload_n 0, 1) := by decide +kernel
theorem dX12_manyOf_13 : decode cX12_manyOf 13 = .ok (.getfield 51, 3) := by decide +kernel
theorem dX12_manyOf_16 : decode cX12_manyOf 16 = .ok (.iaload, 1) := by decide +kernel
theorem dX12_manyOf_17 : decode cX12_manyOf 17 = .ok (.if_icmp .ge 51, 3) := by decide +kernel
theorem dX12_manyOf_20 : decode cX12_manyOf 20 = .ok (.iload 4, 2) := by decide +kernel
theorem dX12_manyOf_22 : decode cX12_manyOf 22 = .ok (.aload_n 0, 1) := by decide +kernel
theorem dX12_manyOf_23 : decode cX12_manyOf 23 = .ok (.getfield 159, 3) := by decide +kernel
theorem dX12_manyOf_26 : decode cX12_manyOf 26 = .ok (.bipush 12, 2) := by decide +kernel
theorem dX12_manyOf_28 : decode cX12_manyOf 28 = .ok (.iload_n 1, 1) := by decide +kernel
theorem dX12_manyOf_29 : decode cX12_manyOf 29 = .ok (.imul, 1) := by decide +kernel
theorem dX12_manyOf_30 : decode cX12_manyOf 30 = .ok (.iload 5, 2) := by decide +kernel
theorem dX12_manyOf_32 : decode cX12_manyOf 32 = .ok (.iadd, 1) := by decide +kernel
theorem dX12_manyOf_33 : decode cX12_manyOf 33 = .ok (.iaload, 1) := by decide +kernel
theorem dX12_manyOf_34 : decode cX12_manyOf 34 = .ok (.iload_n 2, 1) := by decide +kernel
theorem dX12_manyOf_35 : decode cX12_manyOf 35 = .ok (.if_icmp .eq 19, 3) := by decide +kernel
theorem dX12_manyOf_38 : decode cX12_manyOf 38 = .ok (.aload_n 0, 1) := by decide +kernel
theorem dX12_manyOf_39 : decode cX12_manyOf 39 = .ok (.getfield 159, 3) := by decide +kernel
theorem dX12_manyOf_42 : decode cX12_manyOf 42 = .ok (.bipush 12, 2) := by decide +kernel
theorem dX12_manyOf_44 : decode cX12_manyOf 44 = .ok (.iload_n 1, 1) := by decide +kernel
theorem dX12_manyOf_45 : decode cX12_manyOf 45 = .ok (.imul, 1) := by decide +kernel
theorem dX12_manyOf_46 : decode cX12_manyOf 46 = .ok (.iload 5, 2) := by decide +kernel
theorem dX12_manyOf_48 : decode cX12_manyOf 48 = .ok (.iadd, 1) := by decide +kernel
theorem dX12_manyOf_49 : decode cX12_manyOf 49 = .ok (.iaload, 1) := by decide +kernel
theorem dX12_manyOf_50 : decode cX12_manyOf 50 = .ok (.iload_n 3, 1) := by decide +kernel
theorem dX12_manyOf_51 : decode cX12_manyOf 51 = .ok (.if_icmp .ne 7, 3) := by decide +kernel
theorem dX12_manyOf_54 : decode cX12_manyOf 54 = .ok (.iconst 1, 1) := by decide +kernel
theorem dX12_manyOf_55 : decode cX12_manyOf 55 = .ok (.goto 4, 3) := by decide +kernel
theorem dX12_manyOf_58 : decode cX12_manyOf 58 = .ok (.iconst 0, 1) := by decide +kernel
theorem dX12_manyOf_59 : decode cX12_manyOf 59 = .ok (.iadd, 1) := by decide +kernel
theorem dX12_manyOf_60 : decode cX12_manyOf 60 = .ok (.istore 4, 2) := by decide +kernel
theorem dX12_manyOf_62 : decode cX12_manyOf 62 = .ok (.iinc 5 1, 3) := by decide +kernel
theorem dX12_manyOf_65 : decode cX12_manyOf 65 = .ok (.goto (-59), 3) := by decide +kernel
theorem dX12_manyOf_68 : decode cX12_manyOf 68 = .ok (.iload 4, 2) := by decide +kernel
theorem dX12_manyOf_70 : decode cX12_manyOf 70 = .ok (.ireturn, 1) := by decide +kernel
theorem dX12_isVoice_0 : decode cX12_isVoice 0 = .ok (.iload_n 1, 1) := by decide +kernel
theorem dX12_isVoice_1 : decode cX12_isVoice 1 = .ok (.ifCond .lt 20, 3) := by decide +kernel
theorem dX12_isVoice_4 : decode cX12_isVoice 4 = .ok (.iload_n 1, 1) := by decide +kernel
theorem dX12_isVoice_5 : decode cX12_isVoice 5 = .ok (.aload_n 0, 1) := by decide +kernel
theorem dX12_isVoice_6 : decode cX12_isVoice 6 = .ok (.getfield 54, 3) := by decide +kernel
theorem dX12_isVoice_9 : decode cX12_isVoice 9 = .ok (.aload_n 0, 1) := by decide +kernel
theorem dX12_isVoice_10 : decode cX12_isVoice 10 = .ok (.getfield 51, 3) := by decide +kernel
theorem dX12_isVoice_13 : decode cX12_isVoice 13 = .ok (.iaload, 1) := by decide +kernel
theorem dX12_isVoice_14 : decode cX12_isVoice 14 = .ok (.if_icmp .ge 7, 3) := by decide +kernel
theorem dX12_isVoice_17 : decode cX12_isVoice 17 = .ok (.iconst 1, 1) := by decide +kernel
theorem dX12_isVoice_18 : decode cX12_isVoice 18 = .ok (.goto 4, 3) := by decide +kernel
theorem dX12_isVoice_21 : decode cX12_isVoice 21 = .ok (.iconst 0, 1) := by decide +kernel
theorem dX12_isVoice_22 : decode cX12_isVoice 22 = .ok (.ireturn, 1) := by decide +kernel
theorem dX12_isPerson_0 : decode cX12_isPerson 0 = .ok (.iload_n 1, 1) := by decide +kernel
theorem dX12_isPerson_1 : decode cX12_isPerson 1 = .ok (.ifCond .lt 20, 3) := by decide +kernel
theorem dX12_isPerson_4 : decode cX12_isPerson 4 = .ok (.iload_n 1, 1) := by decide +kernel
theorem dX12_isPerson_5 : decode cX12_isPerson 5 = .ok (.aload_n 0, 1) := by decide +kernel
theorem dX12_isPerson_6 : decode cX12_isPerson 6 = .ok (.getfield 60, 3) := by decide +kernel
theorem dX12_isPerson_9 : decode cX12_isPerson 9 = .ok (.aload_n 0, 1) := by decide +kernel
theorem dX12_isPerson_10 : decode cX12_isPerson 10 = .ok (.getfield 51, 3) := by decide +kernel
theorem dX12_isPerson_13 : decode cX12_isPerson 13 = .ok (.iaload, 1) := by decide +kernel
theorem dX12_isPerson_14 : decode cX12_isPerson 14 = .ok (.if_icmp .ge 7, 3) := by decide +kernel
theorem dX12_isPerson_17 : decode cX12_isPerson 17 = .ok (.iconst 1, 1) := by decide +kernel
theorem dX12_isPerson_18 : decode cX12_isPerson 18 = .ok (.goto 4, 3) := by decide +kernel
theorem dX12_isPerson_21 : decode cX12_isPerson 21 = .ok (.iconst 0, 1) := by decide +kernel
theorem dX12_isPerson_22 : decode cX12_isPerson 22 = .ok (.ireturn, 1) := by decide +kernel
theorem dX12_isSaying_0 : decode cX12_isSaying 0 = .ok (.iload_n 1, 1) := by decide +kernel
theorem dX12_isSaying_1 : decode cX12_isSaying 1 = .ok (.ifCond .lt 20, 3) := by decide +kernel
theorem dX12_isSaying_4 : decode cX12_isSaying 4 = .ok (.iload_n 1, 1) := by decide +kernel
theorem dX12_isSaying_5 : decode cX12_isSaying 5 = .ok (.aload_n 0, 1) := by decide +kernel
theorem dX12_isSaying_6 : decode cX12_isSaying 6 = .ok (.getfield 69, 3) := by decide +kernel
theorem dX12_isSaying_9 : decode cX12_isSaying 9 = .ok (.aload_n 0, 1) := by decide +kernel
theorem dX12_isSaying_10 : decode cX12_isSaying 10 = .ok (.getfield 51, 3) := by decide +kernel
theorem dX12_isSaying_13 : decode cX12_isSaying 13 = .ok (.iaload, 1) := by decide +kernel
theorem dX12_isSaying_14 : decode cX12_isSaying 14 = .ok (.if_icmp .ge 7, 3) := by decide +kernel
theorem dX12_isSaying_17 : decode cX12_isSaying 17 = .ok (.iconst 1, 1) := by decide +kernel
theorem dX12_isSaying_18 : decode cX12_isSaying 18 = .ok (.goto 4, 3) := by decide +kernel
theorem dX12_isSaying_21 : decode cX12_isSaying 21 = .ok (.iconst 0, 1) := by decide +kernel
theorem dX12_isSaying_22 : decode cX12_isSaying 22 = .ok (.ireturn, 1) := by decide +kernel
theorem dX12_has_0 : decode cX12_has 0 = .ok (.iload_n 1, 1) := by decide +kernel
theorem dX12_has_1 : decode cX12_has 1 = .ok (.tableswitch 169 0 15 #[79, 89, 99, 109, 116, 126, 132, 132, 132, 132, 132, 132, 146, 153, 158, 163], 79) := by decide +kernel
theorem dX12_has_80 : decode cX12_has 80 = .ok (.aload_n 0, 1) := by decide +kernel
theorem dX12_has_81 : decode cX12_has 81 = .ok (.getfield 54, 3) := by decide +kernel
theorem dX12_has_84 : decode cX12_has 84 = .ok (.aload_n 0, 1) := by decide +kernel
theorem dX12_has_85 : decode cX12_has 85 = .ok (.getfield 51, 3) := by decide +kernel
theorem dX12_has_88 : decode cX12_has 88 = .ok (.iaload, 1) := by decide +kernel
theorem dX12_has_89 : decode cX12_has 89 = .ok (.ireturn, 1) := by decide +kernel
theorem dX12_has_90 : decode cX12_has 90 = .ok (.aload_n 0, 1) := by decide +kernel
theorem dX12_has_91 : decode cX12_has 91 = .ok (.getfield 60, 3) := by decide +kernel
theorem dX12_has_94 : decode cX12_has 94 = .ok (.aload_n 0, 1) := by decide +kernel
theorem dX12_has_95 : decode cX12_has 95 = .ok (.getfield 51, 3) := by decide +kernel
theorem dX12_has_98 : decode cX12_has 98 = .ok (.iaload, 1) := by decide +kernel
theorem dX12_has_99 : decode cX12_has 99 = .ok (.ireturn, 1) := by decide +kernel
theorem dX12_has_100 : decode cX12_has 100 = .ok (.aload_n 0, 1) := by decide +kernel
theorem dX12_has_101 : decode cX12_has 101 = .ok (.getfield 69, 3) := by decide +kernel
theorem dX12_has_104 : decode cX12_has 104 = .ok (.aload_n 0, 1) := by decide +kernel
theorem dX12_has_105 : decode cX12_has 105 = .ok (.getfield 51, 3) := by decide +kernel
theorem dX12_has_108 : decode cX12_has 108 = .ok (.iaload, 1) := by decide +kernel
theorem dX12_has_109 : decode cX12_has 109 = .ok (.ireturn, 1) := by decide +kernel
theorem dX12_has_110 : decode cX12_has 110 = .ok (.aload_n 0, 1) := by decide +kernel
theorem dX12_has_111 : decode cX12_has 111 = .ok (.getfield 147, 3) := by decide +kernel
theorem dX12_has_114 : decode cX12_has 114 = .ok (.iconst 0, 1) := by decide +kernel
theorem dX12_has_115 : decode cX12_has 115 = .ok (.iaload, 1) := by decide +kernel
theorem dX12_has_116 : decode cX12_has 116 = .ok (.ireturn, 1) := by decide +kernel
theorem dX12_has_117 : decode cX12_has 117 = .ok (.aload_n 0, 1) := by decide +kernel
theorem dX12_has_118 : decode cX12_has 118 = .ok (.getfield 156, 3) := by decide +kernel
theorem dX12_has_121 : decode cX12_has 121 = .ok (.iconst 0, 1) := by decide +kernel
theorem dX12_has_122 : decode cX12_has 122 = .ok (.iaload, 1) := by decide +kernel
theorem dX12_has_123 : decode cX12_has 123 = .ok (.invokestatic 455, 3) := by decide +kernel
theorem dX12_has_126 : decode cX12_has 126 = .ok (.ireturn, 1) := by decide +kernel
theorem dX12_has_127 : decode cX12_has 127 = .ok (.aload_n 0, 1) := by decide +kernel
theorem dX12_has_128 : decode cX12_has 128 = .ok (.iconst 0, 1) := by decide +kernel
theorem dX12_has_129 : decode cX12_has 129 = .ok (.invokevirtual 436, 3) := by decide +kernel
theorem dX12_has_132 : decode cX12_has 132 = .ok (.ireturn, 1) := by decide +kernel
theorem dX12_has_133 : decode cX12_has 133 = .ok (.aload_n 0, 1) := by decide +kernel
theorem dX12_has_134 : decode cX12_has 134 = .ok (.iconst 0, 1) := by decide +kernel
theorem dX12_has_135 : decode cX12_has 135 = .ok (.iload_n 1, 1) := by decide +kernel
theorem dX12_has_136 : decode cX12_has 136 = .ok (.bipush 6, 2) := by decide +kernel
theorem dX12_has_138 : decode cX12_has 138 = .ok (.isub, 1) := by decide +kernel
theorem dX12_has_139 : decode cX12_has 139 = .ok (.iload_n 1, 1) := by decide +kernel
theorem dX12_has_140 : decode cX12_has 140 = .ok (.bipush 6, 2) := by decide +kernel
theorem dX12_has_142 : decode cX12_has 142 = .ok (.isub, 1) := by decide +kernel
theorem dX12_has_143 : decode cX12_has 143 = .ok (.invokevirtual 458, 3) := by decide +kernel
theorem dX12_has_146 : decode cX12_has 146 = .ok (.ireturn, 1) := by decide +kernel
theorem dX12_has_147 : decode cX12_has 147 = .ok (.aload_n 0, 1) := by decide +kernel
theorem dX12_has_148 : decode cX12_has 148 = .ok (.getfield 177, 3) := by decide +kernel
theorem dX12_has_151 : decode cX12_has 151 = .ok (.iconst 0, 1) := by decide +kernel
theorem dX12_has_152 : decode cX12_has 152 = .ok (.iaload, 1) := by decide +kernel
theorem dX12_has_153 : decode cX12_has 153 = .ok (.ireturn, 1) := by decide +kernel
theorem dX12_has_154 : decode cX12_has 154 = .ok (.aload_n 0, 1) := by decide +kernel
theorem dX12_has_155 : decode cX12_has 155 = .ok (.getfield 204, 3) := by decide +kernel
theorem dX12_has_158 : decode cX12_has 158 = .ok (.ireturn, 1) := by decide +kernel
theorem dX12_has_159 : decode cX12_has 159 = .ok (.aload_n 0, 1) := by decide +kernel
theorem dX12_has_160 : decode cX12_has 160 = .ok (.getfield 186, 3) := by decide +kernel
theorem dX12_has_163 : decode cX12_has 163 = .ok (.ireturn, 1) := by decide +kernel
theorem dX12_has_164 : decode cX12_has 164 = .ok (.aload_n 0, 1) := by decide +kernel
theorem dX12_has_165 : decode cX12_has 165 = .ok (.getfield 189, 3) := by decide +kernel
theorem dX12_has_168 : decode cX12_has 168 = .ok (.l2i, 1) := by decide +kernel
theorem dX12_has_169 : decode cX12_has 169 = .ok (.ireturn, 1) := by decide +kernel
theorem dX12_has_170 : decode cX12_has 170 = .ok (.iconst (-1), 1) := by decide +kernel
theorem dX12_has_171 : decode cX12_has 171 = .ok (.ireturn, 1) := by decide +kernel
theorem dX12_letter_0 : decode cX12_letter 0 = .ok (.iload_n 1, 1) := by decide +kernel
theorem dX12_letter_1 : decode cX12_letter 1 = .ok (.ifCond .ne 11, 3) := by decide +kernel
theorem dX12_letter_4 : decode cX12_letter 4 = .ok (.aload_n 0, 1) := by decide +kernel
theorem dX12_letter_5 : decode cX12_letter 5 = .ok (.iload_n 2, 1) := by decide +kernel
theorem dX12_letter_6 : decode cX12_letter 6 = .ok (.invokevirtual 462, 3) := by decide +kernel
theorem dX12_letter_9 : decode cX12_letter 9 = .ok (.goto 21, 3) := by decide +kernel
theorem dX12_letter_12 : decode cX12_letter 12 = .ok (.iload_n 1, 1) := by decide +kernel
theorem dX12_letter_13 : decode cX12_letter 13 = .ok (.iconst 1, 1) := by decide +kernel
theorem dX12_letter_14 : decode cX12_letter 14 = .ok (.if_icmp .ne 15, 3) := by decide +kernel
theorem dX12_letter_17 : decode cX12_letter 17 = .ok (.aload_n 0, 1) := by decide +kernel
theorem dX12_letter_18 : decode cX12_letter 18 = .ok (.iload_n 2, 1) := by decide +kernel
theorem dX12_letter_19 : decode cX12_letter 19 = .ok (.invokevirtual 465, 3) := by decide +kernel
theorem dX12_letter_22 : decode cX12_letter 22 = .ok (.ifCond .eq 7, 3) := by decide +kernel
theorem dX12_letter_25 : decode cX12_letter 25 = .ok (.iconst 1, 1) := by decide +kernel
theorem dX12_letter_26 : decode cX12_letter 26 = .ok (.goto 4, 3) := by decide +kernel
theorem dX12_letter_29 : decode cX12_letter 29 = .ok (.iconst 0, 1) := by decide +kernel
theorem dX12_letter_30 : decode cX12_letter 30 = .ok (.istore 4, 2) := by decide +kernel
theorem dX12_letter_32 : decode cX12_letter 32 = .ok (.iload 4, 2) := by decide +kernel
theorem dX12_letter_34 : decode cX12_letter 34 = .ok (.ifCond .eq 12, 3) := by decide +kernel
theorem dX12_letter_37 : decode cX12_letter 37 = .ok (.iload_n 3, 1) := by decide +kernel
theorem dX12_letter_38 : decode cX12_letter 38 = .ok (.iconst 0, 1) := by decide +kernel
theorem dX12_letter_39 : decode cX12_letter 39 = .ok (.iconst 5, 1) := by decide +kernel
theorem dX12_letter_40 : decode cX12_letter 40 = .ok (.invokestatic 303, 3) := by decide +kernel
theorem dX12_letter_43 : decode cX12_letter 43 = .ok (.ifCond .ne 5, 3) := by decide +kernel
theorem dX12_letter_46 : decode cX12_letter 46 = .ok (.iconst (-1), 1) := by decide +kernel
theorem dX12_letter_47 : decode cX12_letter 47 = .ok (.ireturn, 1) := by decide +kernel
theorem dX12_letter_48 : decode cX12_letter 48 = .ok (.iload_n 1, 1) := by decide +kernel
theorem dX12_letter_49 : decode cX12_letter 49 = .ok (.ifCond .ne 20, 3) := by decide +kernel
theorem dX12_letter_52 : decode cX12_letter 52 = .ok (.aload_n 0, 1) := by decide +kernel
theorem dX12_letter_53 : decode cX12_letter 53 = .ok (.getfield 96, 3) := by decide +kernel
theorem dX12_letter_56 : decode cX12_letter 56 = .ok (.bipush 7, 2) := by decide +kernel
theorem dX12_letter_58 : decode cX12_letter 58 = .ok (.aload_n 0, 1) := by decide +kernel
theorem dX12_letter_59 : decode cX12_letter 59 = .ok (.getfield 51, 3) := by decide +kernel
theorem dX12_letter_62 : decode cX12_letter 62 = .ok (.imul, 1) := by decide +kernel
theorem dX12_letter_63 : decode cX12_letter 63 = .ok (.iload_n 2, 1) := by decide +kernel
theorem dX12_letter_64 : decode cX12_letter 64 = .ok (.iadd, 1) := by decide +kernel
theorem dX12_letter_65 : decode cX12_letter 65 = .ok (.laload, 1) := by decide +kernel
theorem dX12_letter_66 : decode cX12_letter 66 = .ok (.goto 17, 3) := by decide +kernel
theorem dX12_letter_69 : decode cX12_letter 69 = .ok (.aload_n 0, 1) := by decide +kernel
theorem dX12_letter_70 : decode cX12_letter 70 = .ok (.getfield 100, 3) := by decide +kernel
theorem dX12_letter_73 : decode cX12_letter 73 = .ok (.bipush 8, 2) := by decide +kernel
theorem dX12_letter_75 : decode cX12_letter 75 = .ok (.aload_n 0, 1) := by decide +kernel
theorem dX12_letter_76 : decode cX12_letter 76 = .ok (.getfield 51, 3) := by decide +kernel
theorem dX12_letter_79 : decode cX12_letter 79 = .ok (.imul, 1) := by decide +kernel
theorem dX12_letter_80 : decode cX12_letter 80 = .ok (.iload_n 2, 1) := by decide +kernel
theorem dX12_letter_81 : decode cX12_letter 81 = .ok (.iadd, 1) := by decide +kernel
theorem dX12_letter_82 : decode cX12_letter 82 = .ok (.laload, 1) := by decide +kernel
theorem dX12_letter_83 : decode cX12_letter 83 = .ok (.lstore 5, 2) := by decide +kernel
theorem dX12_letter_85 : decode cX12_letter 85 = .ok (.iconst 0, 1) := by decide +kernel
theorem dX12_letter_86 : decode cX12_letter 86 = .ok (.istore 7, 2) := by decide +kernel
theorem dX12_letter_88 : decode cX12_letter 88 = .ok (.lload 5, 2) := by decide +kernel
theorem dX12_letter_90 : decode cX12_letter 90 = .ok (.lstore 8, 2) := by decide +kernel
theorem dX12_letter_92 : decode cX12_letter 92 = .ok (.lload 8, 2) := by decide +kernel
theorem dX12_letter_94 : decode cX12_letter 94 = .ok (.lconst 0, 1) := by decide +kernel
theorem dX12_letter_95 : decode cX12_letter 95 = .ok (.lcmp, 1) := by decide +kernel
theorem dX12_letter_96 : decode cX12_letter 96 = .ok (.ifCond .le 16, 3) := by decide +kernel
theorem dX12_letter_99 : decode cX12_letter 99 = .ok (.iinc 7 1, 3) := by decide +kernel
theorem dX12_letter_102 : decode cX12_letter 102 = .ok (.lload 8, 2) := by decide +kernel
theorem dX12_letter_104 : decode cX12_letter 104 = .ok (.bipush 8, 2) := by decide +kernel
theorem dX12_letter_106 : decode cX12_letter 106 = .ok (.lshr, 1) := by decide +kernel
theorem dX12_letter_107 : decode cX12_letter 107 = .ok (.lstore 8, 2) := by decide +kernel
theorem dX12_letter_109 : decode cX12_letter 109 = .ok (.goto (-17), 3) := by decide +kernel
theorem dX12_letter_112 : decode cX12_letter 112 = .ok (.iload_n 3, 1) := by decide +kernel
theorem dX12_letter_113 : decode cX12_letter 113 = .ok (.iload 7, 2) := by decide +kernel
theorem dX12_letter_115 : decode cX12_letter 115 = .ok (.if_icmp .lt 7, 3) := by decide +kernel
theorem dX12_letter_118 : decode cX12_letter 118 = .ok (.iconst 0, 1) := by decide +kernel
theorem dX12_letter_119 : decode cX12_letter 119 = .ok (.goto 25, 3) := by decide +kernel
theorem dX12_letter_122 : decode cX12_letter 122 = .ok (.lload 5, 2) := by decide +kernel
theorem dX12_letter_124 : decode cX12_letter 124 = .ok (.bipush 8, 2) := by decide +kernel
theorem dX12_letter_126 : decode cX12_letter 126 = .ok (.iload 7, 2) := by decide +kernel
theorem dX12_letter_128 : decode cX12_letter 128 = .ok (.iconst 1, 1) := by decide +kernel
theorem dX12_letter_129 : decode cX12_letter 129 = .ok (.isub, 1) := by decide +kernel
theorem dX12_letter_130 : decode cX12_letter 130 = .ok (.iload_n 3, 1) := by decide +kernel
theorem dX12_letter_131 : decode cX12_letter 131 = .ok (.isub, 1) := by decide +kernel
theorem dX12_letter_132 : decode cX12_letter 132 = .ok (.imul, 1) := by decide +kernel
theorem dX12_letter_133 : decode cX12_letter 133 = .ok (.lshr, 1) := by decide +kernel
theorem dX12_letter_134 : decode cX12_letter 134 = .ok (.ldc2_w 468, 3) := by decide +kernel
theorem dX12_letter_137 : decode cX12_letter 137 = .ok (.land, 1) := by decide +kernel
theorem dX12_letter_138 : decode cX12_letter 138 = .ok (.l2i, 1) := by decide +kernel
theorem dX12_letter_139 : decode cX12_letter 139 = .ok (.bipush 97, 2) := by decide +kernel
theorem dX12_letter_141 : decode cX12_letter 141 = .ok (.isub, 1) := by decide +kernel
theorem dX12_letter_142 : decode cX12_letter 142 = .ok (.iconst 1, 1) := by decide +kernel
theorem dX12_letter_143 : decode cX12_letter 143 = .ok (.iadd, 1) := by decide +kernel
theorem dX12_letter_144 : decode cX12_letter 144 = .ok (.ireturn, 1) := by decide +kernel
theorem dX12_voice_0 : decode cX12_voice 0 = .ok (.aload_n 0, 1) := by decide +kernel
theorem dX12_voice_1 : decode cX12_voice 1 = .ok (.iload_n 1, 1) := by decide +kernel
theorem dX12_voice_2 : decode cX12_voice 2 = .ok (.invokevirtual 462, 3) := by decide +kernel
theorem dX12_voice_5 : decode cX12_voice 5 = .ok (.ifCond .ne 7, 3) := by decide +kernel
theorem dX12_voice_8 : decode cX12_voice 8 = .ok (.iconst (-1), 1) := by decide +kernel
theorem dX12_voice_9 : decode cX12_voice 9 = .ok (.goto 71, 3) := by decide +kernel
theorem dX12_voice_12 : decode cX12_voice 12 = .ok (.iload_n 2, 1) := by decide +kernel
theorem dX12_voice_13 : decode cX12_voice 13 = .ok (.ifCond .ne 12, 3) := by decide +kernel
theorem dX12_voice_16 : decode cX12_voice 16 = .ok (.aload_n 0, 1) := by decide +kernel
theorem dX12_voice_17 : decode cX12_voice 17 = .ok (.getfield 150, 3) := by decide +kernel
theorem dX12_voice_20 : decode cX12_voice 20 = .ok (.iload_n 1, 1) := by decide +kernel
theorem dX12_voice_21 : decode cX12_voice 21 = .ok (.iaload, 1) := by decide +kernel
theorem dX12_voice_22 : decode cX12_voice 22 = .ok (.goto 58, 3) := by decide +kernel
theorem dX12_voice_25 : decode cX12_voice 25 = .ok (.iload_n 2, 1) := by decide +kernel
theorem dX12_voice_26 : decode cX12_voice 26 = .ok (.iconst 1, 1) := by decide +kernel
theorem dX12_voice_27 : decode cX12_voice 27 = .ok (.if_icmp .ne 24, 3) := by decide +kernel
theorem dX12_voice_30 : decode cX12_voice 30 = .ok (.aload_n 0, 1) := by decide +kernel
theorem dX12_voice_31 : decode cX12_voice 31 = .ok (.getfield 156, 3) := by decide +kernel
theorem dX12_voice_34 : decode cX12_voice 34 = .ok (.iconst 0, 1) := by decide +kernel
theorem dX12_voice_35 : decode cX12_voice 35 = .ok (.iaload, 1) := by decide +kernel
theorem dX12_voice_36 : decode cX12_voice 36 = .ok (.iload_n 1, 1) := by decide +kernel
theorem dX12_voice_37 : decode cX12_voice 37 = .ok (.invokestatic 428, 3) := by decide +kernel
theorem dX12_voice_40 : decode cX12_voice 40 = .ok (.ifCond .eq 7, 3) := by decide +kernel
theorem dX12_voice_43 : decode cX12_voice 43 = .ok (.iconst 1, 1) := by decide +kernel
theorem dX12_voice_44 : decode cX12_voice 44 = .ok (.goto 36, 3) := by decide +kernel
theorem dX12_voice_47 : decode cX12_voice 47 = .ok (.iconst 0, 1) := by decide +kernel
theorem dX12_voice_48 : decode cX12_voice 48 = .ok (.goto 32, 3) := by decide +kernel
theorem dX12_voice_51 : decode cX12_voice 51 = .ok (.iload_n 2, 1) := by decide +kernel
theorem dX12_voice_52 : decode cX12_voice 52 = .ok (.iconst 2, 1) := by decide +kernel
theorem dX12_voice_53 : decode cX12_voice 53 = .ok (.if_icmp .ne 12, 3) := by decide +kernel
theorem dX12_voice_56 : decode cX12_voice 56 = .ok (.aload_n 0, 1) := by decide +kernel
theorem dX12_voice_57 : decode cX12_voice 57 = .ok (.getfield 153, 3) := by decide +kernel
theorem dX12_voice_60 : decode cX12_voice 60 = .ok (.iload_n 1, 1) := by decide +kernel
theorem dX12_voice_61 : decode cX12_voice 61 = .ok (.iaload, 1) := by decide +kernel
theorem dX12_voice_62 : decode cX12_voice 62 = .ok (.goto 18, 3) := by decide +kernel
theorem dX12_voice_65 : decode cX12_voice 65 = .ok (.iload_n 2, 1) := by decide +kernel
theorem dX12_voice_66 : decode cX12_voice 66 = .ok (.iconst 3, 1) := by decide +kernel
theorem dX12_voice_67 : decode cX12_voice 67 = .ok (.if_icmp .ne 12, 3) := by decide +kernel
theorem dX12_voice_70 : decode cX12_voice 70 = .ok (.aload_n 0, 1) := by decide +kernel
theorem dX12_voice_71 : decode cX12_voice 71 = .ok (.iconst 0, 1) := by decide +kernel
theorem dX12_voice_72 : decode cX12_voice 72 = .ok (.iload_n 1, 1) := by decide +kernel
theorem dX12_voice_73 : decode cX12_voice 73 = .ok (.invokevirtual 425, 3) := by decide +kernel
theorem dX12_voice_76 : decode cX12_voice 76 = .ok (.goto 4, 3) := by decide +kernel
theorem dX12_voice_79 : decode cX12_voice 79 = .ok (.iconst (-1), 1) := by decide +kernel
theorem dX12_voice_80 : decode cX12_voice 80 = .ok (.ireturn, 1) := by decide +kernel
theorem dX12_person_0 : decode cX12_person 0 = .ok (.aload_n 0, 1) := by decide +kernel
theorem dX12_person_1 : decode cX12_person 1 = .ok (.iload_n 1, 1) := by decide +kernel
theorem dX12_person_2 : decode cX12_person 2 = .ok (.invokevirtual 465, 3) := by decide +kernel
theorem dX12_person_5 : decode cX12_person 5 = .ok (.ifCond .eq 12, 3) := by decide +kernel
theorem dX12_person_8 : decode cX12_person 8 = .ok (.iload_n 2, 1) := by decide +kernel
theorem dX12_person_9 : decode cX12_person 9 = .ok (.iconst 0, 1) := by decide +kernel
theorem dX12_person_10 : decode cX12_person 10 = .ok (.iconst 3, 1) := by decide +kernel
theorem dX12_person_11 : decode cX12_person 11 = .ok (.invokestatic 303, 3) := by decide +kernel
theorem dX12_person_14 : decode cX12_person 14 = .ok (.ifCond .ne 5, 3) := by decide +kernel
theorem dX12_person_17 : decode cX12_person 17 = .ok (.iconst (-1), 1) := by decide +kernel
theorem dX12_person_18 : decode cX12_person 18 = .ok (.ireturn, 1) := by decide +kernel
theorem dX12_person_19 : decode cX12_person 19 = .ok (.iload_n 2, 1) := by decide +kernel
theorem dX12_person_20 : decode cX12_person 20 = .ok (.iconst 2, 1) := by decide +kernel
theorem dX12_person_21 : decode cX12_person 21 = .ok (.if_icmp .ge 39, 3) := by decide +kernel
theorem dX12_person_24 : decode cX12_person 24 = .ok (.iload_n 2, 1) := by decide +kernel
theorem dX12_person_25 : decode cX12_person 25 = .ok (.ifCond .ne 20, 3) := by decide +kernel
theorem dX12_person_28 : decode cX12_person 28 = .ok (.aload_n 0, 1) := by decide +kernel
theorem dX12_person_29 : decode cX12_person 29 = .ok (.getfield 63, 3) := by decide +kernel
theorem dX12_person_32 : decode cX12_person 32 = .ok (.bipush 8, 2) := by decide +kernel
theorem dX12_person_34 : decode cX12_person 34 = .ok (.aload_n 0, 1) := by decide +kernel
theorem dX12_person_35 : decode cX12_person 35 = .ok (.getfield 51, 3) := by decide +kernel
theorem dX12_person_38 : decode cX12_person 38 = .ok (.imul, 1) := by decide +kernel
theorem dX12_person_39 : decode cX12_person 39 = .ok (.iload_n 1, 1) := by decide +kernel
theorem dX12_person_40 : decode cX12_person 40 = .ok (.iadd, 1) := by decide +kernel
theorem dX12_person_41 : decode cX12_person 41 = .ok (.iaload, 1) := by decide +kernel
theorem dX12_person_42 : decode cX12_person 42 = .ok (.goto 17, 3) := by decide +kernel
theorem dX12_person_45 : decode cX12_person 45 = .ok (.aload_n 0, 1) := by decide +kernel
theorem dX12_person_46 : decode cX12_person 46 = .ok (.getfield 66, 3) := by decide +kernel
theorem dX12_person_49 : decode cX12_person 49 = .ok (.bipush 8, 2) := by decide +kernel
theorem dX12_person_51 : decode cX12_person 51 = .ok (.aload_n 0, 1) := by decide +kernel
theorem dX12_person_52 : decode cX12_person 52 = .ok (.getfield 51, 3) := by decide +kernel
theorem dX12_person_55 : decode cX12_person 55 = .ok (.imul, 1) := by decide +kernel
theorem dX12_person_56 : decode cX12_person 56 = .ok (.iload_n 1, 1) := by decide +kernel
theorem dX12_person_57 : decode cX12_person 57 = .ok (.iadd, 1) := by decide +kernel
theorem dX12_person_58 : decode cX12_person 58 = .ok (.iaload, 1) := by decide +kernel
theorem dX12_person_59 : decode cX12_person 59 = .ok (.ireturn, 1) := by decide +kernel
theorem dX12_person_60 : decode cX12_person 60 = .ok (.iconst 0, 1) := by decide +kernel
theorem dX12_person_61 : decode cX12_person 61 = .ok (.istore_n 3, 1) := by decide +kernel
theorem dX12_person_62 : decode cX12_person 62 = .ok (.iconst 0, 1) := by decide +kernel
theorem dX12_person_63 : decode cX12_person 63 = .ok (.istore 4, 2) := by decide +kernel
theorem dX12_person_65 : decode cX12_person 65 = .ok (.iload 4, 2) := by decide +kernel
theorem dX12_person_67 : decode cX12_person 67 = .ok (.aload_n 0, 1) := by decide +kernel
theorem dX12_person_68 : decode cX12_person 68 = .ok (.getfield 69, 3) := by decide +kernel
theorem dX12_person_71 : decode cX12_person 71 = .ok (.aload_n 0, 1) := by decide +kernel
theorem dX12_person_72 : decode cX12_person 72 = .ok (.getfield 51, 3) := by decide +kernel
theorem dX12_person_75 : decode cX12_person 75 = .ok (.iaload, 1) := by decide +kernel
theorem dX12_person_76 : decode cX12_person 76 = .ok (.if_icmp .ge 52, 3) := by decide +kernel
theorem dX12_person_79 : decode cX12_person 79 = .ok (.iload_n 3, 1) := by decide +kernel
theorem dX12_person_80 : decode cX12_person 80 = .ok (.aload_n 0, 1) := by decide +kernel
theorem dX12_person_81 : decode cX12_person 81 = .ok (.getfield 72, 3) := by decide +kernel
theorem dX12_person_84 : decode cX12_person 84 = .ok (.bipush 12, 2) := by decide +kernel
theorem dX12_person_86 : decode cX12_person 86 = .ok (.aload_n 0, 1) := by decide +kernel
theorem dX12_person_87 : decode cX12_person 87 = .ok (.getfield 51, 3) := by decide +kernel
theorem dX12_person_90 : decode cX12_person 90 = .ok (.imul, 1) := by decide +kernel
theorem dX12_person_91 : decode cX12_person 91 = .ok (.iload 4, 2) := by decide +kernel
theorem dX12_person_93 : decode cX12_person 93 = .ok (.iadd, 1) := by decide +kernel
theorem dX12_person_94 : decode cX12_person 94 = .ok (.iaload, 1) := by decide +kernel
theorem dX12_person_95 : decode cX12_person 95 = .ok (.iload_n 1, 1) := by decide +kernel
theorem dX12_person_96 : decode cX12_person 96 = .ok (.if_icmp .ne 23, 3) := by decide +kernel
theorem dX12_person_99 : decode cX12_person 99 = .ok (.iload_n 2, 1) := by decide +kernel
theorem dX12_person_100 : decode cX12_person 100 = .ok (.iconst 2, 1) := by decide +kernel
theorem dX12_person_101 : decode cX12_person 101 = .ok (.if_icmp .eq 14, 3) := by decide +kernel
theorem dX12_person_104 : decode cX12_person 104 = .ok (.aload_n 0, 1) := by decide +kernel
theorem dX12_person_105 : decode cX12_person 105 = .ok (.getfield 159, 3) := by decide +kernel
theorem dX12_person_108 : decode cX12_person 108 = .ok (.iload 4, 2) := by decide +kernel
theorem dX12_person_110 : decode cX12_person 110 = .ok (.iaload, 1) := by decide +kernel
theorem dX12_person_111 : decode cX12_person 111 = .ok (.iconst 2, 1) := by decide +kernel
theorem dX12_person_112 : decode cX12_person 112 = .ok (.if_icmp .ne 7, 3) := by decide +kernel
theorem dX12_person_115 : decode cX12_person 115 = .ok (.iconst 1, 1) := by decide +kernel
theorem dX12_person_116 : decode cX12_person 116 = .ok (.goto 4, 3) := by decide +kernel
theorem dX12_person_119 : decode cX12_person 119 = .ok (.iconst 0, 1) := by decide +kernel
theorem dX12_person_120 : decode cX12_person 120 = .ok (.iadd, 1) := by decide +kernel
theorem dX12_person_121 : decode cX12_person 121 = .ok (.istore_n 3, 1) := by decide +kernel
theorem dX12_person_122 : decode cX12_person 122 = .ok (.iinc 4 1, 3) := by decide +kernel
theorem dX12_person_125 : decode cX12_person 125 = .ok (.goto (-60), 3) := by decide +kernel
theorem dX12_person_128 : decode cX12_person 128 = .ok (.iload_n 3, 1) := by decide +kernel
theorem dX12_person_129 : decode cX12_person 129 = .ok (.ireturn, 1) := by decide +kernel
theorem dX12_saying_0 : decode cX12_saying 0 = .ok (.aload_n 0, 1) := by decide +kernel
theorem dX12_saying_1 : decode cX12_saying 1 = .ok (.iload_n 1, 1) := by decide +kernel
theorem dX12_saying_2 : decode cX12_saying 2 = .ok (.invokevirtual 470, 3) := by decide +kernel
theorem dX12_saying_5 : decode cX12_saying 5 = .ok (.ifCond .ne 5, 3) := by decide +kernel
theorem dX12_saying_8 : decode cX12_saying 8 = .ok (.iconst (-1), 1) := by decide +kernel
theorem dX12_saying_9 : decode cX12_saying 9 = .ok (.ireturn, 1) := by decide +kernel
theorem dX12_saying_10 : decode cX12_saying 10 = .ok (.iload_n 2, 1) := by decide +kernel
theorem dX12_saying_11 : decode cX12_saying 11 = .ok (.tableswitch 129 0 7 #[45, 60, 67, 82, 89, 96, 103, 110], 45) := by decide +kernel
theorem dX12_saying_56 : decode cX12_saying 56 = .ok (.aload_n 0, 1) := by decide +kernel
theorem dX12_saying_57 : decode cX12_saying 57 = .ok (.getfield 72, 3) := by decide +kernel
theorem dX12_saying_60 : decode cX12_saying 60 = .ok (.bipush 12, 2) := by decide +kernel
theorem dX12_saying_62 : decode cX12_saying 62 = .ok (.aload_n 0, 1) := by decide +kernel
theorem dX12_saying_63 : decode cX12_saying 63 = .ok (.getfield 51, 3) := by decide +kernel
theorem dX12_saying_66 : decode cX12_saying 66 = .ok (.imul, 1) := by decide +kernel
theorem dX12_saying_67 : decode cX12_saying 67 = .ok (.iload_n 1, 1) := by decide +kernel
theorem dX12_saying_68 : decode cX12_saying 68 = .ok (.iadd, 1) := by decide +kernel
theorem dX12_saying_69 : decode cX12_saying 69 = .ok (.iaload, 1) := by decide +kernel
theorem dX12_saying_70 : decode cX12_saying 70 = .ok (.ireturn, 1) := by decide +kernel
theorem dX12_saying_71 : decode cX12_saying 71 = .ok (.aload_n 0, 1) := by decide +kernel
theorem dX12_saying_72 : decode cX12_saying 72 = .ok (.getfield 162, 3) := by decide +kernel
theorem dX12_saying_75 : decode cX12_saying 75 = .ok (.iload_n 1, 1) := by decide +kernel
theorem dX12_saying_76 : decode cX12_saying 76 = .ok (.iaload, 1) := by decide +kernel
theorem dX12_saying_77 : decode cX12_saying 77 = .ok (.ireturn, 1) := by decide +kernel
theorem dX12_saying_78 : decode cX12_saying 78 = .ok (.aload_n 0, 1) := by decide +kernel
theorem dX12_saying_79 : decode cX12_saying 79 = .ok (.getfield 78, 3) := by decide +kernel
theorem dX12_saying_82 : decode cX12_saying 82 = .ok (.bipush 12, 2) := by decide +kernel
theorem dX12_saying_84 : decode cX12_saying 84 = .ok (.aload_n 0, 1) := by decide +kernel
theorem dX12_saying_85 : decode cX12_saying 85 = .ok (.getfield 51, 3) := by decide +kernel
theorem dX12_saying_88 : decode cX12_saying 88 = .ok (.imul, 1) := by decide +kernel
theorem dX12_saying_89 : decode cX12_saying 89 = .ok (.iload_n 1, 1) := by decide +kernel
theorem dX12_saying_90 : decode cX12_saying 90 = .ok (.iadd, 1) := by decide +kernel
theorem dX12_saying_91 : decode cX12_saying 91 = .ok (.iaload, 1) := by decide +kernel
theorem dX12_saying_92 : decode cX12_saying 92 = .ok (.ireturn, 1) := by decide +kernel
theorem dX12_saying_93 : decode cX12_saying 93 = .ok (.aload_n 0, 1) := by decide +kernel
theorem dX12_saying_94 : decode cX12_saying 94 = .ok (.getfield 159, 3) := by decide +kernel
theorem dX12_saying_97 : decode cX12_saying 97 = .ok (.iload_n 1, 1) := by decide +kernel
theorem dX12_saying_98 : decode cX12_saying 98 = .ok (.iaload, 1) := by decide +kernel
theorem dX12_saying_99 : decode cX12_saying 99 = .ok (.ireturn, 1) := by decide +kernel
theorem dX12_saying_100 : decode cX12_saying 100 = .ok (.aload_n 0, 1) := by decide +kernel
theorem dX12_saying_101 : decode cX12_saying 101 = .ok (.getfield 165, 3) := by decide +kernel
theorem dX12_saying_104 : decode cX12_saying 104 = .ok (.iload_n 1, 1) := by decide +kernel
theorem dX12_saying_105 : decode cX12_saying 105 = .ok (.iaload, 1) := by decide +kernel
theorem dX12_saying_106 : decode cX12_saying 106 = .ok (.ireturn, 1) := by decide +kernel
theorem dX12_saying_107 : decode cX12_saying 107 = .ok (.aload_n 0, 1) := by decide +kernel
theorem dX12_saying_108 : decode cX12_saying 108 = .ok (.getfield 168, 3) := by decide +kernel
theorem dX12_saying_111 : decode cX12_saying 111 = .ok (.iload_n 1, 1) := by decide +kernel
theorem dX12_saying_112 : decode cX12_saying 112 = .ok (.iaload, 1) := by decide +kernel
theorem dX12_saying_113 : decode cX12_saying 113 = .ok (.ireturn, 1) := by decide +kernel
theorem dX12_saying_114 : decode cX12_saying 114 = .ok (.aload_n 0, 1) := by decide +kernel
theorem dX12_saying_115 : decode cX12_saying 115 = .ok (.getfield 171, 3) := by decide +kernel
theorem dX12_saying_118 : decode cX12_saying 118 = .ok (.iload_n 1, 1) := by decide +kernel
theorem dX12_saying_119 : decode cX12_saying 119 = .ok (.iaload, 1) := by decide +kernel
theorem dX12_saying_120 : decode cX12_saying 120 = .ok (.ireturn, 1) := by decide +kernel
theorem dX12_saying_121 : decode cX12_saying 121 = .ok (.aload_n 0, 1) := by decide +kernel
theorem dX12_saying_122 : decode cX12_saying 122 = .ok (.getfield 174, 3) := by decide +kernel
theorem dX12_saying_125 : decode cX12_saying 125 = .ok (.iconst 0, 1) := by decide +kernel
theorem dX12_saying_126 : decode cX12_saying 126 = .ok (.iaload, 1) := by decide +kernel
theorem dX12_saying_127 : decode cX12_saying 127 = .ok (.iload_n 1, 1) := by decide +kernel
theorem dX12_saying_128 : decode cX12_saying 128 = .ok (.invokestatic 428, 3) := by decide +kernel
theorem dX12_saying_131 : decode cX12_saying 131 = .ok (.ifCond .eq 7, 3) := by decide +kernel
theorem dX12_saying_134 : decode cX12_saying 134 = .ok (.iconst 1, 1) := by decide +kernel
theorem dX12_saying_135 : decode cX12_saying 135 = .ok (.goto 4, 3) := by decide +kernel
theorem dX12_saying_138 : decode cX12_saying 138 = .ok (.iconst 0, 1) := by decide +kernel
theorem dX12_saying_139 : decode cX12_saying 139 = .ok (.ireturn, 1) := by decide +kernel
theorem dX12_saying_140 : decode cX12_saying 140 = .ok (.iconst (-1), 1) := by decide +kernel
theorem dX12_saying_141 : decode cX12_saying 141 = .ok (.ireturn, 1) := by decide +kernel
theorem dX12_picks_0 : decode cX12_picks 0 = .ok (.aload_n 0, 1) := by decide +kernel
theorem dX12_picks_1 : decode cX12_picks 1 = .ok (.iload_n 1, 1) := by decide +kernel
theorem dX12_picks_2 : decode cX12_picks 2 = .ok (.invokevirtual 470, 3) := by decide +kernel
theorem dX12_picks_5 : decode cX12_picks 5 = .ok (.ifCond .eq 21, 3) := by decide +kernel
theorem dX12_picks_8 : decode cX12_picks 8 = .ok (.aload_n 0, 1) := by decide +kernel
theorem dX12_picks_9 : decode cX12_picks 9 = .ok (.iload_n 2, 1) := by decide +kernel
theorem dX12_picks_10 : decode cX12_picks 10 = .ok (.invokevirtual 462, 3) := by decide +kernel
theorem dX12_picks_13 : decode cX12_picks 13 = .ok (.ifCond .eq 13, 3) := by decide +kernel
theorem dX12_picks_16 : decode cX12_picks 16 = .ok (.aload_n 0, 1) := by decide +kernel
theorem dX12_picks_17 : decode cX12_picks 17 = .ok (.iconst 0, 1) := by decide +kernel
theorem dX12_picks_18 : decode cX12_picks 18 = .ok (.iload_n 1, 1) := by decide +kernel
theorem dX12_picks_19 : decode cX12_picks 19 = .ok (.iload_n 2, 1) := by decide +kernel
theorem dX12_picks_20 : decode cX12_picks 20 = .ok (.invokevirtual 442, 3) := by decide +kernel
theorem dX12_picks_23 : decode cX12_picks 23 = .ok (.goto 6, 3) := by decide +kernel
theorem dX12_picks_26 : decode cX12_picks 26 = .ok (.ldc2_w 473, 3) := by decide +kernel
theorem dX12_picks_29 : decode cX12_picks 29 = .ok (.lreturn, 1) := by decide +kernel
theorem dX12_isAhead_0 : decode cX12_isAhead 0 = .ok (.iload_n 1, 1) := by decide +kernel
theorem dX12_isAhead_1 : decode cX12_isAhead 1 = .ok (.iload_n 2, 1) := by decide +kernel
theorem dX12_isAhead_2 : decode cX12_isAhead 2 = .ok (.iload_n 3, 1) := by decide +kernel
theorem dX12_isAhead_3 : decode cX12_isAhead 3 = .ok (.invokestatic 303, 3) := by decide +kernel
theorem dX12_isAhead_6 : decode cX12_isAhead 6 = .ok (.ifCond .eq 21, 3) := by decide +kernel
theorem dX12_isAhead_9 : decode cX12_isAhead 9 = .ok (.aload_n 0, 1) := by decide +kernel
theorem dX12_isAhead_10 : decode cX12_isAhead 10 = .ok (.getfield 147, 3) := by decide +kernel
theorem dX12_isAhead_13 : decode cX12_isAhead 13 = .ok (.iconst 0, 1) := by decide +kernel
theorem dX12_isAhead_14 : decode cX12_isAhead 14 = .ok (.iaload, 1) := by decide +kernel
theorem dX12_isAhead_15 : decode cX12_isAhead 15 = .ok (.sipush 999, 3) := by decide +kernel
theorem dX12_isAhead_18 : decode cX12_isAhead 18 = .ok (.iload_n 1, 1) := by decide +kernel
theorem dX12_isAhead_19 : decode cX12_isAhead 19 = .ok (.isub, 1) := by decide +kernel
theorem dX12_isAhead_20 : decode cX12_isAhead 20 = .ok (.if_icmp .gt 7, 3) := by decide +kernel
theorem dX12_isAhead_23 : decode cX12_isAhead 23 = .ok (.iconst 1, 1) := by decide +kernel
theorem dX12_isAhead_24 : decode cX12_isAhead 24 = .ok (.goto 4, 3) := by decide +kernel
theorem dX12_isAhead_27 : decode cX12_isAhead 27 = .ok (.iconst 0, 1) := by decide +kernel
theorem dX12_isAhead_28 : decode cX12_isAhead 28 = .ok (.ireturn, 1) := by decide +kernel
theorem dX12_goesOn__0 : decode cX12_goesOn_ 0 = .ok (.iconst 0, 1) := by decide +kernel
theorem dX12_goesOn__1 : decode cX12_goesOn_ 1 = .ok (.istore_n 3, 1) := by decide +kernel
theorem dX12_goesOn__2 : decode cX12_goesOn_ 2 = .ok (.iload_n 3, 1) := by decide +kernel
theorem dX12_goesOn__3 : decode cX12_goesOn_ 3 = .ok (.iload_n 1, 1) := by decide +kernel
theorem dX12_goesOn__4 : decode cX12_goesOn_ 4 = .ok (.if_icmp .ge 15, 3) := by decide +kernel
theorem dX12_goesOn__7 : decode cX12_goesOn_ 7 = .ok (.aload_n 0, 1) := by decide +kernel
theorem dX12_goesOn__8 : decode cX12_goesOn_ 8 = .ok (.iconst 1, 1) := by decide +kernel
theorem dX12_goesOn__9 : decode cX12_goesOn_ 9 = .ok (.iload_n 2, 1) := by decide +kernel
theorem dX12_goesOn__10 : decode cX12_goesOn_ 10 = .ok (.invokevirtual 475, 3) := by decide +kernel
theorem dX12_goesOn__13 : decode cX12_goesOn_ 13 = .ok (.iinc 3 1, 3) := by decide +kernel
theorem dX12_goesOn__16 : decode cX12_goesOn_ 16 = .ok (.goto (-14), 3) := by decide +kernel
theorem dX12_goesOn__19 : decode cX12_goesOn_ 19 = .ok (.return_, 1) := by decide +kernel
theorem dX12_later_0 : decode cX12_later 0 = .ok (.aload_n 0, 1) := by decide +kernel
theorem dX12_later_1 : decode cX12_later 1 = .ok (.iload_n 1, 1) := by decide +kernel
theorem dX12_later_2 : decode cX12_later 2 = .ok (.invokevirtual 470, 3) := by decide +kernel
theorem dX12_later_5 : decode cX12_later 5 = .ok (.ifCond .eq 23, 3) := by decide +kernel
theorem dX12_later_8 : decode cX12_later 8 = .ok (.aload_n 0, 1) := by decide +kernel
theorem dX12_later_9 : decode cX12_later 9 = .ok (.iload_n 2, 1) := by decide +kernel
theorem dX12_later_10 : decode cX12_later 10 = .ok (.iconst 0, 1) := by decide +kernel
theorem dX12_later_11 : decode cX12_later 11 = .ok (.bipush 60, 2) := by decide +kernel
theorem dX12_later_13 : decode cX12_later 13 = .ok (.invokevirtual 478, 3) := by decide +kernel
theorem dX12_later_16 : decode cX12_later 16 = .ok (.ifCond .eq 12, 3) := by decide +kernel
theorem dX12_later_19 : decode cX12_later 19 = .ok (.iload_n 3, 1) := by decide +kernel
theorem dX12_later_20 : decode cX12_later 20 = .ok (.iconst 0, 1) := by decide +kernel
theorem dX12_later_21 : decode cX12_later 21 = .ok (.iconst 2, 1) := by decide +kernel
theorem dX12_later_22 : decode cX12_later 22 = .ok (.invokestatic 303, 3) := by decide +kernel
theorem dX12_later_25 : decode cX12_later 25 = .ok (.ifCond .ne 5, 3) := by decide +kernel
theorem dX12_later_28 : decode cX12_later 28 = .ok (.iconst (-1), 1) := by decide +kernel
theorem dX12_later_29 : decode cX12_later 29 = .ok (.ireturn, 1) := by decide +kernel
theorem dX12_later_30 : decode cX12_later 30 = .ok (.aload_n 0, 1) := by decide +kernel
theorem dX12_later_31 : decode cX12_later 31 = .ok (.iconst 1, 1) := by decide +kernel
theorem dX12_later_32 : decode cX12_later 32 = .ok (.iconst 0, 1) := by decide +kernel
theorem dX12_later_33 : decode cX12_later 33 = .ok (.invokevirtual 396, 3) := by decide +kernel
theorem dX12_later_36 : decode cX12_later 36 = .ok (.aload_n 0, 1) := by decide +kernel
theorem dX12_later_37 : decode cX12_later 37 = .ok (.iload_n 2, 1) := by decide +kernel
theorem dX12_later_38 : decode cX12_later 38 = .ok (.aload_n 0, 1) := by decide +kernel
theorem dX12_later_39 : decode cX12_later 39 = .ok (.invokevirtual 481, 3) := by decide +kernel
theorem dX12_later_42 : decode cX12_later 42 = .ok (.invokevirtual 485, 3) := by decide +kernel
theorem dX12_later_45 : decode cX12_later 45 = .ok (.iload_n 3, 1) := by decide +kernel
theorem dX12_later_46 : decode cX12_later 46 = .ok (.ifCond .ne 15, 3) := by decide +kernel
theorem dX12_later_49 : decode cX12_later 49 = .ok (.aload_n 0, 1) := by decide +kernel
theorem dX12_later_50 : decode cX12_later 50 = .ok (.getfield 159, 3) := by decide +kernel
theorem dX12_later_53 : decode cX12_later 53 = .ok (.bipush 12, 2) := by decide +kernel
theorem dX12_later_55 : decode cX12_later 55 = .ok (.iload_n 1, 1) := by decide +kernel
theorem dX12_later_56 : decode cX12_later 56 = .ok (.iadd, 1) := by decide +kernel
theorem dX12_later_57 : decode cX12_later 57 = .ok (.iaload, 1) := by decide +kernel
theorem dX12_later_58 : decode cX12_later 58 = .ok (.goto 38, 3) := by decide +kernel
theorem dX12_later_61 : decode cX12_later 61 = .ok (.iload_n 3, 1) := by decide +kernel
theorem dX12_later_62 : decode cX12_later 62 = .ok (.iconst 1, 1) := by decide +kernel
theorem dX12_later_63 : decode cX12_later 63 = .ok (.if_icmp .ne 15, 3) := by decide +kernel
theorem dX12_later_66 : decode cX12_later 66 = .ok (.aload_n 0, 1) := by decide +kernel
theorem dX12_later_67 : decode cX12_later 67 = .ok (.getfield 168, 3) := by decide +kernel
theorem dX12_later_70 : decode cX12_later 70 = .ok (.bipush 12, 2) := by decide +kernel
theorem dX12_later_72 : decode cX12_later 72 = .ok (.iload_n 1, 1) := by decide +kernel
theorem dX12_later_73 : decode cX12_later 73 = .ok (.iadd, 1) := by decide +kernel
theorem dX12_later_74 : decode cX12_later 74 = .ok (.iaload, 1) := by decide +kernel
theorem dX12_later_75 : decode cX12_later 75 = .ok (.goto 21, 3) := by decide +kernel
theorem dX12_later_78 : decode cX12_later 78 = .ok (.aload_n 0, 1) := by decide +kernel
theorem dX12_later_79 : decode cX12_later 79 = .ok (.getfield 174, 3) := by decide +kernel
theorem dX12_later_82 : decode cX12_later 82 = .ok (.iconst 1, 1) := by decide +kernel
theorem dX12_later_83 : decode cX12_later 83 = .ok (.iaload, 1) := by decide +kernel
theorem dX12_later_84 : decode cX12_later 84 = .ok (.iload_n 1, 1) := by decide +kernel
theorem dX12_later_85 : decode cX12_later 85 = .ok (.invokestatic 428, 3) := by decide +kernel
theorem dX12_later_88 : decode cX12_later 88 = .ok (.ifCond .eq 7, 3) := by decide +kernel
theorem dX12_later_91 : decode cX12_later 91 = .ok (.iconst 1, 1) := by decide +kernel
theorem dX12_later_92 : decode cX12_later 92 = .ok (.goto 4, 3) := by decide +kernel
theorem dX12_later_95 : decode cX12_later 95 = .ok (.iconst 0, 1) := by decide +kernel
theorem dX12_later_96 : decode cX12_later 96 = .ok (.ireturn, 1) := by decide +kernel
theorem dX12_ends_0 : decode cX12_ends 0 = .ok (.aload_n 0, 1) := by decide +kernel
theorem dX12_ends_1 : decode cX12_ends 1 = .ok (.iload_n 1, 1) := by decide +kernel
theorem dX12_ends_2 : decode cX12_ends 2 = .ok (.invokevirtual 470, 3) := by decide +kernel
theorem dX12_ends_5 : decode cX12_ends 5 = .ok (.ifCond .ne 5, 3) := by decide +kernel
theorem dX12_ends_8 : decode cX12_ends 8 = .ok (.iconst (-1), 1) := by decide +kernel
theorem dX12_ends_9 : decode cX12_ends 9 = .ok (.ireturn, 1) := by decide +kernel
theorem dX12_ends_10 : decode cX12_ends 10 = .ok (.aload_n 0, 1) := by decide +kernel
theorem dX12_ends_11 : decode cX12_ends 11 = .ok (.iconst 1, 1) := by decide +kernel
theorem dX12_ends_12 : decode cX12_ends 12 = .ok (.iconst 0, 1) := by decide +kernel
theorem dX12_ends_13 : decode cX12_ends 13 = .ok (.invokevirtual 396, 3) := by decide +kernel
theorem dX12_ends_16 : decode cX12_ends 16 = .ok (.iconst 0, 1) := by decide +kernel
theorem dX12_ends_17 : decode cX12_ends 17 = .ok (.istore_n 2, 1) := by decide +kernel
theorem dX12_ends_18 : decode cX12_ends 18 = .ok (.aload_n 0, 1) := by decide +kernel
theorem dX12_ends_19 : decode cX12_ends 19 = .ok (.iload_n 2, 1) := by decide +kernel
theorem dX12_ends_20 : decode cX12_ends 20 = .ok (.iconst 0, 1) := by decide +kernel
theorem dX12_ends_21 : decode cX12_ends 21 = .ok (.bipush 60, 2) := by decide +kernel
theorem dX12_ends_23 : decode cX12_ends 23 = .ok (.invokevirtual 478, 3) := by decide +kernel
theorem dX12_ends_26 : decode cX12_ends 26 = .ok (.ifCond .eq 33, 3) := by decide +kernel
theorem dX12_ends_29 : decode cX12_ends 29 = .ok (.aload_n 0, 1) := by decide +kernel
theorem dX12_ends_30 : decode cX12_ends 30 = .ok (.getfield 159, 3) := by decide +kernel
theorem dX12_ends_33 : decode cX12_ends 33 = .ok (.bipush 12, 2) := by decide +kernel
theorem dX12_ends_35 : decode cX12_ends 35 = .ok (.iload_n 1, 1) := by decide +kernel
theorem dX12_ends_36 : decode cX12_ends 36 = .ok (.iadd, 1) := by decide +kernel
theorem dX12_ends_37 : decode cX12_ends 37 = .ok (.iaload, 1) := by decide +kernel
theorem dX12_ends_38 : decode cX12_ends 38 = .ok (.iconst 3, 1) := by decide +kernel
theorem dX12_ends_39 : decode cX12_ends 39 = .ok (.if_icmp .lt 5, 3) := by decide +kernel
theorem dX12_ends_42 : decode cX12_ends 42 = .ok (.iload_n 2, 1) := by decide +kernel
theorem dX12_ends_43 : decode cX12_ends 43 = .ok (.ireturn, 1) := by decide +kernel
theorem dX12_ends_44 : decode cX12_ends 44 = .ok (.aload_n 0, 1) := by decide +kernel
theorem dX12_ends_45 : decode cX12_ends 45 = .ok (.iconst 1, 1) := by decide +kernel
theorem dX12_ends_46 : decode cX12_ends 46 = .ok (.aload_n 0, 1) := by decide +kernel
theorem dX12_ends_47 : decode cX12_ends 47 = .ok (.invokevirtual 481, 3) := by decide +kernel
theorem dX12_ends_50 : decode cX12_ends 50 = .ok (.invokevirtual 475, 3) := by decide +kernel
theorem dX12_ends_53 : decode cX12_ends 53 = .ok (.iinc 2 1, 3) := by decide +kernel
theorem dX12_ends_56 : decode cX12_ends 56 = .ok (.goto (-38), 3) := by decide +kernel
theorem dX12_ends_59 : decode cX12_ends 59 = .ok (.iconst (-1), 1) := by decide +kernel
theorem dX12_ends_60 : decode cX12_ends 60 = .ok (.ireturn, 1) := by decide +kernel
theorem dX12_busy_0 : decode cX12_busy 0 = .ok (.aload_n 0, 1) := by decide +kernel
theorem dX12_busy_1 : decode cX12_busy 1 = .ok (.iload_n 1, 1) := by decide +kernel
theorem dX12_busy_2 : decode cX12_busy 2 = .ok (.iconst 0, 1) := by decide +kernel
theorem dX12_busy_3 : decode cX12_busy 3 = .ok (.bipush 60, 2) := by decide +kernel
theorem dX12_busy_5 : decode cX12_busy 5 = .ok (.invokevirtual 478, 3) := by decide +kernel
theorem dX12_busy_8 : decode cX12_busy 8 = .ok (.ifCond .ne 5, 3) := by decide +kernel
theorem dX12_busy_11 : decode cX12_busy 11 = .ok (.iconst (-1), 1) := by decide +kernel
theorem dX12_busy_12 : decode cX12_busy 12 = .ok (.ireturn, 1) := by decide +kernel
theorem dX12_busy_13 : decode cX12_busy 13 = .ok (.aload_n 0, 1) := by decide +kernel
theorem dX12_busy_14 : decode cX12_busy 14 = .ok (.iconst 1, 1) := by decide +kernel
theorem dX12_busy_15 : decode cX12_busy 15 = .ok (.iconst 0, 1) := by decide +kernel
theorem dX12_busy_16 : decode cX12_busy 16 = .ok (.invokevirtual 396, 3) := by decide +kernel
theorem dX12_busy_19 : decode cX12_busy 19 = .ok (.aload_n 0, 1) := by decide +kernel
theorem dX12_busy_20 : decode cX12_busy 20 = .ok (.iload_n 1, 1) := by decide +kernel
theorem dX12_busy_21 : decode cX12_busy 21 = .ok (.aload_n 0, 1) := by decide +kernel
theorem dX12_busy_22 : decode cX12_busy 22 = .ok (.invokevirtual 481, 3) := by decide +kernel
theorem dX12_busy_25 : decode cX12_busy 25 = .ok (.invokevirtual 485, 3) := by decide +kernel
theorem dX12_busy_28 : decode cX12_busy 28 = .ok (.aload_n 0, 1) := by decide +kernel
theorem dX12_busy_29 : decode cX12_busy 29 = .ok (.iconst 1, 1) := by decide +kernel
theorem dX12_busy_30 : decode cX12_busy 30 = .ok (.invokevirtual 436, 3) := by decide +kernel
theorem dX12_busy_33 : decode cX12_busy 33 = .ok (.ireturn, 1) := by decide +kernel
theorem dX12_from_0 : decode cX12_from 0 = .ok (.sipush 128, 3) := by decide +kernel
theorem dX12_from_3 : decode cX12_from 3 = .ok (.iload_n 0, 1) := by decide +kernel
theorem dX12_from_4 : decode cX12_from 4 = .ok (.imul, 1) := by decide +kernel
theorem dX12_from_5 : decode cX12_from 5 = .ok (.iload_n 1, 1) := by decide +kernel
theorem dX12_from_6 : decode cX12_from 6 = .ok (.iadd, 1) := by decide +kernel
theorem dX12_from_7 : decode cX12_from 7 = .ok (.ireturn, 1) := by decide +kernel
theorem dX12_fits_0 : decode cX12_fits 0 = .ok (.aload_n 0, 1) := by decide +kernel
theorem dX12_fits_1 : decode cX12_fits 1 = .ok (.getfield 159, 3) := by decide +kernel
theorem dX12_fits_4 : decode cX12_fits 4 = .ok (.iload_n 1, 1) := by decide +kernel
theorem dX12_fits_5 : decode cX12_fits 5 = .ok (.iaload, 1) := by decide +kernel
theorem dX12_fits_6 : decode cX12_fits 6 = .ok (.iconst 1, 1) := by decide +kernel
theorem dX12_fits_7 : decode cX12_fits 7 = .ok (.if_icmp .ne 20, 3) := by decide +kernel
theorem dX12_fits_10 : decode cX12_fits 10 = .ok (.iload_n 3, 1) := by decide +kernel
theorem dX12_fits_11 : decode cX12_fits 11 = .ok (.iload_n 2, 1) := by decide +kernel
theorem dX12_fits_12 : decode cX12_fits 12 = .ok (.invokestatic 428, 3) := by decide +kernel
theorem dX12_fits_15 : decode cX12_fits 15 = .ok (.ifCond .ne 12, 3) := by decide +kernel
theorem dX12_fits_18 : decode cX12_fits 18 = .ok (.aload_n 0, 1) := by decide +kernel
theorem dX12_fits_19 : decode cX12_fits 19 = .ok (.iconst 0, 1) := by decide +kernel
theorem dX12_fits_20 : decode cX12_fits 20 = .ok (.iload_n 2, 1) := by decide +kernel
theorem dX12_fits_21 : decode cX12_fits 21 = .ok (.invokevirtual 439, 3) := by decide +kernel
theorem dX12_fits_24 : decode cX12_fits 24 = .ok (.ifCond .ne 5, 3) := by decide +kernel
theorem dX12_fits_27 : decode cX12_fits 27 = .ok (.iconst 0, 1) := by decide +kernel
theorem dX12_fits_28 : decode cX12_fits 28 = .ok (.ireturn, 1) := by decide +kernel
theorem dX12_fits_29 : decode cX12_fits 29 = .ok (.aload_n 0, 1) := by decide +kernel
theorem dX12_fits_30 : decode cX12_fits 30 = .ok (.iconst 0, 1) := by decide +kernel
theorem dX12_fits_31 : decode cX12_fits 31 = .ok (.iload_n 1, 1) := by decide +kernel
theorem dX12_fits_32 : decode cX12_fits 32 = .ok (.iload_n 2, 1) := by decide +kernel
theorem dX12_fits_33 : decode cX12_fits 33 = .ok (.invokevirtual 442, 3) := by decide +kernel
theorem dX12_fits_36 : decode cX12_fits 36 = .ok (.lstore 4, 2) := by decide +kernel
theorem dX12_fits_38 : decode cX12_fits 38 = .ok (.lload 4, 2) := by decide +kernel
theorem dX12_fits_40 : decode cX12_fits 40 = .ok (.lconst 0, 1) := by decide +kernel
theorem dX12_fits_41 : decode cX12_fits 41 = .ok (.lcmp, 1) := by decide +kernel
theorem dX12_fits_42 : decode cX12_fits 42 = .ok (.ifCond .le 9, 3) := by decide +kernel
theorem dX12_fits_45 : decode cX12_fits 45 = .ok (.lload 4, 2) := by decide +kernel
theorem dX12_fits_47 : decode cX12_fits 47 = .ok (.l2i, 1) := by decide +kernel
theorem dX12_fits_48 : decode cX12_fits 48 = .ok (.goto 4, 3) := by decide +kernel
theorem dX12_fits_51 : decode cX12_fits 51 = .ok (.iconst 0, 1) := by decide +kernel
theorem dX12_fits_52 : decode cX12_fits 52 = .ok (.ireturn, 1) := by decide +kernel
theorem dX12_match_0 : decode cX12_match 0 = .ok (.iload_n 1, 1) := by decide +kernel
theorem dX12_match_1 : decode cX12_match 1 = .ok (.iconst (-1), 1) := by decide +kernel
theorem dX12_match_2 : decode cX12_match 2 = .ok (.if_icmp .eq 13, 3) := by decide +kernel
theorem dX12_match_5 : decode cX12_match 5 = .ok (.aload_n 0, 1) := by decide +kernel
theorem dX12_match_6 : decode cX12_match 6 = .ok (.iload_n 1, 1) := by decide +kernel
theorem dX12_match_7 : decode cX12_match 7 = .ok (.invokevirtual 470, 3) := by decide +kernel
theorem dX12_match_10 : decode cX12_match 10 = .ok (.ifCond .ne 5, 3) := by decide +kernel
theorem dX12_match_13 : decode cX12_match 13 = .ok (.iconst (-1), 1) := by decide +kernel
theorem dX12_match_14 : decode cX12_match 14 = .ok (.ireturn, 1) := by decide +kernel
theorem dX12_match_15 : decode cX12_match 15 = .ok (.iconst 0, 1) := by decide +kernel
theorem dX12_match_16 : decode cX12_match 16 = .ok (.istore_n 2, 1) := by decide +kernel
theorem dX12_match_17 : decode cX12_match 17 = .ok (.iload_n 2, 1) := by decide +kernel
theorem dX12_match_18 : decode cX12_match 18 = .ok (.sipush 128, 3) := by decide +kernel
theorem dX12_match_21 : decode cX12_match 21 = .ok (.if_icmp .ge 28, 3) := by decide +kernel
theorem dX12_match_24 : decode cX12_match 24 = .ok (.aload_n 0, 1) := by decide +kernel
theorem dX12_match_25 : decode cX12_match 25 = .ok (.getfield 201, 3) := by decide +kernel
theorem dX12_match_28 : decode cX12_match 28 = .ok (.aload_n 0, 1) := by decide +kernel
theorem dX12_match_29 : decode cX12_match 29 = .ok (.getfield 69, 3) := by decide +kernel
theorem dX12_match_32 : decode cX12_match 32 = .ok (.aload_n 0, 1) := by decide +kernel
theorem dX12_match_33 : decode cX12_match 33 = .ok (.getfield 51, 3) := by decide +kernel
theorem dX12_match_36 : decode cX12_match 36 = .ok (.iaload, 1) := by decide +kernel
theorem dX12_match_37 : decode cX12_match 37 = .ok (.iload_n 2, 1) := by decide +kernel
theorem dX12_match_38 : decode cX12_match 38 = .ok (.invokestatic 487, 3) := by decide +kernel
theorem dX12_match_41 : decode cX12_match 41 = .ok (.iconst 0, 1) := by decide +kernel
theorem dX12_match_42 : decode cX12_match 42 = .ok (.iastore, 1) := by decide +kernel
theorem dX12_match_43 : decode cX12_match 43 = .ok (.iinc 2 1, 3) := by decide +kernel
theorem dX12_match_46 : decode cX12_match 46 = .ok (.goto (-29), 3) := by decide +kernel
theorem dX12_match_49 : decode cX12_match 49 = .ok (.aload_n 0, 1) := by decide +kernel
theorem dX12_match_50 : decode cX12_match 50 = .ok (.getfield 69, 3) := by decide +kernel
theorem dX12_match_53 : decode cX12_match 53 = .ok (.aload_n 0, 1) := by decide +kernel
theorem dX12_match_54 : decode cX12_match 54 = .ok (.getfield 51, 3) := by decide +kernel
theorem dX12_match_57 : decode cX12_match 57 = .ok (.iaload, 1) := by decide +kernel
theorem dX12_match_58 : decode cX12_match 58 = .ok (.iconst 1, 1) := by decide +kernel
theorem dX12_match_59 : decode cX12_match 59 = .ok (.isub, 1) := by decide +kernel
theorem dX12_match_60 : decode cX12_match 60 = .ok (.istore_n 2, 1) := by decide +kernel
theorem dX12_match_61 : decode cX12_match 61 = .ok (.iload_n 2, 1) := by decide +kernel
theorem dX12_match_62 : decode cX12_match 62 = .ok (.ifCond .lt 135, 3) := by decide +kernel
theorem dX12_match_65 : decode cX12_match 65 = .ok (.iconst 0, 1) := by decide +kernel
theorem dX12_match_66 : decode cX12_match 66 = .ok (.istore_n 3, 1) := by decide +kernel
theorem dX12_match_67 : decode cX12_match 67 = .ok (.iload_n 3, 1) := by decide +kernel
theorem dX12_match_68 : decode cX12_match 68 = .ok (.sipush 128, 3) := by decide +kernel
theorem dX12_match_71 : decode cX12_match 71 = .ok (.if_icmp .ge 120, 3) := by decide +kernel
theorem dX12_match_74 : decode cX12_match 74 = .ok (.aload_n 0, 1) := by decide +kernel
theorem dX12_match_75 : decode cX12_match 75 = .ok (.getfield 201, 3) := by decide +kernel
theorem dX12_match_78 : decode cX12_match 78 = .ok (.iload_n 2, 1) := by decide +kernel
theorem dX12_match_79 : decode cX12_match 79 = .ok (.iconst 1, 1) := by decide +kernel
theorem dX12_match_80 : decode cX12_match 80 = .ok (.iadd, 1) := by decide +kernel
theorem dX12_match_81 : decode cX12_match 81 = .ok (.iload_n 3, 1) := by decide +kernel
theorem dX12_match_82 : decode cX12_match 82 = .ok (.invokestatic 487, 3) := by decide +kernel
theorem dX12_match_85 : decode cX12_match 85 = .ok (.iaload, 1) := by decide +kernel
theorem dX12_match_86 : decode cX12_match 86 = .ok (.istore 4, 2) := by decide +kernel
theorem dX12_match_88 : decode cX12_match 88 = .ok (.iconst 0, 1) := by decide +kernel
theorem dX12_match_89 : decode cX12_match 89 = .ok (.istore 5, 2) := by decide +kernel
theorem dX12_match_91 : decode cX12_match 91 = .ok (.iload 5, 2) := by decide +kernel
theorem dX12_match_93 : decode cX12_match 93 = .ok (.aload_n 0, 1) := by decide +kernel
theorem dX12_match_94 : decode cX12_match 94 = .ok (.getfield 54, 3) := by decide +kernel
theorem dX12_match_97 : decode cX12_match 97 = .ok (.aload_n 0, 1) := by decide +kernel
theorem dX12_match_98 : decode cX12_match 98 = .ok (.getfield 51, 3) := by decide +kernel
theorem dX12_match_101 : decode cX12_match 101 = .ok (.iaload, 1) := by decide +kernel
theorem dX12_match_102 : decode cX12_match 102 = .ok (.if_icmp .ge 71, 3) := by decide +kernel
theorem dX12_match_105 : decode cX12_match 105 = .ok (.aload_n 0, 1) := by decide +kernel
theorem dX12_match_106 : decode cX12_match 106 = .ok (.iload_n 2, 1) := by decide +kernel
theorem dX12_match_107 : decode cX12_match 107 = .ok (.iload 5, 2) := by decide +kernel
theorem dX12_match_109 : decode cX12_match 109 = .ok (.iload_n 3, 1) := by decide +kernel
theorem dX12_match_110 : decode cX12_match 110 = .ok (.invokevirtual 490, 3) := by decide +kernel
theorem dX12_match_113 : decode cX12_match 113 = .ok (.istore 6, 2) := by decide +kernel
theorem dX12_match_115 : decode cX12_match 115 = .ok (.iload 6, 2) := by decide +kernel
theorem dX12_match_117 : decode cX12_match 117 = .ok (.ifCond .le 50, 3) := by decide +kernel
theorem dX12_match_120 : decode cX12_match 120 = .ok (.iload 6, 2) := by decide +kernel
theorem dX12_match_122 : decode cX12_match 122 = .ok (.aload_n 0, 1) := by decide +kernel
theorem dX12_match_123 : decode cX12_match 123 = .ok (.getfield 201, 3) := by decide +kernel
theorem dX12_match_126 : decode cX12_match 126 = .ok (.iload_n 2, 1) := by decide +kernel
theorem dX12_match_127 : decode cX12_match 127 = .ok (.iconst 1, 1) := by decide +kernel
theorem dX12_match_128 : decode cX12_match 128 = .ok (.iadd, 1) := by decide +kernel
theorem dX12_match_129 : decode cX12_match 129 = .ok (.iload_n 3, 1) := by decide +kernel
theorem dX12_match_130 : decode cX12_match 130 = .ok (.iconst 1, 1) := by decide +kernel
theorem dX12_match_131 : decode cX12_match 131 = .ok (.iload 5, 2) := by decide +kernel
theorem dX12_match_133 : decode cX12_match 133 = .ok (.ishl, 1) := by decide +kernel
theorem dX12_match_134 : decode cX12_match 134 = .ok (.ior, 1) := by decide +kernel
theorem dX12_match_135 : decode cX12_match 135 = .ok (.invokestatic 487, 3) := by decide +kernel
theorem dX12_match_138 : decode cX12_match 138 = .ok (.iaload, 1) := by decide +kernel
theorem dX12_match_139 : decode cX12_match 139 = .ok (.iadd, 1) := by decide +kernel
theorem dX12_match_140 : decode cX12_match 140 = .ok (.iload 4, 2) := by decide +kernel
theorem dX12_match_142 : decode cX12_match 142 = .ok (.if_icmp .le 25, 3) := by decide +kernel
theorem dX12_match_145 : decode cX12_match 145 = .ok (.iload 6, 2) := by decide +kernel
theorem dX12_match_147 : decode cX12_match 147 = .ok (.aload_n 0, 1) := by decide +kernel
theorem dX12_match_148 : decode cX12_match 148 = .ok (.getfield 201, 3) := by decide +kernel
theorem dX12_match_151 : decode cX12_match 151 = .ok (.iload_n 2, 1) := by decide +kernel
theorem dX12_match_152 : decode cX12_match 152 = .ok (.iconst 1, 1) := by decide +kernel
theorem dX12_match_153 : decode cX12_match 153 = .ok (.iadd, 1) := by decide +kernel
theorem dX12_match_154 : decode cX12_match 154 = .ok (.iload_n 3, 1) := by decide +kernel
theorem dX12_match_155 : decode cX12_match 155 = .ok (.iconst 1, 1) := by decide +kernel
theorem dX12_match_156 : decode cX12_match 156 = .ok (.iload 5, 2) := by decide +kernel
theorem dX12_match_158 : decode cX12_match 158 = .ok (.ishl, 1) := by decide +kernel
theorem dX12_match_159 : decode cX12_match 159 = .ok (.ior, 1) := by decide +kernel
theorem dX12_match_160 : decode cX12_match 160 = .ok (.invokestatic 487, 3) := by decide +kernel
theorem dX12_match_163 : decode cX12_match 163 = .ok (.iaload, 1) := by decide +kernel
theorem dX12_match_164 : decode cX12_match 164 = .ok (.iadd, 1) := by decide +kernel
theorem dX12_match_165 : decode cX12_match 165 = .ok (.istore 4, 2) := by decide +kernel
theorem dX12_match_167 : decode cX12_match 167 = .ok (.iinc 5 1, 3) := by decide +kernel
theorem dX12_match_170 : decode cX12_match 170 = .ok (.goto (-79), 3) := by decide +kernel
theorem dX12_match_173 : decode cX12_match 173 = .ok (.aload_n 0, 1) := by decide +kernel
theorem dX12_match_174 : decode cX12_match 174 = .ok (.getfield 201, 3) := by decide +kernel
theorem dX12_match_177 : decode cX12_match 177 = .ok (.iload_n 2, 1) := by decide +kernel
theorem dX12_match_178 : decode cX12_match 178 = .ok (.iload_n 3, 1) := by decide +kernel
theorem dX12_match_179 : decode cX12_match 179 = .ok (.invokestatic 487, 3) := by decide +kernel
theorem dX12_match_182 : decode cX12_match 182 = .ok (.iload 4, 2) := by decide +kernel
theorem dX12_match_184 : decode cX12_match 184 = .ok (.iastore, 1) := by decide +kernel
theorem dX12_match_185 : decode cX12_match 185 = .ok (.iinc 3 1, 3) := by decide +kernel
theorem dX12_match_188 : decode cX12_match 188 = .ok (.goto (-121), 3) := by decide +kernel
theorem dX12_match_191 : decode cX12_match 191 = .ok (.iinc 2 (-1), 3) := by decide +kernel
theorem dX12_match_194 : decode cX12_match 194 = .ok (.goto (-133), 3) := by decide +kernel
theorem dX12_match_197 : decode cX12_match 197 = .ok (.iload_n 1, 1) := by decide +kernel
theorem dX12_match_198 : decode cX12_match 198 = .ok (.iconst (-1), 1) := by decide +kernel
theorem dX12_match_199 : decode cX12_match 199 = .ok (.if_icmp .ne 10, 3) := by decide +kernel
theorem dX12_match_202 : decode cX12_match 202 = .ok (.aload_n 0, 1) := by decide +kernel
theorem dX12_match_203 : decode cX12_match 203 = .ok (.getfield 201, 3) := by decide +kernel
theorem dX12_match_206 : decode cX12_match 206 = .ok (.iconst 0, 1) := by decide +kernel
theorem dX12_match_207 : decode cX12_match 207 = .ok (.iaload, 1) := by decide +kernel
theorem dX12_match_208 : decode cX12_match 208 = .ok (.ireturn, 1) := by decide +kernel
theorem dX12_match_209 : decode cX12_match 209 = .ok (.iconst 0, 1) := by decide +kernel
theorem dX12_match_210 : decode cX12_match 210 = .ok (.istore_n 2, 1) := by decide +kernel
theorem dX12_match_211 : decode cX12_match 211 = .ok (.iconst (-1), 1) := by decide +kernel
theorem dX12_match_212 : decode cX12_match 212 = .ok (.istore_n 3, 1) := by decide +kernel
theorem dX12_match_213 : decode cX12_match 213 = .ok (.iconst 0, 1) := by decide +kernel
theorem dX12_match_214 : decode cX12_match 214 = .ok (.istore 4, 2) := by decide +kernel
theorem dX12_match_216 : decode cX12_match 216 = .ok (.iload 4, 2) := by decide +kernel
theorem dX12_match_218 : decode cX12_match 218 = .ok (.iload_n 1, 1) := by decide +kernel
theorem dX12_match_219 : decode cX12_match 219 = .ok (.if_icmp .gt 130, 3) := by decide +kernel
theorem dX12_match_222 : decode cX12_match 222 = .ok (.iconst (-1), 1) := by decide +kernel
theorem dX12_match_223 : decode cX12_match 223 = .ok (.istore_n 3, 1) := by decide +kernel
theorem dX12_match_224 : decode cX12_match 224 = .ok (.aload_n 0, 1) := by decide +kernel
theorem dX12_match_225 : decode cX12_match 225 = .ok (.getfield 201, 3) := by decide +kernel
theorem dX12_match_228 : decode cX12_match 228 = .ok (.iload 4, 2) := by decide +kernel
theorem dX12_match_230 : decode cX12_match 230 = .ok (.iload_n 2, 1) := by decide +kernel
theorem dX12_match_231 : decode cX12_match 231 = .ok (.invokestatic 487, 3) := by decide +kernel
theorem dX12_match_234 : decode cX12_match 234 = .ok (.iaload, 1) := by decide +kernel
theorem dX12_match_235 : decode cX12_match 235 = .ok (.istore 5, 2) := by decide +kernel
theorem dX12_match_237 : decode cX12_match 237 = .ok (.iconst 0, 1) := by decide +kernel
theorem dX12_match_238 : decode cX12_match 238 = .ok (.istore 6, 2) := by decide +kernel
theorem dX12_match_240 : decode cX12_match 240 = .ok (.iload 6, 2) := by decide +kernel
theorem dX12_match_242 : decode cX12_match 242 = .ok (.aload_n 0, 1) := by decide +kernel
theorem dX12_match_243 : decode cX12_match 243 = .ok (.getfield 54, 3) := by decide +kernel
theorem dX12_match_246 : decode cX12_match 246 = .ok (.aload_n 0, 1) := by decide +kernel
theorem dX12_match_247 : decode cX12_match 247 = .ok (.getfield 51, 3) := by decide +kernel
theorem dX12_match_250 : decode cX12_match 250 = .ok (.iaload, 1) := by decide +kernel
theorem dX12_match_251 : decode cX12_match 251 = .ok (.if_icmp .ge 77, 3) := by decide +kernel
theorem dX12_match_254 : decode cX12_match 254 = .ok (.iload_n 3, 1) := by decide +kernel
theorem dX12_match_255 : decode cX12_match 255 = .ok (.iconst (-1), 1) := by decide +kernel
theorem dX12_match_256 : decode cX12_match 256 = .ok (.if_icmp .ne 72, 3) := by decide +kernel
theorem dX12_match_259 : decode cX12_match 259 = .ok (.aload_n 0, 1) := by decide +kernel
theorem dX12_match_260 : decode cX12_match 260 = .ok (.getfield 201, 3) := by decide +kernel
theorem dX12_match_263 : decode cX12_match 263 = .ok (.iload 4, 2) := by decide +kernel
theorem dX12_match_265 : decode cX12_match 265 = .ok (.iconst 1, 1) := by decide +kernel
theorem dX12_match_266 : decode cX12_match 266 = .ok (.iadd, 1) := by decide +kernel
theorem dX12_match_267 : decode cX12_match 267 = .ok (.iload_n 2, 1) := by decide +kernel
theorem dX12_match_268 : decode cX12_match 268 = .ok (.invokestatic 487, 3) := by decide +kernel
theorem dX12_match_271 : decode cX12_match 271 = .ok (.iaload, 1) := by decide +kernel
theorem dX12_match_272 : decode cX12_match 272 = .ok (.iload 5, 2) := by decide +kernel
theorem dX12_match_274 : decode cX12_match 274 = .ok (.if_icmp .eq 54, 3) := by decide +kernel
theorem dX12_match_277 : decode cX12_match 277 = .ok (.aload_n 0, 1) := by decide +kernel
theorem dX12_match_278 : decode cX12_match 278 = .ok (.iload 4, 2) := by decide +kernel
theorem dX12_match_280 : decode cX12_match 280 = .ok (.iload 6, 2) := by decide +kernel
theorem dX12_match_282 : decode cX12_match 282 = .ok (.iload_n 2, 1) := by decide +kernel
theorem dX12_match_283 : decode cX12_match 283 = .ok (.invokevirtual 490, 3) := by decide +kernel
theorem dX12_match_286 : decode cX12_match 286 = .ok (.istore 7, 2) := by decide +kernel
theorem dX12_match_288 : decode cX12_match 288 = .ok (.iload 7, 2) := by decide +kernel
theorem dX12_match_290 : decode cX12_match 290 = .ok (.ifCond .le 32, 3) := by decide +kernel
theorem dX12_match_293 : decode cX12_match 293 = .ok (.iload 7, 2) := by decide +kernel
theorem dX12_match_295 : decode cX12_match 295 = .ok (.aload_n 0, 1) := by decide +kernel
theorem dX12_match_296 : decode cX12_match 296 = .ok (.getfield 201, 3) := by decide +kernel
theorem dX12_match_299 : decode cX12_match 299 = .ok (.iload 4, 2) := by decide +kernel
theorem dX12_match_301 : decode cX12_match 301 = .ok (.iconst 1, 1) := by decide +kernel
theorem dX12_match_302 : decode cX12_match 302 = .ok (.iadd, 1) := by decide +kernel
theorem dX12_match_303 : decode cX12_match 303 = .ok (.iload_n 2, 1) := by decide +kernel
theorem dX12_match_304 : decode cX12_match 304 = .ok (.iconst 1, 1) := by decide +kernel
theorem dX12_match_305 : decode cX12_match 305 = .ok (.iload 6, 2) := by decide +kernel
theorem dX12_match_307 : decode cX12_match 307 = .ok (.ishl, 1) := by decide +kernel
theorem dX12_match_308 : decode cX12_match 308 = .ok (.ior, 1) := by decide +kernel
theorem dX12_match_309 : decode cX12_match 309 = .ok (.invokestatic 487, 3) := by decide +kernel
theorem dX12_match_312 : decode cX12_match 312 = .ok (.iaload, 1) := by decide +kernel
theorem dX12_match_313 : decode cX12_match 313 = .ok (.iadd, 1) := by decide +kernel
theorem dX12_match_314 : decode cX12_match 314 = .ok (.iload 5, 2) := by decide +kernel
theorem dX12_match_316 : decode cX12_match 316 = .ok (.if_icmp .ne 6, 3) := by decide +kernel
theorem dX12_match_319 : decode cX12_match 319 = .ok (.iload 6, 2) := by decide +kernel
theorem dX12_match_321 : decode cX12_match 321 = .ok (.istore_n 3, 1) := by decide +kernel
theorem dX12_match_322 : decode cX12_match 322 = .ok (.iinc 6 1, 3) := by decide +kernel
theorem dX12_match_325 : decode cX12_match 325 = .ok (.goto (-85), 3) := by decide +kernel
theorem dX12_match_328 : decode cX12_match 328 = .ok (.iload_n 2, 1) := by decide +kernel
theorem dX12_match_329 : decode cX12_match 329 = .ok (.iload_n 3, 1) := by decide +kernel
theorem dX12_match_330 : decode cX12_match 330 = .ok (.iconst (-1), 1) := by decide +kernel
theorem dX12_match_331 : decode cX12_match 331 = .ok (.if_icmp .ne 7, 3) := by decide +kernel
theorem dX12_match_334 : decode cX12_match 334 = .ok (.iconst 0, 1) := by decide +kernel
theorem dX12_match_335 : decode cX12_match 335 = .ok (.goto 6, 3) := by decide +kernel
theorem dX12_match_338 : decode cX12_match 338 = .ok (.iconst 1, 1) := by decide +kernel
theorem dX12_match_339 : decode cX12_match 339 = .ok (.iload_n 3, 1) := by decide +kernel
theorem dX12_match_340 : decode cX12_match 340 = .ok (.ishl, 1) := by decide +kernel
theorem dX12_match_341 : decode cX12_match 341 = .ok (.ior, 1) := by decide +kernel
theorem dX12_match_342 : decode cX12_match 342 = .ok (.istore_n 2, 1) := by decide +kernel
theorem dX12_match_343 : decode cX12_match 343 = .ok (.iinc 4 1, 3) := by decide +kernel
theorem dX12_match_346 : decode cX12_match 346 = .ok (.goto (-130), 3) := by decide +kernel
theorem dX12_match_349 : decode cX12_match 349 = .ok (.iload_n 3, 1) := by decide +kernel
theorem dX12_match_350 : decode cX12_match 350 = .ok (.ireturn, 1) := by decide +kernel
theorem dX12_choir_0 : decode cX12_choir 0 = .ok (.aload_n 0, 1) := by decide +kernel
theorem dX12_choir_1 : decode cX12_choir 1 = .ok (.iload_n 1, 1) := by decide +kernel
theorem dX12_choir_2 : decode cX12_choir 2 = .ok (.iconst 1, 1) := by decide +kernel
theorem dX12_choir_3 : decode cX12_choir 3 = .ok (.bipush 30, 2) := by decide +kernel
theorem dX12_choir_5 : decode cX12_choir 5 = .ok (.invokevirtual 478, 3) := by decide +kernel
theorem dX12_choir_8 : decode cX12_choir 8 = .ok (.ifCond .ne 5, 3) := by decide +kernel
theorem dX12_choir_11 : decode cX12_choir 11 = .ok (.iconst (-1), 1) := by decide +kernel
theorem dX12_choir_12 : decode cX12_choir 12 = .ok (.ireturn, 1) := by decide +kernel
theorem dX12_choir_13 : decode cX12_choir 13 = .ok (.aload_n 0, 1) := by decide +kernel
theorem dX12_choir_14 : decode cX12_choir 14 = .ok (.iconst 0, 1) := by decide +kernel
theorem dX12_choir_15 : decode cX12_choir 15 = .ok (.iconst 4, 1) := by decide +kernel
theorem dX12_choir_16 : decode cX12_choir 16 = .ok (.iconst 4, 1) := by decide +kernel
theorem dX12_choir_17 : decode cX12_choir 17 = .ok (.invokevirtual 458, 3) := by decide +kernel
theorem dX12_choir_20 : decode cX12_choir 20 = .ok (.istore_n 2, 1) := by decide +kernel
theorem dX12_choir_21 : decode cX12_choir 21 = .ok (.iconst (-1), 1) := by decide +kernel
theorem dX12_choir_22 : decode cX12_choir 22 = .ok (.istore_n 3, 1) := by decide +kernel
theorem dX12_choir_23 : decode cX12_choir 23 = .ok (.iconst 0, 1) := by decide +kernel
theorem dX12_choir_24 : decode cX12_choir 24 = .ok (.istore 4, 2) := by decide +kernel
theorem dX12_choir_26 : decode cX12_choir 26 = .ok (.iload 4, 2) := by decide +kernel
theorem dX12_choir_28 : decode cX12_choir 28 = .ok (.aload_n 0, 1) := by decide +kernel
theorem dX12_choir_29 : decode cX12_choir 29 = .ok (.invokevirtual 481, 3) := by decide +kernel
theorem dX12_choir_32 : decode cX12_choir 32 = .ok (.if_icmp .gt 68, 3) := by decide +kernel
theorem dX12_choir_35 : decode cX12_choir 35 = .ok (.iload 4, 2) := by decide +kernel
theorem dX12_choir_37 : decode cX12_choir 37 = .ok (.aload_n 0, 1) := by decide +kernel
theorem dX12_choir_38 : decode cX12_choir 38 = .ok (.getfield 156, 3) := by decide +kernel
theorem dX12_choir_41 : decode cX12_choir 41 = .ok (.iconst 0, 1) := by decide +kernel
theorem dX12_choir_42 : decode cX12_choir 42 = .ok (.iaload, 1) := by decide +kernel
theorem dX12_choir_43 : decode cX12_choir 43 = .ok (.iand, 1) := by decide +kernel
theorem dX12_choir_44 : decode cX12_choir 44 = .ok (.ifCond .ne 50, 3) := by decide +kernel
theorem dX12_choir_47 : decode cX12_choir 47 = .ok (.iload_n 3, 1) := by decide +kernel
theorem dX12_choir_48 : decode cX12_choir 48 = .ok (.iconst (-1), 1) := by decide +kernel
theorem dX12_choir_49 : decode cX12_choir 49 = .ok (.if_icmp .eq 18, 3) := by decide +kernel
theorem dX12_choir_52 : decode cX12_choir 52 = .ok (.iload 4, 2) := by decide +kernel
theorem dX12_choir_54 : decode cX12_choir 54 = .ok (.invokestatic 455, 3) := by decide +kernel
theorem dX12_choir_57 : decode cX12_choir 57 = .ok (.iload_n 3, 1) := by decide +kernel
theorem dX12_choir_58 : decode cX12_choir 58 = .ok (.invokestatic 455, 3) := by decide +kernel
theorem dX12_choir_61 : decode cX12_choir 61 = .ok (.if_icmp .lt 6, 3) := by decide +kernel
theorem dX12_choir_64 : decode cX12_choir 64 = .ok (.goto 30, 3) := by decide +kernel
theorem dX12_choir_67 : decode cX12_choir 67 = .ok (.aload_n 0, 1) := by decide +kernel
theorem dX12_choir_68 : decode cX12_choir 68 = .ok (.iconst 1, 1) := by decide +kernel
theorem dX12_choir_69 : decode cX12_choir 69 = .ok (.iconst 0, 1) := by decide +kernel
theorem dX12_choir_70 : decode cX12_choir 70 = .ok (.invokevirtual 396, 3) := by decide +kernel
theorem dX12_choir_73 : decode cX12_choir 73 = .ok (.aload_n 0, 1) := by decide +kernel
theorem dX12_choir_74 : decode cX12_choir 74 = .ok (.iload_n 1, 1) := by decide +kernel
theorem dX12_choir_75 : decode cX12_choir 75 = .ok (.iload 4, 2) := by decide +kernel
theorem dX12_choir_77 : decode cX12_choir 77 = .ok (.invokevirtual 485, 3) := by decide +kernel
theorem dX12_choir_80 : decode cX12_choir 80 = .ok (.aload_n 0, 1) := by decide +kernel
theorem dX12_choir_81 : decode cX12_choir 81 = .ok (.iconst 1, 1) := by decide +kernel
theorem dX12_choir_82 : decode cX12_choir 82 = .ok (.iconst 4, 1) := by decide +kernel
theorem dX12_choir_83 : decode cX12_choir 83 = .ok (.iconst 4, 1) := by decide +kernel
theorem dX12_choir_84 : decode cX12_choir 84 = .ok (.invokevirtual 458, 3) := by decide +kernel
theorem dX12_choir_87 : decode cX12_choir 87 = .ok (.iload_n 2, 1) := by decide +kernel
theorem dX12_choir_88 : decode cX12_choir 88 = .ok (.if_icmp .ne 6, 3) := by decide +kernel
theorem dX12_choir_91 : decode cX12_choir 91 = .ok (.iload 4, 2) := by decide +kernel
theorem dX12_choir_93 : decode cX12_choir 93 = .ok (.istore_n 3, 1) := by decide +kernel
theorem dX12_choir_94 : decode cX12_choir 94 = .ok (.iinc 4 1, 3) := by decide +kernel
theorem dX12_choir_97 : decode cX12_choir 97 = .ok (.goto (-71), 3) := by decide +kernel
theorem dX12_choir_100 : decode cX12_choir 100 = .ok (.iload_n 3, 1) := by decide +kernel
theorem dX12_choir_101 : decode cX12_choir 101 = .ok (.ireturn, 1) := by decide +kernel
section
variable {p : Program} {l : Launch} {e : Env} {s : State} {m : MethodId} {args : Array Value} {below : List Frame} {meth : Method} {c : Code} {D : va_G} {E : Nat → ClassId} {b : Nat}
set_option maxHeartbeats 4000000 in
set_option maxRecDepth 20000 in
theorem w_m_ticks_L2_s (C : mCX p s m args meth c cX12_ticks 4 RX12 D E b) (hr : meth.sig.returnType = none) {M0 : Mem} {v1 : Int} {v2 : Int} {v3 : Int} {M : Mem} {q : Int × Mem} {rec : Int → Mem → Option (Int × Mem)} (hrec : ∀ (v3 : Int) (M : Mem), rec v3 M = some q → mWX p l e 6 138 s m args below meth c 4 D E b none M0 M 2 [(0, vR b 0), (1, vI v1), (2, vI v2), (3, vI v3)] []) (hfol : ∀ (v3 : Int) (M : Mem), q = (v3, M) → mWX p l e 6 138 s m args below meth c 4 D E b none M0 M 67 [(0, vR b 0), (1, vI v1), (2, vI v2)] []) (h : m_ticks_L2 v1 v2 rec v3 M = some q) :
    mWX p l e 6 138 s m args below meth c 4 D E b none M0 M 2 [(0, vR b 0), (1, vI v1), (2, vI v2), (3, vI v3)] [] := by
  unfold m_ticks_L2 at h
  refine r_iload_n (pc := 2) C 3 rfl rfl dX12_ticks_2 ?_
  refine r_aload_n (pc := 3) C 0 rfl rfl dX12_ticks_3 ?_
  refine r_getR (pc := 4) C fl_RX12_69 m_s0 (by decide) m_k19 m_r19 dX12_ticks_4 ?_
  refine r_aload_n (pc := 7) C 0 rfl rfl dX12_ticks_7 ?_
  refine r_getI (pc := 8) C fl_RX12_51 m_s0 (by decide) m_k13 dX12_ticks_8 ?_
  obtain ⟨hi11, h⟩ := chk_inv h
  refine r_iald (pc := 11) C m_s7 (by decide) (by decide) hi11 rfl dX12_ticks_11 ?_
  refine r_icmp_ge (pc := 12) (tgt := 67) C h dX12_ticks_12 (by decide) (fun hc12 h => ?_) (fun hc12 h => ?_)
  · refine r_sub (lv' := [(0, vR b 0), (1, vI v1), (2, vI v2)]) [0, 1, 2] rfl ?_
    exact hfol _ _ (Option.some.inj h).symm
  · refine r_aload_n (pc := 15) C 0 rfl rfl dX12_ticks_15 ?_
    refine r_getR (pc := 16) C fl_RX12_159 m_s0 (by decide) m_k48 m_r48 dX12_ticks_16 ?_
    refine r_bipush (pc := 19) (j := 12) C (by decide +kernel) dX12_ticks_19 ?_
    refine r_iload_n (pc := 21) C 1 rfl rfl dX12_ticks_21 ?_
    refine r_imul (pc := 22) C dX12_ticks_22 ?_
    refine r_iload_n (pc := 23) C 3 rfl rfl dX12_ticks_23 ?_
    refine r_iadd (pc := 24) C dX12_ticks_24 ?_
    obtain ⟨hi25, h⟩ := chk_inv h
    refine r_iald (pc := 25) C m_s29 (by decide) (by decide) hi25 rfl dX12_ticks_25 ?_
    refine r_if_ne (pc := 26) (tgt := 61) C h dX12_ticks_26 (by decide) (fun hc26 h => ?_) (fun hc26 h => ?_)
    · obtain ⟨v3_61, hv3_61, h⟩ := lt_inv h
      refine r_iincN (pc := 61) (y := v3_61) (lv' := [(3, vI v3_61), (0, vR b 0), (1, vI v1), (2, vI v2)]) C 3 rfl hv3_61 dX12_ticks_61 (by decide) rfl ?_
      refine r_goto (pc := 64) (tgt := 2) C dX12_ticks_64 (by decide) ?_
      refine r_sub (lv' := [(0, vR b 0), (1, vI v1), (2, vI v2), (3, vI v3_61)]) [1, 2, 3, 0] rfl ?_
      exact hrec _ _ h
    · refine r_aload_n (pc := 29) C 0 rfl rfl dX12_ticks_29 ?_
      refine r_getR (pc := 30) C fl_RX12_162 m_s0 (by decide) m_k49 m_r49 dX12_ticks_30 ?_
      refine r_bipush (pc := 33) (j := 12) C (by decide +kernel) dX12_ticks_33 ?_
      refine r_iload_n (pc := 35) C 1 rfl rfl dX12_ticks_35 ?_
      refine r_imul (pc := 36) C dX12_ticks_36 ?_
      refine r_iload_n (pc := 37) C 3 rfl rfl dX12_ticks_37 ?_
      refine r_iadd (pc := 38) C dX12_ticks_38 ?_
      obtain ⟨hi39, h⟩ := chk_inv h
      refine r_iald (pc := 39) C m_s30 (by decide) (by decide) hi39 rfl dX12_ticks_39 ?_
      refine r_aload_n (pc := 40) C 0 rfl rfl dX12_ticks_40 ?_
      refine r_getR (pc := 41) C fl_RX12_147 m_s0 (by decide) m_k44 m_r44 dX12_ticks_41 ?_
      refine r_iload_n (pc := 44) C 1 rfl rfl dX12_ticks_44 ?_
      obtain ⟨hi45, h⟩ := chk_inv h
      refine r_iald (pc := 45) C m_s25 (by decide) (by decide) hi45 rfl dX12_ticks_45 ?_
      refine r_icmp_gt (pc := 46) (tgt := 61) C h dX12_ticks_46 (by decide) (fun hc46 h => ?_) (fun hc46 h => ?_)
      · obtain ⟨v3_61, hv3_61, h⟩ := lt_inv h
        refine r_iincN (pc := 61) (y := v3_61) (lv' := [(3, vI v3_61), (0, vR b 0), (1, vI v1), (2, vI v2)]) C 3 rfl hv3_61 dX12_ticks_61 (by decide) rfl ?_
        refine r_goto (pc := 64) (tgt := 2) C dX12_ticks_64 (by decide) ?_
        refine r_sub (lv' := [(0, vR b 0), (1, vI v1), (2, vI v2), (3, vI v3_61)]) [1, 2, 3, 0] rfl ?_
        exact hrec _ _ h
      · refine r_aload_n (pc := 49) C 0 rfl rfl dX12_ticks_49 ?_
        refine r_getR (pc := 50) C fl_RX12_159 m_s0 (by decide) m_k48 m_r48 dX12_ticks_50 ?_
        refine r_bipush (pc := 53) (j := 12) C (by decide +kernel) dX12_ticks_53 ?_
        refine r_iload_n (pc := 55) C 1 rfl rfl dX12_ticks_55 ?_
        refine r_imul (pc := 56) C dX12_ticks_56 ?_
        refine r_iload_n (pc := 57) C 3 rfl rfl dX12_ticks_57 ?_
        refine r_iadd (pc := 58) C dX12_ticks_58 ?_
        refine r_iconst (pc := 59) C dX12_ticks_59 ?_
        obtain ⟨hi60, h⟩ := chk_inv h
        obtain ⟨M_60, hM_60, h⟩ := lt_inv h
        refine r_iast (pc := 60) C m_s29 (by decide) (by decide) hi60 rfl hM_60 dX12_ticks_60 ?_
        obtain ⟨v3_61, hv3_61, h⟩ := lt_inv h
        refine r_iincN (pc := 61) (y := v3_61) (lv' := [(3, vI v3_61), (0, vR b 0), (1, vI v1), (2, vI v2)]) C 3 rfl hv3_61 dX12_ticks_61 (by decide) rfl ?_
        refine r_goto (pc := 64) (tgt := 2) C dX12_ticks_64 (by decide) ?_
        refine r_sub (lv' := [(0, vR b 0), (1, vI v1), (2, vI v2), (3, vI v3_61)]) [1, 2, 3, 0] rfl ?_
        exact hrec _ _ h
set_option maxHeartbeats 4000000 in
theorem w_m_ticks_L2 (C : mCX p s m args meth c cX12_ticks 4 RX12 D E b) (hr : meth.sig.returnType = none) {M0 : Mem} {v1 : Int} {v2 : Int} {q : Int × Mem} (hfol : ∀ (v3 : Int) (M : Mem), q = (v3, M) → mWX p l e 6 138 s m args below meth c 4 D E b none M0 M 67 [(0, vR b 0), (1, vI v1), (2, vI v2)] []) : ∀ (n : Nat) (v3 : Int) (M : Mem), itr2 (m_ticks_L2 v1 v2) n v3 M = some q →
    mWX p l e 6 138 s m args below meth c 4 D E b none M0 M 2 [(0, vR b 0), (1, vI v1), (2, vI v2), (3, vI v3)] [] := by
  intro n
  induction n with
  | zero => exact fun _ _ h => itr_z h
  | succ n ih => exact fun _ _ h => w_m_ticks_L2_s C hr ih hfol h
set_option maxHeartbeats 4000000 in
set_option maxRecDepth 20000 in
theorem w_m_ticks_L69_s (C : mCX p s m args meth c cX12_ticks 4 RX12 D E b) (hr : meth.sig.returnType = none) {M0 : Mem} {v1 : Int} {v2 : Int} {v3 : Int} {M : Mem} {q : Int × Mem} {rec : Int → Mem → Option (Int × Mem)} (hrec : ∀ (v3 : Int) (M : Mem), rec v3 M = some q → mWX p l e 6 138 s m args below meth c 4 D E b none M0 M 69 [(0, vR b 0), (1, vI v1), (2, vI v2), (3, vI v3)] []) (hfol : ∀ (v3 : Int) (M : Mem), q = (v3, M) → mWX p l e 6 138 s m args below meth c 4 D E b none M0 M 110 [(0, vR b 0), (1, vI v1)] []) (h : m_ticks_L69 v1 v2 rec v3 M = some q) :
    mWX p l e 6 138 s m args below meth c 4 D E b none M0 M 69 [(0, vR b 0), (1, vI v1), (2, vI v2), (3, vI v3)] [] := by
  unfold m_ticks_L69 at h
  refine r_iload_n (pc := 69) C 3 rfl rfl dX12_ticks_69 ?_
  refine r_aload_n (pc := 70) C 0 rfl rfl dX12_ticks_70 ?_
  refine r_getR (pc := 71) C fl_RX12_69 m_s0 (by decide) m_k19 m_r19 dX12_ticks_71 ?_
  refine r_aload_n (pc := 74) C 0 rfl rfl dX12_ticks_74 ?_
  refine r_getI (pc := 75) C fl_RX12_51 m_s0 (by decide) m_k13 dX12_ticks_75 ?_
  obtain ⟨hi78, h⟩ := chk_inv h
  refine r_iald (pc := 78) C m_s7 (by decide) (by decide) hi78 rfl dX12_ticks_78 ?_
  refine r_icmp_ge (pc := 79) (tgt := 110) C h dX12_ticks_79 (by decide) (fun hc79 h => ?_) (fun hc79 h => ?_)
  · refine r_sub (lv' := [(0, vR b 0), (1, vI v1)]) [0, 1] rfl ?_
    exact hfol _ _ (Option.some.inj h).symm
  · refine r_aload_n (pc := 82) C 0 rfl rfl dX12_ticks_82 ?_
    refine r_getR (pc := 83) C fl_RX12_159 m_s0 (by decide) m_k48 m_r48 dX12_ticks_83 ?_
    refine r_bipush (pc := 86) (j := 12) C (by decide +kernel) dX12_ticks_86 ?_
    refine r_iload_n (pc := 88) C 1 rfl rfl dX12_ticks_88 ?_
    refine r_imul (pc := 89) C dX12_ticks_89 ?_
    refine r_iload_n (pc := 90) C 3 rfl rfl dX12_ticks_90 ?_
    refine r_iadd (pc := 91) C dX12_ticks_91 ?_
    obtain ⟨hi92, h⟩ := chk_inv h
    refine r_iald (pc := 92) C m_s29 (by decide) (by decide) hi92 rfl dX12_ticks_92 ?_
    refine r_iconst (pc := 93) C dX12_ticks_93 ?_
    refine r_icmp_ne (pc := 94) (tgt := 104) C h dX12_ticks_94 (by decide) (fun hc94 h => ?_) (fun hc94 h => ?_)
    · obtain ⟨v3_104, hv3_104, h⟩ := lt_inv h
      refine r_iincN (pc := 104) (y := v3_104) (lv' := [(3, vI v3_104), (0, vR b 0), (1, vI v1), (2, vI v2)]) C 3 rfl hv3_104 dX12_ticks_104 (by decide) rfl ?_
      refine r_goto (pc := 107) (tgt := 69) C dX12_ticks_107 (by decide) ?_
      refine r_sub (lv' := [(0, vR b 0), (1, vI v1), (2, vI v2), (3, vI v3_104)]) [1, 2, 3, 0] rfl ?_
      exact hrec _ _ h
    · refine r_aload_n (pc := 97) C 0 rfl rfl dX12_ticks_97 ?_
      refine r_iload_n (pc := 98) C 1 rfl rfl dX12_ticks_98 ?_
      refine r_iload_n (pc := 99) C 3 rfl rfl dX12_ticks_99 ?_
      refine r_iload_n (pc := 100) C 2 rfl rfl dX12_ticks_100 ?_
      obtain ⟨M2, hq2, h⟩ := bnd_inv h
      refine r_callV (pc := 101) (rest := []) (st1 := []) C (mExtOK b) [vI v1, vI v3, vI v2] (c_m_finds l hq2) cl_RX12_449 m_s0 (by decide) rfl rfl rfl rfl ⟨Nat.le_of_ble_eq_true rfl, Nat.le_of_ble_eq_true rfl⟩ (Nat.le_of_ble_eq_true rfl) rfl rfl dX12_ticks_101 ?_
      obtain ⟨v3_104, hv3_104, h⟩ := lt_inv h
      refine r_iincN (pc := 104) (y := v3_104) (lv' := [(3, vI v3_104), (0, vR b 0), (1, vI v1), (2, vI v2)]) C 3 rfl hv3_104 dX12_ticks_104 (by decide) rfl ?_
      refine r_goto (pc := 107) (tgt := 69) C dX12_ticks_107 (by decide) ?_
      refine r_sub (lv' := [(0, vR b 0), (1, vI v1), (2, vI v2), (3, vI v3_104)]) [1, 2, 3, 0] rfl ?_
      exact hrec _ _ h
set_option maxHeartbeats 4000000 in
theorem w_m_ticks_L69 (C : mCX p s m args meth c cX12_ticks 4 RX12 D E b) (hr : meth.sig.returnType = none) {M0 : Mem} {v1 : Int} {v2 : Int} {q : Int × Mem} (hfol : ∀ (v3 : Int) (M : Mem), q = (v3, M) → mWX p l e 6 138 s m args below meth c 4 D E b none M0 M 110 [(0, vR b 0), (1, vI v1)] []) : ∀ (n : Nat) (v3 : Int) (M : Mem), itr2 (m_ticks_L69 v1 v2) n v3 M = some q →
    mWX p l e 6 138 s m args below meth c 4 D E b none M0 M 69 [(0, vR b 0), (1, vI v1), (2, vI v2), (3, vI v3)] [] := by
  intro n
  induction n with
  | zero => exact fun _ _ h => itr_z h
  | succ n ih => exact fun _ _ h => w_m_ticks_L69_s C hr ih hfol h
set_option maxHeartbeats 4000000 in
set_option maxRecDepth 20000 in
theorem w_m_ticks_L112_B174 (C : mCX p s m args meth c cX12_ticks 4 RX12 D E b) (hr : meth.sig.returnType = none) {M0 : Mem} {M : Mem} {v1 : Int} {v3 : Int} {q : Int × Mem} {rec : Int → Mem → Option (Int × Mem)} (hrec : ∀ (v3 : Int) (M : Mem), rec v3 M = some q → mWX p l e 6 138 s m args below meth c 4 D E b none M0 M 112 [(0, vR b 0), (1, vI v1), (3, vI v3)] []) (hfol : ∀ (v3 : Int) (M : Mem), q = (v3, M) → mWX p l e 6 138 s m args below meth c 4 D E b none M0 M 196 [(0, vR b 0), (1, vI v1)] []) (h : m_ticks_L112_B174 rec v1 v3 M = some q) :
    mWX p l e 6 138 s m args below meth c 4 D E b none M0 M 174 [(0, vR b 0), (1, vI v1), (3, vI v3)] [] := by
  unfold m_ticks_L112_B174 at h
  refine r_aload_n (pc := 174) C 0 rfl rfl dX12_ticks_174 ?_
  refine r_iload_n (pc := 175) C 1 rfl rfl dX12_ticks_175 ?_
  refine r_iload_n (pc := 176) C 2 rfl rfl dX12_ticks_176 ?_
  obtain ⟨r4, M4, hq4, h⟩ := bnd2_inv h
  refine r_callV (pc := 177) (rest := []) (st1 := [vB r4]) C (mExtOK b) [vI v1, vI v3] (c_m_isHushed l hq4) cl_RX12_452 m_s0 (by decide) rfl rfl rfl rfl ⟨Nat.le_of_ble_eq_true rfl, Nat.le_of_ble_eq_true rfl⟩ (Nat.le_of_ble_eq_true rfl) rfl rfl dX12_ticks_177 ?_
  refine r_if_eqB (pc := 180) (tgt := 190) C h dX12_ticks_180 (by decide) (fun hc180 h => ?_) (fun hc180 h => ?_)
  · refine r_aload_n (pc := 183) C 0 rfl rfl dX12_ticks_183 ?_
    refine r_iload_n (pc := 184) C 1 rfl rfl dX12_ticks_184 ?_
    refine r_iload_n (pc := 185) C 2 rfl rfl dX12_ticks_185 ?_
    refine r_iconst (pc := 186) C dX12_ticks_186 ?_
    obtain ⟨M5, hq5, h⟩ := bnd_inv h
    refine r_callV (pc := 187) (rest := []) (st1 := []) C (mExtOK b) [vI v1, vI v3, vI 4] (c_m_writesDown l hq5) cl_RX12_432 m_s0 (by decide) rfl rfl rfl rfl ⟨Nat.le_of_ble_eq_true rfl, Nat.le_of_ble_eq_true rfl⟩ (Nat.le_of_ble_eq_true rfl) rfl rfl dX12_ticks_187 ?_
    obtain ⟨v3_190, hv3_190, h⟩ := lt_inv h
    refine r_iincN (pc := 190) (y := v3_190) (lv' := [(3, vI v3_190), (0, vR b 0), (1, vI v1)]) C 2 rfl hv3_190 dX12_ticks_190 (by decide) rfl ?_
    refine r_goto (pc := 193) (tgt := 112) C dX12_ticks_193 (by decide) ?_
    refine r_sub (lv' := [(0, vR b 0), (1, vI v1), (3, vI v3_190)]) [1, 2, 0] rfl ?_
    exact hrec _ _ h
  · obtain ⟨v3_190, hv3_190, h⟩ := lt_inv h
    refine r_iincN (pc := 190) (y := v3_190) (lv' := [(3, vI v3_190), (0, vR b 0), (1, vI v1)]) C 2 rfl hv3_190 dX12_ticks_190 (by decide) rfl ?_
    refine r_goto (pc := 193) (tgt := 112) C dX12_ticks_193 (by decide) ?_
    refine r_sub (lv' := [(0, vR b 0), (1, vI v1), (3, vI v3_190)]) [1, 2, 0] rfl ?_
    exact hrec _ _ h
set_option maxHeartbeats 4000000 in
set_option maxRecDepth 20000 in
theorem w_m_ticks_L112_s (C : mCX p s m args meth c cX12_ticks 4 RX12 D E b) (hr : meth.sig.returnType = none) {M0 : Mem} {v1 : Int} {v3 : Int} {M : Mem} {q : Int × Mem} {rec : Int → Mem → Option (Int × Mem)} (hrec : ∀ (v3 : Int) (M : Mem), rec v3 M = some q → mWX p l e 6 138 s m args below meth c 4 D E b none M0 M 112 [(0, vR b 0), (1, vI v1), (3, vI v3)] []) (hfol : ∀ (v3 : Int) (M : Mem), q = (v3, M) → mWX p l e 6 138 s m args below meth c 4 D E b none M0 M 196 [(0, vR b 0), (1, vI v1)] []) (h : m_ticks_L112 v1 rec v3 M = some q) :
    mWX p l e 6 138 s m args below meth c 4 D E b none M0 M 112 [(0, vR b 0), (1, vI v1), (3, vI v3)] [] := by
  unfold m_ticks_L112 at h
  refine r_iload_n (pc := 112) C 2 rfl rfl dX12_ticks_112 ?_
  refine r_aload_n (pc := 113) C 0 rfl rfl dX12_ticks_113 ?_
  refine r_getR (pc := 114) C fl_RX12_69 m_s0 (by decide) m_k19 m_r19 dX12_ticks_114 ?_
  refine r_aload_n (pc := 117) C 0 rfl rfl dX12_ticks_117 ?_
  refine r_getI (pc := 118) C fl_RX12_51 m_s0 (by decide) m_k13 dX12_ticks_118 ?_
  obtain ⟨hi121, h⟩ := chk_inv h
  refine r_iald (pc := 121) C m_s7 (by decide) (by decide) hi121 rfl dX12_ticks_121 ?_
  refine r_icmp_ge (pc := 122) (tgt := 196) C h dX12_ticks_122 (by decide) (fun hc122 h => ?_) (fun hc122 h => ?_)
  · refine r_sub (lv' := [(0, vR b 0), (1, vI v1)]) [0, 1] rfl ?_
    exact hfol _ _ (Option.some.inj h).symm
  · refine r_aload_n (pc := 125) C 0 rfl rfl dX12_ticks_125 ?_
    refine r_getR (pc := 126) C fl_RX12_159 m_s0 (by decide) m_k48 m_r48 dX12_ticks_126 ?_
    refine r_bipush (pc := 129) (j := 12) C (by decide +kernel) dX12_ticks_129 ?_
    refine r_iload_n (pc := 131) C 1 rfl rfl dX12_ticks_131 ?_
    refine r_imul (pc := 132) C dX12_ticks_132 ?_
    refine r_iload_n (pc := 133) C 2 rfl rfl dX12_ticks_133 ?_
    refine r_iadd (pc := 134) C dX12_ticks_134 ?_
    obtain ⟨hi135, h⟩ := chk_inv h
    refine r_iald (pc := 135) C m_s29 (by decide) (by decide) hi135 rfl dX12_ticks_135 ?_
    refine r_iconst (pc := 136) C dX12_ticks_136 ?_
    refine r_icmp_eq (pc := 137) (tgt := 143) C h dX12_ticks_137 (by decide) (fun hc137 h => ?_) (fun hc137 h => ?_)
    · refine r_aload_n (pc := 143) C 0 rfl rfl dX12_ticks_143 ?_
      refine r_getR (pc := 144) C fl_RX12_165 m_s0 (by decide) m_k50 m_r50 dX12_ticks_144 ?_
      refine r_bipush (pc := 147) (j := 12) C (by decide +kernel) dX12_ticks_147 ?_
      refine r_iload_n (pc := 149) C 1 rfl rfl dX12_ticks_149 ?_
      refine r_imul (pc := 150) C dX12_ticks_150 ?_
      refine r_iload_n (pc := 151) C 2 rfl rfl dX12_ticks_151 ?_
      refine r_iadd (pc := 152) C dX12_ticks_152 ?_
      obtain ⟨hi153, h⟩ := chk_inv h
      refine r_iald (pc := 153) C m_s31 (by decide) (by decide) hi153 rfl dX12_ticks_153 ?_
      refine r_bipush (pc := 154) (j := 99) C (by decide +kernel) dX12_ticks_154 ?_
      refine r_icmp_ge (pc := 156) (tgt := 174) C h dX12_ticks_156 (by decide) (fun hc156 h => ?_) (fun hc156 h => ?_)
      · refine r_sub (lv' := [(0, vR b 0), (1, vI v1), (3, vI v3)]) [0, 1, 2] rfl ?_
        exact w_m_ticks_L112_B174 C hr hrec hfol h
      · refine r_aload_n (pc := 159) C 0 rfl rfl dX12_ticks_159 ?_
        refine r_getR (pc := 160) C fl_RX12_165 m_s0 (by decide) m_k50 m_r50 dX12_ticks_160 ?_
        refine r_bipush (pc := 163) (j := 12) C (by decide +kernel) dX12_ticks_163 ?_
        refine r_iload_n (pc := 165) C 1 rfl rfl dX12_ticks_165 ?_
        refine r_imul (pc := 166) C dX12_ticks_166 ?_
        refine r_iload_n (pc := 167) C 2 rfl rfl dX12_ticks_167 ?_
        refine r_iadd (pc := 168) C dX12_ticks_168 ?_
        refine r_dup2 (pc := 169) C rfl rfl dX12_ticks_169 ?_
        obtain ⟨hi170, h⟩ := chk_inv h
        refine r_iald (pc := 170) C m_s31 (by decide) (by decide) hi170 rfl dX12_ticks_170 ?_
        refine r_iconst (pc := 171) C dX12_ticks_171 ?_
        refine r_iadd (pc := 172) C dX12_ticks_172 ?_
        obtain ⟨hi173, h⟩ := chk_inv h
        obtain ⟨M_173, hM_173, h⟩ := lt_inv h
        refine r_iast (pc := 173) C m_s31 (by decide) (by decide) hi173 rfl hM_173 dX12_ticks_173 ?_
        refine r_sub (lv' := [(0, vR b 0), (1, vI v1), (3, vI v3)]) [0, 1, 2] rfl ?_
        exact w_m_ticks_L112_B174 C hr hrec hfol h
    · refine r_goto (pc := 140) (tgt := 190) C dX12_ticks_140 (by decide) ?_
      obtain ⟨v3_190, hv3_190, h⟩ := lt_inv h
      refine r_iincN (pc := 190) (y := v3_190) (lv' := [(3, vI v3_190), (0, vR b 0), (1, vI v1)]) C 2 rfl hv3_190 dX12_ticks_190 (by decide) rfl ?_
      refine r_goto (pc := 193) (tgt := 112) C dX12_ticks_193 (by decide) ?_
      refine r_sub (lv' := [(0, vR b 0), (1, vI v1), (3, vI v3_190)]) [1, 2, 0] rfl ?_
      exact hrec _ _ h
set_option maxHeartbeats 4000000 in
theorem w_m_ticks_L112 (C : mCX p s m args meth c cX12_ticks 4 RX12 D E b) (hr : meth.sig.returnType = none) {M0 : Mem} {v1 : Int} {q : Int × Mem} (hfol : ∀ (v3 : Int) (M : Mem), q = (v3, M) → mWX p l e 6 138 s m args below meth c 4 D E b none M0 M 196 [(0, vR b 0), (1, vI v1)] []) : ∀ (n : Nat) (v3 : Int) (M : Mem), itr2 (m_ticks_L112 v1) n v3 M = some q →
    mWX p l e 6 138 s m args below meth c 4 D E b none M0 M 112 [(0, vR b 0), (1, vI v1), (3, vI v3)] [] := by
  intro n
  induction n with
  | zero => exact fun _ _ h => itr_z h
  | succ n ih => exact fun _ _ h => w_m_ticks_L112_s C hr ih hfol h
set_option maxHeartbeats 4000000 in
set_option maxRecDepth 20000 in
theorem w_m_ticks_L198_B246 (C : mCX p s m args meth c cX12_ticks 4 RX12 D E b) (hr : meth.sig.returnType = none) {M0 : Mem} {M : Mem} {v1 : Int} {v3 : Int} {s1 : Int} {s2 : Int} {q : Int × Mem} {rec : Int → Mem → Option (Int × Mem)} (hrec : ∀ (v3 : Int) (M : Mem), rec v3 M = some q → mWX p l e 6 138 s m args below meth c 4 D E b none M0 M 198 [(0, vR b 0), (1, vI v1), (3, vI v3)] []) (hfol : ∀ (v3 : Int) (M : Mem), q = (v3, M) → mWX p l e 6 138 s m args below meth c 4 D E b none M0 M 302 [(0, vR b 0), (1, vI v1)] []) (h : m_ticks_L198_B246 rec v1 v3 s1 s2 M = some q) :
    mWX p l e 6 138 s m args below meth c 4 D E b none M0 M 246 [(0, vR b 0), (1, vI v1), (3, vI v3)] [vI s2, vI s1, vR b 39] := by
  unfold m_ticks_L198_B246 at h
  obtain ⟨hi246, h⟩ := chk_inv h
  obtain ⟨M_246, hM_246, h⟩ := lt_inv h
  refine r_iast (pc := 246) C m_s39 (by decide) (by decide) hi246 rfl hM_246 dX12_ticks_246 ?_
  refine r_aload_n (pc := 247) C 0 rfl rfl dX12_ticks_247 ?_
  refine r_getR (pc := 248) C fl_RX12_198 m_s0 (by decide) m_k61 m_r61 dX12_ticks_248 ?_
  refine r_iload_n (pc := 251) C 2 rfl rfl dX12_ticks_251 ?_
  obtain ⟨hi252, h⟩ := chk_inv h
  refine r_iald (pc := 252) C m_s39 (by decide) (by decide) hi252 rfl dX12_ticks_252 ?_
  refine r_iconst (pc := 253) C dX12_ticks_253 ?_
  refine r_icmp_ne (pc := 254) (tgt := 260) C h dX12_ticks_254 (by decide) (fun hc254 h => ?_) (fun hc254 h => ?_)
  · refine r_aload_n (pc := 260) C 0 rfl rfl dX12_ticks_260 ?_
    refine r_getR (pc := 261) C fl_RX12_171 m_s0 (by decide) m_k52 m_r52 dX12_ticks_261 ?_
    refine r_bipush (pc := 264) (j := 12) C (by decide +kernel) dX12_ticks_264 ?_
    refine r_iload_n (pc := 266) C 1 rfl rfl dX12_ticks_266 ?_
    refine r_imul (pc := 267) C dX12_ticks_267 ?_
    refine r_iload_n (pc := 268) C 2 rfl rfl dX12_ticks_268 ?_
    refine r_iadd (pc := 269) C dX12_ticks_269 ?_
    refine r_dup2 (pc := 270) C rfl rfl dX12_ticks_270 ?_
    obtain ⟨hi271, h⟩ := chk_inv h
    refine r_iald (pc := 271) C m_s33 (by decide) (by decide) hi271 rfl dX12_ticks_271 ?_
    refine r_iconst (pc := 272) C dX12_ticks_272 ?_
    refine r_isub (pc := 273) C dX12_ticks_273 ?_
    obtain ⟨hi274, h⟩ := chk_inv h
    obtain ⟨M_274, hM_274, h⟩ := lt_inv h
    refine r_iast (pc := 274) C m_s33 (by decide) (by decide) hi274 rfl hM_274 dX12_ticks_274 ?_
    refine r_aload_n (pc := 275) C 0 rfl rfl dX12_ticks_275 ?_
    refine r_getR (pc := 276) C fl_RX12_171 m_s0 (by decide) m_k52 m_r52 dX12_ticks_276 ?_
    refine r_bipush (pc := 279) (j := 12) C (by decide +kernel) dX12_ticks_279 ?_
    refine r_iload_n (pc := 281) C 1 rfl rfl dX12_ticks_281 ?_
    refine r_imul (pc := 282) C dX12_ticks_282 ?_
    refine r_iload_n (pc := 283) C 2 rfl rfl dX12_ticks_283 ?_
    refine r_iadd (pc := 284) C dX12_ticks_284 ?_
    obtain ⟨hi285, h⟩ := chk_inv h
    refine r_iald (pc := 285) C m_s33 (by decide) (by decide) hi285 rfl dX12_ticks_285 ?_
    refine r_if_ne (pc := 286) (tgt := 296) C h dX12_ticks_286 (by decide) (fun hc286 h => ?_) (fun hc286 h => ?_)
    · obtain ⟨v3_296, hv3_296, h⟩ := lt_inv h
      refine r_iincN (pc := 296) (y := v3_296) (lv' := [(3, vI v3_296), (0, vR b 0), (1, vI v1)]) C 2 rfl hv3_296 dX12_ticks_296 (by decide) rfl ?_
      refine r_goto (pc := 299) (tgt := 198) C dX12_ticks_299 (by decide) ?_
      refine r_sub (lv' := [(0, vR b 0), (1, vI v1), (3, vI v3_296)]) [1, 2, 0] rfl ?_
      exact hrec _ _ h
    · refine r_aload_n (pc := 289) C 0 rfl rfl dX12_ticks_289 ?_
      refine r_iload_n (pc := 290) C 1 rfl rfl dX12_ticks_290 ?_
      refine r_iload_n (pc := 291) C 2 rfl rfl dX12_ticks_291 ?_
      refine r_iconst (pc := 292) C dX12_ticks_292 ?_
      obtain ⟨M7, hq7, h⟩ := bnd_inv h
      refine r_callV (pc := 293) (rest := []) (st1 := []) C (mExtOK b) [vI v1, vI v3, vI 3] (c_m_writesDown l hq7) cl_RX12_432 m_s0 (by decide) rfl rfl rfl rfl ⟨Nat.le_of_ble_eq_true rfl, Nat.le_of_ble_eq_true rfl⟩ (Nat.le_of_ble_eq_true rfl) rfl rfl dX12_ticks_293 ?_
      obtain ⟨v3_296, hv3_296, h⟩ := lt_inv h
      refine r_iincN (pc := 296) (y := v3_296) (lv' := [(3, vI v3_296), (0, vR b 0), (1, vI v1)]) C 2 rfl hv3_296 dX12_ticks_296 (by decide) rfl ?_
      refine r_goto (pc := 299) (tgt := 198) C dX12_ticks_299 (by decide) ?_
      refine r_sub (lv' := [(0, vR b 0), (1, vI v1), (3, vI v3_296)]) [1, 2, 0] rfl ?_
      exact hrec _ _ h
  · refine r_goto (pc := 257) (tgt := 296) C dX12_ticks_257 (by decide) ?_
    obtain ⟨v3_296, hv3_296, h⟩ := lt_inv h
    refine r_iincN (pc := 296) (y := v3_296) (lv' := [(3, vI v3_296), (0, vR b 0), (1, vI v1)]) C 2 rfl hv3_296 dX12_ticks_296 (by decide) rfl ?_
    refine r_goto (pc := 299) (tgt := 198) C dX12_ticks_299 (by decide) ?_
    refine r_sub (lv' := [(0, vR b 0), (1, vI v1), (3, vI v3_296)]) [1, 2, 0] rfl ?_
    exact hrec _ _ h
set_option maxHeartbeats 4000000 in
set_option maxRecDepth 20000 in
theorem w_m_ticks_L198_s (C : mCX p s m args meth c cX12_ticks 4 RX12 D E b) (hr : meth.sig.returnType = none) {M0 : Mem} {v1 : Int} {v3 : Int} {M : Mem} {q : Int × Mem} {rec : Int → Mem → Option (Int × Mem)} (hrec : ∀ (v3 : Int) (M : Mem), rec v3 M = some q → mWX p l e 6 138 s m args below meth c 4 D E b none M0 M 198 [(0, vR b 0), (1, vI v1), (3, vI v3)] []) (hfol : ∀ (v3 : Int) (M : Mem), q = (v3, M) → mWX p l e 6 138 s m args below meth c 4 D E b none M0 M 302 [(0, vR b 0), (1, vI v1)] []) (h : m_ticks_L198 v1 rec v3 M = some q) :
    mWX p l e 6 138 s m args below meth c 4 D E b none M0 M 198 [(0, vR b 0), (1, vI v1), (3, vI v3)] [] := by
  unfold m_ticks_L198 at h
  refine r_iload_n (pc := 198) C 2 rfl rfl dX12_ticks_198 ?_
  refine r_aload_n (pc := 199) C 0 rfl rfl dX12_ticks_199 ?_
  refine r_getR (pc := 200) C fl_RX12_69 m_s0 (by decide) m_k19 m_r19 dX12_ticks_200 ?_
  refine r_aload_n (pc := 203) C 0 rfl rfl dX12_ticks_203 ?_
  refine r_getI (pc := 204) C fl_RX12_51 m_s0 (by decide) m_k13 dX12_ticks_204 ?_
  obtain ⟨hi207, h⟩ := chk_inv h
  refine r_iald (pc := 207) C m_s7 (by decide) (by decide) hi207 rfl dX12_ticks_207 ?_
  refine r_icmp_ge (pc := 208) (tgt := 302) C h dX12_ticks_208 (by decide) (fun hc208 h => ?_) (fun hc208 h => ?_)
  · refine r_sub (lv' := [(0, vR b 0), (1, vI v1)]) [0, 1] rfl ?_
    exact hfol _ _ (Option.some.inj h).symm
  · refine r_aload_n (pc := 211) C 0 rfl rfl dX12_ticks_211 ?_
    refine r_getR (pc := 212) C fl_RX12_198 m_s0 (by decide) m_k61 m_r61 dX12_ticks_212 ?_
    refine r_iload_n (pc := 215) C 2 rfl rfl dX12_ticks_215 ?_
    refine r_aload_n (pc := 216) C 0 rfl rfl dX12_ticks_216 ?_
    refine r_getR (pc := 217) C fl_RX12_159 m_s0 (by decide) m_k48 m_r48 dX12_ticks_217 ?_
    refine r_bipush (pc := 220) (j := 12) C (by decide +kernel) dX12_ticks_220 ?_
    refine r_iload_n (pc := 222) C 1 rfl rfl dX12_ticks_222 ?_
    refine r_imul (pc := 223) C dX12_ticks_223 ?_
    refine r_iload_n (pc := 224) C 2 rfl rfl dX12_ticks_224 ?_
    refine r_iadd (pc := 225) C dX12_ticks_225 ?_
    obtain ⟨hi226, h⟩ := chk_inv h
    refine r_iald (pc := 226) C m_s29 (by decide) (by decide) hi226 rfl dX12_ticks_226 ?_
    refine r_iconst (pc := 227) C dX12_ticks_227 ?_
    refine r_icmp_ne (pc := 228) (tgt := 245) C h dX12_ticks_228 (by decide) (fun hc228 h => ?_) (fun hc228 h => ?_)
    · refine r_iconst (pc := 245) C dX12_ticks_245 ?_
      refine r_sub (lv' := [(0, vR b 0), (1, vI v1), (3, vI v3)]) [0, 1, 2] rfl ?_
      exact w_m_ticks_L198_B246 C hr hrec hfol h
    · refine r_aload_n (pc := 231) C 0 rfl rfl dX12_ticks_231 ?_
      refine r_getR (pc := 232) C fl_RX12_168 m_s0 (by decide) m_k51 m_r51 dX12_ticks_232 ?_
      refine r_bipush (pc := 235) (j := 12) C (by decide +kernel) dX12_ticks_235 ?_
      refine r_iload_n (pc := 237) C 1 rfl rfl dX12_ticks_237 ?_
      refine r_imul (pc := 238) C dX12_ticks_238 ?_
      refine r_iload_n (pc := 239) C 2 rfl rfl dX12_ticks_239 ?_
      refine r_iadd (pc := 240) C dX12_ticks_240 ?_
      obtain ⟨hi241, h⟩ := chk_inv h
      refine r_iald (pc := 241) C m_s32 (by decide) (by decide) hi241 rfl dX12_ticks_241 ?_
      refine r_goto (pc := 242) (tgt := 246) C dX12_ticks_242 (by decide) ?_
      refine r_sub (lv' := [(0, vR b 0), (1, vI v1), (3, vI v3)]) [0, 1, 2] rfl ?_
      exact w_m_ticks_L198_B246 C hr hrec hfol h
set_option maxHeartbeats 4000000 in
theorem w_m_ticks_L198 (C : mCX p s m args meth c cX12_ticks 4 RX12 D E b) (hr : meth.sig.returnType = none) {M0 : Mem} {v1 : Int} {q : Int × Mem} (hfol : ∀ (v3 : Int) (M : Mem), q = (v3, M) → mWX p l e 6 138 s m args below meth c 4 D E b none M0 M 302 [(0, vR b 0), (1, vI v1)] []) : ∀ (n : Nat) (v3 : Int) (M : Mem), itr2 (m_ticks_L198 v1) n v3 M = some q →
    mWX p l e 6 138 s m args below meth c 4 D E b none M0 M 198 [(0, vR b 0), (1, vI v1), (3, vI v3)] [] := by
  intro n
  induction n with
  | zero => exact fun _ _ h => itr_z h
  | succ n ih => exact fun _ _ h => w_m_ticks_L198_s C hr ih hfol h
set_option maxHeartbeats 4000000 in
set_option maxRecDepth 20000 in
theorem c_m_ticks (l : Launch) {x1 : Int} {x2 : Int} {M : Mem} {M0 : Mem} (h : m_ticks x1 x2 M = some M0) : Ct l yX12_ticks cX12_ticks 4 none 6 138 vwCl mSh mN mRf mExt (fun b => [vR b 0, vI x1, vI x2]) M (fun b => none) M0 := by
  refine Ct_of mExtOK (by decide) (fun b => Nat.le_of_ble_eq_true rfl) ?_
  intro p e s m args below meth c D E b C hr
  unfold m_ticks at h
  refine (show mWX p l e 6 138 s m args below meth c 4 D E b none M0 M 0 [(0, vR b 0), (1, vI x1), (2, vI x2)] [] from ?_)
  refine r_iconst (pc := 0) C dX12_ticks_0 ?_
  refine r_istore_n (pc := 1) (lv' := [(3, vI 0), (0, vR b 0), (1, vI x1), (2, vI x2)]) C rfl dX12_ticks_1 (by decide) rfl ?_
  refine r_sub (lv' := [(0, vR b 0), (1, vI x1), (2, vI x2), (3, vI 0)]) [1, 2, 3, 0] rfl ?_
  obtain ⟨q1, hl1, h⟩ := bnd_inv h
  refine w_m_ticks_L2 C hr (fun v3_1 M_1 hq => ?_) FUEL _ _ hl1
  have hq := hq.symm
  subst hq
  refine r_iconst (pc := 67) C dX12_ticks_67 ?_
  refine r_istore_n (pc := 68) (lv' := [(3, vI 0), (0, vR b 0), (1, vI x1), (2, vI x2)]) C rfl dX12_ticks_68 (by decide) rfl ?_
  refine r_sub (lv' := [(0, vR b 0), (1, vI x1), (2, vI x2), (3, vI 0)]) [1, 2, 3, 0] rfl ?_
  obtain ⟨q3, hl3, h⟩ := bnd_inv h
  refine w_m_ticks_L69 C hr (fun v3_3 M_3 hq => ?_) FUEL _ _ hl3
  have hq := hq.symm
  subst hq
  refine r_iconst (pc := 110) C dX12_ticks_110 ?_
  refine r_istore_n (pc := 111) (lv' := [(3, vI 0), (0, vR b 0), (1, vI x1)]) C rfl dX12_ticks_111 (by decide) rfl ?_
  refine r_sub (lv' := [(0, vR b 0), (1, vI x1), (3, vI 0)]) [1, 2, 0] rfl ?_
  obtain ⟨q6, hl6, h⟩ := bnd_inv h
  refine w_m_ticks_L112 C hr (fun v3_6 M_6 hq => ?_) FUEL _ _ hl6
  have hq := hq.symm
  subst hq
  refine r_iconst (pc := 196) C dX12_ticks_196 ?_
  refine r_istore_n (pc := 197) (lv' := [(3, vI 0), (0, vR b 0), (1, vI x1)]) C rfl dX12_ticks_197 (by decide) rfl ?_
  refine r_sub (lv' := [(0, vR b 0), (1, vI x1), (3, vI 0)]) [1, 2, 0] rfl ?_
  obtain ⟨q8, hl8, h⟩ := bnd_inv h
  refine w_m_ticks_L198 C hr (fun v3_8 M_8 hq => ?_) FUEL _ _ hl8
  have hq := hq.symm
  subst hq
  refine r_aload_n (pc := 302) C 0 rfl rfl dX12_ticks_302 ?_
  refine r_getR (pc := 303) C fl_RX12_147 m_s0 (by decide) m_k44 m_r44 dX12_ticks_303 ?_
  refine r_iload_n (pc := 306) C 1 rfl rfl dX12_ticks_306 ?_
  refine r_dup2 (pc := 307) C rfl rfl dX12_ticks_307 ?_
  obtain ⟨hi308, h⟩ := chk_inv h
  refine r_iald (pc := 308) C m_s25 (by decide) (by decide) hi308 rfl dX12_ticks_308 ?_
  refine r_iconst (pc := 309) C dX12_ticks_309 ?_
  refine r_iadd (pc := 310) C dX12_ticks_310 ?_
  obtain ⟨hi311, h⟩ := chk_inv h
  obtain ⟨M_311, hM_311, h⟩ := lt_inv h
  refine r_iast (pc := 311) C m_s25 (by decide) (by decide) hi311 rfl hM_311 dX12_ticks_311 ?_
  have e := Option.some.inj h
  exact r_vret (pc := 312) C hr rfl e.symm dX12_ticks_312
set_option maxHeartbeats 4000000 in
set_option maxRecDepth 20000 in
theorem c_m_all (l : Launch) {M : Mem} {r0 : Int} (h : m_all M = some r0) : Ct l yX12_all cX12_all 1 (some .int) 1 12 vwCl mSh mN mRf mExt (fun b => [vR b 0]) M (fun b => (some (vI r0))) M := by
  refine Ct_of mExtOK (by decide) (fun b => Nat.le_of_ble_eq_true rfl) ?_
  intro p e s m args below meth c D E b C hr
  unfold m_all at h
  refine (show mWX p l e 1 12 s m args below meth c 1 D E b (some (vI r0)) M M 0 [(0, vR b 0)] [] from ?_)
  refine r_iconst (pc := 0) C dX12_all_0 ?_
  refine r_aload_n (pc := 1) C 0 rfl rfl dX12_all_1 ?_
  refine r_getR (pc := 2) C fl_RX12_54 m_s0 (by decide) m_k14 m_r14 dX12_all_2 ?_
  refine r_aload_n (pc := 5) C 0 rfl rfl dX12_all_5 ?_
  refine r_getI (pc := 6) C fl_RX12_51 m_s0 (by decide) m_k13 dX12_all_6 ?_
  obtain ⟨hi9, h⟩ := chk_inv h
  refine r_iald (pc := 9) C m_s2 (by decide) (by decide) hi9 rfl dX12_all_9 ?_
  refine r_ishl (pc := 10) C dX12_all_10 ?_
  refine r_iconst (pc := 11) C dX12_all_11 ?_
  refine r_isub (pc := 12) C dX12_all_12 ?_
  have e := Option.some.inj h
  exact r_iret (pc := 13) C hr (congrArg (fun z => some (vI z)) e.symm) rfl dX12_all_13
set_option maxHeartbeats 4000000 in
set_option maxRecDepth 20000 in
theorem w_m_bits_L4_s (C : mCX p s m args meth c cX12_bits 3 RX12 D E b) (hr : meth.sig.returnType = (some .int)) {r0 : Int} {M : Mem} {v1 : Int} {v2 : Int} {q : Int × Int} {rec : Int → Int → Option (Int × Int)} (hrec : ∀ (v1 : Int) (v2 : Int), rec v1 v2 = some q → mWX p l e 1 12 s m args below meth c 3 D E b (some (vI r0)) M M 4 [(1, vI v1), (2, vI v2)] []) (hfol : ∀ (v1 : Int) (v2 : Int), q = (v1, v2) → mWX p l e 1 12 s m args below meth c 3 D E b (some (vI r0)) M M 20 [(1, vI v1)] []) (h : m_bits_L4 M rec v1 v2 = some q) :
    mWX p l e 1 12 s m args below meth c 3 D E b (some (vI r0)) M M 4 [(1, vI v1), (2, vI v2)] [] := by
  unfold m_bits_L4 at h
  refine r_iload_n (pc := 4) C 1 rfl rfl dX12_bits_4 ?_
  refine r_if_eq (pc := 5) (tgt := 20) C h dX12_bits_5 (by decide) (fun hc5 h => ?_) (fun hc5 h => ?_)
  · refine r_sub (lv' := [(1, vI v1)]) [0] rfl ?_
    exact hfol _ _ (Option.some.inj h).symm
  · obtain ⟨v1_8, hv1_8, h⟩ := lt_inv h
    refine r_iincN (pc := 8) (y := v1_8) (lv' := [(1, vI v1_8), (2, vI v2)]) C 0 rfl hv1_8 dX12_bits_8 (by decide) rfl ?_
    refine r_iload_n (pc := 11) C 1 rfl rfl dX12_bits_11 ?_
    refine r_iload_n (pc := 12) C 1 rfl rfl dX12_bits_12 ?_
    refine r_iconst (pc := 13) C dX12_bits_13 ?_
    refine r_isub (pc := 14) C dX12_bits_14 ?_
    refine r_iand (pc := 15) C dX12_bits_15 ?_
    obtain ⟨v2_16, hv2_16, h⟩ := lt_inv h
    refine r_topI hv2_16 ?_
    refine r_istore_n (pc := 16) (lv' := [(2, vI v2_16), (1, vI v1_8)]) C rfl dX12_bits_16 (by decide) rfl ?_
    refine r_goto (pc := 17) (tgt := 4) C dX12_bits_17 (by decide) ?_
    refine r_sub (lv' := [(1, vI v1_8), (2, vI v2_16)]) [1, 0] rfl ?_
    exact hrec _ _ h
set_option maxHeartbeats 4000000 in
theorem w_m_bits_L4 (C : mCX p s m args meth c cX12_bits 3 RX12 D E b) (hr : meth.sig.returnType = (some .int)) {r0 : Int} {M : Mem} {q : Int × Int} (hfol : ∀ (v1 : Int) (v2 : Int), q = (v1, v2) → mWX p l e 1 12 s m args below meth c 3 D E b (some (vI r0)) M M 20 [(1, vI v1)] []) : ∀ (n : Nat) (v1 : Int) (v2 : Int), itr2 (m_bits_L4 M) n v1 v2 = some q →
    mWX p l e 1 12 s m args below meth c 3 D E b (some (vI r0)) M M 4 [(1, vI v1), (2, vI v2)] [] := by
  intro n
  induction n with
  | zero => exact fun _ _ h => itr_z h
  | succ n ih => exact fun _ _ h => w_m_bits_L4_s C hr ih hfol h
set_option maxHeartbeats 4000000 in
set_option maxRecDepth 20000 in
theorem c_m_bits (l : Launch) {x0 : Int} {M : Mem} {r0 : Int} (h : m_bits x0 M = some r0) : Ct l yX12_bits cX12_bits 3 (some .int) 1 12 vwCl mSh mN mRf mExt (fun b => [vI x0]) M (fun b => (some (vI r0))) M := by
  refine Ct_of mExtOK (by decide) (fun b => Nat.le_of_ble_eq_true rfl) ?_
  intro p e s m args below meth c D E b C hr
  unfold m_bits at h
  refine (show mWX p l e 1 12 s m args below meth c 3 D E b (some (vI r0)) M M 0 [(0, vI x0)] [] from ?_)
  refine r_iconst (pc := 0) C dX12_bits_0 ?_
  refine r_istore_n (pc := 1) (lv' := [(1, vI 0), (0, vI x0)]) C rfl dX12_bits_1 (by decide) rfl ?_
  refine r_iload_n (pc := 2) C 1 rfl rfl dX12_bits_2 ?_
  refine r_istore_n (pc := 3) (lv' := [(2, vI x0), (1, vI 0), (0, vI x0)]) C rfl dX12_bits_3 (by decide) rfl ?_
  refine r_sub (lv' := [(1, vI 0), (2, vI x0)]) [1, 0] rfl ?_
  obtain ⟨q1, hl1, h⟩ := bnd_inv h
  refine w_m_bits_L4 C hr (fun v1_1 v2_1 hq => ?_) FUEL _ _ hl1
  have hq := hq.symm
  subst hq
  refine r_iload_n (pc := 20) C 0 rfl rfl dX12_bits_20 ?_
  have e := Option.some.inj h
  exact r_iret (pc := 21) C hr (congrArg (fun z => some (vI z)) e.symm) rfl dX12_bits_21
set_option maxHeartbeats 4000000 in
set_option maxRecDepth 20000 in
theorem w_m_manyOf_L6_s (C : mCX p s m args meth c cX12_manyOf 6 RX12 D E b) (hr : meth.sig.returnType = (some .int)) {r0 : Int} {v1 : Int} {v2 : Int} {v3 : Int} {M : Mem} {v4 : Int} {v5 : Int} {q : Int × Int} {rec : Int → Int → Option (Int × Int)} (hrec : ∀ (v4 : Int) (v5 : Int), rec v4 v5 = some q → mWX p l e 1 12 s m args below meth c 6 D E b (some (vI r0)) M M 6 [(0, vR b 0), (1, vI v1), (2, vI v2), (3, vI v3), (4, vI v4), (5, vI v5)] []) (hfol : ∀ (v4 : Int) (v5 : Int), q = (v4, v5) → mWX p l e 1 12 s m args below meth c 6 D E b (some (vI r0)) M M 68 [(4, vI v4)] []) (h : m_manyOf_L6 v1 v2 v3 M rec v4 v5 = some q) :
    mWX p l e 1 12 s m args below meth c 6 D E b (some (vI r0)) M M 6 [(0, vR b 0), (1, vI v1), (2, vI v2), (3, vI v3), (4, vI v4), (5, vI v5)] [] := by
  unfold m_manyOf_L6 at h
  refine r_iload (pc := 6) C 5 rfl dX12_manyOf_6 ?_
  refine r_aload_n (pc := 8) C 0 rfl rfl dX12_manyOf_8 ?_
  refine r_getR (pc := 9) C fl_RX12_69 m_s0 (by decide) m_k19 m_r19 dX12_manyOf_9 ?_
  refine r_aload_n (pc := 12) C 0 rfl rfl dX12_manyOf_12 ?_
  refine r_getI (pc := 13) C fl_RX12_51 m_s0 (by decide) m_k13 dX12_manyOf_13 ?_
  obtain ⟨hi16, h⟩ := chk_inv h
  refine r_iald (pc := 16) C m_s7 (by decide) (by decide) hi16 rfl dX12_manyOf_16 ?_
  refine r_icmp_ge (pc := 17) (tgt := 68) C h dX12_manyOf_17 (by decide) (fun hc17 h => ?_) (fun hc17 h => ?_)
  · refine r_sub (lv' := [(4, vI v4)]) [4] rfl ?_
    exact hfol _ _ (Option.some.inj h).symm
  · refine r_iload (pc := 20) C 4 rfl dX12_manyOf_20 ?_
    refine r_aload_n (pc := 22) C 0 rfl rfl dX12_manyOf_22 ?_
    refine r_getR (pc := 23) C fl_RX12_159 m_s0 (by decide) m_k48 m_r48 dX12_manyOf_23 ?_
    refine r_bipush (pc := 26) (j := 12) C (by decide +kernel) dX12_manyOf_26 ?_
    refine r_iload_n (pc := 28) C 1 rfl rfl dX12_manyOf_28 ?_
    refine r_imul (pc := 29) C dX12_manyOf_29 ?_
    refine r_iload (pc := 30) C 5 rfl dX12_manyOf_30 ?_
    refine r_iadd (pc := 32) C dX12_manyOf_32 ?_
    obtain ⟨hi33, h⟩ := chk_inv h
    refine r_iald (pc := 33) C m_s29 (by decide) (by decide) hi33 rfl dX12_manyOf_33 ?_
    refine r_iload_n (pc := 34) C 2 rfl rfl dX12_manyOf_34 ?_
    refine r_icmp_eq (pc := 35) (tgt := 54) C h dX12_manyOf_35 (by decide) (fun hc35 h => ?_) (fun hc35 h => ?_)
    · refine r_iconst (pc := 54) C dX12_manyOf_54 ?_
      refine r_goto (pc := 55) (tgt := 59) C dX12_manyOf_55 (by decide) ?_
      refine r_iadd (pc := 59) C dX12_manyOf_59 ?_
      obtain ⟨v4_60, hv4_60, h⟩ := lt_inv h
      refine r_topI hv4_60 ?_
      refine r_istore (pc := 60) (lv' := [(4, vI v4_60), (0, vR b 0), (1, vI v1), (2, vI v2), (3, vI v3), (5, vI v5)]) C dX12_manyOf_60 (by decide) rfl ?_
      obtain ⟨v5_62, hv5_62, h⟩ := lt_inv h
      refine r_iincN (pc := 62) (y := v5_62) (lv' := [(5, vI v5_62), (4, vI v4_60), (0, vR b 0), (1, vI v1), (2, vI v2), (3, vI v3)]) C 5 rfl hv5_62 dX12_manyOf_62 (by decide) rfl ?_
      refine r_goto (pc := 65) (tgt := 6) C dX12_manyOf_65 (by decide) ?_
      refine r_sub (lv' := [(0, vR b 0), (1, vI v1), (2, vI v2), (3, vI v3), (4, vI v4_60), (5, vI v5_62)]) [2, 3, 4, 5, 1, 0] rfl ?_
      exact hrec _ _ h
    · refine r_aload_n (pc := 38) C 0 rfl rfl dX12_manyOf_38 ?_
      refine r_getR (pc := 39) C fl_RX12_159 m_s0 (by decide) m_k48 m_r48 dX12_manyOf_39 ?_
      refine r_bipush (pc := 42) (j := 12) C (by decide +kernel) dX12_manyOf_42 ?_
      refine r_iload_n (pc := 44) C 1 rfl rfl dX12_manyOf_44 ?_
      refine r_imul (pc := 45) C dX12_manyOf_45 ?_
      refine r_iload (pc := 46) C 5 rfl dX12_manyOf_46 ?_
      refine r_iadd (pc := 48) C dX12_manyOf_48 ?_
      obtain ⟨hi49, h⟩ := chk_inv h
      refine r_iald (pc := 49) C m_s29 (by decide) (by decide) hi49 rfl dX12_manyOf_49 ?_
      refine r_iload_n (pc := 50) C 3 rfl rfl dX12_manyOf_50 ?_
      refine r_icmp_ne (pc := 51) (tgt := 58) C h dX12_manyOf_51 (by decide) (fun hc51 h => ?_) (fun hc51 h => ?_)
      · refine r_iconst (pc := 58) C dX12_manyOf_58 ?_
        refine r_iadd (pc := 59) C dX12_manyOf_59 ?_
        obtain ⟨v4_60, hv4_60, h⟩ := lt_inv h
        refine r_topI hv4_60 ?_
        refine r_istore (pc := 60) (lv' := [(4, vI v4_60), (0, vR b 0), (1, vI v1), (2, vI v2), (3, vI v3), (5, vI v5)]) C dX12_manyOf_60 (by decide) rfl ?_
        obtain ⟨v5_62, hv5_62, h⟩ := lt_inv h
        refine r_iincN (pc := 62) (y := v5_62) (lv' := [(5, vI v5_62), (4, vI v4_60), (0, vR b 0), (1, vI v1), (2, vI v2), (3, vI v3)]) C 5 rfl hv5_62 dX12_manyOf_62 (by decide) rfl ?_
        refine r_goto (pc := 65) (tgt := 6) C dX12_manyOf_65 (by decide) ?_
        refine r_sub (lv' := [(0, vR b 0), (1, vI v1), (2, vI v2), (3, vI v3), (4, vI v4_60), (5, vI v5_62)]) [2, 3, 4, 5, 1, 0] rfl ?_
        exact hrec _ _ h
      · refine r_iconst (pc := 54) C dX12_manyOf_54 ?_
        refine r_goto (pc := 55) (tgt := 59) C dX12_manyOf_55 (by decide) ?_
        refine r_iadd (pc := 59) C dX12_manyOf_59 ?_
        obtain ⟨v4_60, hv4_60, h⟩ := lt_inv h
        refine r_topI hv4_60 ?_
        refine r_istore (pc := 60) (lv' := [(4, vI v4_60), (0, vR b 0), (1, vI v1), (2, vI v2), (3, vI v3), (5, vI v5)]) C dX12_manyOf_60 (by decide) rfl ?_
        obtain ⟨v5_62, hv5_62, h⟩ := lt_inv h
        refine r_iincN (pc := 62) (y := v5_62) (lv' := [(5, vI v5_62), (4, vI v4_60), (0, vR b 0), (1, vI v1), (2, vI v2), (3, vI v3)]) C 5 rfl hv5_62 dX12_manyOf_62 (by decide) rfl ?_
        refine r_goto (pc := 65) (tgt := 6) C dX12_manyOf_65 (by decide) ?_
        refine r_sub (lv' := [(0, vR b 0), (1, vI v1), (2, vI v2), (3, vI v3), (4, vI v4_60), (5, vI v5_62)]) [2, 3, 4, 5, 1, 0] rfl ?_
        exact hrec _ _ h
set_option maxHeartbeats 4000000 in
theorem w_m_manyOf_L6 (C : mCX p s m args meth c cX12_manyOf 6 RX12 D E b) (hr : meth.sig.returnType = (some .int)) {r0 : Int} {v1 : Int} {v2 : Int} {v3 : Int} {M : Mem} {q : Int × Int} (hfol : ∀ (v4 : Int) (v5 : Int), q = (v4, v5) → mWX p l e 1 12 s m args below meth c 6 D E b (some (vI r0)) M M 68 [(4, vI v4)] []) : ∀ (n : Nat) (v4 : Int) (v5 : Int), itr2 (m_manyOf_L6 v1 v2 v3 M) n v4 v5 = some q →
    mWX p l e 1 12 s m args below meth c 6 D E b (some (vI r0)) M M 6 [(0, vR b 0), (1, vI v1), (2, vI v2), (3, vI v3), (4, vI v4), (5, vI v5)] [] := by
  intro n
  induction n with
  | zero => exact fun _ _ h => itr_z h
  | succ n ih => exact fun _ _ h => w_m_manyOf_L6_s C hr ih hfol h
set_option maxHeartbeats 4000000 in
set_option maxRecDepth 20000 in
theorem c_m_manyOf (l : Launch) {x1 : Int} {x2 : Int} {x3 : Int} {M : Mem} {r0 : Int} (h : m_manyOf x1 x2 x3 M = some r0) : Ct l yX12_manyOf cX12_manyOf 6 (some .int) 1 12 vwCl mSh mN mRf mExt (fun b => [vR b 0, vI x1, vI x2, vI x3]) M (fun b => (some (vI r0))) M := by
  refine Ct_of mExtOK (by decide) (fun b => Nat.le_of_ble_eq_true rfl) ?_
  intro p e s m args below meth c D E b C hr
  unfold m_manyOf at h
  refine (show mWX p l e 1 12 s m args below meth c 6 D E b (some (vI r0)) M M 0 [(0, vR b 0), (1, vI x1), (2, vI x2), (3, vI x3)] [] from ?_)
  refine r_iconst (pc := 0) C dX12_manyOf_0 ?_
  refine r_istore (pc := 1) (lv' := [(4, vI 0), (0, vR b 0), (1, vI x1), (2, vI x2), (3, vI x3)]) C dX12_manyOf_1 (by decide) rfl ?_
  refine r_iconst (pc := 3) C dX12_manyOf_3 ?_
  refine r_istore (pc := 4) (lv' := [(5, vI 0), (4, vI 0), (0, vR b 0), (1, vI x1), (2, vI x2), (3, vI x3)]) C dX12_manyOf_4 (by decide) rfl ?_
  refine r_sub (lv' := [(0, vR b 0), (1, vI x1), (2, vI x2), (3, vI x3), (4, vI 0), (5, vI 0)]) [2, 3, 4, 5, 1, 0] rfl ?_
  obtain ⟨q1, hl1, h⟩ := bnd_inv h
  refine w_m_manyOf_L6 C hr (fun v4_1 v5_1 hq => ?_) FUEL _ _ hl1
  have hq := hq.symm
  subst hq
  refine r_iload (pc := 68) C 0 rfl dX12_manyOf_68 ?_
  have e := Option.some.inj h
  exact r_iret (pc := 70) C hr (congrArg (fun z => some (vI z)) e.symm) rfl dX12_manyOf_70
set_option maxHeartbeats 4000000 in
set_option maxRecDepth 20000 in
theorem c_m_isVoice (l : Launch) {x1 : Int} {M : Mem} {r0 : Bool} (h : m_isVoice x1 M = some r0) : Ct l yX12_isVoice cX12_isVoice 2 (some .boolean) 1 12 vwCl mSh mN mRf mExt (fun b => [vR b 0, vI x1]) M (fun b => (some (vB r0))) M := by
  refine Ct_of mExtOK (by decide) (fun b => Nat.le_of_ble_eq_true rfl) ?_
  intro p e s m args below meth c D E b C hr
  unfold m_isVoice at h
  refine (show mWX p l e 1 12 s m args below meth c 2 D E b (some (vB r0)) M M 0 [(0, vR b 0), (1, vI x1)] [] from ?_)
  refine r_iload_n (pc := 0) C 1 rfl rfl dX12_isVoice_0 ?_
  refine r_if_lt (pc := 1) (tgt := 21) C h dX12_isVoice_1 (by decide) (fun hc1 h => ?_) (fun hc1 h => ?_)
  · refine r_iconst (pc := 21) C dX12_isVoice_21 ?_
    have e := Option.some.inj h
    exact r_zret (pc := 22) C hr (Or.inl rfl) (congrArg (fun z => some (vB z)) e.symm) rfl dX12_isVoice_22
  · refine r_iload_n (pc := 4) C 1 rfl rfl dX12_isVoice_4 ?_
    refine r_aload_n (pc := 5) C 0 rfl rfl dX12_isVoice_5 ?_
    refine r_getR (pc := 6) C fl_RX12_54 m_s0 (by decide) m_k14 m_r14 dX12_isVoice_6 ?_
    refine r_aload_n (pc := 9) C 0 rfl rfl dX12_isVoice_9 ?_
    refine r_getI (pc := 10) C fl_RX12_51 m_s0 (by decide) m_k13 dX12_isVoice_10 ?_
    obtain ⟨hi13, h⟩ := chk_inv h
    refine r_iald (pc := 13) C m_s2 (by decide) (by decide) hi13 rfl dX12_isVoice_13 ?_
    refine r_icmp_ge (pc := 14) (tgt := 21) C h dX12_isVoice_14 (by decide) (fun hc14 h => ?_) (fun hc14 h => ?_)
    · refine r_iconst (pc := 21) C dX12_isVoice_21 ?_
      have e := Option.some.inj h
      exact r_zret (pc := 22) C hr (Or.inl rfl) (congrArg (fun z => some (vB z)) e.symm) rfl dX12_isVoice_22
    · refine r_iconst (pc := 17) C dX12_isVoice_17 ?_
      refine r_goto (pc := 18) (tgt := 22) C dX12_isVoice_18 (by decide) ?_
      have e := Option.some.inj h
      exact r_zret (pc := 22) C hr (Or.inr rfl) (congrArg (fun z => some (vB z)) e.symm) rfl dX12_isVoice_22
set_option maxHeartbeats 4000000 in
set_option maxRecDepth 20000 in
theorem c_m_isPerson (l : Launch) {x1 : Int} {M : Mem} {r0 : Bool} (h : m_isPerson x1 M = some r0) : Ct l yX12_isPerson cX12_isPerson 2 (some .boolean) 1 12 vwCl mSh mN mRf mExt (fun b => [vR b 0, vI x1]) M (fun b => (some (vB r0))) M := by
  refine Ct_of mExtOK (by decide) (fun b => Nat.le_of_ble_eq_true rfl) ?_
  intro p e s m args below meth c D E b C hr
  unfold m_isPerson at h
  refine (show mWX p l e 1 12 s m args below meth c 2 D E b (some (vB r0)) M M 0 [(0, vR b 0), (1, vI x1)] [] from ?_)
  refine r_iload_n (pc := 0) C 1 rfl rfl dX12_isPerson_0 ?_
  refine r_if_lt (pc := 1) (tgt := 21) C h dX12_isPerson_1 (by decide) (fun hc1 h => ?_) (fun hc1 h => ?_)
  · refine r_iconst (pc := 21) C dX12_isPerson_21 ?_
    have e := Option.some.inj h
    exact r_zret (pc := 22) C hr (Or.inl rfl) (congrArg (fun z => some (vB z)) e.symm) rfl dX12_isPerson_22
  · refine r_iload_n (pc := 4) C 1 rfl rfl dX12_isPerson_4 ?_
    refine r_aload_n (pc := 5) C 0 rfl rfl dX12_isPerson_5 ?_
    refine r_getR (pc := 6) C fl_RX12_60 m_s0 (by decide) m_k16 m_r16 dX12_isPerson_6 ?_
    refine r_aload_n (pc := 9) C 0 rfl rfl dX12_isPerson_9 ?_
    refine r_getI (pc := 10) C fl_RX12_51 m_s0 (by decide) m_k13 dX12_isPerson_10 ?_
    obtain ⟨hi13, h⟩ := chk_inv h
    refine r_iald (pc := 13) C m_s4 (by decide) (by decide) hi13 rfl dX12_isPerson_13 ?_
    refine r_icmp_ge (pc := 14) (tgt := 21) C h dX12_isPerson_14 (by decide) (fun hc14 h => ?_) (fun hc14 h => ?_)
    · refine r_iconst (pc := 21) C dX12_isPerson_21 ?_
      have e := Option.some.inj h
      exact r_zret (pc := 22) C hr (Or.inl rfl) (congrArg (fun z => some (vB z)) e.symm) rfl dX12_isPerson_22
    · refine r_iconst (pc := 17) C dX12_isPerson_17 ?_
      refine r_goto (pc := 18) (tgt := 22) C dX12_isPerson_18 (by decide) ?_
      have e := Option.some.inj h
      exact r_zret (pc := 22) C hr (Or.inr rfl) (congrArg (fun z => some (vB z)) e.symm) rfl dX12_isPerson_22
set_option maxHeartbeats 4000000 in
set_option maxRecDepth 20000 in
theorem c_m_isSaying (l : Launch) {x1 : Int} {M : Mem} {r0 : Bool} (h : m_isSaying x1 M = some r0) : Ct l yX12_isSaying cX12_isSaying 2 (some .boolean) 1 12 vwCl mSh mN mRf mExt (fun b => [vR b 0, vI x1]) M (fun b => (some (vB r0))) M := by
  refine Ct_of mExtOK (by decide) (fun b => Nat.le_of_ble_eq_true rfl) ?_
  intro p e s m args below meth c D E b C hr
  unfold m_isSaying at h
  refine (show mWX p l e 1 12 s m args below meth c 2 D E b (some (vB r0)) M M 0 [(0, vR b 0), (1, vI x1)] [] from ?_)
  refine r_iload_n (pc := 0) C 1 rfl rfl dX12_isSaying_0 ?_
  refine r_if_lt (pc := 1) (tgt := 21) C h dX12_isSaying_1 (by decide) (fun hc1 h => ?_) (fun hc1 h => ?_)
  · refine r_iconst (pc := 21) C dX12_isSaying_21 ?_
    have e := Option.some.inj h
    exact r_zret (pc := 22) C hr (Or.inl rfl) (congrArg (fun z => some (vB z)) e.symm) rfl dX12_isSaying_22
  · refine r_iload_n (pc := 4) C 1 rfl rfl dX12_isSaying_4 ?_
    refine r_aload_n (pc := 5) C 0 rfl rfl dX12_isSaying_5 ?_
    refine r_getR (pc := 6) C fl_RX12_69 m_s0 (by decide) m_k19 m_r19 dX12_isSaying_6 ?_
    refine r_aload_n (pc := 9) C 0 rfl rfl dX12_isSaying_9 ?_
    refine r_getI (pc := 10) C fl_RX12_51 m_s0 (by decide) m_k13 dX12_isSaying_10 ?_
    obtain ⟨hi13, h⟩ := chk_inv h
    refine r_iald (pc := 13) C m_s7 (by decide) (by decide) hi13 rfl dX12_isSaying_13 ?_
    refine r_icmp_ge (pc := 14) (tgt := 21) C h dX12_isSaying_14 (by decide) (fun hc14 h => ?_) (fun hc14 h => ?_)
    · refine r_iconst (pc := 21) C dX12_isSaying_21 ?_
      have e := Option.some.inj h
      exact r_zret (pc := 22) C hr (Or.inl rfl) (congrArg (fun z => some (vB z)) e.symm) rfl dX12_isSaying_22
    · refine r_iconst (pc := 17) C dX12_isSaying_17 ?_
      refine r_goto (pc := 18) (tgt := 22) C dX12_isSaying_18 (by decide) ?_
      have e := Option.some.inj h
      exact r_zret (pc := 22) C hr (Or.inr rfl) (congrArg (fun z => some (vB z)) e.symm) rfl dX12_isSaying_22
set_option maxHeartbeats 4000000 in
set_option maxRecDepth 20000 in
theorem c_m_has (l : Launch) {x1 : Int} {M : Mem} {r0 : Int} (h : m_has x1 M = some r0) : Ct l yX12_has cX12_has 2 (some .int) 3 58 vwCl mSh mN mRf mExt (fun b => [vR b 0, vI x1]) M (fun b => (some (vI r0))) M := by
  refine Ct_of mExtOK (by decide) (fun b => Nat.le_of_ble_eq_true rfl) ?_
  intro p e s m args below meth c D E b C hr
  unfold m_has at h
  refine (show mWX p l e 3 58 s m args below meth c 2 D E b (some (vI r0)) M M 0 [(0, vR b 0), (1, vI x1)] [] from ?_)
  refine r_iload_n (pc := 0) C 1 rfl rfl dX12_has_0 ?_
  refine ite_split h (fun hc1_0 h => ?_) (fun hn1_0 h => ?_)
  · refine r_tabI (pc := 1) (tgt := 80) C hc1_0 (by decide) (by decide) rfl dX12_has_1 (by decide) ?_
    refine r_aload_n (pc := 80) C 0 rfl rfl dX12_has_80 ?_
    refine r_getR (pc := 81) C fl_RX12_54 m_s0 (by decide) m_k14 m_r14 dX12_has_81 ?_
    refine r_aload_n (pc := 84) C 0 rfl rfl dX12_has_84 ?_
    refine r_getI (pc := 85) C fl_RX12_51 m_s0 (by decide) m_k13 dX12_has_85 ?_
    obtain ⟨hi88, h⟩ := chk_inv h
    refine r_iald (pc := 88) C m_s2 (by decide) (by decide) hi88 rfl dX12_has_88 ?_
    have e := Option.some.inj h
    exact r_iret (pc := 89) C hr (congrArg (fun z => some (vI z)) e.symm) rfl dX12_has_89
  refine ite_split h (fun hc1_1 h => ?_) (fun hn1_1 h => ?_)
  · refine r_tabI (pc := 1) (tgt := 90) C hc1_1 (by decide) (by decide) rfl dX12_has_1 (by decide) ?_
    refine r_aload_n (pc := 90) C 0 rfl rfl dX12_has_90 ?_
    refine r_getR (pc := 91) C fl_RX12_60 m_s0 (by decide) m_k16 m_r16 dX12_has_91 ?_
    refine r_aload_n (pc := 94) C 0 rfl rfl dX12_has_94 ?_
    refine r_getI (pc := 95) C fl_RX12_51 m_s0 (by decide) m_k13 dX12_has_95 ?_
    obtain ⟨hi98, h⟩ := chk_inv h
    refine r_iald (pc := 98) C m_s4 (by decide) (by decide) hi98 rfl dX12_has_98 ?_
    have e := Option.some.inj h
    exact r_iret (pc := 99) C hr (congrArg (fun z => some (vI z)) e.symm) rfl dX12_has_99
  refine ite_split h (fun hc1_2 h => ?_) (fun hn1_2 h => ?_)
  · refine r_tabI (pc := 1) (tgt := 100) C hc1_2 (by decide) (by decide) rfl dX12_has_1 (by decide) ?_
    refine r_aload_n (pc := 100) C 0 rfl rfl dX12_has_100 ?_
    refine r_getR (pc := 101) C fl_RX12_69 m_s0 (by decide) m_k19 m_r19 dX12_has_101 ?_
    refine r_aload_n (pc := 104) C 0 rfl rfl dX12_has_104 ?_
    refine r_getI (pc := 105) C fl_RX12_51 m_s0 (by decide) m_k13 dX12_has_105 ?_
    obtain ⟨hi108, h⟩ := chk_inv h
    refine r_iald (pc := 108) C m_s7 (by decide) (by decide) hi108 rfl dX12_has_108 ?_
    have e := Option.some.inj h
    exact r_iret (pc := 109) C hr (congrArg (fun z => some (vI z)) e.symm) rfl dX12_has_109
  refine ite_split h (fun hc1_3 h => ?_) (fun hn1_3 h => ?_)
  · refine r_tabI (pc := 1) (tgt := 110) C hc1_3 (by decide) (by decide) rfl dX12_has_1 (by decide) ?_
    refine r_aload_n (pc := 110) C 0 rfl rfl dX12_has_110 ?_
    refine r_getR (pc := 111) C fl_RX12_147 m_s0 (by decide) m_k44 m_r44 dX12_has_111 ?_
    refine r_iconst (pc := 114) C dX12_has_114 ?_
    refine r_iald (pc := 115) C m_s25 (by decide) (by decide) (by decide) rfl dX12_has_115 ?_
    have e := Option.some.inj h
    exact r_iret (pc := 116) C hr (congrArg (fun z => some (vI z)) e.symm) rfl dX12_has_116
  refine ite_split h (fun hc1_4 h => ?_) (fun hn1_4 h => ?_)
  · refine r_tabI (pc := 1) (tgt := 117) C hc1_4 (by decide) (by decide) rfl dX12_has_1 (by decide) ?_
    refine r_aload_n (pc := 117) C 0 rfl rfl dX12_has_117 ?_
    refine r_getR (pc := 118) C fl_RX12_156 m_s0 (by decide) m_k47 m_r47 dX12_has_118 ?_
    refine r_iconst (pc := 121) C dX12_has_121 ?_
    refine r_iald (pc := 122) C m_s28 (by decide) (by decide) (by decide) rfl dX12_has_122 ?_
    obtain ⟨r1, hq1, h⟩ := bnd_inv h
    refine r_callS (pc := 123) (rest := []) (st1 := [vI r1]) C (mExtOK b) [vI (M 28 0)] (c_m_bits l hq1) cl_RX12_455 rfl rfl ⟨Nat.le_of_ble_eq_true rfl, Nat.le_of_ble_eq_true rfl⟩ (Nat.le_of_ble_eq_true rfl) rfl rfl dX12_has_123 ?_
    have e := Option.some.inj h
    exact r_iret (pc := 126) C hr (congrArg (fun z => some (vI z)) e.symm) rfl dX12_has_126
  refine ite_split h (fun hc1_5 h => ?_) (fun hn1_5 h => ?_)
  · refine r_tabI (pc := 1) (tgt := 127) C hc1_5 (by decide) (by decide) rfl dX12_has_1 (by decide) ?_
    refine r_aload_n (pc := 127) C 0 rfl rfl dX12_has_127 ?_
    refine r_iconst (pc := 128) C dX12_has_128 ?_
    obtain ⟨r2, hq2, h⟩ := bnd_inv h
    refine r_callV (pc := 129) (rest := []) (st1 := [vI r2]) C (mExtOK b) [vI 0] (c_m_busyMany l hq2) cl_RX12_436 m_s0 (by decide) rfl rfl rfl rfl ⟨Nat.le_of_ble_eq_true rfl, Nat.le_of_ble_eq_true rfl⟩ (Nat.le_of_ble_eq_true rfl) rfl rfl dX12_has_129 ?_
    have e := Option.some.inj h
    exact r_iret (pc := 132) C hr (congrArg (fun z => some (vI z)) e.symm) rfl dX12_has_132
  refine ite_split h (fun hc1_6 h => ?_) (fun hn1_6 h => ?_)
  · refine r_tabI (pc := 1) (tgt := 133) C hc1_6 (by decide) (by decide) rfl dX12_has_1 (by decide) ?_
    refine r_aload_n (pc := 133) C 0 rfl rfl dX12_has_133 ?_
    refine r_iconst (pc := 134) C dX12_has_134 ?_
    refine r_iload_n (pc := 135) C 1 rfl rfl dX12_has_135 ?_
    refine r_bipush (pc := 136) (j := 6) C (by decide +kernel) dX12_has_136 ?_
    refine r_isub (pc := 138) C dX12_has_138 ?_
    refine r_iload_n (pc := 139) C 1 rfl rfl dX12_has_139 ?_
    refine r_bipush (pc := 140) (j := 6) C (by decide +kernel) dX12_has_140 ?_
    refine r_isub (pc := 142) C dX12_has_142 ?_
    obtain ⟨r3, hq3, h⟩ := bnd_inv h
    refine r_callV (pc := 143) (rest := []) (st1 := [vI r3]) C (mExtOK b) [vI 0, vI (x1 - 6), vI (x1 - 6)] (c_m_manyOf l hq3) cl_RX12_458 m_s0 (by decide) rfl rfl rfl rfl ⟨Nat.le_of_ble_eq_true rfl, Nat.le_of_ble_eq_true rfl⟩ (Nat.le_of_ble_eq_true rfl) rfl rfl dX12_has_143 ?_
    have e := Option.some.inj h
    exact r_iret (pc := 146) C hr (congrArg (fun z => some (vI z)) e.symm) rfl dX12_has_146
  refine ite_split h (fun hc1_7 h => ?_) (fun hn1_7 h => ?_)
  · refine r_tabI (pc := 1) (tgt := 133) C hc1_7 (by decide) (by decide) rfl dX12_has_1 (by decide) ?_
    refine r_aload_n (pc := 133) C 0 rfl rfl dX12_has_133 ?_
    refine r_iconst (pc := 134) C dX12_has_134 ?_
    refine r_iload_n (pc := 135) C 1 rfl rfl dX12_has_135 ?_
    refine r_bipush (pc := 136) (j := 6) C (by decide +kernel) dX12_has_136 ?_
    refine r_isub (pc := 138) C dX12_has_138 ?_
    refine r_iload_n (pc := 139) C 1 rfl rfl dX12_has_139 ?_
    refine r_bipush (pc := 140) (j := 6) C (by decide +kernel) dX12_has_140 ?_
    refine r_isub (pc := 142) C dX12_has_142 ?_
    obtain ⟨r4, hq4, h⟩ := bnd_inv h
    refine r_callV (pc := 143) (rest := []) (st1 := [vI r4]) C (mExtOK b) [vI 0, vI (x1 - 6), vI (x1 - 6)] (c_m_manyOf l hq4) cl_RX12_458 m_s0 (by decide) rfl rfl rfl rfl ⟨Nat.le_of_ble_eq_true rfl, Nat.le_of_ble_eq_true rfl⟩ (Nat.le_of_ble_eq_true rfl) rfl rfl dX12_has_143 ?_
    have e := Option.some.inj h
    exact r_iret (pc := 146) C hr (congrArg (fun z => some (vI z)) e.symm) rfl dX12_has_146
  refine ite_split h (fun hc1_8 h => ?_) (fun hn1_8 h => ?_)
  · refine r_tabI (pc := 1) (tgt := 133) C hc1_8 (by decide) (by decide) rfl dX12_has_1 (by decide) ?_
    refine r_aload_n (pc := 133) C 0 rfl rfl dX12_has_133 ?_
    refine r_iconst (pc := 134) C dX12_has_134 ?_
    refine r_iload_n (pc := 135) C 1 rfl rfl dX12_has_135 ?_
    refine r_bipush (pc := 136) (j := 6) C (by decide +kernel) dX12_has_136 ?_
    refine r_isub (pc := 138) C dX12_has_138 ?_
    refine r_iload_n (pc := 139) C 1 rfl rfl dX12_has_139 ?_
    refine r_bipush (pc := 140) (j := 6) C (by decide +kernel) dX12_has_140 ?_
    refine r_isub (pc := 142) C dX12_has_142 ?_
    obtain ⟨r5, hq5, h⟩ := bnd_inv h
    refine r_callV (pc := 143) (rest := []) (st1 := [vI r5]) C (mExtOK b) [vI 0, vI (x1 - 6), vI (x1 - 6)] (c_m_manyOf l hq5) cl_RX12_458 m_s0 (by decide) rfl rfl rfl rfl ⟨Nat.le_of_ble_eq_true rfl, Nat.le_of_ble_eq_true rfl⟩ (Nat.le_of_ble_eq_true rfl) rfl rfl dX12_has_143 ?_
    have e := Option.some.inj h
    exact r_iret (pc := 146) C hr (congrArg (fun z => some (vI z)) e.symm) rfl dX12_has_146
  refine ite_split h (fun hc1_9 h => ?_) (fun hn1_9 h => ?_)
  · refine r_tabI (pc := 1) (tgt := 133) C hc1_9 (by decide) (by decide) rfl dX12_has_1 (by decide) ?_
    refine r_aload_n (pc := 133) C 0 rfl rfl dX12_has_133 ?_
    refine r_iconst (pc := 134) C dX12_has_134 ?_
    refine r_iload_n (pc := 135) C 1 rfl rfl dX12_has_135 ?_
    refine r_bipush (pc := 136) (j := 6) C (by decide +kernel) dX12_has_136 ?_
    refine r_isub (pc := 138) C dX12_has_138 ?_
    refine r_iload_n (pc := 139) C 1 rfl rfl dX12_has_139 ?_
    refine r_bipush (pc := 140) (j := 6) C (by decide +kernel) dX12_has_140 ?_
    refine r_isub (pc := 142) C dX12_has_142 ?_
    obtain ⟨r6, hq6, h⟩ := bnd_inv h
    refine r_callV (pc := 143) (rest := []) (st1 := [vI r6]) C (mExtOK b) [vI 0, vI (x1 - 6), vI (x1 - 6)] (c_m_manyOf l hq6) cl_RX12_458 m_s0 (by decide) rfl rfl rfl rfl ⟨Nat.le_of_ble_eq_true rfl, Nat.le_of_ble_eq_true rfl⟩ (Nat.le_of_ble_eq_true rfl) rfl rfl dX12_has_143 ?_
    have e := Option.some.inj h
    exact r_iret (pc := 146) C hr (congrArg (fun z => some (vI z)) e.symm) rfl dX12_has_146
  refine ite_split h (fun hc1_10 h => ?_) (fun hn1_10 h => ?_)
  · refine r_tabI (pc := 1) (tgt := 133) C hc1_10 (by decide) (by decide) rfl dX12_has_1 (by decide) ?_
    refine r_aload_n (pc := 133) C 0 rfl rfl dX12_has_133 ?_
    refine r_iconst (pc := 134) C dX12_has_134 ?_
    refine r_iload_n (pc := 135) C 1 rfl rfl dX12_has_135 ?_
    refine r_bipush (pc := 136) (j := 6) C (by decide +kernel) dX12_has_136 ?_
    refine r_isub (pc := 138) C dX12_has_138 ?_
    refine r_iload_n (pc := 139) C 1 rfl rfl dX12_has_139 ?_
    refine r_bipush (pc := 140) (j := 6) C (by decide +kernel) dX12_has_140 ?_
    refine r_isub (pc := 142) C dX12_has_142 ?_
    obtain ⟨r7, hq7, h⟩ := bnd_inv h
    refine r_callV (pc := 143) (rest := []) (st1 := [vI r7]) C (mExtOK b) [vI 0, vI (x1 - 6), vI (x1 - 6)] (c_m_manyOf l hq7) cl_RX12_458 m_s0 (by decide) rfl rfl rfl rfl ⟨Nat.le_of_ble_eq_true rfl, Nat.le_of_ble_eq_true rfl⟩ (Nat.le_of_ble_eq_true rfl) rfl rfl dX12_has_143 ?_
    have e := Option.some.inj h
    exact r_iret (pc := 146) C hr (congrArg (fun z => some (vI z)) e.symm) rfl dX12_has_146
  refine ite_split h (fun hc1_11 h => ?_) (fun hn1_11 h => ?_)
  · refine r_tabI (pc := 1) (tgt := 133) C hc1_11 (by decide) (by decide) rfl dX12_has_1 (by decide) ?_
    refine r_aload_n (pc := 133) C 0 rfl rfl dX12_has_133 ?_
    refine r_iconst (pc := 134) C dX12_has_134 ?_
    refine r_iload_n (pc := 135) C 1 rfl rfl dX12_has_135 ?_
    refine r_bipush (pc := 136) (j := 6) C (by decide +kernel) dX12_has_136 ?_
    refine r_isub (pc := 138) C dX12_has_138 ?_
    refine r_iload_n (pc := 139) C 1 rfl rfl dX12_has_139 ?_
    refine r_bipush (pc := 140) (j := 6) C (by decide +kernel) dX12_has_140 ?_
    refine r_isub (pc := 142) C dX12_has_142 ?_
    obtain ⟨r8, hq8, h⟩ := bnd_inv h
    refine r_callV (pc := 143) (rest := []) (st1 := [vI r8]) C (mExtOK b) [vI 0, vI (x1 - 6), vI (x1 - 6)] (c_m_manyOf l hq8) cl_RX12_458 m_s0 (by decide) rfl rfl rfl rfl ⟨Nat.le_of_ble_eq_true rfl, Nat.le_of_ble_eq_true rfl⟩ (Nat.le_of_ble_eq_true rfl) rfl rfl dX12_has_143 ?_
    have e := Option.some.inj h
    exact r_iret (pc := 146) C hr (congrArg (fun z => some (vI z)) e.symm) rfl dX12_has_146
  refine ite_split h (fun hc1_12 h => ?_) (fun hn1_12 h => ?_)
  · refine r_tabI (pc := 1) (tgt := 147) C hc1_12 (by decide) (by decide) rfl dX12_has_1 (by decide) ?_
    refine r_aload_n (pc := 147) C 0 rfl rfl dX12_has_147 ?_
    refine r_getR (pc := 148) C fl_RX12_177 m_s0 (by decide) m_k54 m_r54 dX12_has_148 ?_
    refine r_iconst (pc := 151) C dX12_has_151 ?_
    refine r_iald (pc := 152) C m_s35 (by decide) (by decide) (by decide) rfl dX12_has_152 ?_
    have e := Option.some.inj h
    exact r_iret (pc := 153) C hr (congrArg (fun z => some (vI z)) e.symm) rfl dX12_has_153
  refine ite_split h (fun hc1_13 h => ?_) (fun hn1_13 h => ?_)
  · refine r_tabI (pc := 1) (tgt := 154) C hc1_13 (by decide) (by decide) rfl dX12_has_1 (by decide) ?_
    refine r_aload_n (pc := 154) C 0 rfl rfl dX12_has_154 ?_
    refine r_getI (pc := 155) C fl_RX12_204 m_s0 (by decide) m_k63 dX12_has_155 ?_
    have e := Option.some.inj h
    exact r_iret (pc := 158) C hr (congrArg (fun z => some (vI z)) e.symm) rfl dX12_has_158
  refine ite_split h (fun hc1_14 h => ?_) (fun hn1_14 h => ?_)
  · refine r_tabI (pc := 1) (tgt := 159) C hc1_14 (by decide) (by decide) rfl dX12_has_1 (by decide) ?_
    refine r_aload_n (pc := 159) C 0 rfl rfl dX12_has_159 ?_
    refine r_getI (pc := 160) C fl_RX12_186 m_s0 (by decide) m_k57 dX12_has_160 ?_
    have e := Option.some.inj h
    exact r_iret (pc := 163) C hr (congrArg (fun z => some (vI z)) e.symm) rfl dX12_has_163
  refine ite_split h (fun hc1_15 h => ?_) (fun hn1_15 h => ?_)
  · refine r_tabI (pc := 1) (tgt := 164) C hc1_15 (by decide) (by decide) rfl dX12_has_1 (by decide) ?_
    refine r_aload_n (pc := 164) C 0 rfl rfl dX12_has_164 ?_
    refine r_getL (pc := 165) C fl_RX12_189 m_s0 (by decide) m_k58 dX12_has_165 ?_
    refine r_l2i (pc := 168) C dX12_has_168 ?_
    have e := Option.some.inj h
    exact r_iret (pc := 169) C hr (congrArg (fun z => some (vI z)) e.symm) rfl dX12_has_169
  refine r_tabO (pc := 1) (tgt := 170) C (by have hx := w32_rng x1; omega) dX12_has_1 (by decide) ?_
  refine r_iconst (pc := 170) C dX12_has_170 ?_
  have e := Option.some.inj h
  exact r_iret (pc := 171) C hr (congrArg (fun z => some (vI z)) e.symm) rfl dX12_has_171
set_option maxHeartbeats 4000000 in
set_option maxRecDepth 20000 in
theorem w_m_letter_L92_s (C : mCX p s m args meth c cX12_letter 10 RX12 D E b) (hr : meth.sig.returnType = (some .int)) {r0 : Int} {v3 : Int} {v5 : Int} {M : Mem} {v7 : Int} {v8 : Int} {q : Int × Int} {rec : Int → Int → Option (Int × Int)} (hrec : ∀ (v7 : Int) (v8 : Int), rec v7 v8 = some q → mWX p l e 2 34 s m args below meth c 10 D E b (some (vI r0)) M M 92 [(3, vI v3), (5, vL v5), (7, vI v7), (8, vL v8)] []) (hfol : ∀ (v7 : Int) (v8 : Int), q = (v7, v8) → mWX p l e 2 34 s m args below meth c 10 D E b (some (vI r0)) M M 112 [(3, vI v3), (5, vL v5), (7, vI v7)] []) (h : m_letter_L92 v3 v5 M rec v7 v8 = some q) :
    mWX p l e 2 34 s m args below meth c 10 D E b (some (vI r0)) M M 92 [(3, vI v3), (5, vL v5), (7, vI v7), (8, vL v8)] [] := by
  unfold m_letter_L92 at h
  refine r_lload (pc := 92) C 3 rfl dX12_letter_92 ?_
  refine r_lconst (pc := 94) (j := 0) C rfl dX12_letter_94 ?_
  refine r_lcmp (pc := 95) C dX12_letter_95 ?_
  refine r_if_le (pc := 96) (tgt := 112) C h dX12_letter_96 (by decide) (fun hc96 h => ?_) (fun hc96 h => ?_)
  · refine r_sub (lv' := [(3, vI v3), (5, vL v5), (7, vI v7)]) [0, 1, 2] rfl ?_
    exact hfol _ _ (Option.some.inj h).symm
  · obtain ⟨v7_99, hv7_99, h⟩ := lt_inv h
    refine r_iincN (pc := 99) (y := v7_99) (lv' := [(7, vI v7_99), (3, vI v3), (5, vL v5), (8, vL v8)]) C 2 rfl hv7_99 dX12_letter_99 (by decide) rfl ?_
    refine r_lload (pc := 102) C 3 rfl dX12_letter_102 ?_
    refine r_bipush (pc := 104) (j := 8) C (by decide +kernel) dX12_letter_104 ?_
    refine r_lshr (pc := 106) C dX12_letter_106 ?_
    obtain ⟨v8_107, hv8_107, h⟩ := lt_inv h
    refine r_topL hv8_107 ?_
    refine r_lstore (pc := 107) (lv' := [(8, vL v8_107), (7, vI v7_99), (3, vI v3), (5, vL v5)]) C dX12_letter_107 (by decide) rfl ?_
    refine r_goto (pc := 109) (tgt := 92) C dX12_letter_109 (by decide) ?_
    refine r_sub (lv' := [(3, vI v3), (5, vL v5), (7, vI v7_99), (8, vL v8_107)]) [2, 3, 1, 0] rfl ?_
    exact hrec _ _ h
set_option maxHeartbeats 4000000 in
theorem w_m_letter_L92 (C : mCX p s m args meth c cX12_letter 10 RX12 D E b) (hr : meth.sig.returnType = (some .int)) {r0 : Int} {v3 : Int} {v5 : Int} {M : Mem} {q : Int × Int} (hfol : ∀ (v7 : Int) (v8 : Int), q = (v7, v8) → mWX p l e 2 34 s m args below meth c 10 D E b (some (vI r0)) M M 112 [(3, vI v3), (5, vL v5), (7, vI v7)] []) : ∀ (n : Nat) (v7 : Int) (v8 : Int), itr2 (m_letter_L92 v3 v5 M) n v7 v8 = some q →
    mWX p l e 2 34 s m args below meth c 10 D E b (some (vI r0)) M M 92 [(3, vI v3), (5, vL v5), (7, vI v7), (8, vL v8)] [] := by
  intro n
  induction n with
  | zero => exact fun _ _ h => itr_z h
  | succ n ih => exact fun _ _ h => w_m_letter_L92_s C hr ih hfol h
set_option maxHeartbeats 4000000 in
set_option maxRecDepth 20000 in
theorem w_m_letter_B83 (C : mCX p s m args meth c cX12_letter 10 RX12 D E b) (hr : meth.sig.returnType = (some .int)) {r0 : Int} {M : Mem} {v3 : Int} {s0 : Int} (h : m_letter_B83 v3 s0 M = some r0) :
    mWX p l e 2 34 s m args below meth c 10 D E b (some (vI r0)) M M 83 [(3, vI v3)] [vL s0] := by
  unfold m_letter_B83 at h
  refine r_lstore (pc := 83) (lv' := [(5, vL s0), (3, vI v3)]) C dX12_letter_83 (by decide) rfl ?_
  refine r_iconst (pc := 85) C dX12_letter_85 ?_
  refine r_istore (pc := 86) (lv' := [(7, vI 0), (5, vL s0), (3, vI v3)]) C dX12_letter_86 (by decide) rfl ?_
  refine r_lload (pc := 88) C 1 rfl dX12_letter_88 ?_
  refine r_lstore (pc := 90) (lv' := [(8, vL s0), (7, vI 0), (5, vL s0), (3, vI v3)]) C dX12_letter_90 (by decide) rfl ?_
  refine r_sub (lv' := [(3, vI v3), (5, vL s0), (7, vI 0), (8, vL s0)]) [3, 2, 1, 0] rfl ?_
  obtain ⟨q2, hl2, h⟩ := bnd_inv h
  refine w_m_letter_L92 C hr (fun v7_2 v8_2 hq => ?_) FUEL _ _ hl2
  have hq := hq.symm
  subst hq
  refine r_iload_n (pc := 112) C 0 rfl rfl dX12_letter_112 ?_
  refine r_iload (pc := 113) C 2 rfl dX12_letter_113 ?_
  refine r_icmp_lt (pc := 115) (tgt := 122) C h dX12_letter_115 (by decide) (fun hc115 h => ?_) (fun hc115 h => ?_)
  · refine r_lload (pc := 122) C 1 rfl dX12_letter_122 ?_
    refine r_bipush (pc := 124) (j := 8) C (by decide +kernel) dX12_letter_124 ?_
    refine r_iload (pc := 126) C 2 rfl dX12_letter_126 ?_
    refine r_iconst (pc := 128) C dX12_letter_128 ?_
    refine r_isub (pc := 129) C dX12_letter_129 ?_
    refine r_iload_n (pc := 130) C 0 rfl rfl dX12_letter_130 ?_
    refine r_isub (pc := 131) C dX12_letter_131 ?_
    refine r_imul (pc := 132) C dX12_letter_132 ?_
    refine r_lshr (pc := 133) C dX12_letter_133 ?_
    refine r_ldc2 (pc := 134) (j := 255) C (by decide +kernel) gk_RX12_468 dX12_letter_134 ?_
    refine r_land (pc := 137) C dX12_letter_137 ?_
    refine r_l2i (pc := 138) C dX12_letter_138 ?_
    refine r_bipush (pc := 139) (j := 97) C (by decide +kernel) dX12_letter_139 ?_
    refine r_isub (pc := 141) C dX12_letter_141 ?_
    refine r_iconst (pc := 142) C dX12_letter_142 ?_
    refine r_iadd (pc := 143) C dX12_letter_143 ?_
    have e := Option.some.inj h
    exact r_iret (pc := 144) C hr (congrArg (fun z => some (vI z)) e.symm) rfl dX12_letter_144
  · refine r_iconst (pc := 118) C dX12_letter_118 ?_
    refine r_goto (pc := 119) (tgt := 144) C dX12_letter_119 (by decide) ?_
    have e := Option.some.inj h
    exact r_iret (pc := 144) C hr (congrArg (fun z => some (vI z)) e.symm) rfl dX12_letter_144
set_option maxHeartbeats 4000000 in
set_option maxRecDepth 20000 in
theorem w_m_letter_B30 (C : mCX p s m args meth c cX12_letter 10 RX12 D E b) (hr : meth.sig.returnType = (some .int)) {r0 : Int} {M : Mem} {v1 : Int} {v2 : Int} {v3 : Int} {s0 : Int} (h : m_letter_B30 v1 v2 v3 s0 M = some r0) :
    mWX p l e 2 34 s m args below meth c 10 D E b (some (vI r0)) M M 30 [(0, vR b 0), (1, vI v1), (2, vI v2), (3, vI v3)] [vI s0] := by
  unfold m_letter_B30 at h
  refine r_istore (pc := 30) (lv' := [(4, vI s0), (0, vR b 0), (1, vI v1), (2, vI v2), (3, vI v3)]) C dX12_letter_30 (by decide) rfl ?_
  refine r_iload (pc := 32) C 0 rfl dX12_letter_32 ?_
  refine r_if_eq (pc := 34) (tgt := 46) C h dX12_letter_34 (by decide) (fun hc34 h => ?_) (fun hc34 h => ?_)
  · refine r_iconst (pc := 46) C dX12_letter_46 ?_
    have e := Option.some.inj h
    exact r_iret (pc := 47) C hr (congrArg (fun z => some (vI z)) e.symm) rfl dX12_letter_47
  · refine r_iload_n (pc := 37) C 4 rfl rfl dX12_letter_37 ?_
    refine r_iconst (pc := 38) C dX12_letter_38 ?_
    refine r_iconst (pc := 39) C dX12_letter_39 ?_
    obtain ⟨r1, hq1, h⟩ := bnd_inv h
    refine r_callS (pc := 40) (rest := []) (st1 := [vB r1]) C (mExtOK b) [vI v3, vI 0, vI 5] (c_m_is l hq1) cl_RX12_303 rfl rfl ⟨Nat.le_of_ble_eq_true rfl, Nat.le_of_ble_eq_true rfl⟩ (Nat.le_of_ble_eq_true rfl) rfl rfl dX12_letter_40 ?_
    refine r_if_neB (pc := 43) (tgt := 48) C h dX12_letter_43 (by decide) (fun hc43 h => ?_) (fun hc43 h => ?_)
    · refine r_iload_n (pc := 48) C 2 rfl rfl dX12_letter_48 ?_
      refine r_if_ne (pc := 49) (tgt := 69) C h dX12_letter_49 (by decide) (fun hc49 h => ?_) (fun hc49 h => ?_)
      · refine r_aload_n (pc := 69) C 1 rfl rfl dX12_letter_69 ?_
        refine r_getR (pc := 70) C fl_RX12_100 m_s0 (by decide) m_k29 m_r29 dX12_letter_70 ?_
        refine r_bipush (pc := 73) (j := 8) C (by decide +kernel) dX12_letter_73 ?_
        refine r_aload_n (pc := 75) C 1 rfl rfl dX12_letter_75 ?_
        refine r_getI (pc := 76) C fl_RX12_51 m_s0 (by decide) m_k13 dX12_letter_76 ?_
        refine r_imul (pc := 79) C dX12_letter_79 ?_
        refine r_iload_n (pc := 80) C 3 rfl rfl dX12_letter_80 ?_
        refine r_iadd (pc := 81) C dX12_letter_81 ?_
        obtain ⟨hi82, h⟩ := chk_inv h
        refine r_lald (pc := 82) C m_s17 (by decide) (by decide) hi82 rfl dX12_letter_82 ?_
        refine r_sub (lv' := [(3, vI v3)]) [4] rfl ?_
        exact w_m_letter_B83 C hr h
      · refine r_aload_n (pc := 52) C 1 rfl rfl dX12_letter_52 ?_
        refine r_getR (pc := 53) C fl_RX12_96 m_s0 (by decide) m_k28 m_r28 dX12_letter_53 ?_
        refine r_bipush (pc := 56) (j := 7) C (by decide +kernel) dX12_letter_56 ?_
        refine r_aload_n (pc := 58) C 1 rfl rfl dX12_letter_58 ?_
        refine r_getI (pc := 59) C fl_RX12_51 m_s0 (by decide) m_k13 dX12_letter_59 ?_
        refine r_imul (pc := 62) C dX12_letter_62 ?_
        refine r_iload_n (pc := 63) C 3 rfl rfl dX12_letter_63 ?_
        refine r_iadd (pc := 64) C dX12_letter_64 ?_
        obtain ⟨hi65, h⟩ := chk_inv h
        refine r_lald (pc := 65) C m_s16 (by decide) (by decide) hi65 rfl dX12_letter_65 ?_
        refine r_goto (pc := 66) (tgt := 83) C dX12_letter_66 (by decide) ?_
        refine r_sub (lv' := [(3, vI v3)]) [4] rfl ?_
        exact w_m_letter_B83 C hr h
    · refine r_iconst (pc := 46) C dX12_letter_46 ?_
      have e := Option.some.inj h
      exact r_iret (pc := 47) C hr (congrArg (fun z => some (vI z)) e.symm) rfl dX12_letter_47
set_option maxHeartbeats 4000000 in
set_option maxRecDepth 20000 in
theorem w_m_letter_B29 (C : mCX p s m args meth c cX12_letter 10 RX12 D E b) (hr : meth.sig.returnType = (some .int)) {r0 : Int} {M : Mem} {v1 : Int} {v2 : Int} {v3 : Int} (h : m_letter_B29 v1 v2 v3 M = some r0) :
    mWX p l e 2 34 s m args below meth c 10 D E b (some (vI r0)) M M 29 [(0, vR b 0), (1, vI v1), (2, vI v2), (3, vI v3)] [] := by
  unfold m_letter_B29 at h
  refine r_iconst (pc := 29) C dX12_letter_29 ?_
  refine r_sub (lv' := [(0, vR b 0), (1, vI v1), (2, vI v2), (3, vI v3)]) [0, 1, 2, 3] rfl ?_
  exact w_m_letter_B30 C hr h
set_option maxHeartbeats 4000000 in
set_option maxRecDepth 20000 in
theorem c_m_letter (l : Launch) {x1 : Int} {x2 : Int} {x3 : Int} {M : Mem} {r0 : Int} (h : m_letter x1 x2 x3 M = some r0) : Ct l yX12_letter cX12_letter 10 (some .int) 2 34 vwCl mSh mN mRf mExt (fun b => [vR b 0, vI x1, vI x2, vI x3]) M (fun b => (some (vI r0))) M := by
  refine Ct_of mExtOK (by decide) (fun b => Nat.le_of_ble_eq_true rfl) ?_
  intro p e s m args below meth c D E b C hr
  unfold m_letter at h
  refine (show mWX p l e 2 34 s m args below meth c 10 D E b (some (vI r0)) M M 0 [(0, vR b 0), (1, vI x1), (2, vI x2), (3, vI x3)] [] from ?_)
  refine r_iload_n (pc := 0) C 1 rfl rfl dX12_letter_0 ?_
  refine r_if_ne (pc := 1) (tgt := 12) C h dX12_letter_1 (by decide) (fun hc1 h => ?_) (fun hc1 h => ?_)
  · refine r_iload_n (pc := 12) C 1 rfl rfl dX12_letter_12 ?_
    refine r_iconst (pc := 13) C dX12_letter_13 ?_
    refine r_icmp_ne (pc := 14) (tgt := 29) C h dX12_letter_14 (by decide) (fun hc14 h => ?_) (fun hc14 h => ?_)
    · refine r_sub (lv' := [(0, vR b 0), (1, vI x1), (2, vI x2), (3, vI x3)]) [0, 1, 2, 3] rfl ?_
      exact w_m_letter_B29 C hr h
    · refine r_aload_n (pc := 17) C 0 rfl rfl dX12_letter_17 ?_
      refine r_iload_n (pc := 18) C 2 rfl rfl dX12_letter_18 ?_
      obtain ⟨r3, hq3, h⟩ := bnd_inv h
      refine r_callV (pc := 19) (rest := []) (st1 := [vB r3]) C (mExtOK b) [vI x2] (c_m_isPerson l hq3) cl_RX12_465 m_s0 (by decide) rfl rfl rfl rfl ⟨Nat.le_of_ble_eq_true rfl, Nat.le_of_ble_eq_true rfl⟩ (Nat.le_of_ble_eq_true rfl) rfl rfl dX12_letter_19 ?_
      refine r_if_eqB (pc := 22) (tgt := 29) C h dX12_letter_22 (by decide) (fun hc22 h => ?_) (fun hc22 h => ?_)
      · refine r_iconst (pc := 25) C dX12_letter_25 ?_
        refine r_goto (pc := 26) (tgt := 30) C dX12_letter_26 (by decide) ?_
        refine r_sub (lv' := [(0, vR b 0), (1, vI x1), (2, vI x2), (3, vI x3)]) [0, 1, 2, 3] rfl ?_
        exact w_m_letter_B30 C hr h
      · refine r_sub (lv' := [(0, vR b 0), (1, vI x1), (2, vI x2), (3, vI x3)]) [0, 1, 2, 3] rfl ?_
        exact w_m_letter_B29 C hr h
  · refine r_aload_n (pc := 4) C 0 rfl rfl dX12_letter_4 ?_
    refine r_iload_n (pc := 5) C 2 rfl rfl dX12_letter_5 ?_
    obtain ⟨r4, hq4, h⟩ := bnd_inv h
    refine r_callV (pc := 6) (rest := []) (st1 := [vB r4]) C (mExtOK b) [vI x2] (c_m_isVoice l hq4) cl_RX12_462 m_s0 (by decide) rfl rfl rfl rfl ⟨Nat.le_of_ble_eq_true rfl, Nat.le_of_ble_eq_true rfl⟩ (Nat.le_of_ble_eq_true rfl) rfl rfl dX12_letter_6 ?_
    refine r_goto (pc := 9) (tgt := 30) C dX12_letter_9 (by decide) ?_
    refine r_sub (lv' := [(0, vR b 0), (1, vI x1), (2, vI x2), (3, vI x3)]) [0, 1, 2, 3] rfl ?_
    exact w_m_letter_B30 C hr h
set_option maxHeartbeats 4000000 in
set_option maxRecDepth 20000 in
theorem c_m_voice (l : Launch) {x1 : Int} {x2 : Int} {M : Mem} {r0 : Int} (h : m_voice x1 x2 M = some r0) : Ct l yX12_voice cX12_voice 3 (some .int) 2 35 vwCl mSh mN mRf mExt (fun b => [vR b 0, vI x1, vI x2]) M (fun b => (some (vI r0))) M := by
  refine Ct_of mExtOK (by decide) (fun b => Nat.le_of_ble_eq_true rfl) ?_
  intro p e s m args below meth c D E b C hr
  unfold m_voice at h
  refine (show mWX p l e 2 35 s m args below meth c 3 D E b (some (vI r0)) M M 0 [(0, vR b 0), (1, vI x1), (2, vI x2)] [] from ?_)
  refine r_aload_n (pc := 0) C 0 rfl rfl dX12_voice_0 ?_
  refine r_iload_n (pc := 1) C 1 rfl rfl dX12_voice_1 ?_
  obtain ⟨r1, hq1, h⟩ := bnd_inv h
  refine r_callV (pc := 2) (rest := []) (st1 := [vB r1]) C (mExtOK b) [vI x1] (c_m_isVoice l hq1) cl_RX12_462 m_s0 (by decide) rfl rfl rfl rfl ⟨Nat.le_of_ble_eq_true rfl, Nat.le_of_ble_eq_true rfl⟩ (Nat.le_of_ble_eq_true rfl) rfl rfl dX12_voice_2 ?_
  refine r_if_neB (pc := 5) (tgt := 12) C h dX12_voice_5 (by decide) (fun hc5 h => ?_) (fun hc5 h => ?_)
  · refine r_iload_n (pc := 12) C 2 rfl rfl dX12_voice_12 ?_
    refine r_if_ne (pc := 13) (tgt := 25) C h dX12_voice_13 (by decide) (fun hc13 h => ?_) (fun hc13 h => ?_)
    · refine r_iload_n (pc := 25) C 2 rfl rfl dX12_voice_25 ?_
      refine r_iconst (pc := 26) C dX12_voice_26 ?_
      refine r_icmp_ne (pc := 27) (tgt := 51) C h dX12_voice_27 (by decide) (fun hc27 h => ?_) (fun hc27 h => ?_)
      · refine r_iload_n (pc := 51) C 2 rfl rfl dX12_voice_51 ?_
        refine r_iconst (pc := 52) C dX12_voice_52 ?_
        refine r_icmp_ne (pc := 53) (tgt := 65) C h dX12_voice_53 (by decide) (fun hc53 h => ?_) (fun hc53 h => ?_)
        · refine r_iload_n (pc := 65) C 2 rfl rfl dX12_voice_65 ?_
          refine r_iconst (pc := 66) C dX12_voice_66 ?_
          refine r_icmp_ne (pc := 67) (tgt := 79) C h dX12_voice_67 (by decide) (fun hc67 h => ?_) (fun hc67 h => ?_)
          · refine r_iconst (pc := 79) C dX12_voice_79 ?_
            have e := Option.some.inj h
            exact r_iret (pc := 80) C hr (congrArg (fun z => some (vI z)) e.symm) rfl dX12_voice_80
          · refine r_aload_n (pc := 70) C 0 rfl rfl dX12_voice_70 ?_
            refine r_iconst (pc := 71) C dX12_voice_71 ?_
            refine r_iload_n (pc := 72) C 1 rfl rfl dX12_voice_72 ?_
            obtain ⟨r2, hq2, h⟩ := bnd_inv h
            refine r_callV (pc := 73) (rest := []) (st1 := [vI r2]) C (mExtOK b) [vI 0, vI x1] (c_m_soundingBy l hq2) cl_RX12_425 m_s0 (by decide) rfl rfl rfl rfl ⟨Nat.le_of_ble_eq_true rfl, Nat.le_of_ble_eq_true rfl⟩ (Nat.le_of_ble_eq_true rfl) rfl rfl dX12_voice_73 ?_
            refine r_goto (pc := 76) (tgt := 80) C dX12_voice_76 (by decide) ?_
            have e := Option.some.inj h
            exact r_iret (pc := 80) C hr (congrArg (fun z => some (vI z)) e.symm) rfl dX12_voice_80
        · refine r_aload_n (pc := 56) C 0 rfl rfl dX12_voice_56 ?_
          refine r_getR (pc := 57) C fl_RX12_153 m_s0 (by decide) m_k46 m_r46 dX12_voice_57 ?_
          refine r_iload_n (pc := 60) C 1 rfl rfl dX12_voice_60 ?_
          obtain ⟨hi61, h⟩ := chk_inv h
          refine r_iald (pc := 61) C m_s27 (by decide) (by decide) hi61 rfl dX12_voice_61 ?_
          refine r_goto (pc := 62) (tgt := 80) C dX12_voice_62 (by decide) ?_
          have e := Option.some.inj h
          exact r_iret (pc := 80) C hr (congrArg (fun z => some (vI z)) e.symm) rfl dX12_voice_80
      · refine r_aload_n (pc := 30) C 0 rfl rfl dX12_voice_30 ?_
        refine r_getR (pc := 31) C fl_RX12_156 m_s0 (by decide) m_k47 m_r47 dX12_voice_31 ?_
        refine r_iconst (pc := 34) C dX12_voice_34 ?_
        refine r_iald (pc := 35) C m_s28 (by decide) (by decide) (by decide) rfl dX12_voice_35 ?_
        refine r_iload_n (pc := 36) C 1 rfl rfl dX12_voice_36 ?_
        obtain ⟨r3, hq3, h⟩ := bnd_inv h
        refine r_callS (pc := 37) (rest := []) (st1 := [vB r3]) C (mExtOK b) [vI (M 28 0), vI x1] (c_m_has2 l hq3) cl_RX12_428 rfl rfl ⟨Nat.le_of_ble_eq_true rfl, Nat.le_of_ble_eq_true rfl⟩ (Nat.le_of_ble_eq_true rfl) rfl rfl dX12_voice_37 ?_
        refine r_if_eqB (pc := 40) (tgt := 47) C h dX12_voice_40 (by decide) (fun hc40 h => ?_) (fun hc40 h => ?_)
        · refine r_iconst (pc := 43) C dX12_voice_43 ?_
          refine r_goto (pc := 44) (tgt := 80) C dX12_voice_44 (by decide) ?_
          have e := Option.some.inj h
          exact r_iret (pc := 80) C hr (congrArg (fun z => some (vI z)) e.symm) rfl dX12_voice_80
        · refine r_iconst (pc := 47) C dX12_voice_47 ?_
          refine r_goto (pc := 48) (tgt := 80) C dX12_voice_48 (by decide) ?_
          have e := Option.some.inj h
          exact r_iret (pc := 80) C hr (congrArg (fun z => some (vI z)) e.symm) rfl dX12_voice_80
    · refine r_aload_n (pc := 16) C 0 rfl rfl dX12_voice_16 ?_
      refine r_getR (pc := 17) C fl_RX12_150 m_s0 (by decide) m_k45 m_r45 dX12_voice_17 ?_
      refine r_iload_n (pc := 20) C 1 rfl rfl dX12_voice_20 ?_
      obtain ⟨hi21, h⟩ := chk_inv h
      refine r_iald (pc := 21) C m_s26 (by decide) (by decide) hi21 rfl dX12_voice_21 ?_
      refine r_goto (pc := 22) (tgt := 80) C dX12_voice_22 (by decide) ?_
      have e := Option.some.inj h
      exact r_iret (pc := 80) C hr (congrArg (fun z => some (vI z)) e.symm) rfl dX12_voice_80
  · refine r_iconst (pc := 8) C dX12_voice_8 ?_
    refine r_goto (pc := 9) (tgt := 80) C dX12_voice_9 (by decide) ?_
    have e := Option.some.inj h
    exact r_iret (pc := 80) C hr (congrArg (fun z => some (vI z)) e.symm) rfl dX12_voice_80
set_option maxHeartbeats 4000000 in
set_option maxRecDepth 20000 in
theorem w_m_person_L65_s (C : mCX p s m args meth c cX12_person 5 RX12 D E b) (hr : meth.sig.returnType = (some .int)) {r0 : Int} {v1 : Int} {v2 : Int} {M : Mem} {v3 : Int} {v4 : Int} {q : Int × Int} {rec : Int → Int → Option (Int × Int)} (hrec : ∀ (v3 : Int) (v4 : Int), rec v3 v4 = some q → mWX p l e 2 34 s m args below meth c 5 D E b (some (vI r0)) M M 65 [(0, vR b 0), (1, vI v1), (2, vI v2), (3, vI v3), (4, vI v4)] []) (hfol : ∀ (v3 : Int) (v4 : Int), q = (v3, v4) → mWX p l e 2 34 s m args below meth c 5 D E b (some (vI r0)) M M 128 [(3, vI v3)] []) (h : m_person_L65 v1 v2 M rec v3 v4 = some q) :
    mWX p l e 2 34 s m args below meth c 5 D E b (some (vI r0)) M M 65 [(0, vR b 0), (1, vI v1), (2, vI v2), (3, vI v3), (4, vI v4)] [] := by
  unfold m_person_L65 at h
  refine r_iload (pc := 65) C 4 rfl dX12_person_65 ?_
  refine r_aload_n (pc := 67) C 0 rfl rfl dX12_person_67 ?_
  refine r_getR (pc := 68) C fl_RX12_69 m_s0 (by decide) m_k19 m_r19 dX12_person_68 ?_
  refine r_aload_n (pc := 71) C 0 rfl rfl dX12_person_71 ?_
  refine r_getI (pc := 72) C fl_RX12_51 m_s0 (by decide) m_k13 dX12_person_72 ?_
  obtain ⟨hi75, h⟩ := chk_inv h
  refine r_iald (pc := 75) C m_s7 (by decide) (by decide) hi75 rfl dX12_person_75 ?_
  refine r_icmp_ge (pc := 76) (tgt := 128) C h dX12_person_76 (by decide) (fun hc76 h => ?_) (fun hc76 h => ?_)
  · refine r_sub (lv' := [(3, vI v3)]) [3] rfl ?_
    exact hfol _ _ (Option.some.inj h).symm
  · refine r_iload_n (pc := 79) C 3 rfl rfl dX12_person_79 ?_
    refine r_aload_n (pc := 80) C 0 rfl rfl dX12_person_80 ?_
    refine r_getR (pc := 81) C fl_RX12_72 m_s0 (by decide) m_k20 m_r20 dX12_person_81 ?_
    refine r_bipush (pc := 84) (j := 12) C (by decide +kernel) dX12_person_84 ?_
    refine r_aload_n (pc := 86) C 0 rfl rfl dX12_person_86 ?_
    refine r_getI (pc := 87) C fl_RX12_51 m_s0 (by decide) m_k13 dX12_person_87 ?_
    refine r_imul (pc := 90) C dX12_person_90 ?_
    refine r_iload (pc := 91) C 4 rfl dX12_person_91 ?_
    refine r_iadd (pc := 93) C dX12_person_93 ?_
    obtain ⟨hi94, h⟩ := chk_inv h
    refine r_iald (pc := 94) C m_s8 (by decide) (by decide) hi94 rfl dX12_person_94 ?_
    refine r_iload_n (pc := 95) C 1 rfl rfl dX12_person_95 ?_
    refine r_icmp_ne (pc := 96) (tgt := 119) C h dX12_person_96 (by decide) (fun hc96 h => ?_) (fun hc96 h => ?_)
    · refine r_iconst (pc := 119) C dX12_person_119 ?_
      refine r_iadd (pc := 120) C dX12_person_120 ?_
      obtain ⟨v3_121, hv3_121, h⟩ := lt_inv h
      refine r_topI hv3_121 ?_
      refine r_istore_n (pc := 121) (lv' := [(3, vI v3_121), (0, vR b 0), (1, vI v1), (2, vI v2), (4, vI v4)]) C rfl dX12_person_121 (by decide) rfl ?_
      obtain ⟨v4_122, hv4_122, h⟩ := lt_inv h
      refine r_iincN (pc := 122) (y := v4_122) (lv' := [(4, vI v4_122), (3, vI v3_121), (0, vR b 0), (1, vI v1), (2, vI v2)]) C 4 rfl hv4_122 dX12_person_122 (by decide) rfl ?_
      refine r_goto (pc := 125) (tgt := 65) C dX12_person_125 (by decide) ?_
      refine r_sub (lv' := [(0, vR b 0), (1, vI v1), (2, vI v2), (3, vI v3_121), (4, vI v4_122)]) [2, 3, 4, 1, 0] rfl ?_
      exact hrec _ _ h
    · refine r_iload_n (pc := 99) C 2 rfl rfl dX12_person_99 ?_
      refine r_iconst (pc := 100) C dX12_person_100 ?_
      refine r_icmp_eq (pc := 101) (tgt := 115) C h dX12_person_101 (by decide) (fun hc101 h => ?_) (fun hc101 h => ?_)
      · refine r_iconst (pc := 115) C dX12_person_115 ?_
        refine r_goto (pc := 116) (tgt := 120) C dX12_person_116 (by decide) ?_
        refine r_iadd (pc := 120) C dX12_person_120 ?_
        obtain ⟨v3_121, hv3_121, h⟩ := lt_inv h
        refine r_topI hv3_121 ?_
        refine r_istore_n (pc := 121) (lv' := [(3, vI v3_121), (0, vR b 0), (1, vI v1), (2, vI v2), (4, vI v4)]) C rfl dX12_person_121 (by decide) rfl ?_
        obtain ⟨v4_122, hv4_122, h⟩ := lt_inv h
        refine r_iincN (pc := 122) (y := v4_122) (lv' := [(4, vI v4_122), (3, vI v3_121), (0, vR b 0), (1, vI v1), (2, vI v2)]) C 4 rfl hv4_122 dX12_person_122 (by decide) rfl ?_
        refine r_goto (pc := 125) (tgt := 65) C dX12_person_125 (by decide) ?_
        refine r_sub (lv' := [(0, vR b 0), (1, vI v1), (2, vI v2), (3, vI v3_121), (4, vI v4_122)]) [2, 3, 4, 1, 0] rfl ?_
        exact hrec _ _ h
      · refine r_aload_n (pc := 104) C 0 rfl rfl dX12_person_104 ?_
        refine r_getR (pc := 105) C fl_RX12_159 m_s0 (by decide) m_k48 m_r48 dX12_person_105 ?_
        refine r_iload (pc := 108) C 4 rfl dX12_person_108 ?_
        obtain ⟨hi110, h⟩ := chk_inv h
        refine r_iald (pc := 110) C m_s29 (by decide) (by decide) hi110 rfl dX12_person_110 ?_
        refine r_iconst (pc := 111) C dX12_person_111 ?_
        refine r_icmp_ne (pc := 112) (tgt := 119) C h dX12_person_112 (by decide) (fun hc112 h => ?_) (fun hc112 h => ?_)
        · refine r_iconst (pc := 119) C dX12_person_119 ?_
          refine r_iadd (pc := 120) C dX12_person_120 ?_
          obtain ⟨v3_121, hv3_121, h⟩ := lt_inv h
          refine r_topI hv3_121 ?_
          refine r_istore_n (pc := 121) (lv' := [(3, vI v3_121), (0, vR b 0), (1, vI v1), (2, vI v2), (4, vI v4)]) C rfl dX12_person_121 (by decide) rfl ?_
          obtain ⟨v4_122, hv4_122, h⟩ := lt_inv h
          refine r_iincN (pc := 122) (y := v4_122) (lv' := [(4, vI v4_122), (3, vI v3_121), (0, vR b 0), (1, vI v1), (2, vI v2)]) C 4 rfl hv4_122 dX12_person_122 (by decide) rfl ?_
          refine r_goto (pc := 125) (tgt := 65) C dX12_person_125 (by decide) ?_
          refine r_sub (lv' := [(0, vR b 0), (1, vI v1), (2, vI v2), (3, vI v3_121), (4, vI v4_122)]) [2, 3, 4, 1, 0] rfl ?_
          exact hrec _ _ h
        · refine r_iconst (pc := 115) C dX12_person_115 ?_
          refine r_goto (pc := 116) (tgt := 120) C dX12_person_116 (by decide) ?_
          refine r_iadd (pc := 120) C dX12_person_120 ?_
          obtain ⟨v3_121, hv3_121, h⟩ := lt_inv h
          refine r_topI hv3_121 ?_
          refine r_istore_n (pc := 121) (lv' := [(3, vI v3_121), (0, vR b 0), (1, vI v1), (2, vI v2), (4, vI v4)]) C rfl dX12_person_121 (by decide) rfl ?_
          obtain ⟨v4_122, hv4_122, h⟩ := lt_inv h
          refine r_iincN (pc := 122) (y := v4_122) (lv' := [(4, vI v4_122), (3, vI v3_121), (0, vR b 0), (1, vI v1), (2, vI v2)]) C 4 rfl hv4_122 dX12_person_122 (by decide) rfl ?_
          refine r_goto (pc := 125) (tgt := 65) C dX12_person_125 (by decide) ?_
          refine r_sub (lv' := [(0, vR b 0), (1, vI v1), (2, vI v2), (3, vI v3_121), (4, vI v4_122)]) [2, 3, 4, 1, 0] rfl ?_
          exact hrec _ _ h
set_option maxHeartbeats 4000000 in
theorem w_m_person_L65 (C : mCX p s m args meth c cX12_person 5 RX12 D E b) (hr : meth.sig.returnType = (some .int)) {r0 : Int} {v1 : Int} {v2 : Int} {M : Mem} {q : Int × Int} (hfol : ∀ (v3 : Int) (v4 : Int), q = (v3, v4) → mWX p l e 2 34 s m args below meth c 5 D E b (some (vI r0)) M M 128 [(3, vI v3)] []) : ∀ (n : Nat) (v3 : Int) (v4 : Int), itr2 (m_person_L65 v1 v2 M) n v3 v4 = some q →
    mWX p l e 2 34 s m args below meth c 5 D E b (some (vI r0)) M M 65 [(0, vR b 0), (1, vI v1), (2, vI v2), (3, vI v3), (4, vI v4)] [] := by
  intro n
  induction n with
  | zero => exact fun _ _ h => itr_z h
  | succ n ih => exact fun _ _ h => w_m_person_L65_s C hr ih hfol h
set_option maxHeartbeats 4000000 in
set_option maxRecDepth 20000 in
theorem c_m_person (l : Launch) {x1 : Int} {x2 : Int} {M : Mem} {r0 : Int} (h : m_person x1 x2 M = some r0) : Ct l yX12_person cX12_person 5 (some .int) 2 34 vwCl mSh mN mRf mExt (fun b => [vR b 0, vI x1, vI x2]) M (fun b => (some (vI r0))) M := by
  refine Ct_of mExtOK (by decide) (fun b => Nat.le_of_ble_eq_true rfl) ?_
  intro p e s m args below meth c D E b C hr
  unfold m_person at h
  refine (show mWX p l e 2 34 s m args below meth c 5 D E b (some (vI r0)) M M 0 [(0, vR b 0), (1, vI x1), (2, vI x2)] [] from ?_)
  refine r_aload_n (pc := 0) C 0 rfl rfl dX12_person_0 ?_
  refine r_iload_n (pc := 1) C 1 rfl rfl dX12_person_1 ?_
  obtain ⟨r1, hq1, h⟩ := bnd_inv h
  refine r_callV (pc := 2) (rest := []) (st1 := [vB r1]) C (mExtOK b) [vI x1] (c_m_isPerson l hq1) cl_RX12_465 m_s0 (by decide) rfl rfl rfl rfl ⟨Nat.le_of_ble_eq_true rfl, Nat.le_of_ble_eq_true rfl⟩ (Nat.le_of_ble_eq_true rfl) rfl rfl dX12_person_2 ?_
  refine r_if_eqB (pc := 5) (tgt := 17) C h dX12_person_5 (by decide) (fun hc5 h => ?_) (fun hc5 h => ?_)
  · refine r_iload_n (pc := 8) C 2 rfl rfl dX12_person_8 ?_
    refine r_iconst (pc := 9) C dX12_person_9 ?_
    refine r_iconst (pc := 10) C dX12_person_10 ?_
    obtain ⟨r2, hq2, h⟩ := bnd_inv h
    refine r_callS (pc := 11) (rest := []) (st1 := [vB r2]) C (mExtOK b) [vI x2, vI 0, vI 3] (c_m_is l hq2) cl_RX12_303 rfl rfl ⟨Nat.le_of_ble_eq_true rfl, Nat.le_of_ble_eq_true rfl⟩ (Nat.le_of_ble_eq_true rfl) rfl rfl dX12_person_11 ?_
    refine r_if_neB (pc := 14) (tgt := 19) C h dX12_person_14 (by decide) (fun hc14 h => ?_) (fun hc14 h => ?_)
    · refine r_iload_n (pc := 19) C 2 rfl rfl dX12_person_19 ?_
      refine r_iconst (pc := 20) C dX12_person_20 ?_
      refine r_icmp_ge (pc := 21) (tgt := 60) C h dX12_person_21 (by decide) (fun hc21 h => ?_) (fun hc21 h => ?_)
      · refine r_iconst (pc := 60) C dX12_person_60 ?_
        refine r_istore_n (pc := 61) (lv' := [(3, vI 0), (0, vR b 0), (1, vI x1), (2, vI x2)]) C rfl dX12_person_61 (by decide) rfl ?_
        refine r_iconst (pc := 62) C dX12_person_62 ?_
        refine r_istore (pc := 63) (lv' := [(4, vI 0), (3, vI 0), (0, vR b 0), (1, vI x1), (2, vI x2)]) C dX12_person_63 (by decide) rfl ?_
        refine r_sub (lv' := [(0, vR b 0), (1, vI x1), (2, vI x2), (3, vI 0), (4, vI 0)]) [2, 3, 4, 1, 0] rfl ?_
        obtain ⟨q3, hl3, h⟩ := bnd_inv h
        refine w_m_person_L65 C hr (fun v3_3 v4_3 hq => ?_) FUEL _ _ hl3
        have hq := hq.symm
        subst hq
        refine r_iload_n (pc := 128) C 0 rfl rfl dX12_person_128 ?_
        have e := Option.some.inj h
        exact r_iret (pc := 129) C hr (congrArg (fun z => some (vI z)) e.symm) rfl dX12_person_129
      · refine r_iload_n (pc := 24) C 2 rfl rfl dX12_person_24 ?_
        refine r_if_ne (pc := 25) (tgt := 45) C h dX12_person_25 (by decide) (fun hc25 h => ?_) (fun hc25 h => ?_)
        · refine r_aload_n (pc := 45) C 0 rfl rfl dX12_person_45 ?_
          refine r_getR (pc := 46) C fl_RX12_66 m_s0 (by decide) m_k18 m_r18 dX12_person_46 ?_
          refine r_bipush (pc := 49) (j := 8) C (by decide +kernel) dX12_person_49 ?_
          refine r_aload_n (pc := 51) C 0 rfl rfl dX12_person_51 ?_
          refine r_getI (pc := 52) C fl_RX12_51 m_s0 (by decide) m_k13 dX12_person_52 ?_
          refine r_imul (pc := 55) C dX12_person_55 ?_
          refine r_iload_n (pc := 56) C 1 rfl rfl dX12_person_56 ?_
          refine r_iadd (pc := 57) C dX12_person_57 ?_
          obtain ⟨hi58, h⟩ := chk_inv h
          refine r_iald (pc := 58) C m_s6 (by decide) (by decide) hi58 rfl dX12_person_58 ?_
          have e := Option.some.inj h
          exact r_iret (pc := 59) C hr (congrArg (fun z => some (vI z)) e.symm) rfl dX12_person_59
        · refine r_aload_n (pc := 28) C 0 rfl rfl dX12_person_28 ?_
          refine r_getR (pc := 29) C fl_RX12_63 m_s0 (by decide) m_k17 m_r17 dX12_person_29 ?_
          refine r_bipush (pc := 32) (j := 8) C (by decide +kernel) dX12_person_32 ?_
          refine r_aload_n (pc := 34) C 0 rfl rfl dX12_person_34 ?_
          refine r_getI (pc := 35) C fl_RX12_51 m_s0 (by decide) m_k13 dX12_person_35 ?_
          refine r_imul (pc := 38) C dX12_person_38 ?_
          refine r_iload_n (pc := 39) C 1 rfl rfl dX12_person_39 ?_
          refine r_iadd (pc := 40) C dX12_person_40 ?_
          obtain ⟨hi41, h⟩ := chk_inv h
          refine r_iald (pc := 41) C m_s5 (by decide) (by decide) hi41 rfl dX12_person_41 ?_
          refine r_goto (pc := 42) (tgt := 59) C dX12_person_42 (by decide) ?_
          have e := Option.some.inj h
          exact r_iret (pc := 59) C hr (congrArg (fun z => some (vI z)) e.symm) rfl dX12_person_59
    · refine r_iconst (pc := 17) C dX12_person_17 ?_
      have e := Option.some.inj h
      exact r_iret (pc := 18) C hr (congrArg (fun z => some (vI z)) e.symm) rfl dX12_person_18
  · refine r_iconst (pc := 17) C dX12_person_17 ?_
    have e := Option.some.inj h
    exact r_iret (pc := 18) C hr (congrArg (fun z => some (vI z)) e.symm) rfl dX12_person_18
set_option maxHeartbeats 4000000 in
set_option maxRecDepth 20000 in
theorem c_m_saying (l : Launch) {x1 : Int} {x2 : Int} {M : Mem} {r0 : Int} (h : m_saying x1 x2 M = some r0) : Ct l yX12_saying cX12_saying 3 (some .int) 2 33 vwCl mSh mN mRf mExt (fun b => [vR b 0, vI x1, vI x2]) M (fun b => (some (vI r0))) M := by
  refine Ct_of mExtOK (by decide) (fun b => Nat.le_of_ble_eq_true rfl) ?_
  intro p e s m args below meth c D E b C hr
  unfold m_saying at h
  refine (show mWX p l e 2 33 s m args below meth c 3 D E b (some (vI r0)) M M 0 [(0, vR b 0), (1, vI x1), (2, vI x2)] [] from ?_)
  refine r_aload_n (pc := 0) C 0 rfl rfl dX12_saying_0 ?_
  refine r_iload_n (pc := 1) C 1 rfl rfl dX12_saying_1 ?_
  obtain ⟨r1, hq1, h⟩ := bnd_inv h
  refine r_callV (pc := 2) (rest := []) (st1 := [vB r1]) C (mExtOK b) [vI x1] (c_m_isSaying l hq1) cl_RX12_470 m_s0 (by decide) rfl rfl rfl rfl ⟨Nat.le_of_ble_eq_true rfl, Nat.le_of_ble_eq_true rfl⟩ (Nat.le_of_ble_eq_true rfl) rfl rfl dX12_saying_2 ?_
  refine r_if_neB (pc := 5) (tgt := 10) C h dX12_saying_5 (by decide) (fun hc5 h => ?_) (fun hc5 h => ?_)
  · refine r_iload_n (pc := 10) C 2 rfl rfl dX12_saying_10 ?_
    refine ite_split h (fun hc11_0 h => ?_) (fun hn11_0 h => ?_)
    · refine r_tabI (pc := 11) (tgt := 56) C hc11_0 (by decide) (by decide) rfl dX12_saying_11 (by decide) ?_
      refine r_aload_n (pc := 56) C 0 rfl rfl dX12_saying_56 ?_
      refine r_getR (pc := 57) C fl_RX12_72 m_s0 (by decide) m_k20 m_r20 dX12_saying_57 ?_
      refine r_bipush (pc := 60) (j := 12) C (by decide +kernel) dX12_saying_60 ?_
      refine r_aload_n (pc := 62) C 0 rfl rfl dX12_saying_62 ?_
      refine r_getI (pc := 63) C fl_RX12_51 m_s0 (by decide) m_k13 dX12_saying_63 ?_
      refine r_imul (pc := 66) C dX12_saying_66 ?_
      refine r_iload_n (pc := 67) C 1 rfl rfl dX12_saying_67 ?_
      refine r_iadd (pc := 68) C dX12_saying_68 ?_
      obtain ⟨hi69, h⟩ := chk_inv h
      refine r_iald (pc := 69) C m_s8 (by decide) (by decide) hi69 rfl dX12_saying_69 ?_
      have e := Option.some.inj h
      exact r_iret (pc := 70) C hr (congrArg (fun z => some (vI z)) e.symm) rfl dX12_saying_70
    refine ite_split h (fun hc11_1 h => ?_) (fun hn11_1 h => ?_)
    · refine r_tabI (pc := 11) (tgt := 71) C hc11_1 (by decide) (by decide) rfl dX12_saying_11 (by decide) ?_
      refine r_aload_n (pc := 71) C 0 rfl rfl dX12_saying_71 ?_
      refine r_getR (pc := 72) C fl_RX12_162 m_s0 (by decide) m_k49 m_r49 dX12_saying_72 ?_
      refine r_iload_n (pc := 75) C 1 rfl rfl dX12_saying_75 ?_
      obtain ⟨hi76, h⟩ := chk_inv h
      refine r_iald (pc := 76) C m_s30 (by decide) (by decide) hi76 rfl dX12_saying_76 ?_
      have e := Option.some.inj h
      exact r_iret (pc := 77) C hr (congrArg (fun z => some (vI z)) e.symm) rfl dX12_saying_77
    refine ite_split h (fun hc11_2 h => ?_) (fun hn11_2 h => ?_)
    · refine r_tabI (pc := 11) (tgt := 78) C hc11_2 (by decide) (by decide) rfl dX12_saying_11 (by decide) ?_
      refine r_aload_n (pc := 78) C 0 rfl rfl dX12_saying_78 ?_
      refine r_getR (pc := 79) C fl_RX12_78 m_s0 (by decide) m_k22 m_r22 dX12_saying_79 ?_
      refine r_bipush (pc := 82) (j := 12) C (by decide +kernel) dX12_saying_82 ?_
      refine r_aload_n (pc := 84) C 0 rfl rfl dX12_saying_84 ?_
      refine r_getI (pc := 85) C fl_RX12_51 m_s0 (by decide) m_k13 dX12_saying_85 ?_
      refine r_imul (pc := 88) C dX12_saying_88 ?_
      refine r_iload_n (pc := 89) C 1 rfl rfl dX12_saying_89 ?_
      refine r_iadd (pc := 90) C dX12_saying_90 ?_
      obtain ⟨hi91, h⟩ := chk_inv h
      refine r_iald (pc := 91) C m_s10 (by decide) (by decide) hi91 rfl dX12_saying_91 ?_
      have e := Option.some.inj h
      exact r_iret (pc := 92) C hr (congrArg (fun z => some (vI z)) e.symm) rfl dX12_saying_92
    refine ite_split h (fun hc11_3 h => ?_) (fun hn11_3 h => ?_)
    · refine r_tabI (pc := 11) (tgt := 93) C hc11_3 (by decide) (by decide) rfl dX12_saying_11 (by decide) ?_
      refine r_aload_n (pc := 93) C 0 rfl rfl dX12_saying_93 ?_
      refine r_getR (pc := 94) C fl_RX12_159 m_s0 (by decide) m_k48 m_r48 dX12_saying_94 ?_
      refine r_iload_n (pc := 97) C 1 rfl rfl dX12_saying_97 ?_
      obtain ⟨hi98, h⟩ := chk_inv h
      refine r_iald (pc := 98) C m_s29 (by decide) (by decide) hi98 rfl dX12_saying_98 ?_
      have e := Option.some.inj h
      exact r_iret (pc := 99) C hr (congrArg (fun z => some (vI z)) e.symm) rfl dX12_saying_99
    refine ite_split h (fun hc11_4 h => ?_) (fun hn11_4 h => ?_)
    · refine r_tabI (pc := 11) (tgt := 100) C hc11_4 (by decide) (by decide) rfl dX12_saying_11 (by decide) ?_
      refine r_aload_n (pc := 100) C 0 rfl rfl dX12_saying_100 ?_
      refine r_getR (pc := 101) C fl_RX12_165 m_s0 (by decide) m_k50 m_r50 dX12_saying_101 ?_
      refine r_iload_n (pc := 104) C 1 rfl rfl dX12_saying_104 ?_
      obtain ⟨hi105, h⟩ := chk_inv h
      refine r_iald (pc := 105) C m_s31 (by decide) (by decide) hi105 rfl dX12_saying_105 ?_
      have e := Option.some.inj h
      exact r_iret (pc := 106) C hr (congrArg (fun z => some (vI z)) e.symm) rfl dX12_saying_106
    refine ite_split h (fun hc11_5 h => ?_) (fun hn11_5 h => ?_)
    · refine r_tabI (pc := 11) (tgt := 107) C hc11_5 (by decide) (by decide) rfl dX12_saying_11 (by decide) ?_
      refine r_aload_n (pc := 107) C 0 rfl rfl dX12_saying_107 ?_
      refine r_getR (pc := 108) C fl_RX12_168 m_s0 (by decide) m_k51 m_r51 dX12_saying_108 ?_
      refine r_iload_n (pc := 111) C 1 rfl rfl dX12_saying_111 ?_
      obtain ⟨hi112, h⟩ := chk_inv h
      refine r_iald (pc := 112) C m_s32 (by decide) (by decide) hi112 rfl dX12_saying_112 ?_
      have e := Option.some.inj h
      exact r_iret (pc := 113) C hr (congrArg (fun z => some (vI z)) e.symm) rfl dX12_saying_113
    refine ite_split h (fun hc11_6 h => ?_) (fun hn11_6 h => ?_)
    · refine r_tabI (pc := 11) (tgt := 114) C hc11_6 (by decide) (by decide) rfl dX12_saying_11 (by decide) ?_
      refine r_aload_n (pc := 114) C 0 rfl rfl dX12_saying_114 ?_
      refine r_getR (pc := 115) C fl_RX12_171 m_s0 (by decide) m_k52 m_r52 dX12_saying_115 ?_
      refine r_iload_n (pc := 118) C 1 rfl rfl dX12_saying_118 ?_
      obtain ⟨hi119, h⟩ := chk_inv h
      refine r_iald (pc := 119) C m_s33 (by decide) (by decide) hi119 rfl dX12_saying_119 ?_
      have e := Option.some.inj h
      exact r_iret (pc := 120) C hr (congrArg (fun z => some (vI z)) e.symm) rfl dX12_saying_120
    refine ite_split h (fun hc11_7 h => ?_) (fun hn11_7 h => ?_)
    · refine r_tabI (pc := 11) (tgt := 121) C hc11_7 (by decide) (by decide) rfl dX12_saying_11 (by decide) ?_
      refine r_aload_n (pc := 121) C 0 rfl rfl dX12_saying_121 ?_
      refine r_getR (pc := 122) C fl_RX12_174 m_s0 (by decide) m_k53 m_r53 dX12_saying_122 ?_
      refine r_iconst (pc := 125) C dX12_saying_125 ?_
      refine r_iald (pc := 126) C m_s34 (by decide) (by decide) (by decide) rfl dX12_saying_126 ?_
      refine r_iload_n (pc := 127) C 1 rfl rfl dX12_saying_127 ?_
      obtain ⟨r2, hq2, h⟩ := bnd_inv h
      refine r_callS (pc := 128) (rest := []) (st1 := [vB r2]) C (mExtOK b) [vI (M 34 0), vI x1] (c_m_has2 l hq2) cl_RX12_428 rfl rfl ⟨Nat.le_of_ble_eq_true rfl, Nat.le_of_ble_eq_true rfl⟩ (Nat.le_of_ble_eq_true rfl) rfl rfl dX12_saying_128 ?_
      refine r_if_eqB (pc := 131) (tgt := 138) C h dX12_saying_131 (by decide) (fun hc131 h => ?_) (fun hc131 h => ?_)
      · refine r_iconst (pc := 134) C dX12_saying_134 ?_
        refine r_goto (pc := 135) (tgt := 139) C dX12_saying_135 (by decide) ?_
        have e := Option.some.inj h
        exact r_iret (pc := 139) C hr (congrArg (fun z => some (vI z)) e.symm) rfl dX12_saying_139
      · refine r_iconst (pc := 138) C dX12_saying_138 ?_
        have e := Option.some.inj h
        exact r_iret (pc := 139) C hr (congrArg (fun z => some (vI z)) e.symm) rfl dX12_saying_139
    refine r_tabO (pc := 11) (tgt := 140) C (by have hx := w32_rng x2; omega) dX12_saying_11 (by decide) ?_
    refine r_iconst (pc := 140) C dX12_saying_140 ?_
    have e := Option.some.inj h
    exact r_iret (pc := 141) C hr (congrArg (fun z => some (vI z)) e.symm) rfl dX12_saying_141
  · refine r_iconst (pc := 8) C dX12_saying_8 ?_
    have e := Option.some.inj h
    exact r_iret (pc := 9) C hr (congrArg (fun z => some (vI z)) e.symm) rfl dX12_saying_9
set_option maxHeartbeats 4000000 in
set_option maxRecDepth 20000 in
theorem c_m_picks (l : Launch) {x1 : Int} {x2 : Int} {M : Mem} {r0 : Int} {M0 : Mem} (h : m_picks x1 x2 M = some (r0, M0)) : Ct l yX12_picks cX12_picks 3 (some .long) 5 109 vwCl mSh mN mRf mExt (fun b => [vR b 0, vI x1, vI x2]) M (fun b => (some (vL r0))) M0 := by
  refine Ct_of mExtOK (by decide) (fun b => Nat.le_of_ble_eq_true rfl) ?_
  intro p e s m args below meth c D E b C hr
  unfold m_picks at h
  refine (show mWX p l e 5 109 s m args below meth c 3 D E b (some (vL r0)) M0 M 0 [(0, vR b 0), (1, vI x1), (2, vI x2)] [] from ?_)
  refine r_aload_n (pc := 0) C 0 rfl rfl dX12_picks_0 ?_
  refine r_iload_n (pc := 1) C 1 rfl rfl dX12_picks_1 ?_
  obtain ⟨r1, hq1, h⟩ := bnd_inv h
  refine r_callV (pc := 2) (rest := []) (st1 := [vB r1]) C (mExtOK b) [vI x1] (c_m_isSaying l hq1) cl_RX12_470 m_s0 (by decide) rfl rfl rfl rfl ⟨Nat.le_of_ble_eq_true rfl, Nat.le_of_ble_eq_true rfl⟩ (Nat.le_of_ble_eq_true rfl) rfl rfl dX12_picks_2 ?_
  refine r_if_eqB (pc := 5) (tgt := 26) C h dX12_picks_5 (by decide) (fun hc5 h => ?_) (fun hc5 h => ?_)
  · refine r_aload_n (pc := 8) C 0 rfl rfl dX12_picks_8 ?_
    refine r_iload_n (pc := 9) C 2 rfl rfl dX12_picks_9 ?_
    obtain ⟨r2, hq2, h⟩ := bnd_inv h
    refine r_callV (pc := 10) (rest := []) (st1 := [vB r2]) C (mExtOK b) [vI x2] (c_m_isVoice l hq2) cl_RX12_462 m_s0 (by decide) rfl rfl rfl rfl ⟨Nat.le_of_ble_eq_true rfl, Nat.le_of_ble_eq_true rfl⟩ (Nat.le_of_ble_eq_true rfl) rfl rfl dX12_picks_10 ?_
    refine r_if_eqB (pc := 13) (tgt := 26) C h dX12_picks_13 (by decide) (fun hc13 h => ?_) (fun hc13 h => ?_)
    · refine r_aload_n (pc := 16) C 0 rfl rfl dX12_picks_16 ?_
      refine r_iconst (pc := 17) C dX12_picks_17 ?_
      refine r_iload_n (pc := 18) C 1 rfl rfl dX12_picks_18 ?_
      refine r_iload_n (pc := 19) C 2 rfl rfl dX12_picks_19 ?_
      obtain ⟨r3, M3, hq3, h⟩ := bnd2_inv h
      refine r_callV (pc := 20) (rest := []) (st1 := [vL r3]) C (mExtOK b) [vI 0, vI x1, vI x2] (c_m_pickOf l hq3) cl_RX12_442 m_s0 (by decide) rfl rfl rfl rfl ⟨Nat.le_of_ble_eq_true rfl, Nat.le_of_ble_eq_true rfl⟩ (Nat.le_of_ble_eq_true rfl) rfl rfl dX12_picks_20 ?_
      refine r_goto (pc := 23) (tgt := 29) C dX12_picks_23 (by decide) ?_
      have e := Option.some.inj h
      exact r_lret (pc := 29) C hr (congrArg (fun z => some (vL z)) (Prod.mk.inj e).1.symm) (Prod.mk.inj e).2.symm dX12_picks_29
    · refine r_ldc2 (pc := 26) (j := (-1000000000000000)) C (by decide +kernel) gk_RX12_473 dX12_picks_26 ?_
      have e := Option.some.inj h
      exact r_lret (pc := 29) C hr (congrArg (fun z => some (vL z)) (Prod.mk.inj e).1.symm) (Prod.mk.inj e).2.symm dX12_picks_29
  · refine r_ldc2 (pc := 26) (j := (-1000000000000000)) C (by decide +kernel) gk_RX12_473 dX12_picks_26 ?_
    have e := Option.some.inj h
    exact r_lret (pc := 29) C hr (congrArg (fun z => some (vL z)) (Prod.mk.inj e).1.symm) (Prod.mk.inj e).2.symm dX12_picks_29
set_option maxHeartbeats 4000000 in
set_option maxRecDepth 20000 in
theorem c_m_isAhead (l : Launch) {x1 : Int} {x2 : Int} {x3 : Int} {M : Mem} {r0 : Bool} (h : m_isAhead x1 x2 x3 M = some r0) : Ct l yX12_isAhead cX12_isAhead 4 (some .boolean) 2 34 vwCl mSh mN mRf mExt (fun b => [vR b 0, vI x1, vI x2, vI x3]) M (fun b => (some (vB r0))) M := by
  refine Ct_of mExtOK (by decide) (fun b => Nat.le_of_ble_eq_true rfl) ?_
  intro p e s m args below meth c D E b C hr
  unfold m_isAhead at h
  refine (show mWX p l e 2 34 s m args below meth c 4 D E b (some (vB r0)) M M 0 [(0, vR b 0), (1, vI x1), (2, vI x2), (3, vI x3)] [] from ?_)
  refine r_iload_n (pc := 0) C 1 rfl rfl dX12_isAhead_0 ?_
  refine r_iload_n (pc := 1) C 2 rfl rfl dX12_isAhead_1 ?_
  refine r_iload_n (pc := 2) C 3 rfl rfl dX12_isAhead_2 ?_
  obtain ⟨r1, hq1, h⟩ := bnd_inv h
  refine r_callS (pc := 3) (rest := []) (st1 := [vB r1]) C (mExtOK b) [vI x1, vI x2, vI x3] (c_m_is l hq1) cl_RX12_303 rfl rfl ⟨Nat.le_of_ble_eq_true rfl, Nat.le_of_ble_eq_true rfl⟩ (Nat.le_of_ble_eq_true rfl) rfl rfl dX12_isAhead_3 ?_
  refine r_if_eqB (pc := 6) (tgt := 27) C h dX12_isAhead_6 (by decide) (fun hc6 h => ?_) (fun hc6 h => ?_)
  · refine r_aload_n (pc := 9) C 0 rfl rfl dX12_isAhead_9 ?_
    refine r_getR (pc := 10) C fl_RX12_147 m_s0 (by decide) m_k44 m_r44 dX12_isAhead_10 ?_
    refine r_iconst (pc := 13) C dX12_isAhead_13 ?_
    refine r_iald (pc := 14) C m_s25 (by decide) (by decide) (by decide) rfl dX12_isAhead_14 ?_
    refine r_sipush (pc := 15) (j := 999) C (by decide +kernel) dX12_isAhead_15 ?_
    refine r_iload_n (pc := 18) C 1 rfl rfl dX12_isAhead_18 ?_
    refine r_isub (pc := 19) C dX12_isAhead_19 ?_
    refine r_icmp_gt (pc := 20) (tgt := 27) C h dX12_isAhead_20 (by decide) (fun hc20 h => ?_) (fun hc20 h => ?_)
    · refine r_iconst (pc := 27) C dX12_isAhead_27 ?_
      have e := Option.some.inj h
      exact r_zret (pc := 28) C hr (Or.inl rfl) (congrArg (fun z => some (vB z)) e.symm) rfl dX12_isAhead_28
    · refine r_iconst (pc := 23) C dX12_isAhead_23 ?_
      refine r_goto (pc := 24) (tgt := 28) C dX12_isAhead_24 (by decide) ?_
      have e := Option.some.inj h
      exact r_zret (pc := 28) C hr (Or.inr rfl) (congrArg (fun z => some (vB z)) e.symm) rfl dX12_isAhead_28
  · refine r_iconst (pc := 27) C dX12_isAhead_27 ?_
    have e := Option.some.inj h
    exact r_zret (pc := 28) C hr (Or.inl rfl) (congrArg (fun z => some (vB z)) e.symm) rfl dX12_isAhead_28
set_option maxHeartbeats 4000000 in
set_option maxRecDepth 20000 in
theorem w_m_goesOn__L2_s (C : mCX p s m args meth c cX12_goesOn_ 4 RX12 D E b) (hr : meth.sig.returnType = none) {M0 : Mem} {v1 : Int} {v2 : Int} {v3 : Int} {M : Mem} {q : Int × Mem} {rec : Int → Mem → Option (Int × Mem)} (hrec : ∀ (v3 : Int) (M : Mem), rec v3 M = some q → mWX p l e 7 161 s m args below meth c 4 D E b none M0 M 2 [(0, vR b 0), (1, vI v1), (2, vI v2), (3, vI v3)] []) (hfol : ∀ (v3 : Int) (M : Mem), q = (v3, M) → mWX p l e 7 161 s m args below meth c 4 D E b none M0 M 19 [] []) (h : m_goesOn__L2 v1 v2 rec v3 M = some q) :
    mWX p l e 7 161 s m args below meth c 4 D E b none M0 M 2 [(0, vR b 0), (1, vI v1), (2, vI v2), (3, vI v3)] [] := by
  unfold m_goesOn__L2 at h
  refine r_iload_n (pc := 2) C 3 rfl rfl dX12_goesOn__2 ?_
  refine r_iload_n (pc := 3) C 1 rfl rfl dX12_goesOn__3 ?_
  refine r_icmp_ge (pc := 4) (tgt := 19) C h dX12_goesOn__4 (by decide) (fun hc4 h => ?_) (fun hc4 h => ?_)
  · refine r_sub (lv' := []) [] rfl ?_
    exact hfol _ _ (Option.some.inj h).symm
  · refine r_aload_n (pc := 7) C 0 rfl rfl dX12_goesOn__7 ?_
    refine r_iconst (pc := 8) C dX12_goesOn__8 ?_
    refine r_iload_n (pc := 9) C 2 rfl rfl dX12_goesOn__9 ?_
    obtain ⟨M1, hq1, h⟩ := bnd_inv h
    refine r_callV (pc := 10) (rest := []) (st1 := []) C (mExtOK b) [vI 1, vI v2] (c_m_ticks l hq1) cl_RX12_475 m_s0 (by decide) rfl rfl rfl rfl ⟨Nat.le_of_ble_eq_true rfl, Nat.le_of_ble_eq_true rfl⟩ (Nat.le_of_ble_eq_true rfl) rfl rfl dX12_goesOn__10 ?_
    obtain ⟨v3_13, hv3_13, h⟩ := lt_inv h
    refine r_iincN (pc := 13) (y := v3_13) (lv' := [(3, vI v3_13), (0, vR b 0), (1, vI v1), (2, vI v2)]) C 3 rfl hv3_13 dX12_goesOn__13 (by decide) rfl ?_
    refine r_goto (pc := 16) (tgt := 2) C dX12_goesOn__16 (by decide) ?_
    refine r_sub (lv' := [(0, vR b 0), (1, vI v1), (2, vI v2), (3, vI v3_13)]) [1, 2, 3, 0] rfl ?_
    exact hrec _ _ h
set_option maxHeartbeats 4000000 in
theorem w_m_goesOn__L2 (C : mCX p s m args meth c cX12_goesOn_ 4 RX12 D E b) (hr : meth.sig.returnType = none) {M0 : Mem} {v1 : Int} {v2 : Int} {q : Int × Mem} (hfol : ∀ (v3 : Int) (M : Mem), q = (v3, M) → mWX p l e 7 161 s m args below meth c 4 D E b none M0 M 19 [] []) : ∀ (n : Nat) (v3 : Int) (M : Mem), itr2 (m_goesOn__L2 v1 v2) n v3 M = some q →
    mWX p l e 7 161 s m args below meth c 4 D E b none M0 M 2 [(0, vR b 0), (1, vI v1), (2, vI v2), (3, vI v3)] [] := by
  intro n
  induction n with
  | zero => exact fun _ _ h => itr_z h
  | succ n ih => exact fun _ _ h => w_m_goesOn__L2_s C hr ih hfol h
set_option maxHeartbeats 4000000 in
set_option maxRecDepth 20000 in
theorem c_m_goesOn_ (l : Launch) {x1 : Int} {x2 : Int} {M : Mem} {M0 : Mem} (h : m_goesOn_ x1 x2 M = some M0) : Ct l yX12_goesOn_ cX12_goesOn_ 4 none 7 161 vwCl mSh mN mRf mExt (fun b => [vR b 0, vI x1, vI x2]) M (fun b => none) M0 := by
  refine Ct_of mExtOK (by decide) (fun b => Nat.le_of_ble_eq_true rfl) ?_
  intro p e s m args below meth c D E b C hr
  unfold m_goesOn_ at h
  refine (show mWX p l e 7 161 s m args below meth c 4 D E b none M0 M 0 [(0, vR b 0), (1, vI x1), (2, vI x2)] [] from ?_)
  refine r_iconst (pc := 0) C dX12_goesOn__0 ?_
  refine r_istore_n (pc := 1) (lv' := [(3, vI 0), (0, vR b 0), (1, vI x1), (2, vI x2)]) C rfl dX12_goesOn__1 (by decide) rfl ?_
  refine r_sub (lv' := [(0, vR b 0), (1, vI x1), (2, vI x2), (3, vI 0)]) [1, 2, 3, 0] rfl ?_
  obtain ⟨q2, hl2, h⟩ := bnd_inv h
  refine w_m_goesOn__L2 C hr (fun v3_2 M_2 hq => ?_) FUEL _ _ hl2
  have hq := hq.symm
  subst hq
  have e := Option.some.inj h
  exact r_vret (pc := 19) C hr rfl e.symm dX12_goesOn__19
set_option maxHeartbeats 4000000 in
set_option maxRecDepth 20000 in
theorem c_m_later (l : Launch) {x1 : Int} {x2 : Int} {x3 : Int} {M : Mem} {r0 : Int} {M0 : Mem} (h : m_later x1 x2 x3 M = some (r0, M0)) : Ct l yX12_later cX12_later 4 (some .int) 8 184 vwCl mSh mN mRf mExt (fun b => [vR b 0, vI x1, vI x2, vI x3]) M (fun b => (some (vI r0))) M0 := by
  refine Ct_of mExtOK (by decide) (fun b => Nat.le_of_ble_eq_true rfl) ?_
  intro p e s m args below meth c D E b C hr
  unfold m_later at h
  refine (show mWX p l e 8 184 s m args below meth c 4 D E b (some (vI r0)) M0 M 0 [(0, vR b 0), (1, vI x1), (2, vI x2), (3, vI x3)] [] from ?_)
  refine r_aload_n (pc := 0) C 0 rfl rfl dX12_later_0 ?_
  refine r_iload_n (pc := 1) C 1 rfl rfl dX12_later_1 ?_
  obtain ⟨r1, hq1, h⟩ := bnd_inv h
  refine r_callV (pc := 2) (rest := []) (st1 := [vB r1]) C (mExtOK b) [vI x1] (c_m_isSaying l hq1) cl_RX12_470 m_s0 (by decide) rfl rfl rfl rfl ⟨Nat.le_of_ble_eq_true rfl, Nat.le_of_ble_eq_true rfl⟩ (Nat.le_of_ble_eq_true rfl) rfl rfl dX12_later_2 ?_
  refine r_if_eqB (pc := 5) (tgt := 28) C h dX12_later_5 (by decide) (fun hc5 h => ?_) (fun hc5 h => ?_)
  · refine r_aload_n (pc := 8) C 0 rfl rfl dX12_later_8 ?_
    refine r_iload_n (pc := 9) C 2 rfl rfl dX12_later_9 ?_
    refine r_iconst (pc := 10) C dX12_later_10 ?_
    refine r_bipush (pc := 11) (j := 60) C (by decide +kernel) dX12_later_11 ?_
    obtain ⟨r2, hq2, h⟩ := bnd_inv h
    refine r_callV (pc := 13) (rest := []) (st1 := [vB r2]) C (mExtOK b) [vI x2, vI 0, vI 60] (c_m_isAhead l hq2) cl_RX12_478 m_s0 (by decide) rfl rfl rfl rfl ⟨Nat.le_of_ble_eq_true rfl, Nat.le_of_ble_eq_true rfl⟩ (Nat.le_of_ble_eq_true rfl) rfl rfl dX12_later_13 ?_
    refine r_if_eqB (pc := 16) (tgt := 28) C h dX12_later_16 (by decide) (fun hc16 h => ?_) (fun hc16 h => ?_)
    · refine r_iload_n (pc := 19) C 3 rfl rfl dX12_later_19 ?_
      refine r_iconst (pc := 20) C dX12_later_20 ?_
      refine r_iconst (pc := 21) C dX12_later_21 ?_
      obtain ⟨r3, hq3, h⟩ := bnd_inv h
      refine r_callS (pc := 22) (rest := []) (st1 := [vB r3]) C (mExtOK b) [vI x3, vI 0, vI 2] (c_m_is l hq3) cl_RX12_303 rfl rfl ⟨Nat.le_of_ble_eq_true rfl, Nat.le_of_ble_eq_true rfl⟩ (Nat.le_of_ble_eq_true rfl) rfl rfl dX12_later_22 ?_
      refine r_if_neB (pc := 25) (tgt := 30) C h dX12_later_25 (by decide) (fun hc25 h => ?_) (fun hc25 h => ?_)
      · refine r_aload_n (pc := 30) C 0 rfl rfl dX12_later_30 ?_
        refine r_iconst (pc := 31) C dX12_later_31 ?_
        refine r_iconst (pc := 32) C dX12_later_32 ?_
        obtain ⟨M4, hq4, h⟩ := bnd_inv h
        refine r_callV (pc := 33) (rest := []) (st1 := []) C (mExtOK b) [vI 1, vI 0] (c_m_copies l hq4) cl_RX12_396 m_s0 (by decide) rfl rfl rfl rfl ⟨Nat.le_of_ble_eq_true rfl, Nat.le_of_ble_eq_true rfl⟩ (Nat.le_of_ble_eq_true rfl) rfl rfl dX12_later_33 ?_
        refine r_aload_n (pc := 36) C 0 rfl rfl dX12_later_36 ?_
        refine r_iload_n (pc := 37) C 2 rfl rfl dX12_later_37 ?_
        refine r_aload_n (pc := 38) C 0 rfl rfl dX12_later_38 ?_
        obtain ⟨r5, hq5, h⟩ := bnd_inv h
        refine r_callV (pc := 39) (rest := [vI x2, vR b 0]) (st1 := [vI r5, vI x2, vR b 0]) C (mExtOK b) [] (c_m_all l hq5) cl_RX12_481 m_s0 (by decide) rfl rfl rfl rfl ⟨Nat.le_of_ble_eq_true rfl, Nat.le_of_ble_eq_true rfl⟩ (Nat.le_of_ble_eq_true rfl) rfl rfl dX12_later_39 ?_
        obtain ⟨M6, hq6, h⟩ := bnd_inv h
        refine r_callV (pc := 42) (rest := []) (st1 := []) C (mExtOK b) [vI x2, vI r5] (c_m_goesOn_ l hq6) cl_RX12_485 m_s0 (by decide) rfl rfl rfl rfl ⟨Nat.le_of_ble_eq_true rfl, Nat.le_of_ble_eq_true rfl⟩ (Nat.le_of_ble_eq_true rfl) rfl rfl dX12_later_42 ?_
        refine r_iload_n (pc := 45) C 3 rfl rfl dX12_later_45 ?_
        refine r_if_ne (pc := 46) (tgt := 61) C h dX12_later_46 (by decide) (fun hc46 h => ?_) (fun hc46 h => ?_)
        · refine r_iload_n (pc := 61) C 3 rfl rfl dX12_later_61 ?_
          refine r_iconst (pc := 62) C dX12_later_62 ?_
          refine r_icmp_ne (pc := 63) (tgt := 78) C h dX12_later_63 (by decide) (fun hc63 h => ?_) (fun hc63 h => ?_)
          · refine r_aload_n (pc := 78) C 0 rfl rfl dX12_later_78 ?_
            refine r_getR (pc := 79) C fl_RX12_174 m_s0 (by decide) m_k53 m_r53 dX12_later_79 ?_
            refine r_iconst (pc := 82) C dX12_later_82 ?_
            refine r_iald (pc := 83) C m_s34 (by decide) (by decide) (by decide) rfl dX12_later_83 ?_
            refine r_iload_n (pc := 84) C 1 rfl rfl dX12_later_84 ?_
            obtain ⟨r7, hq7, h⟩ := bnd_inv h
            refine r_callS (pc := 85) (rest := []) (st1 := [vB r7]) C (mExtOK b) [vI (M6 34 1), vI x1] (c_m_has2 l hq7) cl_RX12_428 rfl rfl ⟨Nat.le_of_ble_eq_true rfl, Nat.le_of_ble_eq_true rfl⟩ (Nat.le_of_ble_eq_true rfl) rfl rfl dX12_later_85 ?_
            refine r_if_eqB (pc := 88) (tgt := 95) C h dX12_later_88 (by decide) (fun hc88 h => ?_) (fun hc88 h => ?_)
            · refine r_iconst (pc := 91) C dX12_later_91 ?_
              refine r_goto (pc := 92) (tgt := 96) C dX12_later_92 (by decide) ?_
              have e := Option.some.inj h
              exact r_iret (pc := 96) C hr (congrArg (fun z => some (vI z)) (Prod.mk.inj e).1.symm) (Prod.mk.inj e).2.symm dX12_later_96
            · refine r_iconst (pc := 95) C dX12_later_95 ?_
              have e := Option.some.inj h
              exact r_iret (pc := 96) C hr (congrArg (fun z => some (vI z)) (Prod.mk.inj e).1.symm) (Prod.mk.inj e).2.symm dX12_later_96
          · refine r_aload_n (pc := 66) C 0 rfl rfl dX12_later_66 ?_
            refine r_getR (pc := 67) C fl_RX12_168 m_s0 (by decide) m_k51 m_r51 dX12_later_67 ?_
            refine r_bipush (pc := 70) (j := 12) C (by decide +kernel) dX12_later_70 ?_
            refine r_iload_n (pc := 72) C 1 rfl rfl dX12_later_72 ?_
            refine r_iadd (pc := 73) C dX12_later_73 ?_
            obtain ⟨hi74, h⟩ := chk_inv h
            refine r_iald (pc := 74) C m_s32 (by decide) (by decide) hi74 rfl dX12_later_74 ?_
            refine r_goto (pc := 75) (tgt := 96) C dX12_later_75 (by decide) ?_
            have e := Option.some.inj h
            exact r_iret (pc := 96) C hr (congrArg (fun z => some (vI z)) (Prod.mk.inj e).1.symm) (Prod.mk.inj e).2.symm dX12_later_96
        · refine r_aload_n (pc := 49) C 0 rfl rfl dX12_later_49 ?_
          refine r_getR (pc := 50) C fl_RX12_159 m_s0 (by decide) m_k48 m_r48 dX12_later_50 ?_
          refine r_bipush (pc := 53) (j := 12) C (by decide +kernel) dX12_later_53 ?_
          refine r_iload_n (pc := 55) C 1 rfl rfl dX12_later_55 ?_
          refine r_iadd (pc := 56) C dX12_later_56 ?_
          obtain ⟨hi57, h⟩ := chk_inv h
          refine r_iald (pc := 57) C m_s29 (by decide) (by decide) hi57 rfl dX12_later_57 ?_
          refine r_goto (pc := 58) (tgt := 96) C dX12_later_58 (by decide) ?_
          have e := Option.some.inj h
          exact r_iret (pc := 96) C hr (congrArg (fun z => some (vI z)) (Prod.mk.inj e).1.symm) (Prod.mk.inj e).2.symm dX12_later_96
      · refine r_iconst (pc := 28) C dX12_later_28 ?_
        have e := Option.some.inj h
        exact r_iret (pc := 29) C hr (congrArg (fun z => some (vI z)) (Prod.mk.inj e).1.symm) (Prod.mk.inj e).2.symm dX12_later_29
    · refine r_iconst (pc := 28) C dX12_later_28 ?_
      have e := Option.some.inj h
      exact r_iret (pc := 29) C hr (congrArg (fun z => some (vI z)) (Prod.mk.inj e).1.symm) (Prod.mk.inj e).2.symm dX12_later_29
  · refine r_iconst (pc := 28) C dX12_later_28 ?_
    have e := Option.some.inj h
    exact r_iret (pc := 29) C hr (congrArg (fun z => some (vI z)) (Prod.mk.inj e).1.symm) (Prod.mk.inj e).2.symm dX12_later_29
set_option maxHeartbeats 4000000 in
set_option maxRecDepth 20000 in
theorem w_m_ends_L18_s (C : mCX p s m args meth c cX12_ends 3 RX12 D E b) (hr : meth.sig.returnType = (some .int)) {r0 : Int} {M0 : Mem} {v1 : Int} {v2 : Int} {M : Mem} {q : (Int × Mem) ⊕ (Int × Mem)} {rec : Int → Mem → Option ((Int × Mem) ⊕ (Int × Mem))} (hrec : ∀ (v2 : Int) (M : Mem), rec v2 M = some q → mWX p l e 7 161 s m args below meth c 3 D E b (some (vI r0)) M0 M 18 [(0, vR b 0), (1, vI v1), (2, vI v2)] []) (hret : ∀ r, q = .inl r → r = (r0, M0)) (hfol : ∀ (v2 : Int) (M : Mem), q = .inr (v2, M) → mWX p l e 7 161 s m args below meth c 3 D E b (some (vI r0)) M0 M 59 [] []) (h : m_ends_L18 v1 rec v2 M = some q) :
    mWX p l e 7 161 s m args below meth c 3 D E b (some (vI r0)) M0 M 18 [(0, vR b 0), (1, vI v1), (2, vI v2)] [] := by
  unfold m_ends_L18 at h
  refine r_aload_n (pc := 18) C 0 rfl rfl dX12_ends_18 ?_
  refine r_iload_n (pc := 19) C 2 rfl rfl dX12_ends_19 ?_
  refine r_iconst (pc := 20) C dX12_ends_20 ?_
  refine r_bipush (pc := 21) (j := 60) C (by decide +kernel) dX12_ends_21 ?_
  obtain ⟨r3, hq3, h⟩ := bnd_inv h
  refine r_callV (pc := 23) (rest := []) (st1 := [vB r3]) C (mExtOK b) [vI v2, vI 0, vI 60] (c_m_isAhead l hq3) cl_RX12_478 m_s0 (by decide) rfl rfl rfl rfl ⟨Nat.le_of_ble_eq_true rfl, Nat.le_of_ble_eq_true rfl⟩ (Nat.le_of_ble_eq_true rfl) rfl rfl dX12_ends_23 ?_
  refine r_if_eqB (pc := 26) (tgt := 59) C h dX12_ends_26 (by decide) (fun hc26 h => ?_) (fun hc26 h => ?_)
  · refine r_aload_n (pc := 29) C 0 rfl rfl dX12_ends_29 ?_
    refine r_getR (pc := 30) C fl_RX12_159 m_s0 (by decide) m_k48 m_r48 dX12_ends_30 ?_
    refine r_bipush (pc := 33) (j := 12) C (by decide +kernel) dX12_ends_33 ?_
    refine r_iload_n (pc := 35) C 1 rfl rfl dX12_ends_35 ?_
    refine r_iadd (pc := 36) C dX12_ends_36 ?_
    obtain ⟨hi37, h⟩ := chk_inv h
    refine r_iald (pc := 37) C m_s29 (by decide) (by decide) hi37 rfl dX12_ends_37 ?_
    refine r_iconst (pc := 38) C dX12_ends_38 ?_
    refine r_icmp_lt (pc := 39) (tgt := 44) C h dX12_ends_39 (by decide) (fun hc39 h => ?_) (fun hc39 h => ?_)
    · refine r_aload_n (pc := 44) C 0 rfl rfl dX12_ends_44 ?_
      refine r_iconst (pc := 45) C dX12_ends_45 ?_
      refine r_aload_n (pc := 46) C 0 rfl rfl dX12_ends_46 ?_
      obtain ⟨r4, hq4, h⟩ := bnd_inv h
      refine r_callV (pc := 47) (rest := [vI 1, vR b 0]) (st1 := [vI r4, vI 1, vR b 0]) C (mExtOK b) [] (c_m_all l hq4) cl_RX12_481 m_s0 (by decide) rfl rfl rfl rfl ⟨Nat.le_of_ble_eq_true rfl, Nat.le_of_ble_eq_true rfl⟩ (Nat.le_of_ble_eq_true rfl) rfl rfl dX12_ends_47 ?_
      obtain ⟨M5, hq5, h⟩ := bnd_inv h
      refine r_callV (pc := 50) (rest := []) (st1 := []) C (mExtOK b) [vI 1, vI r4] (c_m_ticks l hq5) cl_RX12_475 m_s0 (by decide) rfl rfl rfl rfl ⟨Nat.le_of_ble_eq_true rfl, Nat.le_of_ble_eq_true rfl⟩ (Nat.le_of_ble_eq_true rfl) rfl rfl dX12_ends_50 ?_
      obtain ⟨v2_53, hv2_53, h⟩ := lt_inv h
      refine r_iincN (pc := 53) (y := v2_53) (lv' := [(2, vI v2_53), (0, vR b 0), (1, vI v1)]) C 2 rfl hv2_53 dX12_ends_53 (by decide) rfl ?_
      refine r_goto (pc := 56) (tgt := 18) C dX12_ends_56 (by decide) ?_
      refine r_sub (lv' := [(0, vR b 0), (1, vI v1), (2, vI v2_53)]) [1, 2, 0] rfl ?_
      exact hrec _ _ h
    · refine r_iload_n (pc := 42) C 2 rfl rfl dX12_ends_42 ?_
      have e := hret _ (Option.some.inj h).symm
      exact r_iret (pc := 43) C hr (congrArg (fun z => some (vI z)) (Prod.mk.inj e).1.symm) (Prod.mk.inj e).2.symm dX12_ends_43
  · refine r_sub (lv' := []) [] rfl ?_
    exact hfol _ _ (Option.some.inj h).symm
set_option maxHeartbeats 4000000 in
theorem w_m_ends_L18 (C : mCX p s m args meth c cX12_ends 3 RX12 D E b) (hr : meth.sig.returnType = (some .int)) {r0 : Int} {M0 : Mem} {v1 : Int} {q : (Int × Mem) ⊕ (Int × Mem)} (hret : ∀ r, q = .inl r → r = (r0, M0)) (hfol : ∀ (v2 : Int) (M : Mem), q = .inr (v2, M) → mWX p l e 7 161 s m args below meth c 3 D E b (some (vI r0)) M0 M 59 [] []) : ∀ (n : Nat) (v2 : Int) (M : Mem), itr2 (m_ends_L18 v1) n v2 M = some q →
    mWX p l e 7 161 s m args below meth c 3 D E b (some (vI r0)) M0 M 18 [(0, vR b 0), (1, vI v1), (2, vI v2)] [] := by
  intro n
  induction n with
  | zero => exact fun _ _ h => itr_z h
  | succ n ih => exact fun _ _ h => w_m_ends_L18_s C hr ih hret hfol h
set_option maxHeartbeats 4000000 in
set_option maxRecDepth 20000 in
theorem c_m_ends (l : Launch) {x1 : Int} {M : Mem} {r0 : Int} {M0 : Mem} (h : m_ends x1 M = some (r0, M0)) : Ct l yX12_ends cX12_ends 3 (some .int) 7 161 vwCl mSh mN mRf mExt (fun b => [vR b 0, vI x1]) M (fun b => (some (vI r0))) M0 := by
  refine Ct_of mExtOK (by decide) (fun b => Nat.le_of_ble_eq_true rfl) ?_
  intro p e s m args below meth c D E b C hr
  unfold m_ends at h
  refine (show mWX p l e 7 161 s m args below meth c 3 D E b (some (vI r0)) M0 M 0 [(0, vR b 0), (1, vI x1)] [] from ?_)
  refine r_aload_n (pc := 0) C 0 rfl rfl dX12_ends_0 ?_
  refine r_iload_n (pc := 1) C 1 rfl rfl dX12_ends_1 ?_
  obtain ⟨r1, hq1, h⟩ := bnd_inv h
  refine r_callV (pc := 2) (rest := []) (st1 := [vB r1]) C (mExtOK b) [vI x1] (c_m_isSaying l hq1) cl_RX12_470 m_s0 (by decide) rfl rfl rfl rfl ⟨Nat.le_of_ble_eq_true rfl, Nat.le_of_ble_eq_true rfl⟩ (Nat.le_of_ble_eq_true rfl) rfl rfl dX12_ends_2 ?_
  refine r_if_neB (pc := 5) (tgt := 10) C h dX12_ends_5 (by decide) (fun hc5 h => ?_) (fun hc5 h => ?_)
  · refine r_aload_n (pc := 10) C 0 rfl rfl dX12_ends_10 ?_
    refine r_iconst (pc := 11) C dX12_ends_11 ?_
    refine r_iconst (pc := 12) C dX12_ends_12 ?_
    obtain ⟨M2, hq2, h⟩ := bnd_inv h
    refine r_callV (pc := 13) (rest := []) (st1 := []) C (mExtOK b) [vI 1, vI 0] (c_m_copies l hq2) cl_RX12_396 m_s0 (by decide) rfl rfl rfl rfl ⟨Nat.le_of_ble_eq_true rfl, Nat.le_of_ble_eq_true rfl⟩ (Nat.le_of_ble_eq_true rfl) rfl rfl dX12_ends_13 ?_
    refine r_iconst (pc := 16) C dX12_ends_16 ?_
    refine r_istore_n (pc := 17) (lv' := [(2, vI 0), (0, vR b 0), (1, vI x1)]) C rfl dX12_ends_17 (by decide) rfl ?_
    refine r_sub (lv' := [(0, vR b 0), (1, vI x1), (2, vI 0)]) [1, 2, 0] rfl ?_
    obtain ⟨q6, hl6, h⟩ := bnd_inv h
    refine w_m_ends_L18 C hr (fun r hq => ?_) (fun v2_6 M_6 hq => ?_) FUEL _ _ hl6
    · have hq := hq.symm
      subst hq
      exact Option.some.inj h
    · have hq := hq.symm
      subst hq
      refine r_iconst (pc := 59) C dX12_ends_59 ?_
      have e := Option.some.inj h
      exact r_iret (pc := 60) C hr (congrArg (fun z => some (vI z)) (Prod.mk.inj e).1.symm) (Prod.mk.inj e).2.symm dX12_ends_60
  · refine r_iconst (pc := 8) C dX12_ends_8 ?_
    have e := Option.some.inj h
    exact r_iret (pc := 9) C hr (congrArg (fun z => some (vI z)) (Prod.mk.inj e).1.symm) (Prod.mk.inj e).2.symm dX12_ends_9
set_option maxHeartbeats 4000000 in
set_option maxRecDepth 20000 in
theorem c_m_busy (l : Launch) {x1 : Int} {M : Mem} {r0 : Int} {M0 : Mem} (h : m_busy x1 M = some (r0, M0)) : Ct l yX12_busy cX12_busy 2 (some .int) 8 184 vwCl mSh mN mRf mExt (fun b => [vR b 0, vI x1]) M (fun b => (some (vI r0))) M0 := by
  refine Ct_of mExtOK (by decide) (fun b => Nat.le_of_ble_eq_true rfl) ?_
  intro p e s m args below meth c D E b C hr
  unfold m_busy at h
  refine (show mWX p l e 8 184 s m args below meth c 2 D E b (some (vI r0)) M0 M 0 [(0, vR b 0), (1, vI x1)] [] from ?_)
  refine r_aload_n (pc := 0) C 0 rfl rfl dX12_busy_0 ?_
  refine r_iload_n (pc := 1) C 1 rfl rfl dX12_busy_1 ?_
  refine r_iconst (pc := 2) C dX12_busy_2 ?_
  refine r_bipush (pc := 3) (j := 60) C (by decide +kernel) dX12_busy_3 ?_
  obtain ⟨r1, hq1, h⟩ := bnd_inv h
  refine r_callV (pc := 5) (rest := []) (st1 := [vB r1]) C (mExtOK b) [vI x1, vI 0, vI 60] (c_m_isAhead l hq1) cl_RX12_478 m_s0 (by decide) rfl rfl rfl rfl ⟨Nat.le_of_ble_eq_true rfl, Nat.le_of_ble_eq_true rfl⟩ (Nat.le_of_ble_eq_true rfl) rfl rfl dX12_busy_5 ?_
  refine r_if_neB (pc := 8) (tgt := 13) C h dX12_busy_8 (by decide) (fun hc8 h => ?_) (fun hc8 h => ?_)
  · refine r_aload_n (pc := 13) C 0 rfl rfl dX12_busy_13 ?_
    refine r_iconst (pc := 14) C dX12_busy_14 ?_
    refine r_iconst (pc := 15) C dX12_busy_15 ?_
    obtain ⟨M2, hq2, h⟩ := bnd_inv h
    refine r_callV (pc := 16) (rest := []) (st1 := []) C (mExtOK b) [vI 1, vI 0] (c_m_copies l hq2) cl_RX12_396 m_s0 (by decide) rfl rfl rfl rfl ⟨Nat.le_of_ble_eq_true rfl, Nat.le_of_ble_eq_true rfl⟩ (Nat.le_of_ble_eq_true rfl) rfl rfl dX12_busy_16 ?_
    refine r_aload_n (pc := 19) C 0 rfl rfl dX12_busy_19 ?_
    refine r_iload_n (pc := 20) C 1 rfl rfl dX12_busy_20 ?_
    refine r_aload_n (pc := 21) C 0 rfl rfl dX12_busy_21 ?_
    obtain ⟨r3, hq3, h⟩ := bnd_inv h
    refine r_callV (pc := 22) (rest := [vI x1, vR b 0]) (st1 := [vI r3, vI x1, vR b 0]) C (mExtOK b) [] (c_m_all l hq3) cl_RX12_481 m_s0 (by decide) rfl rfl rfl rfl ⟨Nat.le_of_ble_eq_true rfl, Nat.le_of_ble_eq_true rfl⟩ (Nat.le_of_ble_eq_true rfl) rfl rfl dX12_busy_22 ?_
    obtain ⟨M4, hq4, h⟩ := bnd_inv h
    refine r_callV (pc := 25) (rest := []) (st1 := []) C (mExtOK b) [vI x1, vI r3] (c_m_goesOn_ l hq4) cl_RX12_485 m_s0 (by decide) rfl rfl rfl rfl ⟨Nat.le_of_ble_eq_true rfl, Nat.le_of_ble_eq_true rfl⟩ (Nat.le_of_ble_eq_true rfl) rfl rfl dX12_busy_25 ?_
    refine r_aload_n (pc := 28) C 0 rfl rfl dX12_busy_28 ?_
    refine r_iconst (pc := 29) C dX12_busy_29 ?_
    obtain ⟨r5, hq5, h⟩ := bnd_inv h
    refine r_callV (pc := 30) (rest := []) (st1 := [vI r5]) C (mExtOK b) [vI 1] (c_m_busyMany l hq5) cl_RX12_436 m_s0 (by decide) rfl rfl rfl rfl ⟨Nat.le_of_ble_eq_true rfl, Nat.le_of_ble_eq_true rfl⟩ (Nat.le_of_ble_eq_true rfl) rfl rfl dX12_busy_30 ?_
    have e := Option.some.inj h
    exact r_iret (pc := 33) C hr (congrArg (fun z => some (vI z)) (Prod.mk.inj e).1.symm) (Prod.mk.inj e).2.symm dX12_busy_33
  · refine r_iconst (pc := 11) C dX12_busy_11 ?_
    have e := Option.some.inj h
    exact r_iret (pc := 12) C hr (congrArg (fun z => some (vI z)) (Prod.mk.inj e).1.symm) (Prod.mk.inj e).2.symm dX12_busy_12
set_option maxHeartbeats 4000000 in
set_option maxRecDepth 20000 in
theorem c_m_from (l : Launch) {x0 : Int} {x1 : Int} {M : Mem} {r0 : Int} (h : m_from x0 x1 = some r0) : Ct l yX12_from cX12_from 2 (some .int) 1 12 vwCl mSh mN mRf mExt (fun b => [vI x0, vI x1]) M (fun b => (some (vI r0))) M := by
  refine Ct_of mExtOK (by decide) (fun b => Nat.le_of_ble_eq_true rfl) ?_
  intro p e s m args below meth c D E b C hr
  unfold m_from at h
  refine (show mWX p l e 1 12 s m args below meth c 2 D E b (some (vI r0)) M M 0 [(0, vI x0), (1, vI x1)] [] from ?_)
  refine r_sipush (pc := 0) (j := 128) C (by decide +kernel) dX12_from_0 ?_
  refine r_iload_n (pc := 3) C 0 rfl rfl dX12_from_3 ?_
  refine r_imul (pc := 4) C dX12_from_4 ?_
  refine r_iload_n (pc := 5) C 1 rfl rfl dX12_from_5 ?_
  refine r_iadd (pc := 6) C dX12_from_6 ?_
  have e := Option.some.inj h
  exact r_iret (pc := 7) C hr (congrArg (fun z => some (vI z)) e.symm) rfl dX12_from_7
set_option maxHeartbeats 4000000 in
set_option maxRecDepth 20000 in
theorem c_m_fits (l : Launch) {x1 : Int} {x2 : Int} {x3 : Int} {M : Mem} {r0 : Int} {M0 : Mem} (h : m_fits x1 x2 x3 M = some (r0, M0)) : Ct l yX12_fits cX12_fits 6 (some .int) 5 109 vwCl mSh mN mRf mExt (fun b => [vR b 0, vI x1, vI x2, vI x3]) M (fun b => (some (vI r0))) M0 := by
  refine Ct_of mExtOK (by decide) (fun b => Nat.le_of_ble_eq_true rfl) ?_
  intro p e s m args below meth c D E b C hr
  unfold m_fits at h
  refine (show mWX p l e 5 109 s m args below meth c 6 D E b (some (vI r0)) M0 M 0 [(0, vR b 0), (1, vI x1), (2, vI x2), (3, vI x3)] [] from ?_)
  refine r_aload_n (pc := 0) C 0 rfl rfl dX12_fits_0 ?_
  refine r_getR (pc := 1) C fl_RX12_159 m_s0 (by decide) m_k48 m_r48 dX12_fits_1 ?_
  refine r_iload_n (pc := 4) C 1 rfl rfl dX12_fits_4 ?_
  obtain ⟨hi5, h⟩ := chk_inv h
  refine r_iald (pc := 5) C m_s29 (by decide) (by decide) hi5 rfl dX12_fits_5 ?_
  refine r_iconst (pc := 6) C dX12_fits_6 ?_
  refine r_icmp_ne (pc := 7) (tgt := 27) C h dX12_fits_7 (by decide) (fun hc7 h => ?_) (fun hc7 h => ?_)
  · refine r_iconst (pc := 27) C dX12_fits_27 ?_
    have e := Option.some.inj h
    exact r_iret (pc := 28) C hr (congrArg (fun z => some (vI z)) (Prod.mk.inj e).1.symm) (Prod.mk.inj e).2.symm dX12_fits_28
  · refine r_iload_n (pc := 10) C 3 rfl rfl dX12_fits_10 ?_
    refine r_iload_n (pc := 11) C 2 rfl rfl dX12_fits_11 ?_
    obtain ⟨r1, hq1, h⟩ := bnd_inv h
    refine r_callS (pc := 12) (rest := []) (st1 := [vB r1]) C (mExtOK b) [vI x3, vI x2] (c_m_has2 l hq1) cl_RX12_428 rfl rfl ⟨Nat.le_of_ble_eq_true rfl, Nat.le_of_ble_eq_true rfl⟩ (Nat.le_of_ble_eq_true rfl) rfl rfl dX12_fits_12 ?_
    refine r_if_neB (pc := 15) (tgt := 27) C h dX12_fits_15 (by decide) (fun hc15 h => ?_) (fun hc15 h => ?_)
    · refine r_iconst (pc := 27) C dX12_fits_27 ?_
      have e := Option.some.inj h
      exact r_iret (pc := 28) C hr (congrArg (fun z => some (vI z)) (Prod.mk.inj e).1.symm) (Prod.mk.inj e).2.symm dX12_fits_28
    · refine r_aload_n (pc := 18) C 0 rfl rfl dX12_fits_18 ?_
      refine r_iconst (pc := 19) C dX12_fits_19 ?_
      refine r_iload_n (pc := 20) C 2 rfl rfl dX12_fits_20 ?_
      obtain ⟨r2, hq2, h⟩ := bnd_inv h
      refine r_callV (pc := 21) (rest := []) (st1 := [vB r2]) C (mExtOK b) [vI 0, vI x2] (c_m_isFree l hq2) cl_RX12_439 m_s0 (by decide) rfl rfl rfl rfl ⟨Nat.le_of_ble_eq_true rfl, Nat.le_of_ble_eq_true rfl⟩ (Nat.le_of_ble_eq_true rfl) rfl rfl dX12_fits_21 ?_
      refine r_if_neB (pc := 24) (tgt := 29) C h dX12_fits_24 (by decide) (fun hc24 h => ?_) (fun hc24 h => ?_)
      · refine r_aload_n (pc := 29) C 0 rfl rfl dX12_fits_29 ?_
        refine r_iconst (pc := 30) C dX12_fits_30 ?_
        refine r_iload_n (pc := 31) C 1 rfl rfl dX12_fits_31 ?_
        refine r_iload_n (pc := 32) C 2 rfl rfl dX12_fits_32 ?_
        obtain ⟨r3, M3, hq3, h⟩ := bnd2_inv h
        refine r_callV (pc := 33) (rest := []) (st1 := [vL r3]) C (mExtOK b) [vI 0, vI x1, vI x2] (c_m_pickOf l hq3) cl_RX12_442 m_s0 (by decide) rfl rfl rfl rfl ⟨Nat.le_of_ble_eq_true rfl, Nat.le_of_ble_eq_true rfl⟩ (Nat.le_of_ble_eq_true rfl) rfl rfl dX12_fits_33 ?_
        refine r_lstore (pc := 36) (lv' := [(4, vL r3), (0, vR b 0), (1, vI x1), (2, vI x2), (3, vI x3)]) C dX12_fits_36 (by decide) rfl ?_
        refine r_lload (pc := 38) C 0 rfl dX12_fits_38 ?_
        refine r_lconst (pc := 40) (j := 0) C rfl dX12_fits_40 ?_
        refine r_lcmp (pc := 41) C dX12_fits_41 ?_
        refine r_if_le (pc := 42) (tgt := 51) C h dX12_fits_42 (by decide) (fun hc42 h => ?_) (fun hc42 h => ?_)
        · refine r_iconst (pc := 51) C dX12_fits_51 ?_
          have e := Option.some.inj h
          exact r_iret (pc := 52) C hr (congrArg (fun z => some (vI z)) (Prod.mk.inj e).1.symm) (Prod.mk.inj e).2.symm dX12_fits_52
        · refine r_lload (pc := 45) C 0 rfl dX12_fits_45 ?_
          refine r_l2i (pc := 47) C dX12_fits_47 ?_
          refine r_goto (pc := 48) (tgt := 52) C dX12_fits_48 (by decide) ?_
          have e := Option.some.inj h
          exact r_iret (pc := 52) C hr (congrArg (fun z => some (vI z)) (Prod.mk.inj e).1.symm) (Prod.mk.inj e).2.symm dX12_fits_52
      · refine r_iconst (pc := 27) C dX12_fits_27 ?_
        have e := Option.some.inj h
        exact r_iret (pc := 28) C hr (congrArg (fun z => some (vI z)) (Prod.mk.inj e).1.symm) (Prod.mk.inj e).2.symm dX12_fits_28
set_option maxHeartbeats 4000000 in
set_option maxRecDepth 20000 in
theorem w_m_match_L17_s (C : mCX p s m args meth c cX12_match 8 RX12 D E b) (hr : meth.sig.returnType = (some .int)) {r0 : Int} {M0 : Mem} {v1 : Int} {v2 : Int} {M : Mem} {q : Int × Mem} {rec : Int → Mem → Option (Int × Mem)} (hrec : ∀ (v2 : Int) (M : Mem), rec v2 M = some q → mWX p l e 6 134 s m args below meth c 8 D E b (some (vI r0)) M0 M 17 [(0, vR b 0), (1, vI v1), (2, vI v2)] []) (hfol : ∀ (v2 : Int) (M : Mem), q = (v2, M) → mWX p l e 6 134 s m args below meth c 8 D E b (some (vI r0)) M0 M 49 [(0, vR b 0), (1, vI v1)] []) (h : m_match_L17 v1 rec v2 M = some q) :
    mWX p l e 6 134 s m args below meth c 8 D E b (some (vI r0)) M0 M 17 [(0, vR b 0), (1, vI v1), (2, vI v2)] [] := by
  unfold m_match_L17 at h
  refine r_iload_n (pc := 17) C 2 rfl rfl dX12_match_17 ?_
  refine r_sipush (pc := 18) (j := 128) C (by decide +kernel) dX12_match_18 ?_
  refine r_icmp_ge (pc := 21) (tgt := 49) C h dX12_match_21 (by decide) (fun hc21 h => ?_) (fun hc21 h => ?_)
  · refine r_sub (lv' := [(0, vR b 0), (1, vI v1)]) [0, 1] rfl ?_
    exact hfol _ _ (Option.some.inj h).symm
  · refine r_aload_n (pc := 24) C 0 rfl rfl dX12_match_24 ?_
    refine r_getR (pc := 25) C fl_RX12_201 m_s0 (by decide) m_k62 m_r62 dX12_match_25 ?_
    refine r_aload_n (pc := 28) C 0 rfl rfl dX12_match_28 ?_
    refine r_getR (pc := 29) C fl_RX12_69 m_s0 (by decide) m_k19 m_r19 dX12_match_29 ?_
    refine r_aload_n (pc := 32) C 0 rfl rfl dX12_match_32 ?_
    refine r_getI (pc := 33) C fl_RX12_51 m_s0 (by decide) m_k13 dX12_match_33 ?_
    obtain ⟨hi36, h⟩ := chk_inv h
    refine r_iald (pc := 36) C m_s7 (by decide) (by decide) hi36 rfl dX12_match_36 ?_
    refine r_iload_n (pc := 37) C 2 rfl rfl dX12_match_37 ?_
    obtain ⟨r1, hq1, h⟩ := bnd_inv h
    refine r_callS (pc := 38) (rest := [vR b 40]) (st1 := [vI r1, vR b 40]) C (mExtOK b) [vI (M 7 (M 0 13).toNat), vI v2] (c_m_from l hq1) cl_RX12_487 rfl rfl ⟨Nat.le_of_ble_eq_true rfl, Nat.le_of_ble_eq_true rfl⟩ (Nat.le_of_ble_eq_true rfl) rfl rfl dX12_match_38 ?_
    refine r_iconst (pc := 41) C dX12_match_41 ?_
    obtain ⟨hi42, h⟩ := chk_inv h
    obtain ⟨M_42, hM_42, h⟩ := lt_inv h
    refine r_iast (pc := 42) C m_s40 (by decide) (by decide) hi42 rfl hM_42 dX12_match_42 ?_
    obtain ⟨v2_43, hv2_43, h⟩ := lt_inv h
    refine r_iincN (pc := 43) (y := v2_43) (lv' := [(2, vI v2_43), (0, vR b 0), (1, vI v1)]) C 2 rfl hv2_43 dX12_match_43 (by decide) rfl ?_
    refine r_goto (pc := 46) (tgt := 17) C dX12_match_46 (by decide) ?_
    refine r_sub (lv' := [(0, vR b 0), (1, vI v1), (2, vI v2_43)]) [1, 2, 0] rfl ?_
    exact hrec _ _ h
set_option maxHeartbeats 4000000 in
theorem w_m_match_L17 (C : mCX p s m args meth c cX12_match 8 RX12 D E b) (hr : meth.sig.returnType = (some .int)) {r0 : Int} {M0 : Mem} {v1 : Int} {q : Int × Mem} (hfol : ∀ (v2 : Int) (M : Mem), q = (v2, M) → mWX p l e 6 134 s m args below meth c 8 D E b (some (vI r0)) M0 M 49 [(0, vR b 0), (1, vI v1)] []) : ∀ (n : Nat) (v2 : Int) (M : Mem), itr2 (m_match_L17 v1) n v2 M = some q →
    mWX p l e 6 134 s m args below meth c 8 D E b (some (vI r0)) M0 M 17 [(0, vR b 0), (1, vI v1), (2, vI v2)] [] := by
  intro n
  induction n with
  | zero => exact fun _ _ h => itr_z h
  | succ n ih => exact fun _ _ h => w_m_match_L17_s C hr ih hfol h
set_option maxHeartbeats 4000000 in
set_option maxRecDepth 20000 in
theorem w_m_match_L91_s (C : mCX p s m args meth c cX12_match 8 RX12 D E b) (hr : meth.sig.returnType = (some .int)) {r0 : Int} {M0 : Mem} {v1 : Int} {v2 : Int} {v3 : Int} {v4 : Int} {v5 : Int} {M : Mem} {q : Int × Int × Mem} {rec : Int → Int → Mem → Option (Int × Int × Mem)} (hrec : ∀ (v4 : Int) (v5 : Int) (M : Mem), rec v4 v5 M = some q → mWX p l e 6 134 s m args below meth c 8 D E b (some (vI r0)) M0 M 91 [(0, vR b 0), (1, vI v1), (2, vI v2), (3, vI v3), (4, vI v4), (5, vI v5)] []) (hfol : ∀ (v4 : Int) (v5 : Int) (M : Mem), q = (v4, v5, M) → mWX p l e 6 134 s m args below meth c 8 D E b (some (vI r0)) M0 M 173 [(0, vR b 0), (1, vI v1), (2, vI v2), (3, vI v3), (4, vI v4)] []) (h : m_match_L91 v1 v2 v3 rec v4 v5 M = some q) :
    mWX p l e 6 134 s m args below meth c 8 D E b (some (vI r0)) M0 M 91 [(0, vR b 0), (1, vI v1), (2, vI v2), (3, vI v3), (4, vI v4), (5, vI v5)] [] := by
  unfold m_match_L91 at h
  refine r_iload (pc := 91) C 5 rfl dX12_match_91 ?_
  refine r_aload_n (pc := 93) C 0 rfl rfl dX12_match_93 ?_
  refine r_getR (pc := 94) C fl_RX12_54 m_s0 (by decide) m_k14 m_r14 dX12_match_94 ?_
  refine r_aload_n (pc := 97) C 0 rfl rfl dX12_match_97 ?_
  refine r_getI (pc := 98) C fl_RX12_51 m_s0 (by decide) m_k13 dX12_match_98 ?_
  obtain ⟨hi101, h⟩ := chk_inv h
  refine r_iald (pc := 101) C m_s2 (by decide) (by decide) hi101 rfl dX12_match_101 ?_
  refine r_icmp_ge (pc := 102) (tgt := 173) C h dX12_match_102 (by decide) (fun hc102 h => ?_) (fun hc102 h => ?_)
  · refine r_sub (lv' := [(0, vR b 0), (1, vI v1), (2, vI v2), (3, vI v3), (4, vI v4)]) [0, 1, 2, 3, 4] rfl ?_
    exact hfol _ _ _ (Option.some.inj h).symm
  · refine r_aload_n (pc := 105) C 0 rfl rfl dX12_match_105 ?_
    refine r_iload_n (pc := 106) C 2 rfl rfl dX12_match_106 ?_
    refine r_iload (pc := 107) C 5 rfl dX12_match_107 ?_
    refine r_iload_n (pc := 109) C 3 rfl rfl dX12_match_109 ?_
    obtain ⟨r4, M4, hq4, h⟩ := bnd2_inv h
    refine r_callV (pc := 110) (rest := []) (st1 := [vI r4]) C (mExtOK b) [vI v2, vI v5, vI v3] (c_m_fits l hq4) cl_RX12_490 m_s0 (by decide) rfl rfl rfl rfl ⟨Nat.le_of_ble_eq_true rfl, Nat.le_of_ble_eq_true rfl⟩ (Nat.le_of_ble_eq_true rfl) rfl rfl dX12_match_110 ?_
    refine r_istore (pc := 113) (lv' := [(6, vI r4), (0, vR b 0), (1, vI v1), (2, vI v2), (3, vI v3), (4, vI v4), (5, vI v5)]) C dX12_match_113 (by decide) rfl ?_
    refine r_iload (pc := 115) C 0 rfl dX12_match_115 ?_
    refine r_if_le (pc := 117) (tgt := 167) C h dX12_match_117 (by decide) (fun hc117 h => ?_) (fun hc117 h => ?_)
    · obtain ⟨v5_167, hv5_167, h⟩ := lt_inv h
      refine r_iincN (pc := 167) (y := v5_167) (lv' := [(5, vI v5_167), (6, vI r4), (0, vR b 0), (1, vI v1), (2, vI v2), (3, vI v3), (4, vI v4)]) C 6 rfl hv5_167 dX12_match_167 (by decide) rfl ?_
      refine r_goto (pc := 170) (tgt := 91) C dX12_match_170 (by decide) ?_
      refine r_sub (lv' := [(0, vR b 0), (1, vI v1), (2, vI v2), (3, vI v3), (4, vI v4), (5, vI v5_167)]) [2, 3, 4, 5, 6, 0] rfl ?_
      exact hrec _ _ _ h
    · refine r_iload (pc := 120) C 0 rfl dX12_match_120 ?_
      refine r_aload_n (pc := 122) C 1 rfl rfl dX12_match_122 ?_
      refine r_getR (pc := 123) C fl_RX12_201 m_s0 (by decide) m_k62 m_r62 dX12_match_123 ?_
      refine r_iload_n (pc := 126) C 3 rfl rfl dX12_match_126 ?_
      refine r_iconst (pc := 127) C dX12_match_127 ?_
      refine r_iadd (pc := 128) C dX12_match_128 ?_
      refine r_iload_n (pc := 129) C 4 rfl rfl dX12_match_129 ?_
      refine r_iconst (pc := 130) C dX12_match_130 ?_
      refine r_iload (pc := 131) C 6 rfl dX12_match_131 ?_
      refine r_ishl (pc := 133) C dX12_match_133 ?_
      refine r_ior (pc := 134) C dX12_match_134 ?_
      obtain ⟨r5, hq5, h⟩ := bnd_inv h
      refine r_callS (pc := 135) (rest := [vR b 40, vI r4]) (st1 := [vI r5, vR b 40, vI r4]) C (mExtOK b) [vI (v2 + 1), vI (or32 v3 (shl32 1 v5))] (c_m_from l hq5) cl_RX12_487 rfl rfl ⟨Nat.le_of_ble_eq_true rfl, Nat.le_of_ble_eq_true rfl⟩ (Nat.le_of_ble_eq_true rfl) rfl rfl dX12_match_135 ?_
      obtain ⟨hi138, h⟩ := chk_inv h
      refine r_iald (pc := 138) C m_s40 (by decide) (by decide) hi138 rfl dX12_match_138 ?_
      refine r_iadd (pc := 139) C dX12_match_139 ?_
      refine r_iload (pc := 140) C 5 rfl dX12_match_140 ?_
      refine r_icmp_le (pc := 142) (tgt := 167) C h dX12_match_142 (by decide) (fun hc142 h => ?_) (fun hc142 h => ?_)
      · obtain ⟨v5_167, hv5_167, h⟩ := lt_inv h
        refine r_iincN (pc := 167) (y := v5_167) (lv' := [(5, vI v5_167), (6, vI r4), (0, vR b 0), (1, vI v1), (2, vI v2), (3, vI v3), (4, vI v4)]) C 6 rfl hv5_167 dX12_match_167 (by decide) rfl ?_
        refine r_goto (pc := 170) (tgt := 91) C dX12_match_170 (by decide) ?_
        refine r_sub (lv' := [(0, vR b 0), (1, vI v1), (2, vI v2), (3, vI v3), (4, vI v4), (5, vI v5_167)]) [2, 3, 4, 5, 6, 0] rfl ?_
        exact hrec _ _ _ h
      · refine r_iload (pc := 145) C 0 rfl dX12_match_145 ?_
        refine r_aload_n (pc := 147) C 1 rfl rfl dX12_match_147 ?_
        refine r_getR (pc := 148) C fl_RX12_201 m_s0 (by decide) m_k62 m_r62 dX12_match_148 ?_
        refine r_iload_n (pc := 151) C 3 rfl rfl dX12_match_151 ?_
        refine r_iconst (pc := 152) C dX12_match_152 ?_
        refine r_iadd (pc := 153) C dX12_match_153 ?_
        refine r_iload_n (pc := 154) C 4 rfl rfl dX12_match_154 ?_
        refine r_iconst (pc := 155) C dX12_match_155 ?_
        refine r_iload (pc := 156) C 6 rfl dX12_match_156 ?_
        refine r_ishl (pc := 158) C dX12_match_158 ?_
        refine r_ior (pc := 159) C dX12_match_159 ?_
        obtain ⟨r6, hq6, h⟩ := bnd_inv h
        refine r_callS (pc := 160) (rest := [vR b 40, vI r4]) (st1 := [vI r6, vR b 40, vI r4]) C (mExtOK b) [vI (v2 + 1), vI (or32 v3 (shl32 1 v5))] (c_m_from l hq6) cl_RX12_487 rfl rfl ⟨Nat.le_of_ble_eq_true rfl, Nat.le_of_ble_eq_true rfl⟩ (Nat.le_of_ble_eq_true rfl) rfl rfl dX12_match_160 ?_
        obtain ⟨hi163, h⟩ := chk_inv h
        refine r_iald (pc := 163) C m_s40 (by decide) (by decide) hi163 rfl dX12_match_163 ?_
        refine r_iadd (pc := 164) C dX12_match_164 ?_
        obtain ⟨v4_165, hv4_165, h⟩ := lt_inv h
        refine r_topI hv4_165 ?_
        refine r_istore (pc := 165) (lv' := [(4, vI v4_165), (6, vI r4), (0, vR b 0), (1, vI v1), (2, vI v2), (3, vI v3), (5, vI v5)]) C dX12_match_165 (by decide) rfl ?_
        obtain ⟨v5_167, hv5_167, h⟩ := lt_inv h
        refine r_iincN (pc := 167) (y := v5_167) (lv' := [(5, vI v5_167), (4, vI v4_165), (6, vI r4), (0, vR b 0), (1, vI v1), (2, vI v2), (3, vI v3)]) C 6 rfl hv5_167 dX12_match_167 (by decide) rfl ?_
        refine r_goto (pc := 170) (tgt := 91) C dX12_match_170 (by decide) ?_
        refine r_sub (lv' := [(0, vR b 0), (1, vI v1), (2, vI v2), (3, vI v3), (4, vI v4_165), (5, vI v5_167)]) [3, 4, 5, 6, 1, 0] rfl ?_
        exact hrec _ _ _ h
set_option maxHeartbeats 4000000 in
theorem w_m_match_L91 (C : mCX p s m args meth c cX12_match 8 RX12 D E b) (hr : meth.sig.returnType = (some .int)) {r0 : Int} {M0 : Mem} {v1 : Int} {v2 : Int} {v3 : Int} {q : Int × Int × Mem} (hfol : ∀ (v4 : Int) (v5 : Int) (M : Mem), q = (v4, v5, M) → mWX p l e 6 134 s m args below meth c 8 D E b (some (vI r0)) M0 M 173 [(0, vR b 0), (1, vI v1), (2, vI v2), (3, vI v3), (4, vI v4)] []) : ∀ (n : Nat) (v4 : Int) (v5 : Int) (M : Mem), itr3 (m_match_L91 v1 v2 v3) n v4 v5 M = some q →
    mWX p l e 6 134 s m args below meth c 8 D E b (some (vI r0)) M0 M 91 [(0, vR b 0), (1, vI v1), (2, vI v2), (3, vI v3), (4, vI v4), (5, vI v5)] [] := by
  intro n
  induction n with
  | zero => exact fun _ _ _ h => itr_z h
  | succ n ih => exact fun _ _ _ h => w_m_match_L91_s C hr ih hfol h
set_option maxHeartbeats 4000000 in
set_option maxRecDepth 20000 in
theorem w_m_match_L67_s (C : mCX p s m args meth c cX12_match 8 RX12 D E b) (hr : meth.sig.returnType = (some .int)) {r0 : Int} {M0 : Mem} {v1 : Int} {v2 : Int} {v3 : Int} {M : Mem} {q : Int × Mem} {rec : Int → Mem → Option (Int × Mem)} (hrec : ∀ (v3 : Int) (M : Mem), rec v3 M = some q → mWX p l e 6 134 s m args below meth c 8 D E b (some (vI r0)) M0 M 67 [(0, vR b 0), (1, vI v1), (2, vI v2), (3, vI v3)] []) (hfol : ∀ (v3 : Int) (M : Mem), q = (v3, M) → mWX p l e 6 134 s m args below meth c 8 D E b (some (vI r0)) M0 M 191 [(0, vR b 0), (1, vI v1), (2, vI v2)] []) (h : m_match_L67 v1 v2 rec v3 M = some q) :
    mWX p l e 6 134 s m args below meth c 8 D E b (some (vI r0)) M0 M 67 [(0, vR b 0), (1, vI v1), (2, vI v2), (3, vI v3)] [] := by
  unfold m_match_L67 at h
  refine r_iload_n (pc := 67) C 3 rfl rfl dX12_match_67 ?_
  refine r_sipush (pc := 68) (j := 128) C (by decide +kernel) dX12_match_68 ?_
  refine r_icmp_ge (pc := 71) (tgt := 191) C h dX12_match_71 (by decide) (fun hc71 h => ?_) (fun hc71 h => ?_)
  · refine r_sub (lv' := [(0, vR b 0), (1, vI v1), (2, vI v2)]) [0, 1, 2] rfl ?_
    exact hfol _ _ (Option.some.inj h).symm
  · refine r_aload_n (pc := 74) C 0 rfl rfl dX12_match_74 ?_
    refine r_getR (pc := 75) C fl_RX12_201 m_s0 (by decide) m_k62 m_r62 dX12_match_75 ?_
    refine r_iload_n (pc := 78) C 2 rfl rfl dX12_match_78 ?_
    refine r_iconst (pc := 79) C dX12_match_79 ?_
    refine r_iadd (pc := 80) C dX12_match_80 ?_
    refine r_iload_n (pc := 81) C 3 rfl rfl dX12_match_81 ?_
    obtain ⟨r3, hq3, h⟩ := bnd_inv h
    refine r_callS (pc := 82) (rest := [vR b 40]) (st1 := [vI r3, vR b 40]) C (mExtOK b) [vI (v2 + 1), vI v3] (c_m_from l hq3) cl_RX12_487 rfl rfl ⟨Nat.le_of_ble_eq_true rfl, Nat.le_of_ble_eq_true rfl⟩ (Nat.le_of_ble_eq_true rfl) rfl rfl dX12_match_82 ?_
    obtain ⟨hi85, h⟩ := chk_inv h
    refine r_iald (pc := 85) C m_s40 (by decide) (by decide) hi85 rfl dX12_match_85 ?_
    obtain ⟨v4_86, hv4_86, h⟩ := lt_inv h
    refine r_topI hv4_86 ?_
    refine r_istore (pc := 86) (lv' := [(4, vI v4_86), (0, vR b 0), (1, vI v1), (2, vI v2), (3, vI v3)]) C dX12_match_86 (by decide) rfl ?_
    refine r_iconst (pc := 88) C dX12_match_88 ?_
    refine r_istore (pc := 89) (lv' := [(5, vI 0), (4, vI v4_86), (0, vR b 0), (1, vI v1), (2, vI v2), (3, vI v3)]) C dX12_match_89 (by decide) rfl ?_
    refine r_sub (lv' := [(0, vR b 0), (1, vI v1), (2, vI v2), (3, vI v3), (4, vI v4_86), (5, vI 0)]) [2, 3, 4, 5, 1, 0] rfl ?_
    obtain ⟨q7, hl7, h⟩ := bnd_inv h
    refine w_m_match_L91 C hr (fun v4_7 v5_7 M_7 hq => ?_) FUEL _ _ _ hl7
    have hq := hq.symm
    subst hq
    refine r_aload_n (pc := 173) C 0 rfl rfl dX12_match_173 ?_
    refine r_getR (pc := 174) C fl_RX12_201 m_s0 (by decide) m_k62 m_r62 dX12_match_174 ?_
    refine r_iload_n (pc := 177) C 2 rfl rfl dX12_match_177 ?_
    refine r_iload_n (pc := 178) C 3 rfl rfl dX12_match_178 ?_
    obtain ⟨r8, hq8, h⟩ := bnd_inv h
    refine r_callS (pc := 179) (rest := [vR b 40]) (st1 := [vI r8, vR b 40]) C (mExtOK b) [vI v2, vI v3] (c_m_from l hq8) cl_RX12_487 rfl rfl ⟨Nat.le_of_ble_eq_true rfl, Nat.le_of_ble_eq_true rfl⟩ (Nat.le_of_ble_eq_true rfl) rfl rfl dX12_match_179 ?_
    refine r_iload (pc := 182) C 4 rfl dX12_match_182 ?_
    obtain ⟨hi184, h⟩ := chk_inv h
    obtain ⟨M_184, hM_184, h⟩ := lt_inv h
    refine r_iast (pc := 184) C m_s40 (by decide) (by decide) hi184 rfl hM_184 dX12_match_184 ?_
    obtain ⟨v3_185, hv3_185, h⟩ := lt_inv h
    refine r_iincN (pc := 185) (y := v3_185) (lv' := [(3, vI v3_185), (0, vR b 0), (1, vI v1), (2, vI v2), (4, vI v4_7)]) C 3 rfl hv3_185 dX12_match_185 (by decide) rfl ?_
    refine r_goto (pc := 188) (tgt := 67) C dX12_match_188 (by decide) ?_
    refine r_sub (lv' := [(0, vR b 0), (1, vI v1), (2, vI v2), (3, vI v3_185)]) [1, 2, 3, 0] rfl ?_
    exact hrec _ _ h
set_option maxHeartbeats 4000000 in
theorem w_m_match_L67 (C : mCX p s m args meth c cX12_match 8 RX12 D E b) (hr : meth.sig.returnType = (some .int)) {r0 : Int} {M0 : Mem} {v1 : Int} {v2 : Int} {q : Int × Mem} (hfol : ∀ (v3 : Int) (M : Mem), q = (v3, M) → mWX p l e 6 134 s m args below meth c 8 D E b (some (vI r0)) M0 M 191 [(0, vR b 0), (1, vI v1), (2, vI v2)] []) : ∀ (n : Nat) (v3 : Int) (M : Mem), itr2 (m_match_L67 v1 v2) n v3 M = some q →
    mWX p l e 6 134 s m args below meth c 8 D E b (some (vI r0)) M0 M 67 [(0, vR b 0), (1, vI v1), (2, vI v2), (3, vI v3)] [] := by
  intro n
  induction n with
  | zero => exact fun _ _ h => itr_z h
  | succ n ih => exact fun _ _ h => w_m_match_L67_s C hr ih hfol h
set_option maxHeartbeats 4000000 in
set_option maxRecDepth 20000 in
theorem w_m_match_L61_s (C : mCX p s m args meth c cX12_match 8 RX12 D E b) (hr : meth.sig.returnType = (some .int)) {r0 : Int} {M0 : Mem} {v1 : Int} {v2 : Int} {M : Mem} {q : Int × Mem} {rec : Int → Mem → Option (Int × Mem)} (hrec : ∀ (v2 : Int) (M : Mem), rec v2 M = some q → mWX p l e 6 134 s m args below meth c 8 D E b (some (vI r0)) M0 M 61 [(0, vR b 0), (1, vI v1), (2, vI v2)] []) (hfol : ∀ (v2 : Int) (M : Mem), q = (v2, M) → mWX p l e 6 134 s m args below meth c 8 D E b (some (vI r0)) M0 M 197 [(0, vR b 0), (1, vI v1)] []) (h : m_match_L61 v1 rec v2 M = some q) :
    mWX p l e 6 134 s m args below meth c 8 D E b (some (vI r0)) M0 M 61 [(0, vR b 0), (1, vI v1), (2, vI v2)] [] := by
  unfold m_match_L61 at h
  refine r_iload_n (pc := 61) C 2 rfl rfl dX12_match_61 ?_
  refine r_if_lt (pc := 62) (tgt := 197) C h dX12_match_62 (by decide) (fun hc62 h => ?_) (fun hc62 h => ?_)
  · refine r_sub (lv' := [(0, vR b 0), (1, vI v1)]) [0, 1] rfl ?_
    exact hfol _ _ (Option.some.inj h).symm
  · refine r_iconst (pc := 65) C dX12_match_65 ?_
    refine r_istore_n (pc := 66) (lv' := [(3, vI 0), (0, vR b 0), (1, vI v1), (2, vI v2)]) C rfl dX12_match_66 (by decide) rfl ?_
    refine r_sub (lv' := [(0, vR b 0), (1, vI v1), (2, vI v2), (3, vI 0)]) [1, 2, 3, 0] rfl ?_
    obtain ⟨q9, hl9, h⟩ := bnd_inv h
    refine w_m_match_L67 C hr (fun v3_9 M_9 hq => ?_) FUEL _ _ hl9
    have hq := hq.symm
    subst hq
    obtain ⟨v2_191, hv2_191, h⟩ := lt_inv h
    refine r_iincN (pc := 191) (y := v2_191) (lv' := [(2, vI v2_191), (0, vR b 0), (1, vI v1)]) C 2 rfl hv2_191 dX12_match_191 (by decide) rfl ?_
    refine r_goto (pc := 194) (tgt := 61) C dX12_match_194 (by decide) ?_
    refine r_sub (lv' := [(0, vR b 0), (1, vI v1), (2, vI v2_191)]) [1, 2, 0] rfl ?_
    exact hrec _ _ h
set_option maxHeartbeats 4000000 in
theorem w_m_match_L61 (C : mCX p s m args meth c cX12_match 8 RX12 D E b) (hr : meth.sig.returnType = (some .int)) {r0 : Int} {M0 : Mem} {v1 : Int} {q : Int × Mem} (hfol : ∀ (v2 : Int) (M : Mem), q = (v2, M) → mWX p l e 6 134 s m args below meth c 8 D E b (some (vI r0)) M0 M 197 [(0, vR b 0), (1, vI v1)] []) : ∀ (n : Nat) (v2 : Int) (M : Mem), itr2 (m_match_L61 v1) n v2 M = some q →
    mWX p l e 6 134 s m args below meth c 8 D E b (some (vI r0)) M0 M 61 [(0, vR b 0), (1, vI v1), (2, vI v2)] [] := by
  intro n
  induction n with
  | zero => exact fun _ _ h => itr_z h
  | succ n ih => exact fun _ _ h => w_m_match_L61_s C hr ih hfol h
set_option maxHeartbeats 4000000 in
set_option maxRecDepth 20000 in
theorem w_m_match_L240_s (C : mCX p s m args meth c cX12_match 8 RX12 D E b) (hr : meth.sig.returnType = (some .int)) {r0 : Int} {M0 : Mem} {v1 : Int} {v2 : Int} {v4 : Int} {v5 : Int} {v3 : Int} {v6 : Int} {M : Mem} {q : Int × Int × Mem} {rec : Int → Int → Mem → Option (Int × Int × Mem)} (hrec : ∀ (v3 : Int) (v6 : Int) (M : Mem), rec v3 v6 M = some q → mWX p l e 6 134 s m args below meth c 8 D E b (some (vI r0)) M0 M 240 [(0, vR b 0), (1, vI v1), (2, vI v2), (3, vI v3), (4, vI v4), (5, vI v5), (6, vI v6)] []) (hfol : ∀ (v3 : Int) (v6 : Int) (M : Mem), q = (v3, v6, M) → mWX p l e 6 134 s m args below meth c 8 D E b (some (vI r0)) M0 M 328 [(0, vR b 0), (1, vI v1), (2, vI v2), (3, vI v3), (4, vI v4)] []) (h : m_match_L240 v1 v2 v4 v5 rec v3 v6 M = some q) :
    mWX p l e 6 134 s m args below meth c 8 D E b (some (vI r0)) M0 M 240 [(0, vR b 0), (1, vI v1), (2, vI v2), (3, vI v3), (4, vI v4), (5, vI v5), (6, vI v6)] [] := by
  unfold m_match_L240 at h
  refine r_iload (pc := 240) C 6 rfl dX12_match_240 ?_
  refine r_aload_n (pc := 242) C 0 rfl rfl dX12_match_242 ?_
  refine r_getR (pc := 243) C fl_RX12_54 m_s0 (by decide) m_k14 m_r14 dX12_match_243 ?_
  refine r_aload_n (pc := 246) C 0 rfl rfl dX12_match_246 ?_
  refine r_getI (pc := 247) C fl_RX12_51 m_s0 (by decide) m_k13 dX12_match_247 ?_
  obtain ⟨hi250, h⟩ := chk_inv h
  refine r_iald (pc := 250) C m_s2 (by decide) (by decide) hi250 rfl dX12_match_250 ?_
  refine r_icmp_ge (pc := 251) (tgt := 328) C h dX12_match_251 (by decide) (fun hc251 h => ?_) (fun hc251 h => ?_)
  · refine r_sub (lv' := [(0, vR b 0), (1, vI v1), (2, vI v2), (3, vI v3), (4, vI v4)]) [0, 1, 2, 3, 4] rfl ?_
    exact hfol _ _ _ (Option.some.inj h).symm
  · refine r_iload_n (pc := 254) C 3 rfl rfl dX12_match_254 ?_
    refine r_iconst (pc := 255) C dX12_match_255 ?_
    refine r_icmp_ne (pc := 256) (tgt := 328) C h dX12_match_256 (by decide) (fun hc256 h => ?_) (fun hc256 h => ?_)
    · refine r_sub (lv' := [(0, vR b 0), (1, vI v1), (2, vI v2), (3, vI v3), (4, vI v4)]) [0, 1, 2, 3, 4] rfl ?_
      exact hfol _ _ _ (Option.some.inj h).symm
    · refine r_aload_n (pc := 259) C 0 rfl rfl dX12_match_259 ?_
      refine r_getR (pc := 260) C fl_RX12_201 m_s0 (by decide) m_k62 m_r62 dX12_match_260 ?_
      refine r_iload (pc := 263) C 4 rfl dX12_match_263 ?_
      refine r_iconst (pc := 265) C dX12_match_265 ?_
      refine r_iadd (pc := 266) C dX12_match_266 ?_
      refine r_iload_n (pc := 267) C 2 rfl rfl dX12_match_267 ?_
      obtain ⟨r12, hq12, h⟩ := bnd_inv h
      refine r_callS (pc := 268) (rest := [vR b 40]) (st1 := [vI r12, vR b 40]) C (mExtOK b) [vI (v4 + 1), vI v2] (c_m_from l hq12) cl_RX12_487 rfl rfl ⟨Nat.le_of_ble_eq_true rfl, Nat.le_of_ble_eq_true rfl⟩ (Nat.le_of_ble_eq_true rfl) rfl rfl dX12_match_268 ?_
      obtain ⟨hi271, h⟩ := chk_inv h
      refine r_iald (pc := 271) C m_s40 (by decide) (by decide) hi271 rfl dX12_match_271 ?_
      refine r_iload (pc := 272) C 5 rfl dX12_match_272 ?_
      refine r_icmp_eq (pc := 274) (tgt := 328) C h dX12_match_274 (by decide) (fun hc274 h => ?_) (fun hc274 h => ?_)
      · refine r_sub (lv' := [(0, vR b 0), (1, vI v1), (2, vI v2), (3, vI v3), (4, vI v4)]) [0, 1, 2, 3, 4] rfl ?_
        exact hfol _ _ _ (Option.some.inj h).symm
      · refine r_aload_n (pc := 277) C 0 rfl rfl dX12_match_277 ?_
        refine r_iload (pc := 278) C 4 rfl dX12_match_278 ?_
        refine r_iload (pc := 280) C 6 rfl dX12_match_280 ?_
        refine r_iload_n (pc := 282) C 2 rfl rfl dX12_match_282 ?_
        obtain ⟨r13, M13, hq13, h⟩ := bnd2_inv h
        refine r_callV (pc := 283) (rest := []) (st1 := [vI r13]) C (mExtOK b) [vI v4, vI v6, vI v2] (c_m_fits l hq13) cl_RX12_490 m_s0 (by decide) rfl rfl rfl rfl ⟨Nat.le_of_ble_eq_true rfl, Nat.le_of_ble_eq_true rfl⟩ (Nat.le_of_ble_eq_true rfl) rfl rfl dX12_match_283 ?_
        refine r_istore (pc := 286) (lv' := [(7, vI r13), (0, vR b 0), (1, vI v1), (2, vI v2), (3, vI v3), (4, vI v4), (5, vI v5), (6, vI v6)]) C dX12_match_286 (by decide) rfl ?_
        refine r_iload (pc := 288) C 0 rfl dX12_match_288 ?_
        refine r_if_le (pc := 290) (tgt := 322) C h dX12_match_290 (by decide) (fun hc290 h => ?_) (fun hc290 h => ?_)
        · obtain ⟨v6_322, hv6_322, h⟩ := lt_inv h
          refine r_iincN (pc := 322) (y := v6_322) (lv' := [(6, vI v6_322), (7, vI r13), (0, vR b 0), (1, vI v1), (2, vI v2), (3, vI v3), (4, vI v4), (5, vI v5)]) C 7 rfl hv6_322 dX12_match_322 (by decide) rfl ?_
          refine r_goto (pc := 325) (tgt := 240) C dX12_match_325 (by decide) ?_
          refine r_sub (lv' := [(0, vR b 0), (1, vI v1), (2, vI v2), (3, vI v3), (4, vI v4), (5, vI v5), (6, vI v6_322)]) [2, 3, 4, 5, 6, 7, 0] rfl ?_
          exact hrec _ _ _ h
        · refine r_iload (pc := 293) C 0 rfl dX12_match_293 ?_
          refine r_aload_n (pc := 295) C 1 rfl rfl dX12_match_295 ?_
          refine r_getR (pc := 296) C fl_RX12_201 m_s0 (by decide) m_k62 m_r62 dX12_match_296 ?_
          refine r_iload (pc := 299) C 5 rfl dX12_match_299 ?_
          refine r_iconst (pc := 301) C dX12_match_301 ?_
          refine r_iadd (pc := 302) C dX12_match_302 ?_
          refine r_iload_n (pc := 303) C 3 rfl rfl dX12_match_303 ?_
          refine r_iconst (pc := 304) C dX12_match_304 ?_
          refine r_iload (pc := 305) C 7 rfl dX12_match_305 ?_
          refine r_ishl (pc := 307) C dX12_match_307 ?_
          refine r_ior (pc := 308) C dX12_match_308 ?_
          obtain ⟨r14, hq14, h⟩ := bnd_inv h
          refine r_callS (pc := 309) (rest := [vR b 40, vI r13]) (st1 := [vI r14, vR b 40, vI r13]) C (mExtOK b) [vI (v4 + 1), vI (or32 v2 (shl32 1 v6))] (c_m_from l hq14) cl_RX12_487 rfl rfl ⟨Nat.le_of_ble_eq_true rfl, Nat.le_of_ble_eq_true rfl⟩ (Nat.le_of_ble_eq_true rfl) rfl rfl dX12_match_309 ?_
          obtain ⟨hi312, h⟩ := chk_inv h
          refine r_iald (pc := 312) C m_s40 (by decide) (by decide) hi312 rfl dX12_match_312 ?_
          refine r_iadd (pc := 313) C dX12_match_313 ?_
          refine r_iload (pc := 314) C 6 rfl dX12_match_314 ?_
          refine r_icmp_ne (pc := 316) (tgt := 322) C h dX12_match_316 (by decide) (fun hc316 h => ?_) (fun hc316 h => ?_)
          · obtain ⟨v6_322, hv6_322, h⟩ := lt_inv h
            refine r_iincN (pc := 322) (y := v6_322) (lv' := [(6, vI v6_322), (7, vI r13), (0, vR b 0), (1, vI v1), (2, vI v2), (3, vI v3), (4, vI v4), (5, vI v5)]) C 7 rfl hv6_322 dX12_match_322 (by decide) rfl ?_
            refine r_goto (pc := 325) (tgt := 240) C dX12_match_325 (by decide) ?_
            refine r_sub (lv' := [(0, vR b 0), (1, vI v1), (2, vI v2), (3, vI v3), (4, vI v4), (5, vI v5), (6, vI v6_322)]) [2, 3, 4, 5, 6, 7, 0] rfl ?_
            exact hrec _ _ _ h
          · refine r_iload (pc := 319) C 7 rfl dX12_match_319 ?_
            refine r_istore_n (pc := 321) (lv' := [(3, vI v6), (7, vI r13), (0, vR b 0), (1, vI v1), (2, vI v2), (4, vI v4), (5, vI v5), (6, vI v6)]) C rfl dX12_match_321 (by decide) rfl ?_
            obtain ⟨v6_322, hv6_322, h⟩ := lt_inv h
            refine r_iincN (pc := 322) (y := v6_322) (lv' := [(6, vI v6_322), (3, vI v6), (7, vI r13), (0, vR b 0), (1, vI v1), (2, vI v2), (4, vI v4), (5, vI v5)]) C 7 rfl hv6_322 dX12_match_322 (by decide) rfl ?_
            refine r_goto (pc := 325) (tgt := 240) C dX12_match_325 (by decide) ?_
            refine r_sub (lv' := [(0, vR b 0), (1, vI v1), (2, vI v2), (3, vI v6), (4, vI v4), (5, vI v5), (6, vI v6_322)]) [3, 4, 5, 1, 6, 7, 0] rfl ?_
            exact hrec _ _ _ h
set_option maxHeartbeats 4000000 in
theorem w_m_match_L240 (C : mCX p s m args meth c cX12_match 8 RX12 D E b) (hr : meth.sig.returnType = (some .int)) {r0 : Int} {M0 : Mem} {v1 : Int} {v2 : Int} {v4 : Int} {v5 : Int} {q : Int × Int × Mem} (hfol : ∀ (v3 : Int) (v6 : Int) (M : Mem), q = (v3, v6, M) → mWX p l e 6 134 s m args below meth c 8 D E b (some (vI r0)) M0 M 328 [(0, vR b 0), (1, vI v1), (2, vI v2), (3, vI v3), (4, vI v4)] []) : ∀ (n : Nat) (v3 : Int) (v6 : Int) (M : Mem), itr3 (m_match_L240 v1 v2 v4 v5) n v3 v6 M = some q →
    mWX p l e 6 134 s m args below meth c 8 D E b (some (vI r0)) M0 M 240 [(0, vR b 0), (1, vI v1), (2, vI v2), (3, vI v3), (4, vI v4), (5, vI v5), (6, vI v6)] [] := by
  intro n
  induction n with
  | zero => exact fun _ _ _ h => itr_z h
  | succ n ih => exact fun _ _ _ h => w_m_match_L240_s C hr ih hfol h
set_option maxHeartbeats 4000000 in
set_option maxRecDepth 20000 in
theorem w_m_match_L216_s (C : mCX p s m args meth c cX12_match 8 RX12 D E b) (hr : meth.sig.returnType = (some .int)) {r0 : Int} {M0 : Mem} {v1 : Int} {v2 : Int} {v3 : Int} {v4 : Int} {M : Mem} {q : Int × Int × Int × Mem} {rec : Int → Int → Int → Mem → Option (Int × Int × Int × Mem)} (hrec : ∀ (v2 : Int) (v3 : Int) (v4 : Int) (M : Mem), rec v2 v3 v4 M = some q → mWX p l e 6 134 s m args below meth c 8 D E b (some (vI r0)) M0 M 216 [(0, vR b 0), (1, vI v1), (2, vI v2), (3, vI v3), (4, vI v4)] []) (hfol : ∀ (v2 : Int) (v3 : Int) (v4 : Int) (M : Mem), q = (v2, v3, v4, M) → mWX p l e 6 134 s m args below meth c 8 D E b (some (vI r0)) M0 M 349 [(3, vI v3)] []) (h : m_match_L216 v1 rec v2 v3 v4 M = some q) :
    mWX p l e 6 134 s m args below meth c 8 D E b (some (vI r0)) M0 M 216 [(0, vR b 0), (1, vI v1), (2, vI v2), (3, vI v3), (4, vI v4)] [] := by
  unfold m_match_L216 at h
  refine r_iload (pc := 216) C 4 rfl dX12_match_216 ?_
  refine r_iload_n (pc := 218) C 1 rfl rfl dX12_match_218 ?_
  refine r_icmp_gt (pc := 219) (tgt := 349) C h dX12_match_219 (by decide) (fun hc219 h => ?_) (fun hc219 h => ?_)
  · refine r_sub (lv' := [(3, vI v3)]) [3] rfl ?_
    exact hfol _ _ _ _ (Option.some.inj h).symm
  · refine r_iconst (pc := 222) C dX12_match_222 ?_
    refine r_istore_n (pc := 223) (lv' := [(3, vI (-1)), (0, vR b 0), (1, vI v1), (2, vI v2), (4, vI v4)]) C rfl dX12_match_223 (by decide) rfl ?_
    refine r_aload_n (pc := 224) C 1 rfl rfl dX12_match_224 ?_
    refine r_getR (pc := 225) C fl_RX12_201 m_s0 (by decide) m_k62 m_r62 dX12_match_225 ?_
    refine r_iload (pc := 228) C 4 rfl dX12_match_228 ?_
    refine r_iload_n (pc := 230) C 3 rfl rfl dX12_match_230 ?_
    obtain ⟨r11, hq11, h⟩ := bnd_inv h
    refine r_callS (pc := 231) (rest := [vR b 40]) (st1 := [vI r11, vR b 40]) C (mExtOK b) [vI v4, vI v2] (c_m_from l hq11) cl_RX12_487 rfl rfl ⟨Nat.le_of_ble_eq_true rfl, Nat.le_of_ble_eq_true rfl⟩ (Nat.le_of_ble_eq_true rfl) rfl rfl dX12_match_231 ?_
    obtain ⟨hi234, h⟩ := chk_inv h
    refine r_iald (pc := 234) C m_s40 (by decide) (by decide) hi234 rfl dX12_match_234 ?_
    obtain ⟨v5_235, hv5_235, h⟩ := lt_inv h
    refine r_topI hv5_235 ?_
    refine r_istore (pc := 235) (lv' := [(5, vI v5_235), (3, vI (-1)), (0, vR b 0), (1, vI v1), (2, vI v2), (4, vI v4)]) C dX12_match_235 (by decide) rfl ?_
    refine r_iconst (pc := 237) C dX12_match_237 ?_
    refine r_istore (pc := 238) (lv' := [(6, vI 0), (5, vI v5_235), (3, vI (-1)), (0, vR b 0), (1, vI v1), (2, vI v2), (4, vI v4)]) C dX12_match_238 (by decide) rfl ?_
    refine r_sub (lv' := [(0, vR b 0), (1, vI v1), (2, vI v2), (3, vI (-1)), (4, vI v4), (5, vI v5_235), (6, vI 0)]) [3, 4, 5, 2, 6, 1, 0] rfl ?_
    obtain ⟨q15, hl15, h⟩ := bnd_inv h
    refine w_m_match_L240 C hr (fun v3_15 v6_15 M_15 hq => ?_) FUEL _ _ _ hl15
    have hq := hq.symm
    subst hq
    refine r_iload_n (pc := 328) C 2 rfl rfl dX12_match_328 ?_
    refine r_iload_n (pc := 329) C 3 rfl rfl dX12_match_329 ?_
    refine r_iconst (pc := 330) C dX12_match_330 ?_
    refine r_icmp_ne (pc := 331) (tgt := 338) C h dX12_match_331 (by decide) (fun hc331 h => ?_) (fun hc331 h => ?_)
    · refine r_iconst (pc := 338) C dX12_match_338 ?_
      refine r_iload_n (pc := 339) C 3 rfl rfl dX12_match_339 ?_
      refine r_ishl (pc := 340) C dX12_match_340 ?_
      refine r_ior (pc := 341) C dX12_match_341 ?_
      obtain ⟨v2_342, hv2_342, h⟩ := lt_inv h
      refine r_topI hv2_342 ?_
      refine r_istore_n (pc := 342) (lv' := [(2, vI v2_342), (0, vR b 0), (1, vI v1), (3, vI v3_15), (4, vI v4)]) C rfl dX12_match_342 (by decide) rfl ?_
      obtain ⟨v4_343, hv4_343, h⟩ := lt_inv h
      refine r_iincN (pc := 343) (y := v4_343) (lv' := [(4, vI v4_343), (2, vI v2_342), (0, vR b 0), (1, vI v1), (3, vI v3_15)]) C 4 rfl hv4_343 dX12_match_343 (by decide) rfl ?_
      refine r_goto (pc := 346) (tgt := 216) C dX12_match_346 (by decide) ?_
      refine r_sub (lv' := [(0, vR b 0), (1, vI v1), (2, vI v2_342), (3, vI v3_15), (4, vI v4_343)]) [2, 3, 1, 4, 0] rfl ?_
      exact hrec _ _ _ _ h
    · refine r_iconst (pc := 334) C dX12_match_334 ?_
      refine r_goto (pc := 335) (tgt := 341) C dX12_match_335 (by decide) ?_
      refine r_ior (pc := 341) C dX12_match_341 ?_
      obtain ⟨v2_342, hv2_342, h⟩ := lt_inv h
      refine r_topI hv2_342 ?_
      refine r_istore_n (pc := 342) (lv' := [(2, vI v2_342), (0, vR b 0), (1, vI v1), (3, vI v3_15), (4, vI v4)]) C rfl dX12_match_342 (by decide) rfl ?_
      obtain ⟨v4_343, hv4_343, h⟩ := lt_inv h
      refine r_iincN (pc := 343) (y := v4_343) (lv' := [(4, vI v4_343), (2, vI v2_342), (0, vR b 0), (1, vI v1), (3, vI v3_15)]) C 4 rfl hv4_343 dX12_match_343 (by decide) rfl ?_
      refine r_goto (pc := 346) (tgt := 216) C dX12_match_346 (by decide) ?_
      refine r_sub (lv' := [(0, vR b 0), (1, vI v1), (2, vI v2_342), (3, vI v3_15), (4, vI v4_343)]) [2, 3, 1, 4, 0] rfl ?_
      exact hrec _ _ _ _ h
set_option maxHeartbeats 4000000 in
theorem w_m_match_L216 (C : mCX p s m args meth c cX12_match 8 RX12 D E b) (hr : meth.sig.returnType = (some .int)) {r0 : Int} {M0 : Mem} {v1 : Int} {q : Int × Int × Int × Mem} (hfol : ∀ (v2 : Int) (v3 : Int) (v4 : Int) (M : Mem), q = (v2, v3, v4, M) → mWX p l e 6 134 s m args below meth c 8 D E b (some (vI r0)) M0 M 349 [(3, vI v3)] []) : ∀ (n : Nat) (v2 : Int) (v3 : Int) (v4 : Int) (M : Mem), itr4 (m_match_L216 v1) n v2 v3 v4 M = some q →
    mWX p l e 6 134 s m args below meth c 8 D E b (some (vI r0)) M0 M 216 [(0, vR b 0), (1, vI v1), (2, vI v2), (3, vI v3), (4, vI v4)] [] := by
  intro n
  induction n with
  | zero => exact fun _ _ _ _ h => itr_z h
  | succ n ih => exact fun _ _ _ _ h => w_m_match_L216_s C hr ih hfol h
set_option maxHeartbeats 4000000 in
set_option maxRecDepth 20000 in
theorem w_m_match_B15 (C : mCX p s m args meth c cX12_match 8 RX12 D E b) (hr : meth.sig.returnType = (some .int)) {r0 : Int} {M0 : Mem} {M : Mem} {v1 : Int} (h : m_match_B15 v1 M = some (r0, M0)) :
    mWX p l e 6 134 s m args below meth c 8 D E b (some (vI r0)) M0 M 15 [(0, vR b 0), (1, vI v1)] [] := by
  unfold m_match_B15 at h
  refine r_iconst (pc := 15) C dX12_match_15 ?_
  refine r_istore_n (pc := 16) (lv' := [(2, vI 0), (0, vR b 0), (1, vI v1)]) C rfl dX12_match_16 (by decide) rfl ?_
  refine r_sub (lv' := [(0, vR b 0), (1, vI v1), (2, vI 0)]) [1, 2, 0] rfl ?_
  obtain ⟨q2, hl2, h⟩ := bnd_inv h
  refine w_m_match_L17 C hr (fun v2_2 M_2 hq => ?_) FUEL _ _ hl2
  have hq := hq.symm
  subst hq
  refine r_aload_n (pc := 49) C 0 rfl rfl dX12_match_49 ?_
  refine r_getR (pc := 50) C fl_RX12_69 m_s0 (by decide) m_k19 m_r19 dX12_match_50 ?_
  refine r_aload_n (pc := 53) C 0 rfl rfl dX12_match_53 ?_
  refine r_getI (pc := 54) C fl_RX12_51 m_s0 (by decide) m_k13 dX12_match_54 ?_
  obtain ⟨hi57, h⟩ := chk_inv h
  refine r_iald (pc := 57) C m_s7 (by decide) (by decide) hi57 rfl dX12_match_57 ?_
  refine r_iconst (pc := 58) C dX12_match_58 ?_
  refine r_isub (pc := 59) C dX12_match_59 ?_
  obtain ⟨v2_60, hv2_60, h⟩ := lt_inv h
  refine r_topI hv2_60 ?_
  refine r_istore_n (pc := 60) (lv' := [(2, vI v2_60), (0, vR b 0), (1, vI v1)]) C rfl dX12_match_60 (by decide) rfl ?_
  refine r_sub (lv' := [(0, vR b 0), (1, vI v1), (2, vI v2_60)]) [1, 2, 0] rfl ?_
  obtain ⟨q10, hl10, h⟩ := bnd_inv h
  refine w_m_match_L61 C hr (fun v2_10 M_10 hq => ?_) FUEL _ _ hl10
  have hq := hq.symm
  subst hq
  refine r_iload_n (pc := 197) C 1 rfl rfl dX12_match_197 ?_
  refine r_iconst (pc := 198) C dX12_match_198 ?_
  refine r_icmp_ne (pc := 199) (tgt := 209) C h dX12_match_199 (by decide) (fun hc199 h => ?_) (fun hc199 h => ?_)
  · refine r_iconst (pc := 209) C dX12_match_209 ?_
    refine r_istore_n (pc := 210) (lv' := [(2, vI 0), (0, vR b 0), (1, vI v1)]) C rfl dX12_match_210 (by decide) rfl ?_
    refine r_iconst (pc := 211) C dX12_match_211 ?_
    refine r_istore_n (pc := 212) (lv' := [(3, vI (-1)), (2, vI 0), (0, vR b 0), (1, vI v1)]) C rfl dX12_match_212 (by decide) rfl ?_
    refine r_iconst (pc := 213) C dX12_match_213 ?_
    refine r_istore (pc := 214) (lv' := [(4, vI 0), (3, vI (-1)), (2, vI 0), (0, vR b 0), (1, vI v1)]) C dX12_match_214 (by decide) rfl ?_
    refine r_sub (lv' := [(0, vR b 0), (1, vI v1), (2, vI 0), (3, vI (-1)), (4, vI 0)]) [3, 4, 2, 1, 0] rfl ?_
    obtain ⟨q16, hl16, h⟩ := bnd_inv h
    refine w_m_match_L216 C hr (fun v2_16 v3_16 v4_16 M_16 hq => ?_) FUEL _ _ _ _ hl16
    have hq := hq.symm
    subst hq
    refine r_iload_n (pc := 349) C 0 rfl rfl dX12_match_349 ?_
    have e := Option.some.inj h
    exact r_iret (pc := 350) C hr (congrArg (fun z => some (vI z)) (Prod.mk.inj e).1.symm) (Prod.mk.inj e).2.symm dX12_match_350
  · refine r_aload_n (pc := 202) C 0 rfl rfl dX12_match_202 ?_
    refine r_getR (pc := 203) C fl_RX12_201 m_s0 (by decide) m_k62 m_r62 dX12_match_203 ?_
    refine r_iconst (pc := 206) C dX12_match_206 ?_
    refine r_iald (pc := 207) C m_s40 (by decide) (by decide) (by decide) rfl dX12_match_207 ?_
    have e := Option.some.inj h
    exact r_iret (pc := 208) C hr (congrArg (fun z => some (vI z)) (Prod.mk.inj e).1.symm) (Prod.mk.inj e).2.symm dX12_match_208
set_option maxHeartbeats 4000000 in
set_option maxRecDepth 20000 in
theorem c_m_match (l : Launch) {x1 : Int} {M : Mem} {r0 : Int} {M0 : Mem} (h : m_match x1 M = some (r0, M0)) : Ct l yX12_match cX12_match 8 (some .int) 6 134 vwCl mSh mN mRf mExt (fun b => [vR b 0, vI x1]) M (fun b => (some (vI r0))) M0 := by
  refine Ct_of mExtOK (by decide) (fun b => Nat.le_of_ble_eq_true rfl) ?_
  intro p e s m args below meth c D E b C hr
  unfold m_match at h
  refine (show mWX p l e 6 134 s m args below meth c 8 D E b (some (vI r0)) M0 M 0 [(0, vR b 0), (1, vI x1)] [] from ?_)
  refine r_iload_n (pc := 0) C 1 rfl rfl dX12_match_0 ?_
  refine r_iconst (pc := 1) C dX12_match_1 ?_
  refine r_icmp_eq (pc := 2) (tgt := 15) C h dX12_match_2 (by decide) (fun hc2 h => ?_) (fun hc2 h => ?_)
  · refine r_sub (lv' := [(0, vR b 0), (1, vI x1)]) [0, 1] rfl ?_
    exact w_m_match_B15 C hr h
  · refine r_aload_n (pc := 5) C 0 rfl rfl dX12_match_5 ?_
    refine r_iload_n (pc := 6) C 1 rfl rfl dX12_match_6 ?_
    obtain ⟨r17, hq17, h⟩ := bnd_inv h
    refine r_callV (pc := 7) (rest := []) (st1 := [vB r17]) C (mExtOK b) [vI x1] (c_m_isSaying l hq17) cl_RX12_470 m_s0 (by decide) rfl rfl rfl rfl ⟨Nat.le_of_ble_eq_true rfl, Nat.le_of_ble_eq_true rfl⟩ (Nat.le_of_ble_eq_true rfl) rfl rfl dX12_match_7 ?_
    refine r_if_neB (pc := 10) (tgt := 15) C h dX12_match_10 (by decide) (fun hc10 h => ?_) (fun hc10 h => ?_)
    · refine r_sub (lv' := [(0, vR b 0), (1, vI x1)]) [0, 1] rfl ?_
      exact w_m_match_B15 C hr h
    · refine r_iconst (pc := 13) C dX12_match_13 ?_
      have e := Option.some.inj h
      exact r_iret (pc := 14) C hr (congrArg (fun z => some (vI z)) (Prod.mk.inj e).1.symm) (Prod.mk.inj e).2.symm dX12_match_14
set_option maxHeartbeats 4000000 in
set_option maxRecDepth 20000 in
theorem w_m_choir_L26_B67 (C : mCX p s m args meth c cX12_choir 5 RX12 D E b) (hr : meth.sig.returnType = (some .int)) {r0 : Int} {M0 : Mem} {M : Mem} {v1 : Int} {v2 : Int} {v3 : Int} {v4 : Int} {q : Int × Int × Mem} {rec : Int → Int → Mem → Option (Int × Int × Mem)} (hrec : ∀ (v3 : Int) (v4 : Int) (M : Mem), rec v3 v4 M = some q → mWX p l e 8 184 s m args below meth c 5 D E b (some (vI r0)) M0 M 26 [(0, vR b 0), (1, vI v1), (2, vI v2), (3, vI v3), (4, vI v4)] []) (hfol : ∀ (v3 : Int) (v4 : Int) (M : Mem), q = (v3, v4, M) → mWX p l e 8 184 s m args below meth c 5 D E b (some (vI r0)) M0 M 100 [(3, vI v3)] []) (h : m_choir_L26_B67 rec v1 v2 v3 v4 M = some q) :
    mWX p l e 8 184 s m args below meth c 5 D E b (some (vI r0)) M0 M 67 [(0, vR b 0), (1, vI v1), (2, vI v2), (3, vI v3), (4, vI v4)] [] := by
  unfold m_choir_L26_B67 at h
  refine r_aload_n (pc := 67) C 0 rfl rfl dX12_choir_67 ?_
  refine r_iconst (pc := 68) C dX12_choir_68 ?_
  refine r_iconst (pc := 69) C dX12_choir_69 ?_
  obtain ⟨M4, hq4, h⟩ := bnd_inv h
  refine r_callV (pc := 70) (rest := []) (st1 := []) C (mExtOK b) [vI 1, vI 0] (c_m_copies l hq4) cl_RX12_396 m_s0 (by decide) rfl rfl rfl rfl ⟨Nat.le_of_ble_eq_true rfl, Nat.le_of_ble_eq_true rfl⟩ (Nat.le_of_ble_eq_true rfl) rfl rfl dX12_choir_70 ?_
  refine r_aload_n (pc := 73) C 0 rfl rfl dX12_choir_73 ?_
  refine r_iload_n (pc := 74) C 1 rfl rfl dX12_choir_74 ?_
  refine r_iload (pc := 75) C 4 rfl dX12_choir_75 ?_
  obtain ⟨M5, hq5, h⟩ := bnd_inv h
  refine r_callV (pc := 77) (rest := []) (st1 := []) C (mExtOK b) [vI v1, vI v4] (c_m_goesOn_ l hq5) cl_RX12_485 m_s0 (by decide) rfl rfl rfl rfl ⟨Nat.le_of_ble_eq_true rfl, Nat.le_of_ble_eq_true rfl⟩ (Nat.le_of_ble_eq_true rfl) rfl rfl dX12_choir_77 ?_
  refine r_aload_n (pc := 80) C 0 rfl rfl dX12_choir_80 ?_
  refine r_iconst (pc := 81) C dX12_choir_81 ?_
  refine r_iconst (pc := 82) C dX12_choir_82 ?_
  refine r_iconst (pc := 83) C dX12_choir_83 ?_
  obtain ⟨r6, hq6, h⟩ := bnd_inv h
  refine r_callV (pc := 84) (rest := []) (st1 := [vI r6]) C (mExtOK b) [vI 1, vI 4, vI 4] (c_m_manyOf l hq6) cl_RX12_458 m_s0 (by decide) rfl rfl rfl rfl ⟨Nat.le_of_ble_eq_true rfl, Nat.le_of_ble_eq_true rfl⟩ (Nat.le_of_ble_eq_true rfl) rfl rfl dX12_choir_84 ?_
  refine r_iload_n (pc := 87) C 2 rfl rfl dX12_choir_87 ?_
  refine r_icmp_ne (pc := 88) (tgt := 94) C h dX12_choir_88 (by decide) (fun hc88 h => ?_) (fun hc88 h => ?_)
  · obtain ⟨v4_94, hv4_94, h⟩ := lt_inv h
    refine r_iincN (pc := 94) (y := v4_94) (lv' := [(4, vI v4_94), (0, vR b 0), (1, vI v1), (2, vI v2), (3, vI v3)]) C 4 rfl hv4_94 dX12_choir_94 (by decide) rfl ?_
    refine r_goto (pc := 97) (tgt := 26) C dX12_choir_97 (by decide) ?_
    refine r_sub (lv' := [(0, vR b 0), (1, vI v1), (2, vI v2), (3, vI v3), (4, vI v4_94)]) [1, 2, 3, 4, 0] rfl ?_
    exact hrec _ _ _ h
  · refine r_iload (pc := 91) C 4 rfl dX12_choir_91 ?_
    refine r_istore_n (pc := 93) (lv' := [(3, vI v4), (0, vR b 0), (1, vI v1), (2, vI v2), (4, vI v4)]) C rfl dX12_choir_93 (by decide) rfl ?_
    obtain ⟨v4_94, hv4_94, h⟩ := lt_inv h
    refine r_iincN (pc := 94) (y := v4_94) (lv' := [(4, vI v4_94), (3, vI v4), (0, vR b 0), (1, vI v1), (2, vI v2)]) C 4 rfl hv4_94 dX12_choir_94 (by decide) rfl ?_
    refine r_goto (pc := 97) (tgt := 26) C dX12_choir_97 (by decide) ?_
    refine r_sub (lv' := [(0, vR b 0), (1, vI v1), (2, vI v2), (3, vI v4), (4, vI v4_94)]) [2, 3, 4, 1, 0] rfl ?_
    exact hrec _ _ _ h
set_option maxHeartbeats 4000000 in
set_option maxRecDepth 20000 in
theorem w_m_choir_L26_s (C : mCX p s m args meth c cX12_choir 5 RX12 D E b) (hr : meth.sig.returnType = (some .int)) {r0 : Int} {M0 : Mem} {v1 : Int} {v2 : Int} {v3 : Int} {v4 : Int} {M : Mem} {q : Int × Int × Mem} {rec : Int → Int → Mem → Option (Int × Int × Mem)} (hrec : ∀ (v3 : Int) (v4 : Int) (M : Mem), rec v3 v4 M = some q → mWX p l e 8 184 s m args below meth c 5 D E b (some (vI r0)) M0 M 26 [(0, vR b 0), (1, vI v1), (2, vI v2), (3, vI v3), (4, vI v4)] []) (hfol : ∀ (v3 : Int) (v4 : Int) (M : Mem), q = (v3, v4, M) → mWX p l e 8 184 s m args below meth c 5 D E b (some (vI r0)) M0 M 100 [(3, vI v3)] []) (h : m_choir_L26 v1 v2 rec v3 v4 M = some q) :
    mWX p l e 8 184 s m args below meth c 5 D E b (some (vI r0)) M0 M 26 [(0, vR b 0), (1, vI v1), (2, vI v2), (3, vI v3), (4, vI v4)] [] := by
  unfold m_choir_L26 at h
  refine r_iload (pc := 26) C 4 rfl dX12_choir_26 ?_
  refine r_aload_n (pc := 28) C 0 rfl rfl dX12_choir_28 ?_
  obtain ⟨r3, hq3, h⟩ := bnd_inv h
  refine r_callV (pc := 29) (rest := [vI v4]) (st1 := [vI r3, vI v4]) C (mExtOK b) [] (c_m_all l hq3) cl_RX12_481 m_s0 (by decide) rfl rfl rfl rfl ⟨Nat.le_of_ble_eq_true rfl, Nat.le_of_ble_eq_true rfl⟩ (Nat.le_of_ble_eq_true rfl) rfl rfl dX12_choir_29 ?_
  refine r_icmp_gt (pc := 32) (tgt := 100) C h dX12_choir_32 (by decide) (fun hc32 h => ?_) (fun hc32 h => ?_)
  · refine r_sub (lv' := [(3, vI v3)]) [3] rfl ?_
    exact hfol _ _ _ (Option.some.inj h).symm
  · refine r_iload (pc := 35) C 4 rfl dX12_choir_35 ?_
    refine r_aload_n (pc := 37) C 0 rfl rfl dX12_choir_37 ?_
    refine r_getR (pc := 38) C fl_RX12_156 m_s0 (by decide) m_k47 m_r47 dX12_choir_38 ?_
    refine r_iconst (pc := 41) C dX12_choir_41 ?_
    refine r_iald (pc := 42) C m_s28 (by decide) (by decide) (by decide) rfl dX12_choir_42 ?_
    refine r_iand (pc := 43) C dX12_choir_43 ?_
    refine r_if_ne (pc := 44) (tgt := 94) C h dX12_choir_44 (by decide) (fun hc44 h => ?_) (fun hc44 h => ?_)
    · obtain ⟨v4_94, hv4_94, h⟩ := lt_inv h
      refine r_iincN (pc := 94) (y := v4_94) (lv' := [(4, vI v4_94), (0, vR b 0), (1, vI v1), (2, vI v2), (3, vI v3)]) C 4 rfl hv4_94 dX12_choir_94 (by decide) rfl ?_
      refine r_goto (pc := 97) (tgt := 26) C dX12_choir_97 (by decide) ?_
      refine r_sub (lv' := [(0, vR b 0), (1, vI v1), (2, vI v2), (3, vI v3), (4, vI v4_94)]) [1, 2, 3, 4, 0] rfl ?_
      exact hrec _ _ _ h
    · refine r_iload_n (pc := 47) C 3 rfl rfl dX12_choir_47 ?_
      refine r_iconst (pc := 48) C dX12_choir_48 ?_
      refine r_icmp_eq (pc := 49) (tgt := 67) C h dX12_choir_49 (by decide) (fun hc49 h => ?_) (fun hc49 h => ?_)
      · refine r_sub (lv' := [(0, vR b 0), (1, vI v1), (2, vI v2), (3, vI v3), (4, vI v4)]) [0, 1, 2, 3, 4] rfl ?_
        exact w_m_choir_L26_B67 C hr hrec hfol h
      · refine r_iload (pc := 52) C 4 rfl dX12_choir_52 ?_
        obtain ⟨r7, hq7, h⟩ := bnd_inv h
        refine r_callS (pc := 54) (rest := []) (st1 := [vI r7]) C (mExtOK b) [vI v4] (c_m_bits l hq7) cl_RX12_455 rfl rfl ⟨Nat.le_of_ble_eq_true rfl, Nat.le_of_ble_eq_true rfl⟩ (Nat.le_of_ble_eq_true rfl) rfl rfl dX12_choir_54 ?_
        refine r_iload_n (pc := 57) C 3 rfl rfl dX12_choir_57 ?_
        obtain ⟨r8, hq8, h⟩ := bnd_inv h
        refine r_callS (pc := 58) (rest := [vI r7]) (st1 := [vI r8, vI r7]) C (mExtOK b) [vI v3] (c_m_bits l hq8) cl_RX12_455 rfl rfl ⟨Nat.le_of_ble_eq_true rfl, Nat.le_of_ble_eq_true rfl⟩ (Nat.le_of_ble_eq_true rfl) rfl rfl dX12_choir_58 ?_
        refine r_icmp_lt (pc := 61) (tgt := 67) C h dX12_choir_61 (by decide) (fun hc61 h => ?_) (fun hc61 h => ?_)
        · refine r_sub (lv' := [(0, vR b 0), (1, vI v1), (2, vI v2), (3, vI v3), (4, vI v4)]) [0, 1, 2, 3, 4] rfl ?_
          exact w_m_choir_L26_B67 C hr hrec hfol h
        · refine r_goto (pc := 64) (tgt := 94) C dX12_choir_64 (by decide) ?_
          obtain ⟨v4_94, hv4_94, h⟩ := lt_inv h
          refine r_iincN (pc := 94) (y := v4_94) (lv' := [(4, vI v4_94), (0, vR b 0), (1, vI v1), (2, vI v2), (3, vI v3)]) C 4 rfl hv4_94 dX12_choir_94 (by decide) rfl ?_
          refine r_goto (pc := 97) (tgt := 26) C dX12_choir_97 (by decide) ?_
          refine r_sub (lv' := [(0, vR b 0), (1, vI v1), (2, vI v2), (3, vI v3), (4, vI v4_94)]) [1, 2, 3, 4, 0] rfl ?_
          exact hrec _ _ _ h
set_option maxHeartbeats 4000000 in
theorem w_m_choir_L26 (C : mCX p s m args meth c cX12_choir 5 RX12 D E b) (hr : meth.sig.returnType = (some .int)) {r0 : Int} {M0 : Mem} {v1 : Int} {v2 : Int} {q : Int × Int × Mem} (hfol : ∀ (v3 : Int) (v4 : Int) (M : Mem), q = (v3, v4, M) → mWX p l e 8 184 s m args below meth c 5 D E b (some (vI r0)) M0 M 100 [(3, vI v3)] []) : ∀ (n : Nat) (v3 : Int) (v4 : Int) (M : Mem), itr3 (m_choir_L26 v1 v2) n v3 v4 M = some q →
    mWX p l e 8 184 s m args below meth c 5 D E b (some (vI r0)) M0 M 26 [(0, vR b 0), (1, vI v1), (2, vI v2), (3, vI v3), (4, vI v4)] [] := by
  intro n
  induction n with
  | zero => exact fun _ _ _ h => itr_z h
  | succ n ih => exact fun _ _ _ h => w_m_choir_L26_s C hr ih hfol h
set_option maxHeartbeats 4000000 in
set_option maxRecDepth 20000 in
theorem c_m_choir (l : Launch) {x1 : Int} {M : Mem} {r0 : Int} {M0 : Mem} (h : m_choir x1 M = some (r0, M0)) : Ct l yX12_choir cX12_choir 5 (some .int) 8 184 vwCl mSh mN mRf mExt (fun b => [vR b 0, vI x1]) M (fun b => (some (vI r0))) M0 := by
  refine Ct_of mExtOK (by decide) (fun b => Nat.le_of_ble_eq_true rfl) ?_
  intro p e s m args below meth c D E b C hr
  unfold m_choir at h
  refine (show mWX p l e 8 184 s m args below meth c 5 D E b (some (vI r0)) M0 M 0 [(0, vR b 0), (1, vI x1)] [] from ?_)
  refine r_aload_n (pc := 0) C 0 rfl rfl dX12_choir_0 ?_
  refine r_iload_n (pc := 1) C 1 rfl rfl dX12_choir_1 ?_
  refine r_iconst (pc := 2) C dX12_choir_2 ?_
  refine r_bipush (pc := 3) (j := 30) C (by decide +kernel) dX12_choir_3 ?_
  obtain ⟨r1, hq1, h⟩ := bnd_inv h
  refine r_callV (pc := 5) (rest := []) (st1 := [vB r1]) C (mExtOK b) [vI x1, vI 1, vI 30] (c_m_isAhead l hq1) cl_RX12_478 m_s0 (by decide) rfl rfl rfl rfl ⟨Nat.le_of_ble_eq_true rfl, Nat.le_of_ble_eq_true rfl⟩ (Nat.le_of_ble_eq_true rfl) rfl rfl dX12_choir_5 ?_
  refine r_if_neB (pc := 8) (tgt := 13) C h dX12_choir_8 (by decide) (fun hc8 h => ?_) (fun hc8 h => ?_)
  · refine r_aload_n (pc := 13) C 0 rfl rfl dX12_choir_13 ?_
    refine r_iconst (pc := 14) C dX12_choir_14 ?_
    refine r_iconst (pc := 15) C dX12_choir_15 ?_
    refine r_iconst (pc := 16) C dX12_choir_16 ?_
    obtain ⟨r2, hq2, h⟩ := bnd_inv h
    refine r_callV (pc := 17) (rest := []) (st1 := [vI r2]) C (mExtOK b) [vI 0, vI 4, vI 4] (c_m_manyOf l hq2) cl_RX12_458 m_s0 (by decide) rfl rfl rfl rfl ⟨Nat.le_of_ble_eq_true rfl, Nat.le_of_ble_eq_true rfl⟩ (Nat.le_of_ble_eq_true rfl) rfl rfl dX12_choir_17 ?_
    refine r_istore_n (pc := 20) (lv' := [(2, vI r2), (0, vR b 0), (1, vI x1)]) C rfl dX12_choir_20 (by decide) rfl ?_
    refine r_iconst (pc := 21) C dX12_choir_21 ?_
    refine r_istore_n (pc := 22) (lv' := [(3, vI (-1)), (2, vI r2), (0, vR b 0), (1, vI x1)]) C rfl dX12_choir_22 (by decide) rfl ?_
    refine r_iconst (pc := 23) C dX12_choir_23 ?_
    refine r_istore (pc := 24) (lv' := [(4, vI 0), (3, vI (-1)), (2, vI r2), (0, vR b 0), (1, vI x1)]) C dX12_choir_24 (by decide) rfl ?_
    refine r_sub (lv' := [(0, vR b 0), (1, vI x1), (2, vI r2), (3, vI (-1)), (4, vI 0)]) [3, 4, 2, 1, 0] rfl ?_
    obtain ⟨q9, hl9, h⟩ := bnd_inv h
    refine w_m_choir_L26 C hr (fun v3_9 v4_9 M_9 hq => ?_) FUEL _ _ _ hl9
    have hq := hq.symm
    subst hq
    refine r_iload_n (pc := 100) C 0 rfl rfl dX12_choir_100 ?_
    have e := Option.some.inj h
    exact r_iret (pc := 101) C hr (congrArg (fun z => some (vI z)) (Prod.mk.inj e).1.symm) (Prod.mk.inj e).2.symm dX12_choir_101
  · refine r_iconst (pc := 11) C dX12_choir_11 ?_
    have e := Option.some.inj h
    exact r_iret (pc := 12) C hr (congrArg (fun z => some (vI z)) (Prod.mk.inj e).1.symm) (Prod.mk.inj e).2.symm dX12_choir_12
end
