theorem dX3_take_0 : decode cX3_take 0 = .ok (.aload_n 0, 1) := by decide +kernel
theorem dX3_take_1 : decode cX3_take 1 = .ok (.getfield 88, 3) := by decide +kernel
theorem dX3_take_4 : decode cX3_take 4 = .ok (.ifnull 32, 3) := by decide +kernel
theorem dX3_take_7 : decode cX3_take 7 = .ok (.aload_n 0, 1) := by decide +kernel
theorem dX3_take_8 : decode cX3_take 8 = .ok (.getfield 92, 3) := by decide +kernel
theorem dX3_take_11 : decode cX3_take 11 = .ok (.aload_n 0, 1) := by decide +kernel
theorem dX3_take_12 : decode cX3_take 12 = .ok (.getfield 88, 3) := by decide +kernel
theorem dX3_take_15 : decode cX3_take 15 = .ok (.getfield 81, 3) := by decide +kernel
theorem dX3_take_18 : decode cX3_take 18 = .ok (.if_icmp .ge 18, 3) := by decide +kernel
theorem dX3_take_21 : decode cX3_take 21 = .ok (.aload_n 0, 1) := by decide +kernel
theorem dX3_take_22 : decode cX3_take 22 = .ok (.getfield 92, 3) := by decide +kernel
theorem dX3_take_25 : decode cX3_take 25 = .ok (.aload_n 0, 1) := by decide +kernel
theorem dX3_take_26 : decode cX3_take 26 = .ok (.getfield 88, 3) := by decide +kernel
theorem dX3_take_29 : decode cX3_take 29 = .ok (.getfield 84, 3) := by decide +kernel
theorem dX3_take_32 : decode cX3_take 32 = .ok (.arraylength, 1) := by decide +kernel
theorem dX3_take_33 : decode cX3_take 33 = .ok (.if_icmp .lt 5, 3) := by decide +kernel
theorem dX3_take_36 : decode cX3_take 36 = .ok (.iconst 0, 1) := by decide +kernel
theorem dX3_take_37 : decode cX3_take 37 = .ok (.ireturn, 1) := by decide +kernel
theorem dX3_take_38 : decode cX3_take 38 = .ok (.aload_n 0, 1) := by decide +kernel
theorem dX3_take_39 : decode cX3_take 39 = .ok (.dup, 1) := by decide +kernel
theorem dX3_take_40 : decode cX3_take 40 = .ok (.getfield 92, 3) := by decide +kernel
theorem dX3_take_43 : decode cX3_take 43 = .ok (.iconst 1, 1) := by decide +kernel
theorem dX3_take_44 : decode cX3_take 44 = .ok (.iadd, 1) := by decide +kernel
theorem dX3_take_45 : decode cX3_take 45 = .ok (.putfield 92, 3) := by decide +kernel
theorem dX3_take_48 : decode cX3_take 48 = .ok (.aload_n 0, 1) := by decide +kernel
theorem dX3_take_49 : decode cX3_take 49 = .ok (.getfield 88, 3) := by decide +kernel
theorem dX3_take_52 : decode cX3_take 52 = .ok (.getfield 84, 3) := by decide +kernel
theorem dX3_take_55 : decode cX3_take 55 = .ok (.aload_n 0, 1) := by decide +kernel
theorem dX3_take_56 : decode cX3_take 56 = .ok (.getfield 92, 3) := by decide +kernel
theorem dX3_take_59 : decode cX3_take 59 = .ok (.iconst 1, 1) := by decide +kernel
theorem dX3_take_60 : decode cX3_take 60 = .ok (.isub, 1) := by decide +kernel
theorem dX3_take_61 : decode cX3_take 61 = .ok (.iaload, 1) := by decide +kernel
theorem dX3_take_62 : decode cX3_take 62 = .ok (.ireturn, 1) := by decide +kernel
theorem dX3_takePair_0 : decode cX3_takePair 0 = .ok (.aload_n 0, 1) := by decide +kernel
theorem dX3_takePair_1 : decode cX3_takePair 1 = .ok (.invokevirtual 106, 3) := by decide +kernel
theorem dX3_takePair_4 : decode cX3_takePair 4 = .ok (.istore_n 1, 1) := by decide +kernel
theorem dX3_takePair_5 : decode cX3_takePair 5 = .ok (.iload_n 1, 1) := by decide +kernel
theorem dX3_takePair_6 : decode cX3_takePair 6 = .ok (.bipush 8, 2) := by decide +kernel
theorem dX3_takePair_8 : decode cX3_takePair 8 = .ok (.ishl, 1) := by decide +kernel
theorem dX3_takePair_9 : decode cX3_takePair 9 = .ok (.aload_n 0, 1) := by decide +kernel
theorem dX3_takePair_10 : decode cX3_takePair 10 = .ok (.invokevirtual 106, 3) := by decide +kernel
theorem dX3_takePair_13 : decode cX3_takePair 13 = .ok (.ior, 1) := by decide +kernel
theorem dX3_takePair_14 : decode cX3_takePair 14 = .ok (.ireturn, 1) := by decide +kernel
theorem dX3_takeSaying_0 : decode cX3_takeSaying 0 = .ok (.aload_n 0, 1) := by decide +kernel
theorem dX3_takeSaying_1 : decode cX3_takeSaying 1 = .ok (.invokevirtual 106, 3) := by decide +kernel
theorem dX3_takeSaying_4 : decode cX3_takeSaying 4 = .ok (.istore_n 2, 1) := by decide +kernel
theorem dX3_takeSaying_5 : decode cX3_takeSaying 5 = .ok (.aload_n 0, 1) := by decide +kernel
theorem dX3_takeSaying_6 : decode cX3_takeSaying 6 = .ok (.invokevirtual 95, 3) := by decide +kernel
theorem dX3_takeSaying_9 : decode cX3_takeSaying 9 = .ok (.istore_n 3, 1) := by decide +kernel
theorem dX3_takeSaying_10 : decode cX3_takeSaying 10 = .ok (.aload_n 0, 1) := by decide +kernel
theorem dX3_takeSaying_11 : decode cX3_takeSaying 11 = .ok (.invokevirtual 106, 3) := by decide +kernel
theorem dX3_takeSaying_14 : decode cX3_takeSaying 14 = .ok (.istore 4, 2) := by decide +kernel
theorem dX3_takeSaying_16 : decode cX3_takeSaying 16 = .ok (.aload_n 0, 1) := by decide +kernel
theorem dX3_takeSaying_17 : decode cX3_takeSaying 17 = .ok (.invokevirtual 106, 3) := by decide +kernel
theorem dX3_takeSaying_20 : decode cX3_takeSaying 20 = .ok (.istore 5, 2) := by decide +kernel
theorem dX3_takeSaying_22 : decode cX3_takeSaying 22 = .ok (.aload_n 0, 1) := by decide +kernel
theorem dX3_takeSaying_23 : decode cX3_takeSaying 23 = .ok (.invokevirtual 106, 3) := by decide +kernel
theorem dX3_takeSaying_26 : decode cX3_takeSaying 26 = .ok (.istore 6, 2) := by decide +kernel
theorem dX3_takeSaying_28 : decode cX3_takeSaying 28 = .ok (.aload_n 0, 1) := by decide +kernel
theorem dX3_takeSaying_29 : decode cX3_takeSaying 29 = .ok (.invokevirtual 106, 3) := by decide +kernel
theorem dX3_takeSaying_32 : decode cX3_takeSaying 32 = .ok (.istore 7, 2) := by decide +kernel
theorem dX3_takeSaying_34 : decode cX3_takeSaying 34 = .ok (.iload_n 2, 1) := by decide +kernel
theorem dX3_takeSaying_35 : decode cX3_takeSaying 35 = .ok (.iconst 5, 1) := by decide +kernel
theorem dX3_takeSaying_36 : decode cX3_takeSaying 36 = .ok (.if_icmp .gt 23, 3) := by decide +kernel
theorem dX3_takeSaying_39 : decode cX3_takeSaying 39 = .ok (.iload_n 3, 1) := by decide +kernel
theorem dX3_takeSaying_40 : decode cX3_takeSaying 40 = .ok (.sipush 999, 3) := by decide +kernel
theorem dX3_takeSaying_43 : decode cX3_takeSaying 43 = .ok (.if_icmp .gt 16, 3) := by decide +kernel
theorem dX3_takeSaying_46 : decode cX3_takeSaying 46 = .ok (.iload 4, 2) := by decide +kernel
theorem dX3_takeSaying_48 : decode cX3_takeSaying 48 = .ok (.bipush 99, 2) := by decide +kernel
theorem dX3_takeSaying_50 : decode cX3_takeSaying 50 = .ok (.if_icmp .gt 9, 3) := by decide +kernel
theorem dX3_takeSaying_53 : decode cX3_takeSaying 53 = .ok (.iload 7, 2) := by decide +kernel
theorem dX3_takeSaying_55 : decode cX3_takeSaying 55 = .ok (.iconst 1, 1) := by decide +kernel
theorem dX3_takeSaying_56 : decode cX3_takeSaying 56 = .ok (.if_icmp .le 5, 3) := by decide +kernel
theorem dX3_takeSaying_59 : decode cX3_takeSaying 59 = .ok (.iconst 0, 1) := by decide +kernel
theorem dX3_takeSaying_60 : decode cX3_takeSaying 60 = .ok (.ireturn, 1) := by decide +kernel
theorem dX3_takeSaying_61 : decode cX3_takeSaying 61 = .ok (.iload_n 2, 1) := by decide +kernel
theorem dX3_takeSaying_62 : decode cX3_takeSaying 62 = .ok (.ifCond .ne 10, 3) := by decide +kernel
theorem dX3_takeSaying_65 : decode cX3_takeSaying 65 = .ok (.iload 4, 2) := by decide +kernel
theorem dX3_takeSaying_67 : decode cX3_takeSaying 67 = .ok (.ifCond .eq 5, 3) := by decide +kernel
theorem dX3_takeSaying_70 : decode cX3_takeSaying 70 = .ok (.iconst 0, 1) := by decide +kernel
theorem dX3_takeSaying_71 : decode cX3_takeSaying 71 = .ok (.ireturn, 1) := by decide +kernel
theorem dX3_takeSaying_72 : decode cX3_takeSaying 72 = .ok (.iload_n 2, 1) := by decide +kernel
theorem dX3_takeSaying_73 : decode cX3_takeSaying 73 = .ok (.iconst 2, 1) := by decide +kernel
theorem dX3_takeSaying_74 : decode cX3_takeSaying 74 = .ok (.if_icmp .eq 13, 3) := by decide +kernel
theorem dX3_takeSaying_77 : decode cX3_takeSaying 77 = .ok (.iload_n 2, 1) := by decide +kernel
theorem dX3_takeSaying_78 : decode cX3_takeSaying 78 = .ok (.iconst 3, 1) := by decide +kernel
theorem dX3_takeSaying_79 : decode cX3_takeSaying 79 = .ok (.if_icmp .eq 8, 3) := by decide +kernel
theorem dX3_takeSaying_82 : decode cX3_takeSaying 82 = .ok (.iload_n 2, 1) := by decide +kernel
theorem dX3_takeSaying_83 : decode cX3_takeSaying 83 = .ok (.iconst 5, 1) := by decide +kernel
theorem dX3_takeSaying_84 : decode cX3_takeSaying 84 = .ok (.if_icmp .ne 7, 3) := by decide +kernel
theorem dX3_takeSaying_87 : decode cX3_takeSaying 87 = .ok (.iconst 1, 1) := by decide +kernel
theorem dX3_takeSaying_88 : decode cX3_takeSaying 88 = .ok (.goto 4, 3) := by decide +kernel
theorem dX3_takeSaying_91 : decode cX3_takeSaying 91 = .ok (.iconst 0, 1) := by decide +kernel
theorem dX3_takeSaying_92 : decode cX3_takeSaying 92 = .ok (.istore 8, 2) := by decide +kernel
theorem dX3_takeSaying_94 : decode cX3_takeSaying 94 = .ok (.iload 8, 2) := by decide +kernel
theorem dX3_takeSaying_96 : decode cX3_takeSaying 96 = .ok (.ifCond .eq 18, 3) := by decide +kernel
theorem dX3_takeSaying_99 : decode cX3_takeSaying 99 = .ok (.iload 5, 2) := by decide +kernel
theorem dX3_takeSaying_101 : decode cX3_takeSaying 101 = .ok (.aload_n 0, 1) := by decide +kernel
theorem dX3_takeSaying_102 : decode cX3_takeSaying 102 = .ok (.getfield 15, 3) := by decide +kernel
theorem dX3_takeSaying_105 : decode cX3_takeSaying 105 = .ok (.getfield 39, 3) := by decide +kernel
theorem dX3_takeSaying_108 : decode cX3_takeSaying 108 = .ok (.if_icmp .lt 21, 3) := by decide +kernel
theorem dX3_takeSaying_111 : decode cX3_takeSaying 111 = .ok (.goto 16, 3) := by decide +kernel
theorem dX3_takeSaying_114 : decode cX3_takeSaying 114 = .ok (.iload 5, 2) := by decide +kernel
theorem dX3_takeSaying_116 : decode cX3_takeSaying 116 = .ok (.sipush 255, 3) := by decide +kernel
theorem dX3_takeSaying_119 : decode cX3_takeSaying 119 = .ok (.if_icmp .ne 8, 3) := by decide +kernel
theorem dX3_takeSaying_122 : decode cX3_takeSaying 122 = .ok (.iload 7, 2) := by decide +kernel
theorem dX3_takeSaying_124 : decode cX3_takeSaying 124 = .ok (.ifCond .eq 5, 3) := by decide +kernel
theorem dX3_takeSaying_127 : decode cX3_takeSaying 127 = .ok (.iconst 0, 1) := by decide +kernel
theorem dX3_takeSaying_128 : decode cX3_takeSaying 128 = .ok (.ireturn, 1) := by decide +kernel
theorem dX3_takeSaying_129 : decode cX3_takeSaying 129 = .ok (.iload_n 2, 1) := by decide +kernel
theorem dX3_takeSaying_130 : decode cX3_takeSaying 130 = .ok (.iconst 2, 1) := by decide +kernel
theorem dX3_takeSaying_131 : decode cX3_takeSaying 131 = .ok (.if_icmp .ne 37, 3) := by decide +kernel
theorem dX3_takeSaying_134 : decode cX3_takeSaying 134 = .ok (.aload_n 0, 1) := by decide +kernel
theorem dX3_takeSaying_135 : decode cX3_takeSaying 135 = .ok (.getfield 23, 3) := by decide +kernel
theorem dX3_takeSaying_138 : decode cX3_takeSaying 138 = .ok (.iload 5, 2) := by decide +kernel
theorem dX3_takeSaying_140 : decode cX3_takeSaying 140 = .ok (.invokevirtual 109, 3) := by decide +kernel
theorem dX3_takeSaying_143 : decode cX3_takeSaying 143 = .ok (.ifCond .eq 23, 3) := by decide +kernel
theorem dX3_takeSaying_146 : decode cX3_takeSaying 146 = .ok (.iload 6, 2) := by decide +kernel
theorem dX3_takeSaying_148 : decode cX3_takeSaying 148 = .ok (.iconst 1, 1) := by decide +kernel
theorem dX3_takeSaying_149 : decode cX3_takeSaying 149 = .ok (.if_icmp .lt 17, 3) := by decide +kernel
theorem dX3_takeSaying_152 : decode cX3_takeSaying 152 = .ok (.iload 6, 2) := by decide +kernel
theorem dX3_takeSaying_154 : decode cX3_takeSaying 154 = .ok (.aload_n 0, 1) := by decide +kernel
theorem dX3_takeSaying_155 : decode cX3_takeSaying 155 = .ok (.getfield 15, 3) := by decide +kernel
theorem dX3_takeSaying_158 : decode cX3_takeSaying 158 = .ok (.getfield 112, 3) := by decide +kernel
theorem dX3_takeSaying_161 : decode cX3_takeSaying 161 = .ok (.iload_n 1, 1) := by decide +kernel
theorem dX3_takeSaying_162 : decode cX3_takeSaying 162 = .ok (.iaload, 1) := by decide +kernel
theorem dX3_takeSaying_163 : decode cX3_takeSaying 163 = .ok (.if_icmp .le 12, 3) := by decide +kernel
theorem dX3_takeSaying_166 : decode cX3_takeSaying 166 = .ok (.iconst 0, 1) := by decide +kernel
theorem dX3_takeSaying_167 : decode cX3_takeSaying 167 = .ok (.ireturn, 1) := by decide +kernel
theorem dX3_takeSaying_168 : decode cX3_takeSaying 168 = .ok (.iload 6, 2) := by decide +kernel
theorem dX3_takeSaying_170 : decode cX3_takeSaying 170 = .ok (.ifCond .eq 5, 3) := by decide +kernel
theorem dX3_takeSaying_173 : decode cX3_takeSaying 173 = .ok (.iconst 0, 1) := by decide +kernel
theorem dX3_takeSaying_174 : decode cX3_takeSaying 174 = .ok (.ireturn, 1) := by decide +kernel
theorem dX3_takeSaying_175 : decode cX3_takeSaying 175 = .ok (.aload_n 0, 1) := by decide +kernel
theorem dX3_takeSaying_176 : decode cX3_takeSaying 176 = .ok (.getfield 23, 3) := by decide +kernel
theorem dX3_takeSaying_179 : decode cX3_takeSaying 179 = .ok (.getfield 59, 3) := by decide +kernel
theorem dX3_takeSaying_182 : decode cX3_takeSaying 182 = .ok (.iload_n 1, 1) := by decide +kernel
theorem dX3_takeSaying_183 : decode cX3_takeSaying 183 = .ok (.iload_n 2, 1) := by decide +kernel
theorem dX3_takeSaying_184 : decode cX3_takeSaying 184 = .ok (.iastore, 1) := by decide +kernel
theorem dX3_takeSaying_185 : decode cX3_takeSaying 185 = .ok (.aload_n 0, 1) := by decide +kernel
theorem dX3_takeSaying_186 : decode cX3_takeSaying 186 = .ok (.getfield 23, 3) := by decide +kernel
theorem dX3_takeSaying_189 : decode cX3_takeSaying 189 = .ok (.getfield 62, 3) := by decide +kernel
theorem dX3_takeSaying_192 : decode cX3_takeSaying 192 = .ok (.iload_n 1, 1) := by decide +kernel
theorem dX3_takeSaying_193 : decode cX3_takeSaying 193 = .ok (.iload_n 3, 1) := by decide +kernel
theorem dX3_takeSaying_194 : decode cX3_takeSaying 194 = .ok (.iastore, 1) := by decide +kernel
theorem dX3_takeSaying_195 : decode cX3_takeSaying 195 = .ok (.aload_n 0, 1) := by decide +kernel
theorem dX3_takeSaying_196 : decode cX3_takeSaying 196 = .ok (.getfield 23, 3) := by decide +kernel
theorem dX3_takeSaying_199 : decode cX3_takeSaying 199 = .ok (.getfield 65, 3) := by decide +kernel
theorem dX3_takeSaying_202 : decode cX3_takeSaying 202 = .ok (.iload_n 1, 1) := by decide +kernel
theorem dX3_takeSaying_203 : decode cX3_takeSaying 203 = .ok (.iload 4, 2) := by decide +kernel
theorem dX3_takeSaying_205 : decode cX3_takeSaying 205 = .ok (.iastore, 1) := by decide +kernel
theorem dX3_takeSaying_206 : decode cX3_takeSaying 206 = .ok (.aload_n 0, 1) := by decide +kernel
theorem dX3_takeSaying_207 : decode cX3_takeSaying 207 = .ok (.getfield 23, 3) := by decide +kernel
theorem dX3_takeSaying_210 : decode cX3_takeSaying 210 = .ok (.getfield 68, 3) := by decide +kernel
theorem dX3_takeSaying_213 : decode cX3_takeSaying 213 = .ok (.iload_n 1, 1) := by decide +kernel
theorem dX3_takeSaying_214 : decode cX3_takeSaying 214 = .ok (.iload 8, 2) := by decide +kernel
theorem dX3_takeSaying_216 : decode cX3_takeSaying 216 = .ok (.ifCond .eq 8, 3) := by decide +kernel
theorem dX3_takeSaying_219 : decode cX3_takeSaying 219 = .ok (.iload 5, 2) := by decide +kernel
theorem dX3_takeSaying_221 : decode cX3_takeSaying 221 = .ok (.goto 4, 3) := by decide +kernel
theorem dX3_takeSaying_224 : decode cX3_takeSaying 224 = .ok (.iconst (-1), 1) := by decide +kernel
theorem dX3_takeSaying_225 : decode cX3_takeSaying 225 = .ok (.iastore, 1) := by decide +kernel
theorem dX3_takeSaying_226 : decode cX3_takeSaying 226 = .ok (.aload_n 0, 1) := by decide +kernel
theorem dX3_takeSaying_227 : decode cX3_takeSaying 227 = .ok (.getfield 23, 3) := by decide +kernel
theorem dX3_takeSaying_230 : decode cX3_takeSaying 230 = .ok (.getfield 71, 3) := by decide +kernel
theorem dX3_takeSaying_233 : decode cX3_takeSaying 233 = .ok (.iload_n 1, 1) := by decide +kernel
theorem dX3_takeSaying_234 : decode cX3_takeSaying 234 = .ok (.iload 6, 2) := by decide +kernel
theorem dX3_takeSaying_236 : decode cX3_takeSaying 236 = .ok (.iastore, 1) := by decide +kernel
theorem dX3_takeSaying_237 : decode cX3_takeSaying 237 = .ok (.aload_n 0, 1) := by decide +kernel
theorem dX3_takeSaying_238 : decode cX3_takeSaying 238 = .ok (.getfield 23, 3) := by decide +kernel
theorem dX3_takeSaying_241 : decode cX3_takeSaying 241 = .ok (.getfield 74, 3) := by decide +kernel
theorem dX3_takeSaying_244 : decode cX3_takeSaying 244 = .ok (.iload_n 1, 1) := by decide +kernel
theorem dX3_takeSaying_245 : decode cX3_takeSaying 245 = .ok (.iload 7, 2) := by decide +kernel
theorem dX3_takeSaying_247 : decode cX3_takeSaying 247 = .ok (.iastore, 1) := by decide +kernel
theorem dX3_takeSaying_248 : decode cX3_takeSaying 248 = .ok (.iconst 1, 1) := by decide +kernel
theorem dX3_takeSaying_249 : decode cX3_takeSaying 249 = .ok (.ireturn, 1) := by decide +kernel
theorem dX3_takeVoice_0 : decode cX3_takeVoice 0 = .ok (.aload_n 0, 1) := by decide +kernel
theorem dX3_takeVoice_1 : decode cX3_takeVoice 1 = .ok (.getfield 23, 3) := by decide +kernel
theorem dX3_takeVoice_4 : decode cX3_takeVoice 4 = .ok (.getfield 44, 3) := by decide +kernel
theorem dX3_takeVoice_7 : decode cX3_takeVoice 7 = .ok (.iload_n 1, 1) := by decide +kernel
theorem dX3_takeVoice_8 : decode cX3_takeVoice 8 = .ok (.aload_n 0, 1) := by decide +kernel
theorem dX3_takeVoice_9 : decode cX3_takeVoice 9 = .ok (.invokevirtual 106, 3) := by decide +kernel
theorem dX3_takeVoice_12 : decode cX3_takeVoice 12 = .ok (.iastore, 1) := by decide +kernel
theorem dX3_takeVoice_13 : decode cX3_takeVoice 13 = .ok (.aload_n 0, 1) := by decide +kernel
theorem dX3_takeVoice_14 : decode cX3_takeVoice 14 = .ok (.getfield 23, 3) := by decide +kernel
theorem dX3_takeVoice_17 : decode cX3_takeVoice 17 = .ok (.getfield 50, 3) := by decide +kernel
theorem dX3_takeVoice_20 : decode cX3_takeVoice 20 = .ok (.iload_n 1, 1) := by decide +kernel
theorem dX3_takeVoice_21 : decode cX3_takeVoice 21 = .ok (.aload_n 0, 1) := by decide +kernel
theorem dX3_takeVoice_22 : decode cX3_takeVoice 22 = .ok (.invokevirtual 106, 3) := by decide +kernel
theorem dX3_takeVoice_25 : decode cX3_takeVoice 25 = .ok (.iastore, 1) := by decide +kernel
theorem dX3_takeVoice_26 : decode cX3_takeVoice 26 = .ok (.aload_n 0, 1) := by decide +kernel
theorem dX3_takeVoice_27 : decode cX3_takeVoice 27 = .ok (.getfield 23, 3) := by decide +kernel
theorem dX3_takeVoice_30 : decode cX3_takeVoice 30 = .ok (.getfield 53, 3) := by decide +kernel
theorem dX3_takeVoice_33 : decode cX3_takeVoice 33 = .ok (.iload_n 1, 1) := by decide +kernel
theorem dX3_takeVoice_34 : decode cX3_takeVoice 34 = .ok (.aload_n 0, 1) := by decide +kernel
theorem dX3_takeVoice_35 : decode cX3_takeVoice 35 = .ok (.invokevirtual 106, 3) := by decide +kernel
theorem dX3_takeVoice_38 : decode cX3_takeVoice 38 = .ok (.iastore, 1) := by decide +kernel
theorem dX3_takeVoice_39 : decode cX3_takeVoice 39 = .ok (.aload_n 0, 1) := by decide +kernel
theorem dX3_takeVoice_40 : decode cX3_takeVoice 40 = .ok (.getfield 23, 3) := by decide +kernel
theorem dX3_takeVoice_43 : decode cX3_takeVoice 43 = .ok (.getfield 44, 3) := by decide +kernel
theorem dX3_takeVoice_46 : decode cX3_takeVoice 46 = .ok (.iload_n 1, 1) := by decide +kernel
theorem dX3_takeVoice_47 : decode cX3_takeVoice 47 = .ok (.iaload, 1) := by decide +kernel
theorem dX3_takeVoice_48 : decode cX3_takeVoice 48 = .ok (.bipush 10, 2) := by decide +kernel
theorem dX3_takeVoice_50 : decode cX3_takeVoice 50 = .ok (.if_icmp .ge 34, 3) := by decide +kernel
theorem dX3_takeVoice_53 : decode cX3_takeVoice 53 = .ok (.aload_n 0, 1) := by decide +kernel
theorem dX3_takeVoice_54 : decode cX3_takeVoice 54 = .ok (.getfield 23, 3) := by decide +kernel
theorem dX3_takeVoice_57 : decode cX3_takeVoice 57 = .ok (.getfield 50, 3) := by decide +kernel
theorem dX3_takeVoice_60 : decode cX3_takeVoice 60 = .ok (.iload_n 1, 1) := by decide +kernel
theorem dX3_takeVoice_61 : decode cX3_takeVoice 61 = .ok (.iaload, 1) := by decide +kernel
theorem dX3_takeVoice_62 : decode cX3_takeVoice 62 = .ok (.iconst 1, 1) := by decide +kernel
theorem dX3_takeVoice_63 : decode cX3_takeVoice 63 = .ok (.if_icmp .gt 21, 3) := by decide +kernel
theorem dX3_takeVoice_66 : decode cX3_takeVoice 66 = .ok (.aload_n 0, 1) := by decide +kernel
theorem dX3_takeVoice_67 : decode cX3_takeVoice 67 = .ok (.getfield 23, 3) := by decide +kernel
theorem dX3_takeVoice_70 : decode cX3_takeVoice 70 = .ok (.getfield 53, 3) := by decide +kernel
theorem dX3_takeVoice_73 : decode cX3_takeVoice 73 = .ok (.iload_n 1, 1) := by decide +kernel
theorem dX3_takeVoice_74 : decode cX3_takeVoice 74 = .ok (.iaload, 1) := by decide +kernel
theorem dX3_takeVoice_75 : decode cX3_takeVoice 75 = .ok (.bipush 99, 2) := by decide +kernel
theorem dX3_takeVoice_77 : decode cX3_takeVoice 77 = .ok (.if_icmp .gt 7, 3) := by decide +kernel
theorem dX3_takeVoice_80 : decode cX3_takeVoice 80 = .ok (.iconst 1, 1) := by decide +kernel
theorem dX3_takeVoice_81 : decode cX3_takeVoice 81 = .ok (.goto 4, 3) := by decide +kernel
theorem dX3_takeVoice_84 : decode cX3_takeVoice 84 = .ok (.iconst 0, 1) := by decide +kernel
theorem dX3_takeVoice_85 : decode cX3_takeVoice 85 = .ok (.ireturn, 1) := by decide +kernel
theorem dX3_read_0 : decode cX3_read 0 = .ok (.iconst 2, 1) := by decide +kernel
theorem dX3_read_1 : decode cX3_read 1 = .ok (.iconst 3, 1) := by decide +kernel
theorem dX3_read_2 : decode cX3_read 2 = .ok (.aload_n 0, 1) := by decide +kernel
theorem dX3_read_3 : decode cX3_read 3 = .ok (.getfield 15, 3) := by decide +kernel
theorem dX3_read_6 : decode cX3_read 6 = .ok (.getfield 39, 3) := by decide +kernel
theorem dX3_read_9 : decode cX3_read 9 = .ok (.imul, 1) := by decide +kernel
theorem dX3_read_10 : decode cX3_read 10 = .ok (.iadd, 1) := by decide +kernel
theorem dX3_read_11 : decode cX3_read 11 = .ok (.bipush 7, 2) := by decide +kernel
theorem dX3_read_13 : decode cX3_read 13 = .ok (.aload_n 0, 1) := by decide +kernel
theorem dX3_read_14 : decode cX3_read 14 = .ok (.getfield 15, 3) := by decide +kernel
theorem dX3_read_17 : decode cX3_read 17 = .ok (.getfield 56, 3) := by decide +kernel
theorem dX3_read_20 : decode cX3_read 20 = .ok (.imul, 1) := by decide +kernel
theorem dX3_read_21 : decode cX3_read 21 = .ok (.iadd, 1) := by decide +kernel
theorem dX3_read_22 : decode cX3_read 22 = .ok (.iconst 1, 1) := by decide +kernel
theorem dX3_read_23 : decode cX3_read 23 = .ok (.iadd, 1) := by decide +kernel
theorem dX3_read_24 : decode cX3_read 24 = .ok (.istore_n 2, 1) := by decide +kernel
theorem dX3_read_25 : decode cX3_read 25 = .ok (.aload_n 1, 1) := by decide +kernel
theorem dX3_read_26 : decode cX3_read 26 = .ok (.getfield 81, 3) := by decide +kernel
theorem dX3_read_29 : decode cX3_read 29 = .ok (.iload_n 2, 1) := by decide +kernel
theorem dX3_read_30 : decode cX3_read 30 = .ok (.if_icmp .ne 12, 3) := by decide +kernel
theorem dX3_read_33 : decode cX3_read 33 = .ok (.iload_n 2, 1) := by decide +kernel
theorem dX3_read_34 : decode cX3_read 34 = .ok (.aload_n 1, 1) := by decide +kernel
theorem dX3_read_35 : decode cX3_read 35 = .ok (.getfield 84, 3) := by decide +kernel
theorem dX3_read_38 : decode cX3_read 38 = .ok (.arraylength, 1) := by decide +kernel
theorem dX3_read_39 : decode cX3_read 39 = .ok (.if_icmp .le 5, 3) := by decide +kernel
theorem dX3_read_42 : decode cX3_read 42 = .ok (.iconst 0, 1) := by decide +kernel
theorem dX3_read_43 : decode cX3_read 43 = .ok (.ireturn, 1) := by decide +kernel
theorem dX3_read_44 : decode cX3_read 44 = .ok (.aload_n 1, 1) := by decide +kernel
theorem dX3_read_45 : decode cX3_read 45 = .ok (.getfield 84, 3) := by decide +kernel
theorem dX3_read_48 : decode cX3_read 48 = .ok (.iload_n 2, 1) := by decide +kernel
theorem dX3_read_49 : decode cX3_read 49 = .ok (.iconst 1, 1) := by decide +kernel
theorem dX3_read_50 : decode cX3_read 50 = .ok (.isub, 1) := by decide +kernel
theorem dX3_read_51 : decode cX3_read 51 = .ok (.invokestatic 77, 3) := by decide +kernel
theorem dX3_read_54 : decode cX3_read 54 = .ok (.aload_n 1, 1) := by decide +kernel
theorem dX3_read_55 : decode cX3_read 55 = .ok (.getfield 84, 3) := by decide +kernel
theorem dX3_read_58 : decode cX3_read 58 = .ok (.iload_n 2, 1) := by decide +kernel
theorem dX3_read_59 : decode cX3_read 59 = .ok (.iconst 1, 1) := by decide +kernel
theorem dX3_read_60 : decode cX3_read 60 = .ok (.isub, 1) := by decide +kernel
theorem dX3_read_61 : decode cX3_read 61 = .ok (.iaload, 1) := by decide +kernel
theorem dX3_read_62 : decode cX3_read 62 = .ok (.if_icmp .eq 5, 3) := by decide +kernel
theorem dX3_read_65 : decode cX3_read 65 = .ok (.iconst 0, 1) := by decide +kernel
theorem dX3_read_66 : decode cX3_read 66 = .ok (.ireturn, 1) := by decide +kernel
theorem dX3_read_67 : decode cX3_read 67 = .ok (.aload_n 0, 1) := by decide +kernel
theorem dX3_read_68 : decode cX3_read 68 = .ok (.getfield 23, 3) := by decide +kernel
theorem dX3_read_71 : decode cX3_read 71 = .ok (.invokevirtual 85, 3) := by decide +kernel
theorem dX3_read_74 : decode cX3_read 74 = .ok (.aload_n 0, 1) := by decide +kernel
theorem dX3_read_75 : decode cX3_read 75 = .ok (.aload_n 1, 1) := by decide +kernel
theorem dX3_read_76 : decode cX3_read 76 = .ok (.putfield 88, 3) := by decide +kernel
theorem dX3_read_79 : decode cX3_read 79 = .ok (.aload_n 0, 1) := by decide +kernel
theorem dX3_read_80 : decode cX3_read 80 = .ok (.iconst 0, 1) := by decide +kernel
theorem dX3_read_81 : decode cX3_read 81 = .ok (.putfield 92, 3) := by decide +kernel
theorem dX3_read_84 : decode cX3_read 84 = .ok (.aload_n 0, 1) := by decide +kernel
theorem dX3_read_85 : decode cX3_read 85 = .ok (.getfield 23, 3) := by decide +kernel
theorem dX3_read_88 : decode cX3_read 88 = .ok (.aload_n 0, 1) := by decide +kernel
theorem dX3_read_89 : decode cX3_read 89 = .ok (.invokevirtual 95, 3) := by decide +kernel
theorem dX3_read_92 : decode cX3_read 92 = .ok (.putfield 30, 3) := by decide +kernel
theorem dX3_read_95 : decode cX3_read 95 = .ok (.aload_n 0, 1) := by decide +kernel
theorem dX3_read_96 : decode cX3_read 96 = .ok (.getfield 23, 3) := by decide +kernel
theorem dX3_read_99 : decode cX3_read 99 = .ok (.getfield 30, 3) := by decide +kernel
theorem dX3_read_102 : decode cX3_read 102 = .ok (.sipush 999, 3) := by decide +kernel
theorem dX3_read_105 : decode cX3_read 105 = .ok (.if_icmp .gt 7, 3) := by decide +kernel
theorem dX3_read_108 : decode cX3_read 108 = .ok (.iconst 1, 1) := by decide +kernel
theorem dX3_read_109 : decode cX3_read 109 = .ok (.goto 4, 3) := by decide +kernel
theorem dX3_read_112 : decode cX3_read 112 = .ok (.iconst 0, 1) := by decide +kernel
theorem dX3_read_113 : decode cX3_read 113 = .ok (.istore_n 3, 1) := by decide +kernel
theorem dX3_read_114 : decode cX3_read 114 = .ok (.iconst 0, 1) := by decide +kernel
theorem dX3_read_115 : decode cX3_read 115 = .ok (.istore 4, 2) := by decide +kernel
theorem dX3_read_117 : decode cX3_read 117 = .ok (.iload 4, 2) := by decide +kernel
theorem dX3_read_119 : decode cX3_read 119 = .ok (.aload_n 0, 1) := by decide +kernel
theorem dX3_read_120 : decode cX3_read 120 = .ok (.getfield 15, 3) := by decide +kernel
theorem dX3_read_123 : decode cX3_read 123 = .ok (.getfield 39, 3) := by decide +kernel
theorem dX3_read_126 : decode cX3_read 126 = .ok (.if_icmp .ge 28, 3) := by decide +kernel
theorem dX3_read_129 : decode cX3_read 129 = .ok (.aload_n 0, 1) := by decide +kernel
theorem dX3_read_130 : decode cX3_read 130 = .ok (.iload 4, 2) := by decide +kernel
theorem dX3_read_132 : decode cX3_read 132 = .ok (.invokevirtual 99, 3) := by decide +kernel
theorem dX3_read_135 : decode cX3_read 135 = .ok (.ifCond .eq 11, 3) := by decide +kernel
theorem dX3_read_138 : decode cX3_read 138 = .ok (.iload_n 3, 1) := by decide +kernel
theorem dX3_read_139 : decode cX3_read 139 = .ok (.ifCond .eq 7, 3) := by decide +kernel
theorem dX3_read_142 : decode cX3_read 142 = .ok (.iconst 1, 1) := by decide +kernel
theorem dX3_read_143 : decode cX3_read 143 = .ok (.goto 4, 3) := by decide +kernel
theorem dX3_read_146 : decode cX3_read 146 = .ok (.iconst 0, 1) := by decide +kernel
theorem dX3_read_147 : decode cX3_read 147 = .ok (.istore_n 3, 1) := by decide +kernel
theorem dX3_read_148 : decode cX3_read 148 = .ok (.iinc 4 1, 3) := by decide +kernel
theorem dX3_read_151 : decode cX3_read 151 = .ok (.goto (-34), 3) := by decide +kernel
theorem dX3_read_154 : decode cX3_read 154 = .ok (.iconst 0, 1) := by decide +kernel
theorem dX3_read_155 : decode cX3_read 155 = .ok (.istore 4, 2) := by decide +kernel
theorem dX3_read_157 : decode cX3_read 157 = .ok (.iload 4, 2) := by decide +kernel
theorem dX3_read_159 : decode cX3_read 159 = .ok (.aload_n 0, 1) := by decide +kernel
theorem dX3_read_160 : decode cX3_read 160 = .ok (.getfield 15, 3) := by decide +kernel
theorem dX3_read_163 : decode cX3_read 163 = .ok (.getfield 56, 3) := by decide +kernel
theorem dX3_read_166 : decode cX3_read 166 = .ok (.if_icmp .ge 28, 3) := by decide +kernel
theorem dX3_read_169 : decode cX3_read 169 = .ok (.aload_n 0, 1) := by decide +kernel
theorem dX3_read_170 : decode cX3_read 170 = .ok (.iload 4, 2) := by decide +kernel
theorem dX3_read_172 : decode cX3_read 172 = .ok (.invokevirtual 103, 3) := by decide +kernel
theorem dX3_read_175 : decode cX3_read 175 = .ok (.ifCond .eq 11, 3) := by decide +kernel
theorem dX3_read_178 : decode cX3_read 178 = .ok (.iload_n 3, 1) := by decide +kernel
theorem dX3_read_179 : decode cX3_read 179 = .ok (.ifCond .eq 7, 3) := by decide +kernel
theorem dX3_read_182 : decode cX3_read 182 = .ok (.iconst 1, 1) := by decide +kernel
theorem dX3_read_183 : decode cX3_read 183 = .ok (.goto 4, 3) := by decide +kernel
theorem dX3_read_186 : decode cX3_read 186 = .ok (.iconst 0, 1) := by decide +kernel
theorem dX3_read_187 : decode cX3_read 187 = .ok (.istore_n 3, 1) := by decide +kernel
theorem dX3_read_188 : decode cX3_read 188 = .ok (.iinc 4 1, 3) := by decide +kernel
theorem dX3_read_191 : decode cX3_read 191 = .ok (.goto (-34), 3) := by decide +kernel
theorem dX3_read_194 : decode cX3_read 194 = .ok (.iload_n 3, 1) := by decide +kernel
theorem dX3_read_195 : decode cX3_read 195 = .ok (.ireturn, 1) := by decide +kernel
theorem dX11_on_0 : decode cX11_on 0 = .ok (.aload_n 0, 1) := by decide +kernel
theorem dX11_on_1 : decode cX11_on 1 = .ok (.getfield 70, 3) := by decide +kernel
theorem dX11_on_4 : decode cX11_on 4 = .ok (.aload_n 0, 1) := by decide +kernel
theorem dX11_on_5 : decode cX11_on 5 = .ok (.getfield 12, 3) := by decide +kernel
theorem dX11_on_8 : decode cX11_on 8 = .ok (.invokevirtual 297, 3) := by decide +kernel
theorem dX11_on_11 : decode cX11_on 11 = .ok (.istore_n 1, 1) := by decide +kernel
theorem dX11_on_12 : decode cX11_on 12 = .ok (.aload_n 0, 1) := by decide +kernel
theorem dX11_on_13 : decode cX11_on 13 = .ok (.getfield 12, 3) := by decide +kernel
theorem dX11_on_16 : decode cX11_on 16 = .ok (.iconst 0, 1) := by decide +kernel
theorem dX11_on_17 : decode cX11_on 17 = .ok (.putfield 82, 3) := by decide +kernel
theorem dX11_on_20 : decode cX11_on 20 = .ok (.iload_n 1, 1) := by decide +kernel
theorem dX11_on_21 : decode cX11_on 21 = .ok (.ifCond .ne 9, 3) := by decide +kernel
theorem dX11_on_24 : decode cX11_on 24 = .ok (.aload_n 0, 1) := by decide +kernel
theorem dX11_on_25 : decode cX11_on 25 = .ok (.iconst 5, 1) := by decide +kernel
theorem dX11_on_26 : decode cX11_on 26 = .ok (.invokevirtual 93, 3) := by decide +kernel
theorem dX11_on_29 : decode cX11_on 29 = .ok (.ireturn, 1) := by decide +kernel
theorem dX11_on_30 : decode cX11_on 30 = .ok (.aload_n 0, 1) := by decide +kernel
theorem dX11_on_31 : decode cX11_on 31 = .ok (.getfield 35, 3) := by decide +kernel
theorem dX11_on_34 : decode cX11_on 34 = .ok (.aload_n 0, 1) := by decide +kernel
theorem dX11_on_35 : decode cX11_on 35 = .ok (.getfield 39, 3) := by decide +kernel
theorem dX11_on_38 : decode cX11_on 38 = .ok (.invokevirtual 300, 3) := by decide +kernel
theorem dX11_on_41 : decode cX11_on 41 = .ok (.aload_n 0, 1) := by decide +kernel
theorem dX11_on_42 : decode cX11_on 42 = .ok (.getfield 45, 3) := by decide +kernel
theorem dX11_on_45 : decode cX11_on 45 = .ok (.invokevirtual 110, 3) := by decide +kernel
theorem dX11_on_48 : decode cX11_on 48 = .ok (.iconst 1, 1) := by decide +kernel
theorem dX11_on_49 : decode cX11_on 49 = .ok (.ireturn, 1) := by decide +kernel
theorem dX11_status_0 : decode cX11_status 0 = .ok (.iload_n 1, 1) := by decide +kernel
theorem dX11_status_1 : decode cX11_status 1 = .ok (.ifCond .lt 21, 3) := by decide +kernel
theorem dX11_status_4 : decode cX11_status 4 = .ok (.iload_n 1, 1) := by decide +kernel
theorem dX11_status_5 : decode cX11_status 5 = .ok (.aload_n 0, 1) := by decide +kernel
theorem dX11_status_6 : decode cX11_status 6 = .ok (.getfield 74, 3) := by decide +kernel
theorem dX11_status_9 : decode cX11_status 9 = .ok (.arraylength, 1) := by decide +kernel
theorem dX11_status_10 : decode cX11_status 10 = .ok (.if_icmp .ge 12, 3) := by decide +kernel
theorem dX11_status_13 : decode cX11_status 13 = .ok (.aload_n 0, 1) := by decide +kernel
theorem dX11_status_14 : decode cX11_status 14 = .ok (.getfield 74, 3) := by decide +kernel
theorem dX11_status_17 : decode cX11_status 17 = .ok (.iload_n 1, 1) := by decide +kernel
theorem dX11_status_18 : decode cX11_status 18 = .ok (.iaload, 1) := by decide +kernel
theorem dX11_status_19 : decode cX11_status 19 = .ok (.goto 4, 3) := by decide +kernel
theorem dX11_status_22 : decode cX11_status 22 = .ok (.iconst (-1), 1) := by decide +kernel
theorem dX11_status_23 : decode cX11_status 23 = .ok (.ireturn, 1) := by decide +kernel
theorem dX4_fact_0 : decode cX4_fact 0 = .ok (.aload_n 0, 1) := by decide +kernel
theorem dX4_fact_1 : decode cX4_fact 1 = .ok (.bipush 19, 2) := by decide +kernel
theorem dX4_fact_3 : decode cX4_fact 3 = .ok (.invokevirtual 47, 3) := by decide +kernel
theorem dX4_fact_6 : decode cX4_fact 6 = .ok (.ifCond .eq 40, 3) := by decide +kernel
theorem dX4_fact_9 : decode cX4_fact 9 = .ok (.aload_n 0, 1) := by decide +kernel
theorem dX4_fact_10 : decode cX4_fact 10 = .ok (.invokevirtual 159, 3) := by decide +kernel
theorem dX4_fact_13 : decode cX4_fact 13 = .ok (.ifCond .ne 4, 3) := by decide +kernel
theorem dX4_fact_16 : decode cX4_fact 16 = .ok (.return_, 1) := by decide +kernel
theorem dX4_fact_17 : decode cX4_fact 17 = .ok (.aload_n 0, 1) := by decide +kernel
theorem dX4_fact_18 : decode cX4_fact 18 = .ok (.invokevirtual 153, 3) := by decide +kernel
theorem dX4_fact_21 : decode cX4_fact 21 = .ok (.aload_n 0, 1) := by decide +kernel
theorem dX4_fact_22 : decode cX4_fact 22 = .ok (.dup, 1) := by decide +kernel
theorem dX4_fact_23 : decode cX4_fact 23 = .ok (.getfield 42, 3) := by decide +kernel
theorem dX4_fact_26 : decode cX4_fact 26 = .ok (.iconst 1, 1) := by decide +kernel
theorem dX4_fact_27 : decode cX4_fact 27 = .ok (.isub, 1) := by decide +kernel
theorem dX4_fact_28 : decode cX4_fact 28 = .ok (.putfield 42, 3) := by decide +kernel
theorem dX4_fact_31 : decode cX4_fact 31 = .ok (.aload_n 0, 1) := by decide +kernel
theorem dX4_fact_32 : decode cX4_fact 32 = .ok (.getfield 12, 3) := by decide +kernel
theorem dX4_fact_35 : decode cX4_fact 35 = .ok (.getfield 129, 3) := by decide +kernel
theorem dX4_fact_38 : decode cX4_fact 38 = .ok (.bipush 19, 2) := by decide +kernel
theorem dX4_fact_40 : decode cX4_fact 40 = .ok (.invokevirtual 156, 3) := by decide +kernel
theorem dX4_fact_43 : decode cX4_fact 43 = .ok (.goto 141, 3) := by decide +kernel
theorem dX4_fact_46 : decode cX4_fact 46 = .ok (.aload_n 0, 1) := by decide +kernel
theorem dX4_fact_47 : decode cX4_fact 47 = .ok (.bipush 91, 2) := by decide +kernel
theorem dX4_fact_49 : decode cX4_fact 49 = .ok (.invokevirtual 47, 3) := by decide +kernel
theorem dX4_fact_52 : decode cX4_fact 52 = .ok (.ifCond .eq 34, 3) := by decide +kernel
theorem dX4_fact_55 : decode cX4_fact 55 = .ok (.aload_n 0, 1) := by decide +kernel
theorem dX4_fact_56 : decode cX4_fact 56 = .ok (.invokevirtual 159, 3) := by decide +kernel
theorem dX4_fact_59 : decode cX4_fact 59 = .ok (.ifCond .ne 4, 3) := by decide +kernel
theorem dX4_fact_62 : decode cX4_fact 62 = .ok (.return_, 1) := by decide +kernel
theorem dX4_fact_63 : decode cX4_fact 63 = .ok (.aload_n 0, 1) := by decide +kernel
theorem dX4_fact_64 : decode cX4_fact 64 = .ok (.invokevirtual 147, 3) := by decide +kernel
theorem dX4_fact_67 : decode cX4_fact 67 = .ok (.aload_n 0, 1) := by decide +kernel
theorem dX4_fact_68 : decode cX4_fact 68 = .ok (.bipush 93, 2) := by decide +kernel
theorem dX4_fact_70 : decode cX4_fact 70 = .ok (.invokevirtual 62, 3) := by decide +kernel
theorem dX4_fact_73 : decode cX4_fact 73 = .ok (.aload_n 0, 1) := by decide +kernel
theorem dX4_fact_74 : decode cX4_fact 74 = .ok (.dup, 1) := by decide +kernel
theorem dX4_fact_75 : decode cX4_fact 75 = .ok (.getfield 42, 3) := by decide +kernel
theorem dX4_fact_78 : decode cX4_fact 78 = .ok (.iconst 1, 1) := by decide +kernel
theorem dX4_fact_79 : decode cX4_fact 79 = .ok (.isub, 1) := by decide +kernel
theorem dX4_fact_80 : decode cX4_fact 80 = .ok (.putfield 42, 3) := by decide +kernel
theorem dX4_fact_83 : decode cX4_fact 83 = .ok (.goto 101, 3) := by decide +kernel
theorem dX4_fact_86 : decode cX4_fact 86 = .ok (.aload_n 0, 1) := by decide +kernel
theorem dX4_fact_87 : decode cX4_fact 87 = .ok (.bipush 20, 2) := by decide +kernel
theorem dX4_fact_89 : decode cX4_fact 89 = .ok (.invokevirtual 47, 3) := by decide +kernel
theorem dX4_fact_92 : decode cX4_fact 92 = .ok (.ifCond .eq 27, 3) := by decide +kernel
theorem dX4_fact_95 : decode cX4_fact 95 = .ok (.aload_n 0, 1) := by decide +kernel
theorem dX4_fact_96 : decode cX4_fact 96 = .ok (.dup, 1) := by decide +kernel
theorem dX4_fact_97 : decode cX4_fact 97 = .ok (.getfield 39, 3) := by decide +kernel
theorem dX4_fact_100 : decode cX4_fact 100 = .ok (.iconst 1, 1) := by decide +kernel
theorem dX4_fact_101 : decode cX4_fact 101 = .ok (.iadd, 1) := by decide +kernel
theorem dX4_fact_102 : decode cX4_fact 102 = .ok (.putfield 39, 3) := by decide +kernel
theorem dX4_fact_105 : decode cX4_fact 105 = .ok (.aload_n 0, 1) := by decide +kernel
theorem dX4_fact_106 : decode cX4_fact 106 = .ok (.getfield 12, 3) := by decide +kernel
theorem dX4_fact_109 : decode cX4_fact 109 = .ok (.getfield 129, 3) := by decide +kernel
theorem dX4_fact_112 : decode cX4_fact 112 = .ok (.iconst 1, 1) := by decide +kernel
theorem dX4_fact_113 : decode cX4_fact 113 = .ok (.invokevirtual 163, 3) := by decide +kernel
theorem dX4_fact_116 : decode cX4_fact 116 = .ok (.goto 68, 3) := by decide +kernel
theorem dX4_fact_119 : decode cX4_fact 119 = .ok (.aload_n 0, 1) := by decide +kernel
theorem dX4_fact_120 : decode cX4_fact 120 = .ok (.invokevirtual 144, 3) := by decide +kernel
theorem dX4_fact_123 : decode cX4_fact 123 = .ok (.aload_n 0, 1) := by decide +kernel
theorem dX4_fact_124 : decode cX4_fact 124 = .ok (.invokevirtual 54, 3) := by decide +kernel
theorem dX4_fact_127 : decode cX4_fact 127 = .ok (.istore_n 1, 1) := by decide +kernel
theorem dX4_fact_128 : decode cX4_fact 128 = .ok (.iload_n 1, 1) := by decide +kernel
theorem dX4_fact_129 : decode cX4_fact 129 = .ok (.bipush 60, 2) := by decide +kernel
theorem dX4_fact_131 : decode cX4_fact 131 = .ok (.if_icmp .eq 20, 3) := by decide +kernel
theorem dX4_fact_134 : decode cX4_fact 134 = .ok (.iload_n 1, 1) := by decide +kernel
theorem dX4_fact_135 : decode cX4_fact 135 = .ok (.bipush 62, 2) := by decide +kernel
theorem dX4_fact_137 : decode cX4_fact 137 = .ok (.if_icmp .eq 14, 3) := by decide +kernel
theorem dX4_fact_140 : decode cX4_fact 140 = .ok (.iload_n 1, 1) := by decide +kernel
theorem dX4_fact_141 : decode cX4_fact 141 = .ok (.bipush 61, 2) := by decide +kernel
theorem dX4_fact_143 : decode cX4_fact 143 = .ok (.if_icmp .eq 8, 3) := by decide +kernel
theorem dX4_fact_146 : decode cX4_fact 146 = .ok (.aload_n 0, 1) := by decide +kernel
theorem dX4_fact_147 : decode cX4_fact 147 = .ok (.iconst 1, 1) := by decide +kernel
theorem dX4_fact_148 : decode cX4_fact 148 = .ok (.invokevirtual 65, 3) := by decide +kernel
theorem dX4_fact_151 : decode cX4_fact 151 = .ok (.aload_n 0, 1) := by decide +kernel
theorem dX4_fact_152 : decode cX4_fact 152 = .ok (.getfield 36, 3) := by decide +kernel
theorem dX4_fact_155 : decode cX4_fact 155 = .ok (.ifCond .eq 4, 3) := by decide +kernel
theorem dX4_fact_158 : decode cX4_fact 158 = .ok (.return_, 1) := by decide +kernel
theorem dX4_fact_159 : decode cX4_fact 159 = .ok (.aload_n 0, 1) := by decide +kernel
theorem dX4_fact_160 : decode cX4_fact 160 = .ok (.dup, 1) := by decide +kernel
theorem dX4_fact_161 : decode cX4_fact 161 = .ok (.getfield 39, 3) := by decide +kernel
theorem dX4_fact_164 : decode cX4_fact 164 = .ok (.iconst 1, 1) := by decide +kernel
theorem dX4_fact_165 : decode cX4_fact 165 = .ok (.iadd, 1) := by decide +kernel
theorem dX4_fact_166 : decode cX4_fact 166 = .ok (.putfield 39, 3) := by decide +kernel
theorem dX4_fact_169 : decode cX4_fact 169 = .ok (.aload_n 0, 1) := by decide +kernel
theorem dX4_fact_170 : decode cX4_fact 170 = .ok (.invokevirtual 144, 3) := by decide +kernel
theorem dX4_fact_173 : decode cX4_fact 173 = .ok (.aload_n 0, 1) := by decide +kernel
theorem dX4_fact_174 : decode cX4_fact 174 = .ok (.getfield 12, 3) := by decide +kernel
theorem dX4_fact_177 : decode cX4_fact 177 = .ok (.getfield 129, 3) := by decide +kernel
theorem dX4_fact_180 : decode cX4_fact 180 = .ok (.iload_n 1, 1) := by decide +kernel
theorem dX4_fact_181 : decode cX4_fact 181 = .ok (.invokevirtual 156, 3) := by decide +kernel
theorem dX4_fact_184 : decode cX4_fact 184 = .ok (.return_, 1) := by decide +kernel
theorem dX4_test_0 : decode cX4_test 0 = .ok (.iconst 0, 1) := by decide +kernel
theorem dX4_test_1 : decode cX4_test 1 = .ok (.istore_n 1, 1) := by decide +kernel
theorem dX4_test_2 : decode cX4_test 2 = .ok (.aload_n 0, 1) := by decide +kernel
theorem dX4_test_3 : decode cX4_test 3 = .ok (.invokevirtual 153, 3) := by decide +kernel
theorem dX4_test_6 : decode cX4_test 6 = .ok (.iconst 0, 1) := by decide +kernel
theorem dX4_test_7 : decode cX4_test 7 = .ok (.istore_n 2, 1) := by decide +kernel
theorem dX4_test_8 : decode cX4_test 8 = .ok (.iload_n 2, 1) := by decide +kernel
theorem dX4_test_9 : decode cX4_test 9 = .ok (.sipush 1600, 3) := by decide +kernel
theorem dX4_test_12 : decode cX4_test 12 = .ok (.if_icmp .ge 90, 3) := by decide +kernel
theorem dX4_test_15 : decode cX4_test 15 = .ok (.aload_n 0, 1) := by decide +kernel
theorem dX4_test_16 : decode cX4_test 16 = .ok (.bipush 17, 2) := by decide +kernel
theorem dX4_test_18 : decode cX4_test 18 = .ok (.invokevirtual 47, 3) := by decide +kernel
theorem dX4_test_21 : decode cX4_test 21 = .ok (.ifCond .ne 12, 3) := by decide +kernel
theorem dX4_test_24 : decode cX4_test 24 = .ok (.aload_n 0, 1) := by decide +kernel
theorem dX4_test_25 : decode cX4_test 25 = .ok (.bipush 18, 2) := by decide +kernel
theorem dX4_test_27 : decode cX4_test 27 = .ok (.invokevirtual 47, 3) := by decide +kernel
theorem dX4_test_30 : decode cX4_test 30 = .ok (.ifCond .eq 72, 3) := by decide +kernel
theorem dX4_test_33 : decode cX4_test 33 = .ok (.aload_n 0, 1) := by decide +kernel
theorem dX4_test_34 : decode cX4_test 34 = .ok (.bipush 18, 2) := by decide +kernel
theorem dX4_test_36 : decode cX4_test 36 = .ok (.invokevirtual 47, 3) := by decide +kernel
theorem dX4_test_39 : decode cX4_test 39 = .ok (.istore_n 3, 1) := by decide +kernel
theorem dX4_test_40 : decode cX4_test 40 = .ok (.iload_n 3, 1) := by decide +kernel
theorem dX4_test_41 : decode cX4_test 41 = .ok (.ifCond .ne 19, 3) := by decide +kernel
theorem dX4_test_44 : decode cX4_test 44 = .ok (.iload_n 1, 1) := by decide +kernel
theorem dX4_test_45 : decode cX4_test 45 = .ok (.ifCond .eq 15, 3) := by decide +kernel
theorem dX4_test_48 : decode cX4_test 48 = .ok (.aload_n 0, 1) := by decide +kernel
theorem dX4_test_49 : decode cX4_test 49 = .ok (.getfield 12, 3) := by decide +kernel
theorem dX4_test_52 : decode cX4_test 52 = .ok (.getfield 129, 3) := by decide +kernel
theorem dX4_test_55 : decode cX4_test 55 = .ok (.bipush 17, 2) := by decide +kernel
theorem dX4_test_57 : decode cX4_test 57 = .ok (.invokevirtual 156, 3) := by decide +kernel
theorem dX4_test_60 : decode cX4_test 60 = .ok (.iload_n 3, 1) := by decide +kernel
theorem dX4_test_61 : decode cX4_test 61 = .ok (.ifCond .ne 5, 3) := by decide +kernel
theorem dX4_test_64 : decode cX4_test 64 = .ok (.iconst 1, 1) := by decide +kernel
theorem dX4_test_65 : decode cX4_test 65 = .ok (.istore_n 1, 1) := by decide +kernel
theorem dX4_test_66 : decode cX4_test 66 = .ok (.aload_n 0, 1) := by decide +kernel
theorem dX4_test_67 : decode cX4_test 67 = .ok (.dup, 1) := by decide +kernel
theorem dX4_test_68 : decode cX4_test 68 = .ok (.getfield 39, 3) := by decide +kernel
theorem dX4_test_71 : decode cX4_test 71 = .ok (.iconst 1, 1) := by decide +kernel
theorem dX4_test_72 : decode cX4_test 72 = .ok (.iadd, 1) := by decide +kernel
theorem dX4_test_73 : decode cX4_test 73 = .ok (.putfield 39, 3) := by decide +kernel
theorem dX4_test_76 : decode cX4_test 76 = .ok (.aload_n 0, 1) := by decide +kernel
theorem dX4_test_77 : decode cX4_test 77 = .ok (.invokevirtual 153, 3) := by decide +kernel
theorem dX4_test_80 : decode cX4_test 80 = .ok (.iload_n 3, 1) := by decide +kernel
theorem dX4_test_81 : decode cX4_test 81 = .ok (.ifCond .eq 15, 3) := by decide +kernel
theorem dX4_test_84 : decode cX4_test 84 = .ok (.aload_n 0, 1) := by decide +kernel
theorem dX4_test_85 : decode cX4_test 85 = .ok (.getfield 12, 3) := by decide +kernel
theorem dX4_test_88 : decode cX4_test 88 = .ok (.getfield 129, 3) := by decide +kernel
theorem dX4_test_91 : decode cX4_test 91 = .ok (.bipush 18, 2) := by decide +kernel
theorem dX4_test_93 : decode cX4_test 93 = .ok (.invokevirtual 156, 3) := by decide +kernel
theorem dX4_test_96 : decode cX4_test 96 = .ok (.iinc 2 1, 3) := by decide +kernel
theorem dX4_test_99 : decode cX4_test 99 = .ok (.goto (-91), 3) := by decide +kernel
theorem dX4_test_102 : decode cX4_test 102 = .ok (.iload_n 1, 1) := by decide +kernel
theorem dX4_test_103 : decode cX4_test 103 = .ok (.ifCond .eq 15, 3) := by decide +kernel
theorem dX4_test_106 : decode cX4_test 106 = .ok (.aload_n 0, 1) := by decide +kernel
theorem dX4_test_107 : decode cX4_test 107 = .ok (.getfield 12, 3) := by decide +kernel
theorem dX4_test_110 : decode cX4_test 110 = .ok (.getfield 129, 3) := by decide +kernel
theorem dX4_test_113 : decode cX4_test 113 = .ok (.bipush 17, 2) := by decide +kernel
theorem dX4_test_115 : decode cX4_test 115 = .ok (.invokevirtual 156, 3) := by decide +kernel
theorem dX4_test_118 : decode cX4_test 118 = .ok (.return_, 1) := by decide +kernel
theorem dX4_part_0 : decode cX4_part 0 = .ok (.aload_n 0, 1) := by decide +kernel
theorem dX4_part_1 : decode cX4_part 1 = .ok (.invokevirtual 54, 3) := by decide +kernel
theorem dX4_part_4 : decode cX4_part 4 = .ok (.istore_n 1, 1) := by decide +kernel
theorem dX4_part_5 : decode cX4_part 5 = .ok (.aload_n 0, 1) := by decide +kernel
theorem dX4_part_6 : decode cX4_part 6 = .ok (.bipush 24, 2) := by decide +kernel
theorem dX4_part_8 : decode cX4_part 8 = .ok (.invokevirtual 47, 3) := by decide +kernel
theorem dX4_part_11 : decode cX4_part 11 = .ok (.ifCond .eq 24, 3) := by decide +kernel
theorem dX4_part_14 : decode cX4_part 14 = .ok (.aload_n 0, 1) := by decide +kernel
theorem dX4_part_15 : decode cX4_part 15 = .ok (.getfield 12, 3) := by decide +kernel
theorem dX4_part_18 : decode cX4_part 18 = .ok (.getfield 129, 3) := by decide +kernel
theorem dX4_part_21 : decode cX4_part 21 = .ok (.aload_n 0, 1) := by decide +kernel
theorem dX4_part_22 : decode cX4_part 22 = .ok (.iconst 0, 1) := by decide +kernel
theorem dX4_part_23 : decode cX4_part 23 = .ok (.sipush 9999, 3) := by decide +kernel
theorem dX4_part_26 : decode cX4_part 26 = .ok (.invokevirtual 83, 3) := by decide +kernel
theorem dX4_part_29 : decode cX4_part 29 = .ok (.invokevirtual 163, 3) := by decide +kernel
theorem dX4_part_32 : decode cX4_part 32 = .ok (.goto 197, 3) := by decide +kernel
theorem dX4_part_35 : decode cX4_part 35 = .ok (.aload_n 0, 1) := by decide +kernel
theorem dX4_part_36 : decode cX4_part 36 = .ok (.bipush 40, 2) := by decide +kernel
theorem dX4_part_38 : decode cX4_part 38 = .ok (.invokevirtual 47, 3) := by decide +kernel
theorem dX4_part_41 : decode cX4_part 41 = .ok (.ifCond .eq 34, 3) := by decide +kernel
theorem dX4_part_44 : decode cX4_part 44 = .ok (.aload_n 0, 1) := by decide +kernel
theorem dX4_part_45 : decode cX4_part 45 = .ok (.invokevirtual 159, 3) := by decide +kernel
theorem dX4_part_48 : decode cX4_part 48 = .ok (.ifCond .ne 4, 3) := by decide +kernel
theorem dX4_part_51 : decode cX4_part 51 = .ok (.return_, 1) := by decide +kernel
theorem dX4_part_52 : decode cX4_part 52 = .ok (.aload_n 0, 1) := by decide +kernel
theorem dX4_part_53 : decode cX4_part 53 = .ok (.invokevirtual 144, 3) := by decide +kernel
theorem dX4_part_56 : decode cX4_part 56 = .ok (.aload_n 0, 1) := by decide +kernel
theorem dX4_part_57 : decode cX4_part 57 = .ok (.bipush 41, 2) := by decide +kernel
theorem dX4_part_59 : decode cX4_part 59 = .ok (.invokevirtual 62, 3) := by decide +kernel
theorem dX4_part_62 : decode cX4_part 62 = .ok (.aload_n 0, 1) := by decide +kernel
theorem dX4_part_63 : decode cX4_part 63 = .ok (.dup, 1) := by decide +kernel
theorem dX4_part_64 : decode cX4_part 64 = .ok (.getfield 42, 3) := by decide +kernel
theorem dX4_part_67 : decode cX4_part 67 = .ok (.iconst 1, 1) := by decide +kernel
theorem dX4_part_68 : decode cX4_part 68 = .ok (.isub, 1) := by decide +kernel
theorem dX4_part_69 : decode cX4_part 69 = .ok (.putfield 42, 3) := by decide +kernel
theorem dX4_part_72 : decode cX4_part 72 = .ok (.goto 157, 3) := by decide +kernel
theorem dX4_part_75 : decode cX4_part 75 = .ok (.iload_n 1, 1) := by decide +kernel
theorem dX4_part_76 : decode cX4_part 76 = .ok (.bipush 21, 2) := by decide +kernel
theorem dX4_part_78 : decode cX4_part 78 = .ok (.if_icmp .eq 15, 3) := by decide +kernel
theorem dX4_part_81 : decode cX4_part 81 = .ok (.iload_n 1, 1) := by decide +kernel
theorem dX4_part_82 : decode cX4_part 82 = .ok (.bipush 22, 2) := by decide +kernel
theorem dX4_part_84 : decode cX4_part 84 = .ok (.if_icmp .eq 9, 3) := by decide +kernel
theorem dX4_part_87 : decode cX4_part 87 = .ok (.iload_n 1, 1) := by decide +kernel
theorem dX4_part_88 : decode cX4_part 88 = .ok (.bipush 16, 2) := by decide +kernel
theorem dX4_part_90 : decode cX4_part 90 = .ok (.if_icmp .ne 102, 3) := by decide +kernel
theorem dX4_part_93 : decode cX4_part 93 = .ok (.aload_n 0, 1) := by decide +kernel
theorem dX4_part_94 : decode cX4_part 94 = .ok (.dup, 1) := by decide +kernel
theorem dX4_part_95 : decode cX4_part 95 = .ok (.getfield 39, 3) := by decide +kernel
theorem dX4_part_98 : decode cX4_part 98 = .ok (.iconst 1, 1) := by decide +kernel
theorem dX4_part_99 : decode cX4_part 99 = .ok (.iadd, 1) := by decide +kernel
theorem dX4_part_100 : decode cX4_part 100 = .ok (.putfield 39, 3) := by decide +kernel
theorem dX4_part_103 : decode cX4_part 103 = .ok (.aload_n 0, 1) := by decide +kernel
theorem dX4_part_104 : decode cX4_part 104 = .ok (.bipush 40, 2) := by decide +kernel
theorem dX4_part_106 : decode cX4_part 106 = .ok (.invokevirtual 47, 3) := by decide +kernel
theorem dX4_part_109 : decode cX4_part 109 = .ok (.ifCond .ne 8, 3) := by decide +kernel
theorem dX4_part_112 : decode cX4_part 112 = .ok (.aload_n 0, 1) := by decide +kernel
theorem dX4_part_113 : decode cX4_part 113 = .ok (.iconst 1, 1) := by decide +kernel
theorem dX4_part_114 : decode cX4_part 114 = .ok (.invokevirtual 65, 3) := by decide +kernel
theorem dX4_part_117 : decode cX4_part 117 = .ok (.aload_n 0, 1) := by decide +kernel
theorem dX4_part_118 : decode cX4_part 118 = .ok (.invokevirtual 159, 3) := by decide +kernel
theorem dX4_part_121 : decode cX4_part 121 = .ok (.ifCond .ne 4, 3) := by decide +kernel
theorem dX4_part_124 : decode cX4_part 124 = .ok (.return_, 1) := by decide +kernel
theorem dX4_part_125 : decode cX4_part 125 = .ok (.iload_n 1, 1) := by decide +kernel
theorem dX4_part_126 : decode cX4_part 126 = .ok (.bipush 16, 2) := by decide +kernel
theorem dX4_part_128 : decode cX4_part 128 = .ok (.if_icmp .ne 20, 3) := by decide +kernel
theorem dX4_part_131 : decode cX4_part 131 = .ok (.aload_n 0, 1) := by decide +kernel
theorem dX4_part_132 : decode cX4_part 132 = .ok (.invokevirtual 147, 3) := by decide +kernel
theorem dX4_part_135 : decode cX4_part 135 = .ok (.aload_n 0, 1) := by decide +kernel
theorem dX4_part_136 : decode cX4_part 136 = .ok (.bipush 44, 2) := by decide +kernel
theorem dX4_part_138 : decode cX4_part 138 = .ok (.invokevirtual 62, 3) := by decide +kernel
theorem dX4_part_141 : decode cX4_part 141 = .ok (.aload_n 0, 1) := by decide +kernel
theorem dX4_part_142 : decode cX4_part 142 = .ok (.invokevirtual 144, 3) := by decide +kernel
theorem dX4_part_145 : decode cX4_part 145 = .ok (.goto 7, 3) := by decide +kernel
theorem dX4_part_148 : decode cX4_part 148 = .ok (.aload_n 0, 1) := by decide +kernel
theorem dX4_part_149 : decode cX4_part 149 = .ok (.invokevirtual 144, 3) := by decide +kernel
theorem dX4_part_152 : decode cX4_part 152 = .ok (.aload_n 0, 1) := by decide +kernel
theorem dX4_part_153 : decode cX4_part 153 = .ok (.bipush 44, 2) := by decide +kernel
theorem dX4_part_155 : decode cX4_part 155 = .ok (.invokevirtual 62, 3) := by decide +kernel
theorem dX4_part_158 : decode cX4_part 158 = .ok (.aload_n 0, 1) := by decide +kernel
theorem dX4_part_159 : decode cX4_part 159 = .ok (.invokevirtual 144, 3) := by decide +kernel
theorem dX4_part_162 : decode cX4_part 162 = .ok (.aload_n 0, 1) := by decide +kernel
theorem dX4_part_163 : decode cX4_part 163 = .ok (.bipush 41, 2) := by decide +kernel
theorem dX4_part_165 : decode cX4_part 165 = .ok (.invokevirtual 62, 3) := by decide +kernel
theorem dX4_part_168 : decode cX4_part 168 = .ok (.aload_n 0, 1) := by decide +kernel
theorem dX4_part_169 : decode cX4_part 169 = .ok (.dup, 1) := by decide +kernel
theorem dX4_part_170 : decode cX4_part 170 = .ok (.getfield 42, 3) := by decide +kernel
theorem dX4_part_173 : decode cX4_part 173 = .ok (.iconst 1, 1) := by decide +kernel
theorem dX4_part_174 : decode cX4_part 174 = .ok (.isub, 1) := by decide +kernel
theorem dX4_part_175 : decode cX4_part 175 = .ok (.putfield 42, 3) := by decide +kernel
theorem dX4_part_178 : decode cX4_part 178 = .ok (.aload_n 0, 1) := by decide +kernel
theorem dX4_part_179 : decode cX4_part 179 = .ok (.getfield 12, 3) := by decide +kernel
theorem dX4_part_182 : decode cX4_part 182 = .ok (.getfield 129, 3) := by decide +kernel
theorem dX4_part_185 : decode cX4_part 185 = .ok (.iload_n 1, 1) := by decide +kernel
theorem dX4_part_186 : decode cX4_part 186 = .ok (.invokevirtual 156, 3) := by decide +kernel
theorem dX4_part_189 : decode cX4_part 189 = .ok (.goto 40, 3) := by decide +kernel
theorem dX4_part_192 : decode cX4_part 192 = .ok (.aload_n 0, 1) := by decide +kernel
theorem dX4_part_193 : decode cX4_part 193 = .ok (.iload_n 1, 1) := by decide +kernel
theorem dX4_part_194 : decode cX4_part 194 = .ok (.invokevirtual 169, 3) := by decide +kernel
theorem dX4_part_197 : decode cX4_part 197 = .ok (.ifCond .eq 27, 3) := by decide +kernel
theorem dX4_part_200 : decode cX4_part 200 = .ok (.aload_n 0, 1) := by decide +kernel
theorem dX4_part_201 : decode cX4_part 201 = .ok (.dup, 1) := by decide +kernel
theorem dX4_part_202 : decode cX4_part 202 = .ok (.getfield 39, 3) := by decide +kernel
theorem dX4_part_205 : decode cX4_part 205 = .ok (.iconst 1, 1) := by decide +kernel
theorem dX4_part_206 : decode cX4_part 206 = .ok (.iadd, 1) := by decide +kernel
theorem dX4_part_207 : decode cX4_part 207 = .ok (.putfield 39, 3) := by decide +kernel
theorem dX4_part_210 : decode cX4_part 210 = .ok (.aload_n 0, 1) := by decide +kernel
theorem dX4_part_211 : decode cX4_part 211 = .ok (.getfield 12, 3) := by decide +kernel
theorem dX4_part_214 : decode cX4_part 214 = .ok (.getfield 129, 3) := by decide +kernel
theorem dX4_part_217 : decode cX4_part 217 = .ok (.iload_n 1, 1) := by decide +kernel
theorem dX4_part_218 : decode cX4_part 218 = .ok (.invokevirtual 172, 3) := by decide +kernel
theorem dX4_part_221 : decode cX4_part 221 = .ok (.goto 8, 3) := by decide +kernel
theorem dX4_part_224 : decode cX4_part 224 = .ok (.aload_n 0, 1) := by decide +kernel
theorem dX4_part_225 : decode cX4_part 225 = .ok (.iconst 1, 1) := by decide +kernel
theorem dX4_part_226 : decode cX4_part 226 = .ok (.invokevirtual 65, 3) := by decide +kernel
theorem dX4_part_229 : decode cX4_part 229 = .ok (.return_, 1) := by decide +kernel
theorem dX4_sum_0 : decode cX4_sum 0 = .ok (.iconst 0, 1) := by decide +kernel
theorem dX4_sum_1 : decode cX4_sum 1 = .ok (.istore_n 1, 1) := by decide +kernel
theorem dX4_sum_2 : decode cX4_sum 2 = .ok (.aload_n 0, 1) := by decide +kernel
theorem dX4_sum_3 : decode cX4_sum 3 = .ok (.invokevirtual 166, 3) := by decide +kernel
theorem dX4_sum_6 : decode cX4_sum 6 = .ok (.iconst 0, 1) := by decide +kernel
theorem dX4_sum_7 : decode cX4_sum 7 = .ok (.istore_n 2, 1) := by decide +kernel
theorem dX4_sum_8 : decode cX4_sum 8 = .ok (.iload_n 2, 1) := by decide +kernel
theorem dX4_sum_9 : decode cX4_sum 9 = .ok (.sipush 1600, 3) := by decide +kernel
theorem dX4_sum_12 : decode cX4_sum 12 = .ok (.if_icmp .ge 123, 3) := by decide +kernel
theorem dX4_sum_15 : decode cX4_sum 15 = .ok (.aload_n 0, 1) := by decide +kernel
theorem dX4_sum_16 : decode cX4_sum 16 = .ok (.getfield 36, 3) := by decide +kernel
theorem dX4_sum_19 : decode cX4_sum 19 = .ok (.ifCond .ne 116, 3) := by decide +kernel
theorem dX4_sum_22 : decode cX4_sum 22 = .ok (.aload_n 0, 1) := by decide +kernel
theorem dX4_sum_23 : decode cX4_sum 23 = .ok (.invokevirtual 54, 3) := by decide +kernel
theorem dX4_sum_26 : decode cX4_sum 26 = .ok (.istore_n 3, 1) := by decide +kernel
theorem dX4_sum_27 : decode cX4_sum 27 = .ok (.iload_n 3, 1) := by decide +kernel
theorem dX4_sum_28 : decode cX4_sum 28 = .ok (.bipush 43, 2) := by decide +kernel
theorem dX4_sum_30 : decode cX4_sum 30 = .ok (.if_icmp .eq 9, 3) := by decide +kernel
theorem dX4_sum_33 : decode cX4_sum 33 = .ok (.iload_n 3, 1) := by decide +kernel
theorem dX4_sum_34 : decode cX4_sum 34 = .ok (.bipush 45, 2) := by decide +kernel
theorem dX4_sum_36 : decode cX4_sum 36 = .ok (.if_icmp .ne 7, 3) := by decide +kernel
theorem dX4_sum_39 : decode cX4_sum 39 = .ok (.iconst 1, 1) := by decide +kernel
theorem dX4_sum_40 : decode cX4_sum 40 = .ok (.goto 4, 3) := by decide +kernel
theorem dX4_sum_43 : decode cX4_sum 43 = .ok (.iconst 0, 1) := by decide +kernel
theorem dX4_sum_44 : decode cX4_sum 44 = .ok (.istore 4, 2) := by decide +kernel
theorem dX4_sum_46 : decode cX4_sum 46 = .ok (.iload 4, 2) := by decide +kernel
theorem dX4_sum_48 : decode cX4_sum 48 = .ok (.ifCond .ne 24, 3) := by decide +kernel
theorem dX4_sum_51 : decode cX4_sum 51 = .ok (.iload_n 3, 1) := by decide +kernel
theorem dX4_sum_52 : decode cX4_sum 52 = .ok (.bipush 42, 2) := by decide +kernel
theorem dX4_sum_54 : decode cX4_sum 54 = .ok (.if_icmp .eq 18, 3) := by decide +kernel
theorem dX4_sum_57 : decode cX4_sum 57 = .ok (.iload_n 3, 1) := by decide +kernel
theorem dX4_sum_58 : decode cX4_sum 58 = .ok (.bipush 47, 2) := by decide +kernel
theorem dX4_sum_60 : decode cX4_sum 60 = .ok (.if_icmp .eq 12, 3) := by decide +kernel
theorem dX4_sum_63 : decode cX4_sum 63 = .ok (.iload_n 3, 1) := by decide +kernel
theorem dX4_sum_64 : decode cX4_sum 64 = .ok (.bipush 37, 2) := by decide +kernel
theorem dX4_sum_66 : decode cX4_sum 66 = .ok (.if_icmp .eq 6, 3) := by decide +kernel
theorem dX4_sum_69 : decode cX4_sum 69 = .ok (.goto 66, 3) := by decide +kernel
theorem dX4_sum_72 : decode cX4_sum 72 = .ok (.iload 4, 2) := by decide +kernel
theorem dX4_sum_74 : decode cX4_sum 74 = .ok (.ifCond .eq 18, 3) := by decide +kernel
theorem dX4_sum_77 : decode cX4_sum 77 = .ok (.iload_n 1, 1) := by decide +kernel
theorem dX4_sum_78 : decode cX4_sum 78 = .ok (.ifCond .eq 14, 3) := by decide +kernel
theorem dX4_sum_81 : decode cX4_sum 81 = .ok (.aload_n 0, 1) := by decide +kernel
theorem dX4_sum_82 : decode cX4_sum 82 = .ok (.getfield 12, 3) := by decide +kernel
theorem dX4_sum_85 : decode cX4_sum 85 = .ok (.getfield 129, 3) := by decide +kernel
theorem dX4_sum_88 : decode cX4_sum 88 = .ok (.iload_n 1, 1) := by decide +kernel
theorem dX4_sum_89 : decode cX4_sum 89 = .ok (.invokevirtual 156, 3) := by decide +kernel
theorem dX4_sum_92 : decode cX4_sum 92 = .ok (.iload 4, 2) := by decide +kernel
theorem dX4_sum_94 : decode cX4_sum 94 = .ok (.ifCond .eq 5, 3) := by decide +kernel
theorem dX4_sum_97 : decode cX4_sum 97 = .ok (.iload_n 3, 1) := by decide +kernel
theorem dX4_sum_98 : decode cX4_sum 98 = .ok (.istore_n 1, 1) := by decide +kernel
theorem dX4_sum_99 : decode cX4_sum 99 = .ok (.aload_n 0, 1) := by decide +kernel
theorem dX4_sum_100 : decode cX4_sum 100 = .ok (.dup, 1) := by decide +kernel
theorem dX4_sum_101 : decode cX4_sum 101 = .ok (.getfield 39, 3) := by decide +kernel
theorem dX4_sum_104 : decode cX4_sum 104 = .ok (.iconst 1, 1) := by decide +kernel
theorem dX4_sum_105 : decode cX4_sum 105 = .ok (.iadd, 1) := by decide +kernel
theorem dX4_sum_106 : decode cX4_sum 106 = .ok (.putfield 39, 3) := by decide +kernel
theorem dX4_sum_109 : decode cX4_sum 109 = .ok (.aload_n 0, 1) := by decide +kernel
theorem dX4_sum_110 : decode cX4_sum 110 = .ok (.invokevirtual 166, 3) := by decide +kernel
theorem dX4_sum_113 : decode cX4_sum 113 = .ok (.iload 4, 2) := by decide +kernel
theorem dX4_sum_115 : decode cX4_sum 115 = .ok (.ifCond .ne 14, 3) := by decide +kernel
theorem dX4_sum_118 : decode cX4_sum 118 = .ok (.aload_n 0, 1) := by decide +kernel
theorem dX4_sum_119 : decode cX4_sum 119 = .ok (.getfield 12, 3) := by decide +kernel
theorem dX4_sum_122 : decode cX4_sum 122 = .ok (.getfield 129, 3) := by decide +kernel
theorem dX4_sum_125 : decode cX4_sum 125 = .ok (.iload_n 3, 1) := by decide +kernel
theorem dX4_sum_126 : decode cX4_sum 126 = .ok (.invokevirtual 156, 3) := by decide +kernel
theorem dX4_sum_129 : decode cX4_sum 129 = .ok (.iinc 2 1, 3) := by decide +kernel
theorem dX4_sum_132 : decode cX4_sum 132 = .ok (.goto (-124), 3) := by decide +kernel
theorem dX4_sum_135 : decode cX4_sum 135 = .ok (.iload_n 1, 1) := by decide +kernel
theorem dX4_sum_136 : decode cX4_sum 136 = .ok (.ifCond .eq 14, 3) := by decide +kernel
theorem dX4_sum_139 : decode cX4_sum 139 = .ok (.aload_n 0, 1) := by decide +kernel
theorem dX4_sum_140 : decode cX4_sum 140 = .ok (.getfield 12, 3) := by decide +kernel
theorem dX4_sum_143 : decode cX4_sum 143 = .ok (.getfield 129, 3) := by decide +kernel
theorem dX4_sum_146 : decode cX4_sum 146 = .ok (.iload_n 1, 1) := by decide +kernel
theorem dX4_sum_147 : decode cX4_sum 147 = .ok (.invokevirtual 156, 3) := by decide +kernel
theorem dX4_sum_150 : decode cX4_sum 150 = .ok (.return_, 1) := by decide +kernel
theorem dX4_readRule_0 : decode cX4_readRule 0 = .ok (.aload_n 0, 1) := by decide +kernel
theorem dX4_readRule_1 : decode cX4_readRule 1 = .ok (.getfield 12, 3) := by decide +kernel
theorem dX4_readRule_4 : decode cX4_readRule 4 = .ok (.getfield 129, 3) := by decide +kernel
theorem dX4_readRule_7 : decode cX4_readRule 7 = .ok (.iload_n 1, 1) := by decide +kernel
theorem dX4_readRule_8 : decode cX4_readRule 8 = .ok (.invokevirtual 133, 3) := by decide +kernel
theorem dX4_readRule_11 : decode cX4_readRule 11 = .ok (.ifCond .eq 9, 3) := by decide +kernel
theorem dX4_readRule_14 : decode cX4_readRule 14 = .ok (.aload_n 0, 1) := by decide +kernel
theorem dX4_readRule_15 : decode cX4_readRule 15 = .ok (.bipush 6, 2) := by decide +kernel
theorem dX4_readRule_17 : decode cX4_readRule 17 = .ok (.invokevirtual 65, 3) := by decide +kernel
theorem dX4_readRule_20 : decode cX4_readRule 20 = .ok (.aload_n 0, 1) := by decide +kernel
theorem dX4_readRule_21 : decode cX4_readRule 21 = .ok (.getfield 36, 3) := by decide +kernel
theorem dX4_readRule_24 : decode cX4_readRule 24 = .ok (.ifCond .eq 4, 3) := by decide +kernel
theorem dX4_readRule_27 : decode cX4_readRule 27 = .ok (.return_, 1) := by decide +kernel
theorem dX4_readRule_28 : decode cX4_readRule 28 = .ok (.aload_n 0, 1) := by decide +kernel
theorem dX4_readRule_29 : decode cX4_readRule 29 = .ok (.dup, 1) := by decide +kernel
theorem dX4_readRule_30 : decode cX4_readRule 30 = .ok (.getfield 39, 3) := by decide +kernel
theorem dX4_readRule_33 : decode cX4_readRule 33 = .ok (.iconst 1, 1) := by decide +kernel
theorem dX4_readRule_34 : decode cX4_readRule 34 = .ok (.iadd, 1) := by decide +kernel
theorem dX4_readRule_35 : decode cX4_readRule 35 = .ok (.putfield 39, 3) := by decide +kernel
theorem dX4_readRule_38 : decode cX4_readRule 38 = .ok (.aload_n 0, 1) := by decide +kernel
theorem dX4_readRule_39 : decode cX4_readRule 39 = .ok (.iload_n 1, 1) := by decide +kernel
theorem dX4_readRule_40 : decode cX4_readRule 40 = .ok (.putfield 138, 3) := by decide +kernel
theorem dX4_readRule_43 : decode cX4_readRule 43 = .ok (.aload_n 0, 1) := by decide +kernel
theorem dX4_readRule_44 : decode cX4_readRule 44 = .ok (.getfield 12, 3) := by decide +kernel
theorem dX4_readRule_47 : decode cX4_readRule 47 = .ok (.getfield 129, 3) := by decide +kernel
theorem dX4_readRule_50 : decode cX4_readRule 50 = .ok (.iload_n 1, 1) := by decide +kernel
theorem dX4_readRule_51 : decode cX4_readRule 51 = .ok (.invokevirtual 141, 3) := by decide +kernel
theorem dX4_readRule_54 : decode cX4_readRule 54 = .ok (.iload_n 1, 1) := by decide +kernel
theorem dX4_readRule_55 : decode cX4_readRule 55 = .ok (.ifCond .ne 10, 3) := by decide +kernel
theorem dX4_readRule_58 : decode cX4_readRule 58 = .ok (.aload_n 0, 1) := by decide +kernel
theorem dX4_readRule_59 : decode cX4_readRule 59 = .ok (.invokevirtual 144, 3) := by decide +kernel
theorem dX4_readRule_62 : decode cX4_readRule 62 = .ok (.goto 7, 3) := by decide +kernel
theorem dX4_readRule_65 : decode cX4_readRule 65 = .ok (.aload_n 0, 1) := by decide +kernel
theorem dX4_readRule_66 : decode cX4_readRule 66 = .ok (.invokevirtual 147, 3) := by decide +kernel
theorem dX4_readRule_69 : decode cX4_readRule 69 = .ok (.aload_n 0, 1) := by decide +kernel
theorem dX4_readRule_70 : decode cX4_readRule 70 = .ok (.getfield 12, 3) := by decide +kernel
theorem dX4_readRule_73 : decode cX4_readRule 73 = .ok (.getfield 129, 3) := by decide +kernel
theorem dX4_readRule_76 : decode cX4_readRule 76 = .ok (.iload_n 1, 1) := by decide +kernel
theorem dX4_readRule_77 : decode cX4_readRule 77 = .ok (.invokevirtual 150, 3) := by decide +kernel
theorem dX4_readRule_80 : decode cX4_readRule 80 = .ok (.return_, 1) := by decide +kernel
theorem dX4_readStatement_0 : decode cX4_readStatement 0 = .ok (.iload_n 1, 1) := by decide +kernel
theorem dX4_readStatement_1 : decode cX4_readStatement 1 = .ok (.tableswitch 111 0 6 #[43, 50, 57, 64, 72, 80, 88], 43) := by decide +kernel
theorem dX4_readStatement_44 : decode cX4_readStatement 44 = .ok (.aload_n 0, 1) := by decide +kernel
theorem dX4_readStatement_45 : decode cX4_readStatement 45 = .ok (.invokevirtual 71, 3) := by decide +kernel
theorem dX4_readStatement_48 : decode cX4_readStatement 48 = .ok (.goto 69, 3) := by decide +kernel
theorem dX4_readStatement_51 : decode cX4_readStatement 51 = .ok (.aload_n 0, 1) := by decide +kernel
theorem dX4_readStatement_52 : decode cX4_readStatement 52 = .ok (.invokevirtual 74, 3) := by decide +kernel
theorem dX4_readStatement_55 : decode cX4_readStatement 55 = .ok (.goto 62, 3) := by decide +kernel
theorem dX4_readStatement_58 : decode cX4_readStatement 58 = .ok (.aload_n 0, 1) := by decide +kernel
theorem dX4_readStatement_59 : decode cX4_readStatement 59 = .ok (.invokevirtual 77, 3) := by decide +kernel
theorem dX4_readStatement_62 : decode cX4_readStatement 62 = .ok (.goto 55, 3) := by decide +kernel
theorem dX4_readStatement_65 : decode cX4_readStatement 65 = .ok (.aload_n 0, 1) := by decide +kernel
theorem dX4_readStatement_66 : decode cX4_readStatement 66 = .ok (.iconst 0, 1) := by decide +kernel
theorem dX4_readStatement_67 : decode cX4_readStatement 67 = .ok (.invokevirtual 80, 3) := by decide +kernel
theorem dX4_readStatement_70 : decode cX4_readStatement 70 = .ok (.goto 47, 3) := by decide +kernel
theorem dX4_readStatement_73 : decode cX4_readStatement 73 = .ok (.aload_n 0, 1) := by decide +kernel
theorem dX4_readStatement_74 : decode cX4_readStatement 74 = .ok (.iconst 1, 1) := by decide +kernel
theorem dX4_readStatement_75 : decode cX4_readStatement 75 = .ok (.invokevirtual 80, 3) := by decide +kernel
theorem dX4_readStatement_78 : decode cX4_readStatement 78 = .ok (.goto 39, 3) := by decide +kernel
theorem dX4_readStatement_81 : decode cX4_readStatement 81 = .ok (.aload_n 0, 1) := by decide +kernel
theorem dX4_readStatement_82 : decode cX4_readStatement 82 = .ok (.iconst 2, 1) := by decide +kernel
theorem dX4_readStatement_83 : decode cX4_readStatement 83 = .ok (.invokevirtual 80, 3) := by decide +kernel
theorem dX4_readStatement_86 : decode cX4_readStatement 86 = .ok (.goto 31, 3) := by decide +kernel
theorem dX4_readStatement_89 : decode cX4_readStatement 89 = .ok (.aload_n 0, 1) := by decide +kernel
theorem dX4_readStatement_90 : decode cX4_readStatement 90 = .ok (.bipush 6, 2) := by decide +kernel
theorem dX4_readStatement_92 : decode cX4_readStatement 92 = .ok (.invokevirtual 62, 3) := by decide +kernel
theorem dX4_readStatement_95 : decode cX4_readStatement 95 = .ok (.aload_n 0, 1) := by decide +kernel
theorem dX4_readStatement_96 : decode cX4_readStatement 96 = .ok (.getfield 12, 3) := by decide +kernel
theorem dX4_readStatement_99 : decode cX4_readStatement 99 = .ok (.aload_n 0, 1) := by decide +kernel
theorem dX4_readStatement_100 : decode cX4_readStatement 100 = .ok (.iconst 0, 1) := by decide +kernel
theorem dX4_readStatement_101 : decode cX4_readStatement 101 = .ok (.bipush 100, 2) := by decide +kernel
theorem dX4_readStatement_103 : decode cX4_readStatement 103 = .ok (.invokevirtual 83, 3) := by decide +kernel
theorem dX4_readStatement_106 : decode cX4_readStatement 106 = .ok (.putfield 87, 3) := by decide +kernel
theorem dX4_readStatement_109 : decode cX4_readStatement 109 = .ok (.goto 8, 3) := by decide +kernel
theorem dX4_readStatement_112 : decode cX4_readStatement 112 = .ok (.aload_n 0, 1) := by decide +kernel
theorem dX4_readStatement_113 : decode cX4_readStatement 113 = .ok (.iconst 1, 1) := by decide +kernel
theorem dX4_readStatement_114 : decode cX4_readStatement 114 = .ok (.invokevirtual 65, 3) := by decide +kernel
theorem dX4_readStatement_117 : decode cX4_readStatement 117 = .ok (.return_, 1) := by decide +kernel
theorem dX4_read_0 : decode cX4_read 0 = .ok (.aload_n 0, 1) := by decide +kernel
theorem dX4_read_1 : decode cX4_read 1 = .ok (.getfield 25, 3) := by decide +kernel
theorem dX4_read_4 : decode cX4_read 4 = .ok (.aload_n 1, 1) := by decide +kernel
theorem dX4_read_5 : decode cX4_read 5 = .ok (.invokevirtual 29, 3) := by decide +kernel
theorem dX4_read_8 : decode cX4_read 8 = .ok (.aload_n 0, 1) := by decide +kernel
theorem dX4_read_9 : decode cX4_read 9 = .ok (.getfield 12, 3) := by decide +kernel
theorem dX4_read_12 : decode cX4_read 12 = .ok (.invokevirtual 33, 3) := by decide +kernel
theorem dX4_read_15 : decode cX4_read 15 = .ok (.aload_n 0, 1) := by decide +kernel
theorem dX4_read_16 : decode cX4_read 16 = .ok (.iconst 0, 1) := by decide +kernel
theorem dX4_read_17 : decode cX4_read 17 = .ok (.putfield 36, 3) := by decide +kernel
theorem dX4_read_20 : decode cX4_read 20 = .ok (.aload_n 0, 1) := by decide +kernel
theorem dX4_read_21 : decode cX4_read 21 = .ok (.iconst (-1), 1) := by decide +kernel
theorem dX4_read_22 : decode cX4_read 22 = .ok (.putfield 18, 3) := by decide +kernel
theorem dX4_read_25 : decode cX4_read 25 = .ok (.aload_n 0, 1) := by decide +kernel
theorem dX4_read_26 : decode cX4_read 26 = .ok (.iconst 0, 1) := by decide +kernel
theorem dX4_read_27 : decode cX4_read 27 = .ok (.putfield 39, 3) := by decide +kernel
theorem dX4_read_30 : decode cX4_read 30 = .ok (.aload_n 0, 1) := by decide +kernel
theorem dX4_read_31 : decode cX4_read 31 = .ok (.iconst 0, 1) := by decide +kernel
theorem dX4_read_32 : decode cX4_read 32 = .ok (.putfield 42, 3) := by decide +kernel
theorem dX4_read_35 : decode cX4_read 35 = .ok (.iconst 0, 1) := by decide +kernel
theorem dX4_read_36 : decode cX4_read 36 = .ok (.istore_n 2, 1) := by decide +kernel
theorem dX4_read_37 : decode cX4_read 37 = .ok (.iconst 0, 1) := by decide +kernel
theorem dX4_read_38 : decode cX4_read 38 = .ok (.istore_n 3, 1) := by decide +kernel
theorem dX4_read_39 : decode cX4_read 39 = .ok (.iload_n 3, 1) := by decide +kernel
theorem dX4_read_40 : decode cX4_read 40 = .ok (.sipush 1600, 3) := by decide +kernel
theorem dX4_read_43 : decode cX4_read 43 = .ok (.if_icmp .ge 52, 3) := by decide +kernel
theorem dX4_read_46 : decode cX4_read 46 = .ok (.aload_n 0, 1) := by decide +kernel
theorem dX4_read_47 : decode cX4_read 47 = .ok (.getfield 36, 3) := by decide +kernel
theorem dX4_read_50 : decode cX4_read 50 = .ok (.ifCond .ne 45, 3) := by decide +kernel
theorem dX4_read_53 : decode cX4_read 53 = .ok (.aload_n 0, 1) := by decide +kernel
theorem dX4_read_54 : decode cX4_read 54 = .ok (.bipush 25, 2) := by decide +kernel
theorem dX4_read_56 : decode cX4_read 56 = .ok (.invokevirtual 47, 3) := by decide +kernel
theorem dX4_read_59 : decode cX4_read 59 = .ok (.ifCond .ne 36, 3) := by decide +kernel
theorem dX4_read_62 : decode cX4_read 62 = .ok (.iload_n 2, 1) := by decide +kernel
theorem dX4_read_63 : decode cX4_read 63 = .ok (.bipush 80, 2) := by decide +kernel
theorem dX4_read_65 : decode cX4_read 65 = .ok (.if_icmp .ne 7, 3) := by decide +kernel
theorem dX4_read_68 : decode cX4_read 68 = .ok (.aload_n 0, 1) := by decide +kernel
theorem dX4_read_69 : decode cX4_read 69 = .ok (.invokevirtual 51, 3) := by decide +kernel
theorem dX4_read_72 : decode cX4_read 72 = .ok (.aload_n 0, 1) := by decide +kernel
theorem dX4_read_73 : decode cX4_read 73 = .ok (.aload_n 0, 1) := by decide +kernel
theorem dX4_read_74 : decode cX4_read 74 = .ok (.invokevirtual 54, 3) := by decide +kernel
theorem dX4_read_77 : decode cX4_read 77 = .ok (.invokevirtual 58, 3) := by decide +kernel
theorem dX4_read_80 : decode cX4_read 80 = .ok (.aload_n 0, 1) := by decide +kernel
theorem dX4_read_81 : decode cX4_read 81 = .ok (.bipush 59, 2) := by decide +kernel
theorem dX4_read_83 : decode cX4_read 83 = .ok (.invokevirtual 62, 3) := by decide +kernel
theorem dX4_read_86 : decode cX4_read 86 = .ok (.iinc 2 1, 3) := by decide +kernel
theorem dX4_read_89 : decode cX4_read 89 = .ok (.iinc 3 1, 3) := by decide +kernel
theorem dX4_read_92 : decode cX4_read 92 = .ok (.goto (-53), 3) := by decide +kernel
theorem dX4_read_95 : decode cX4_read 95 = .ok (.aload_n 0, 1) := by decide +kernel
theorem dX4_read_96 : decode cX4_read 96 = .ok (.getfield 36, 3) := by decide +kernel
theorem dX4_read_99 : decode cX4_read 99 = .ok (.ifCond .ne 7, 3) := by decide +kernel
theorem dX4_read_102 : decode cX4_read 102 = .ok (.iload_n 2, 1) := by decide +kernel
theorem dX4_read_103 : decode cX4_read 103 = .ok (.goto 4, 3) := by decide +kernel
theorem dX4_read_106 : decode cX4_read 106 = .ok (.iconst (-1), 1) := by decide +kernel
theorem dX4_read_107 : decode cX4_read 107 = .ok (.ireturn, 1) := by decide +kernel
theorem dX11_town_0 : decode cX11_town 0 = .ok (.aload_n 0, 1) := by decide +kernel
theorem dX11_town_1 : decode cX11_town 1 = .ok (.getfield 19, 3) := by decide +kernel
theorem dX11_town_4 : decode cX11_town 4 = .ok (.aload_n 0, 1) := by decide +kernel
theorem dX11_town_5 : decode cX11_town 5 = .ok (.getfield 12, 3) := by decide +kernel
theorem dX11_town_8 : decode cX11_town 8 = .ok (.invokevirtual 97, 3) := by decide +kernel
theorem dX11_town_11 : decode cX11_town 11 = .ok (.istore_n 1, 1) := by decide +kernel
theorem dX11_town_12 : decode cX11_town 12 = .ok (.aload_n 0, 1) := by decide +kernel
theorem dX11_town_13 : decode cX11_town 13 = .ok (.getfield 12, 3) := by decide +kernel
theorem dX11_town_16 : decode cX11_town 16 = .ok (.iconst 0, 1) := by decide +kernel
theorem dX11_town_17 : decode cX11_town 17 = .ok (.putfield 82, 3) := by decide +kernel
theorem dX11_town_20 : decode cX11_town 20 = .ok (.iload_n 1, 1) := by decide +kernel
theorem dX11_town_21 : decode cX11_town 21 = .ok (.iconst (-1), 1) := by decide +kernel
theorem dX11_town_22 : decode cX11_town 22 = .ok (.if_icmp .ne 9, 3) := by decide +kernel
theorem dX11_town_25 : decode cX11_town 25 = .ok (.aload_n 0, 1) := by decide +kernel
theorem dX11_town_26 : decode cX11_town 26 = .ok (.iconst 1, 1) := by decide +kernel
theorem dX11_town_27 : decode cX11_town 27 = .ok (.invokevirtual 85, 3) := by decide +kernel
theorem dX11_town_30 : decode cX11_town 30 = .ok (.ireturn, 1) := by decide +kernel
theorem dX11_town_31 : decode cX11_town 31 = .ok (.aload_n 0, 1) := by decide +kernel
theorem dX11_town_32 : decode cX11_town 32 = .ok (.getfield 26, 3) := by decide +kernel
theorem dX11_town_35 : decode cX11_town 35 = .ok (.aload_n 0, 1) := by decide +kernel
theorem dX11_town_36 : decode cX11_town 36 = .ok (.getfield 19, 3) := by decide +kernel
theorem dX11_town_39 : decode cX11_town 39 = .ok (.getfield 101, 3) := by decide +kernel
theorem dX11_town_42 : decode cX11_town 42 = .ok (.invokevirtual 104, 3) := by decide +kernel
theorem dX11_town_45 : decode cX11_town 45 = .ok (.aload_n 0, 1) := by decide +kernel
theorem dX11_town_46 : decode cX11_town 46 = .ok (.getfield 35, 3) := by decide +kernel
theorem dX11_town_49 : decode cX11_town 49 = .ok (.invokevirtual 107, 3) := by decide +kernel
theorem dX11_town_52 : decode cX11_town 52 = .ok (.aload_n 0, 1) := by decide +kernel
theorem dX11_town_53 : decode cX11_town 53 = .ok (.getfield 45, 3) := by decide +kernel
theorem dX11_town_56 : decode cX11_town 56 = .ok (.invokevirtual 110, 3) := by decide +kernel
theorem dX11_town_59 : decode cX11_town 59 = .ok (.aload_n 0, 1) := by decide +kernel
theorem dX11_town_60 : decode cX11_town 60 = .ok (.getfield 63, 3) := by decide +kernel
theorem dX11_town_63 : decode cX11_town 63 = .ok (.invokevirtual 113, 3) := by decide +kernel
theorem dX11_town_66 : decode cX11_town 66 = .ok (.iload_n 1, 1) := by decide +kernel
theorem dX11_town_67 : decode cX11_town 67 = .ok (.ireturn, 1) := by decide +kernel
section
variable {σ : Nat → Nat} {p : Program} {l : Launch} {e : Env} {s : State} {m : MethodId} {args : Array Value} {below : List Frame} {meth : Method} {c : Code} {D : va_G} {E : Nat → ClassId} {b : Nat}
set_option maxHeartbeats 4000000 in
set_option maxRecDepth 20000 in
theorem c_x_Picture_take (l : Launch) {M : Mem} {r0 : Int} {M0 : Mem} (h : x_Picture_take M = some (r0, M0)) : Ct l yX3_take cX3_take 1 (some .int) 1 12 vwCl xSh xN xRf (xExt σ) (fun b => [vR b 370]) M (fun b => (some (vI r0))) M0 := by
  refine Ct_of (xExtOK σ) (by decide) (fun b => Nat.le_of_ble_eq_true rfl) ?_
  intro p e s m args below meth c D E b C hr
  unfold x_Picture_take at h
  refine (show xWX p l e 1 12 s m args below meth c 1 D E b (some (vI r0)) M0 M 0 [(0, vR b 370)] [] from ?_)
  refine r_aload_n (pc := 0) C 0 rfl rfl dX3_take_0 ?_
  refine r_getD (pc := 1) C fl_RX3_88 x_s370 (by decide) x_kPicture_5 dX3_take_1 ?_
  refine r_ifnullD (pc := 4) (tgt := 36) C h dX3_take_4 (by decide) (fun hc4 h => ?_) (fun hc4 h => ?_)
  · refine r_iconst (pc := 36) C dX3_take_36 ?_
    have e := Option.some.inj h
    exact r_iret (pc := 37) C hr (congrArg (fun z => some (vI z)) (Prod.mk.inj e).1.symm) (Prod.mk.inj e).2.symm dX3_take_37
  · refine r_aload_n (pc := 7) C 0 rfl rfl dX3_take_7 ?_
    refine r_getI (pc := 8) C fl_RX3_92 x_s370 (by decide) x_kPicture_6 dX3_take_8 ?_
    refine r_aload_n (pc := 11) C 0 rfl rfl dX3_take_11 ?_
    refine r_getD (pc := 12) C fl_RX3_88 x_s370 (by decide) x_kPicture_5 dX3_take_12 ?_
    obtain ⟨hd15, h⟩ := chk_inv h
    refine r_topD hd15 ?_
    refine r_getI (pc := 15) C fl_RX3_81 x_s1 (by decide) x_kTape_1 dX3_take_15 ?_
    refine r_icmp_ge (pc := 18) (tgt := 36) C h dX3_take_18 (by decide) (fun hc18 h => ?_) (fun hc18 h => ?_)
    · refine r_iconst (pc := 36) C dX3_take_36 ?_
      have e := Option.some.inj h
      exact r_iret (pc := 37) C hr (congrArg (fun z => some (vI z)) (Prod.mk.inj e).1.symm) (Prod.mk.inj e).2.symm dX3_take_37
    · refine r_aload_n (pc := 21) C 0 rfl rfl dX3_take_21 ?_
      refine r_getI (pc := 22) C fl_RX3_92 x_s370 (by decide) x_kPicture_6 dX3_take_22 ?_
      refine r_aload_n (pc := 25) C 0 rfl rfl dX3_take_25 ?_
      refine r_getD (pc := 26) C fl_RX3_88 x_s370 (by decide) x_kPicture_5 dX3_take_26 ?_
      obtain ⟨hd29, h⟩ := chk_inv h
      refine r_topD hd29 ?_
      refine r_getR (pc := 29) C fl_RX3_84 x_s1 (by decide) x_kTape_0 x_r1_0 dX3_take_29 ?_
      refine r_alen (pc := 32) C x_s2 (by decide) dX3_take_32 ?_
      refine r_icmp_lt (pc := 33) (tgt := 38) C h dX3_take_33 (by decide) (fun hc33 h => ?_) (fun hc33 h => ?_)
      · refine r_aload_n (pc := 38) C 0 rfl rfl dX3_take_38 ?_
        refine r_dup (pc := 39) C rfl dX3_take_39 ?_
        refine r_getI (pc := 40) C fl_RX3_92 x_s370 (by decide) x_kPicture_6 dX3_take_40 ?_
        refine r_iconst (pc := 43) C dX3_take_43 ?_
        refine r_iadd (pc := 44) C dX3_take_44 ?_
        obtain ⟨M_45, hM_45, h⟩ := lt_inv h
        refine r_putI (pc := 45) C fl_RX3_92 x_ft3 x_w3_6 x_s370 (by decide) x_kPicture_6 hM_45 dX3_take_45 ?_
        refine r_aload_n (pc := 48) C 0 rfl rfl dX3_take_48 ?_
        refine r_getD (pc := 49) C fl_RX3_88 x_s370 (by decide) x_kPicture_5 dX3_take_49 ?_
        obtain ⟨hd52, h⟩ := chk_inv h
        refine r_topD hd52 ?_
        refine r_getR (pc := 52) C fl_RX3_84 x_s1 (by decide) x_kTape_0 x_r1_0 dX3_take_52 ?_
        refine r_aload_n (pc := 55) C 0 rfl rfl dX3_take_55 ?_
        refine r_getI (pc := 56) C fl_RX3_92 x_s370 (by decide) x_kPicture_6 dX3_take_56 ?_
        refine r_iconst (pc := 59) C dX3_take_59 ?_
        refine r_isub (pc := 60) C dX3_take_60 ?_
        obtain ⟨hi61, h⟩ := chk_inv h
        refine r_iald (pc := 61) C x_s2 (by decide) (by decide) hi61 rfl dX3_take_61 ?_
        have e := Option.some.inj h
        exact r_iret (pc := 62) C hr (congrArg (fun z => some (vI z)) (Prod.mk.inj e).1.symm) (Prod.mk.inj e).2.symm dX3_take_62
      · refine r_iconst (pc := 36) C dX3_take_36 ?_
        have e := Option.some.inj h
        exact r_iret (pc := 37) C hr (congrArg (fun z => some (vI z)) (Prod.mk.inj e).1.symm) (Prod.mk.inj e).2.symm dX3_take_37
set_option maxHeartbeats 4000000 in
set_option maxRecDepth 20000 in
theorem c_x_Picture_takePair (l : Launch) {M : Mem} {r0 : Int} {M0 : Mem} (h : x_Picture_takePair M = some (r0, M0)) : Ct l yX3_takePair cX3_takePair 2 (some .int) 2 32 vwCl xSh xN xRf (xExt σ) (fun b => [vR b 370]) M (fun b => (some (vI r0))) M0 := by
  refine Ct_of (xExtOK σ) (by decide) (fun b => Nat.le_of_ble_eq_true rfl) ?_
  intro p e s m args below meth c D E b C hr
  unfold x_Picture_takePair at h
  refine (show xWX p l e 2 32 s m args below meth c 2 D E b (some (vI r0)) M0 M 0 [(0, vR b 370)] [] from ?_)
  refine r_aload_n (pc := 0) C 0 rfl rfl dX3_takePair_0 ?_
  obtain ⟨r1, M1, hq1, h⟩ := bnd2_inv h
  refine r_callV (pc := 1) (rest := []) (st1 := [vI r1]) C (xExtOK σ b) [] (c_x_Picture_take l hq1) cl_RX3_106 x_s370 (by decide) rfl rfl rfl rfl ⟨Nat.le_of_ble_eq_true rfl, Nat.le_of_ble_eq_true rfl⟩ (Nat.le_of_ble_eq_true rfl) rfl rfl dX3_takePair_1 ?_
  refine r_istore_n (pc := 4) (lv' := [(1, vI r1), (0, vR b 370)]) C rfl dX3_takePair_4 (by decide) rfl ?_
  refine r_iload_n (pc := 5) C 0 rfl rfl dX3_takePair_5 ?_
  refine r_bipush (pc := 6) (j := 8) C (by decide +kernel) dX3_takePair_6 ?_
  refine r_ishl (pc := 8) C dX3_takePair_8 ?_
  refine r_aload_n (pc := 9) C 1 rfl rfl dX3_takePair_9 ?_
  obtain ⟨r2, M2, hq2, h⟩ := bnd2_inv h
  refine r_callV (pc := 10) (rest := [vI (shl32 r1 8)]) (st1 := [vI r2, vI (shl32 r1 8)]) C (xExtOK σ b) [] (c_x_Picture_take l hq2) cl_RX3_106 x_s370 (by decide) rfl rfl rfl rfl ⟨Nat.le_of_ble_eq_true rfl, Nat.le_of_ble_eq_true rfl⟩ (Nat.le_of_ble_eq_true rfl) rfl rfl dX3_takePair_10 ?_
  refine r_ior (pc := 13) C dX3_takePair_13 ?_
  have e := Option.some.inj h
  exact r_iret (pc := 14) C hr (congrArg (fun z => some (vI z)) (Prod.mk.inj e).1.symm) (Prod.mk.inj e).2.symm dX3_takePair_14
set_option maxHeartbeats 4000000 in
set_option maxRecDepth 20000 in
theorem w_x_Picture_takeSaying_B225 (C : xCX σ p s m args meth c cX3_takeSaying 9 RX3 D E b) (hr : meth.sig.returnType = (some .boolean)) {r0 : Bool} {M0 : Mem} {M : Mem} {v1 : Int} {v6 : Int} {v7 : Int} {s1 : Int} {s2 : Int} (h : x_Picture_takeSaying_B225 v1 v6 v7 s1 s2 M = some (r0, M0)) :
    xWX p l e 3 55 s m args below meth c 9 D E b (some (vB r0)) M0 M 225 [(0, vR b 370), (1, vI v1), (6, vI v6), (7, vI v7)] [vI s2, vI s1, vR b 58] := by
  unfold x_Picture_takeSaying_B225 at h
  obtain ⟨hi225, h⟩ := chk_inv h
  obtain ⟨M_225, hM_225, h⟩ := lt_inv h
  refine r_iast (pc := 225) C x_s58 (by decide) (by decide) hi225 rfl hM_225 dX3_takeSaying_225 ?_
  refine r_aload_n (pc := 226) C 0 rfl rfl dX3_takeSaying_226 ?_
  refine r_getR (pc := 227) C fl_RX3_23 x_s370 (by decide) x_kPicture_4 x_r370_4 dX3_takeSaying_227 ?_
  refine r_getR (pc := 230) C fl_RX3_71 x_s51 (by decide) x_kState_7 x_r51_7 dX3_takeSaying_230 ?_
  refine r_iload_n (pc := 233) C 1 rfl rfl dX3_takeSaying_233 ?_
  refine r_iload (pc := 234) C 2 rfl dX3_takeSaying_234 ?_
  obtain ⟨hi236, h⟩ := chk_inv h
  obtain ⟨M_236, hM_236, h⟩ := lt_inv h
  refine r_iast (pc := 236) C x_s59 (by decide) (by decide) hi236 rfl hM_236 dX3_takeSaying_236 ?_
  refine r_aload_n (pc := 237) C 0 rfl rfl dX3_takeSaying_237 ?_
  refine r_getR (pc := 238) C fl_RX3_23 x_s370 (by decide) x_kPicture_4 x_r370_4 dX3_takeSaying_238 ?_
  refine r_getR (pc := 241) C fl_RX3_74 x_s51 (by decide) x_kState_8 x_r51_8 dX3_takeSaying_241 ?_
  refine r_iload_n (pc := 244) C 1 rfl rfl dX3_takeSaying_244 ?_
  refine r_iload (pc := 245) C 3 rfl dX3_takeSaying_245 ?_
  obtain ⟨hi247, h⟩ := chk_inv h
  obtain ⟨M_247, hM_247, h⟩ := lt_inv h
  refine r_iast (pc := 247) C x_s60 (by decide) (by decide) hi247 rfl hM_247 dX3_takeSaying_247 ?_
  refine r_iconst (pc := 248) C dX3_takeSaying_248 ?_
  have e := Option.some.inj h
  exact r_zret (pc := 249) C hr (Or.inr rfl) (congrArg (fun z => some (vB z)) (Prod.mk.inj e).1.symm) (Prod.mk.inj e).2.symm dX3_takeSaying_249
set_option maxHeartbeats 4000000 in
set_option maxRecDepth 20000 in
theorem w_x_Picture_takeSaying_B175 (C : xCX σ p s m args meth c cX3_takeSaying 9 RX3 D E b) (hr : meth.sig.returnType = (some .boolean)) {r0 : Bool} {M0 : Mem} {M : Mem} {v1 : Int} {v2 : Int} {v3 : Int} {v4 : Int} {v5 : Int} {v6 : Int} {v7 : Int} {v8 : Int} (h : x_Picture_takeSaying_B175 v1 v2 v3 v4 v5 v6 v7 v8 M = some (r0, M0)) :
    xWX p l e 3 55 s m args below meth c 9 D E b (some (vB r0)) M0 M 175 [(0, vR b 370), (1, vI v1), (2, vI v2), (3, vI v3), (4, vI v4), (5, vI v5), (6, vI v6), (7, vI v7), (8, vI v8)] [] := by
  unfold x_Picture_takeSaying_B175 at h
  refine r_aload_n (pc := 175) C 0 rfl rfl dX3_takeSaying_175 ?_
  refine r_getR (pc := 176) C fl_RX3_23 x_s370 (by decide) x_kPicture_4 x_r370_4 dX3_takeSaying_176 ?_
  refine r_getR (pc := 179) C fl_RX3_59 x_s51 (by decide) x_kState_3 x_r51_3 dX3_takeSaying_179 ?_
  refine r_iload_n (pc := 182) C 1 rfl rfl dX3_takeSaying_182 ?_
  refine r_iload_n (pc := 183) C 2 rfl rfl dX3_takeSaying_183 ?_
  obtain ⟨hi184, h⟩ := chk_inv h
  obtain ⟨M_184, hM_184, h⟩ := lt_inv h
  refine r_iast (pc := 184) C x_s55 (by decide) (by decide) hi184 rfl hM_184 dX3_takeSaying_184 ?_
  refine r_aload_n (pc := 185) C 0 rfl rfl dX3_takeSaying_185 ?_
  refine r_getR (pc := 186) C fl_RX3_23 x_s370 (by decide) x_kPicture_4 x_r370_4 dX3_takeSaying_186 ?_
  refine r_getR (pc := 189) C fl_RX3_62 x_s51 (by decide) x_kState_4 x_r51_4 dX3_takeSaying_189 ?_
  refine r_iload_n (pc := 192) C 1 rfl rfl dX3_takeSaying_192 ?_
  refine r_iload_n (pc := 193) C 3 rfl rfl dX3_takeSaying_193 ?_
  obtain ⟨hi194, h⟩ := chk_inv h
  obtain ⟨M_194, hM_194, h⟩ := lt_inv h
  refine r_iast (pc := 194) C x_s56 (by decide) (by decide) hi194 rfl hM_194 dX3_takeSaying_194 ?_
  refine r_aload_n (pc := 195) C 0 rfl rfl dX3_takeSaying_195 ?_
  refine r_getR (pc := 196) C fl_RX3_23 x_s370 (by decide) x_kPicture_4 x_r370_4 dX3_takeSaying_196 ?_
  refine r_getR (pc := 199) C fl_RX3_65 x_s51 (by decide) x_kState_5 x_r51_5 dX3_takeSaying_199 ?_
  refine r_iload_n (pc := 202) C 1 rfl rfl dX3_takeSaying_202 ?_
  refine r_iload (pc := 203) C 4 rfl dX3_takeSaying_203 ?_
  obtain ⟨hi205, h⟩ := chk_inv h
  obtain ⟨M_205, hM_205, h⟩ := lt_inv h
  refine r_iast (pc := 205) C x_s57 (by decide) (by decide) hi205 rfl hM_205 dX3_takeSaying_205 ?_
  refine r_aload_n (pc := 206) C 0 rfl rfl dX3_takeSaying_206 ?_
  refine r_getR (pc := 207) C fl_RX3_23 x_s370 (by decide) x_kPicture_4 x_r370_4 dX3_takeSaying_207 ?_
  refine r_getR (pc := 210) C fl_RX3_68 x_s51 (by decide) x_kState_6 x_r51_6 dX3_takeSaying_210 ?_
  refine r_iload_n (pc := 213) C 1 rfl rfl dX3_takeSaying_213 ?_
  refine r_iload (pc := 214) C 8 rfl dX3_takeSaying_214 ?_
  refine r_if_eq (pc := 216) (tgt := 224) C h dX3_takeSaying_216 (by decide) (fun hc216 h => ?_) (fun hc216 h => ?_)
  · refine r_iconst (pc := 224) C dX3_takeSaying_224 ?_
    refine r_sub (lv' := [(0, vR b 370), (1, vI v1), (6, vI v6), (7, vI v7)]) [0, 1, 6, 7] rfl ?_
    exact w_x_Picture_takeSaying_B225 C hr h
  · refine r_iload (pc := 219) C 5 rfl dX3_takeSaying_219 ?_
    refine r_goto (pc := 221) (tgt := 225) C dX3_takeSaying_221 (by decide) ?_
    refine r_sub (lv' := [(0, vR b 370), (1, vI v1), (6, vI v6), (7, vI v7)]) [0, 1, 6, 7] rfl ?_
    exact w_x_Picture_takeSaying_B225 C hr h
set_option maxHeartbeats 4000000 in
set_option maxRecDepth 20000 in
theorem w_x_Picture_takeSaying_B129 (C : xCX σ p s m args meth c cX3_takeSaying 9 RX3 D E b) (hr : meth.sig.returnType = (some .boolean)) {r0 : Bool} {M0 : Mem} {M : Mem} {v1 : Int} {v2 : Int} {v3 : Int} {v4 : Int} {v5 : Int} {v6 : Int} {v7 : Int} {v8 : Int} (h : x_Picture_takeSaying_B129 v1 v2 v3 v4 v5 v6 v7 v8 M = some (r0, M0)) :
    xWX p l e 3 55 s m args below meth c 9 D E b (some (vB r0)) M0 M 129 [(0, vR b 370), (1, vI v1), (2, vI v2), (3, vI v3), (4, vI v4), (5, vI v5), (6, vI v6), (7, vI v7), (8, vI v8)] [] := by
  unfold x_Picture_takeSaying_B129 at h
  refine r_iload_n (pc := 129) C 2 rfl rfl dX3_takeSaying_129 ?_
  refine r_iconst (pc := 130) C dX3_takeSaying_130 ?_
  refine r_icmp_ne (pc := 131) (tgt := 168) C h dX3_takeSaying_131 (by decide) (fun hc131 h => ?_) (fun hc131 h => ?_)
  · refine r_iload (pc := 168) C 6 rfl dX3_takeSaying_168 ?_
    refine r_if_eq (pc := 170) (tgt := 175) C h dX3_takeSaying_170 (by decide) (fun hc170 h => ?_) (fun hc170 h => ?_)
    · refine r_sub (lv' := [(0, vR b 370), (1, vI v1), (2, vI v2), (3, vI v3), (4, vI v4), (5, vI v5), (6, vI v6), (7, vI v7), (8, vI v8)]) [0, 1, 2, 3, 4, 5, 6, 7, 8] rfl ?_
      exact w_x_Picture_takeSaying_B175 C hr h
    · refine r_iconst (pc := 173) C dX3_takeSaying_173 ?_
      have e := Option.some.inj h
      exact r_zret (pc := 174) C hr (Or.inl rfl) (congrArg (fun z => some (vB z)) (Prod.mk.inj e).1.symm) (Prod.mk.inj e).2.symm dX3_takeSaying_174
  · refine r_aload_n (pc := 134) C 0 rfl rfl dX3_takeSaying_134 ?_
    refine r_getR (pc := 135) C fl_RX3_23 x_s370 (by decide) x_kPicture_4 x_r370_4 dX3_takeSaying_135 ?_
    refine r_iload (pc := 138) C 5 rfl dX3_takeSaying_138 ?_
    obtain ⟨r7, hq7, h⟩ := bnd_inv h
    refine r_callV (pc := 140) (rest := []) (st1 := [vB r7]) C (xExtOK σ b) [vI v5] (c_x_State_isFree l 51 x_m51 hq7) cl_RX3_109 x_s51 (by decide) rfl rfl rfl rfl ⟨Nat.le_of_ble_eq_true rfl, Nat.le_of_ble_eq_true rfl⟩ (Nat.le_of_ble_eq_true rfl) rfl rfl dX3_takeSaying_140 ?_
    refine r_if_eqB (pc := 143) (tgt := 166) C h dX3_takeSaying_143 (by decide) (fun hc143 h => ?_) (fun hc143 h => ?_)
    · refine r_iload (pc := 146) C 6 rfl dX3_takeSaying_146 ?_
      refine r_iconst (pc := 148) C dX3_takeSaying_148 ?_
      refine r_icmp_lt (pc := 149) (tgt := 166) C h dX3_takeSaying_149 (by decide) (fun hc149 h => ?_) (fun hc149 h => ?_)
      · refine r_iconst (pc := 166) C dX3_takeSaying_166 ?_
        have e := Option.some.inj h
        exact r_zret (pc := 167) C hr (Or.inl rfl) (congrArg (fun z => some (vB z)) (Prod.mk.inj e).1.symm) (Prod.mk.inj e).2.symm dX3_takeSaying_167
      · refine r_iload (pc := 152) C 6 rfl dX3_takeSaying_152 ?_
        refine r_aload_n (pc := 154) C 0 rfl rfl dX3_takeSaying_154 ?_
        refine r_getR (pc := 155) C fl_RX3_15 x_s370 (by decide) x_kPicture_2 x_r370_2 dX3_takeSaying_155 ?_
        refine r_getR (pc := 158) C fl_RX3_112 x_s23 (by decide) x_kTown_11 x_r23_11 dX3_takeSaying_158 ?_
        refine r_iload_n (pc := 161) C 1 rfl rfl dX3_takeSaying_161 ?_
        obtain ⟨hi162, h⟩ := chk_inv h
        refine r_iald (pc := 162) C x_s31 (by decide) (by decide) hi162 rfl dX3_takeSaying_162 ?_
        refine r_icmp_le (pc := 163) (tgt := 175) C h dX3_takeSaying_163 (by decide) (fun hc163 h => ?_) (fun hc163 h => ?_)
        · refine r_sub (lv' := [(0, vR b 370), (1, vI v1), (2, vI v2), (3, vI v3), (4, vI v4), (5, vI v5), (6, vI v6), (7, vI v7), (8, vI v8)]) [0, 1, 2, 3, 4, 5, 6, 7, 8] rfl ?_
          exact w_x_Picture_takeSaying_B175 C hr h
        · refine r_iconst (pc := 166) C dX3_takeSaying_166 ?_
          have e := Option.some.inj h
          exact r_zret (pc := 167) C hr (Or.inl rfl) (congrArg (fun z => some (vB z)) (Prod.mk.inj e).1.symm) (Prod.mk.inj e).2.symm dX3_takeSaying_167
    · refine r_iconst (pc := 166) C dX3_takeSaying_166 ?_
      have e := Option.some.inj h
      exact r_zret (pc := 167) C hr (Or.inl rfl) (congrArg (fun z => some (vB z)) (Prod.mk.inj e).1.symm) (Prod.mk.inj e).2.symm dX3_takeSaying_167
set_option maxHeartbeats 4000000 in
set_option maxRecDepth 20000 in
theorem w_x_Picture_takeSaying_B92 (C : xCX σ p s m args meth c cX3_takeSaying 9 RX3 D E b) (hr : meth.sig.returnType = (some .boolean)) {r0 : Bool} {M0 : Mem} {M : Mem} {v1 : Int} {v2 : Int} {v3 : Int} {v4 : Int} {v5 : Int} {v6 : Int} {v7 : Int} {s0 : Int} (h : x_Picture_takeSaying_B92 v1 v2 v3 v4 v5 v6 v7 s0 M = some (r0, M0)) :
    xWX p l e 3 55 s m args below meth c 9 D E b (some (vB r0)) M0 M 92 [(0, vR b 370), (1, vI v1), (2, vI v2), (3, vI v3), (4, vI v4), (5, vI v5), (6, vI v6), (7, vI v7)] [vI s0] := by
  unfold x_Picture_takeSaying_B92 at h
  refine r_istore (pc := 92) (lv' := [(8, vI s0), (0, vR b 370), (1, vI v1), (2, vI v2), (3, vI v3), (4, vI v4), (5, vI v5), (6, vI v6), (7, vI v7)]) C dX3_takeSaying_92 (by decide) rfl ?_
  refine r_iload (pc := 94) C 0 rfl dX3_takeSaying_94 ?_
  refine r_if_eq (pc := 96) (tgt := 114) C h dX3_takeSaying_96 (by decide) (fun hc96 h => ?_) (fun hc96 h => ?_)
  · refine r_iload (pc := 114) C 6 rfl dX3_takeSaying_114 ?_
    refine r_sipush (pc := 116) (j := 255) C (by decide +kernel) dX3_takeSaying_116 ?_
    refine r_icmp_ne (pc := 119) (tgt := 127) C h dX3_takeSaying_119 (by decide) (fun hc119 h => ?_) (fun hc119 h => ?_)
    · refine r_iconst (pc := 127) C dX3_takeSaying_127 ?_
      have e := Option.some.inj h
      exact r_zret (pc := 128) C hr (Or.inl rfl) (congrArg (fun z => some (vB z)) (Prod.mk.inj e).1.symm) (Prod.mk.inj e).2.symm dX3_takeSaying_128
    · refine r_iload (pc := 122) C 8 rfl dX3_takeSaying_122 ?_
      refine r_if_eq (pc := 124) (tgt := 129) C h dX3_takeSaying_124 (by decide) (fun hc124 h => ?_) (fun hc124 h => ?_)
      · refine r_sub (lv' := [(0, vR b 370), (1, vI v1), (2, vI v2), (3, vI v3), (4, vI v4), (5, vI v5), (6, vI v6), (7, vI v7), (8, vI s0)]) [1, 2, 3, 4, 5, 6, 7, 8, 0] rfl ?_
        exact w_x_Picture_takeSaying_B129 C hr h
      · refine r_iconst (pc := 127) C dX3_takeSaying_127 ?_
        have e := Option.some.inj h
        exact r_zret (pc := 128) C hr (Or.inl rfl) (congrArg (fun z => some (vB z)) (Prod.mk.inj e).1.symm) (Prod.mk.inj e).2.symm dX3_takeSaying_128
  · refine r_iload (pc := 99) C 6 rfl dX3_takeSaying_99 ?_
    refine r_aload_n (pc := 101) C 1 rfl rfl dX3_takeSaying_101 ?_
    refine r_getR (pc := 102) C fl_RX3_15 x_s370 (by decide) x_kPicture_2 x_r370_2 dX3_takeSaying_102 ?_
    refine r_getI (pc := 105) C fl_RX3_39 x_s23 (by decide) x_kTown_0 dX3_takeSaying_105 ?_
    refine r_icmp_lt (pc := 108) (tgt := 129) C h dX3_takeSaying_108 (by decide) (fun hc108 h => ?_) (fun hc108 h => ?_)
    · refine r_sub (lv' := [(0, vR b 370), (1, vI v1), (2, vI v2), (3, vI v3), (4, vI v4), (5, vI v5), (6, vI v6), (7, vI v7), (8, vI s0)]) [1, 2, 3, 4, 5, 6, 7, 8, 0] rfl ?_
      exact w_x_Picture_takeSaying_B129 C hr h
    · refine r_goto (pc := 111) (tgt := 127) C dX3_takeSaying_111 (by decide) ?_
      refine r_iconst (pc := 127) C dX3_takeSaying_127 ?_
      have e := Option.some.inj h
      exact r_zret (pc := 128) C hr (Or.inl rfl) (congrArg (fun z => some (vB z)) (Prod.mk.inj e).1.symm) (Prod.mk.inj e).2.symm dX3_takeSaying_128
set_option maxHeartbeats 4000000 in
set_option maxRecDepth 20000 in
theorem w_x_Picture_takeSaying_B87 (C : xCX σ p s m args meth c cX3_takeSaying 9 RX3 D E b) (hr : meth.sig.returnType = (some .boolean)) {r0 : Bool} {M0 : Mem} {M : Mem} {v1 : Int} {v2 : Int} {v3 : Int} {v4 : Int} {v5 : Int} {v6 : Int} {v7 : Int} (h : x_Picture_takeSaying_B87 v1 v2 v3 v4 v5 v6 v7 M = some (r0, M0)) :
    xWX p l e 3 55 s m args below meth c 9 D E b (some (vB r0)) M0 M 87 [(0, vR b 370), (1, vI v1), (2, vI v2), (3, vI v3), (4, vI v4), (5, vI v5), (6, vI v6), (7, vI v7)] [] := by
  unfold x_Picture_takeSaying_B87 at h
  refine r_iconst (pc := 87) C dX3_takeSaying_87 ?_
  refine r_goto (pc := 88) (tgt := 92) C dX3_takeSaying_88 (by decide) ?_
  refine r_sub (lv' := [(0, vR b 370), (1, vI v1), (2, vI v2), (3, vI v3), (4, vI v4), (5, vI v5), (6, vI v6), (7, vI v7)]) [0, 1, 2, 3, 4, 5, 6, 7] rfl ?_
  exact w_x_Picture_takeSaying_B92 C hr h
set_option maxHeartbeats 4000000 in
set_option maxRecDepth 20000 in
theorem w_x_Picture_takeSaying_B72 (C : xCX σ p s m args meth c cX3_takeSaying 9 RX3 D E b) (hr : meth.sig.returnType = (some .boolean)) {r0 : Bool} {M0 : Mem} {M : Mem} {v1 : Int} {v2 : Int} {v3 : Int} {v4 : Int} {v5 : Int} {v6 : Int} {v7 : Int} (h : x_Picture_takeSaying_B72 v1 v2 v3 v4 v5 v6 v7 M = some (r0, M0)) :
    xWX p l e 3 55 s m args below meth c 9 D E b (some (vB r0)) M0 M 72 [(0, vR b 370), (1, vI v1), (2, vI v2), (3, vI v3), (4, vI v4), (5, vI v5), (6, vI v6), (7, vI v7)] [] := by
  unfold x_Picture_takeSaying_B72 at h
  refine r_iload_n (pc := 72) C 2 rfl rfl dX3_takeSaying_72 ?_
  refine r_iconst (pc := 73) C dX3_takeSaying_73 ?_
  refine r_icmp_eq (pc := 74) (tgt := 87) C h dX3_takeSaying_74 (by decide) (fun hc74 h => ?_) (fun hc74 h => ?_)
  · refine r_sub (lv' := [(0, vR b 370), (1, vI v1), (2, vI v2), (3, vI v3), (4, vI v4), (5, vI v5), (6, vI v6), (7, vI v7)]) [0, 1, 2, 3, 4, 5, 6, 7] rfl ?_
    exact w_x_Picture_takeSaying_B87 C hr h
  · refine r_iload_n (pc := 77) C 2 rfl rfl dX3_takeSaying_77 ?_
    refine r_iconst (pc := 78) C dX3_takeSaying_78 ?_
    refine r_icmp_eq (pc := 79) (tgt := 87) C h dX3_takeSaying_79 (by decide) (fun hc79 h => ?_) (fun hc79 h => ?_)
    · refine r_sub (lv' := [(0, vR b 370), (1, vI v1), (2, vI v2), (3, vI v3), (4, vI v4), (5, vI v5), (6, vI v6), (7, vI v7)]) [0, 1, 2, 3, 4, 5, 6, 7] rfl ?_
      exact w_x_Picture_takeSaying_B87 C hr h
    · refine r_iload_n (pc := 82) C 2 rfl rfl dX3_takeSaying_82 ?_
      refine r_iconst (pc := 83) C dX3_takeSaying_83 ?_
      refine r_icmp_ne (pc := 84) (tgt := 91) C h dX3_takeSaying_84 (by decide) (fun hc84 h => ?_) (fun hc84 h => ?_)
      · refine r_iconst (pc := 91) C dX3_takeSaying_91 ?_
        refine r_sub (lv' := [(0, vR b 370), (1, vI v1), (2, vI v2), (3, vI v3), (4, vI v4), (5, vI v5), (6, vI v6), (7, vI v7)]) [0, 1, 2, 3, 4, 5, 6, 7] rfl ?_
        exact w_x_Picture_takeSaying_B92 C hr h
      · refine r_sub (lv' := [(0, vR b 370), (1, vI v1), (2, vI v2), (3, vI v3), (4, vI v4), (5, vI v5), (6, vI v6), (7, vI v7)]) [0, 1, 2, 3, 4, 5, 6, 7] rfl ?_
        exact w_x_Picture_takeSaying_B87 C hr h
set_option maxHeartbeats 4000000 in
set_option maxRecDepth 20000 in
theorem c_x_Picture_takeSaying (l : Launch) {x1 : Int} {M : Mem} {r0 : Bool} {M0 : Mem} (h : x_Picture_takeSaying x1 M = some (r0, M0)) : Ct l yX3_takeSaying cX3_takeSaying 9 (some .boolean) 3 55 vwCl xSh xN xRf (xExt σ) (fun b => [vR b 370, vI x1]) M (fun b => (some (vB r0))) M0 := by
  refine Ct_of (xExtOK σ) (by decide) (fun b => Nat.le_of_ble_eq_true rfl) ?_
  intro p e s m args below meth c D E b C hr
  unfold x_Picture_takeSaying at h
  refine (show xWX p l e 3 55 s m args below meth c 9 D E b (some (vB r0)) M0 M 0 [(0, vR b 370), (1, vI x1)] [] from ?_)
  refine r_aload_n (pc := 0) C 0 rfl rfl dX3_takeSaying_0 ?_
  obtain ⟨r1, M1, hq1, h⟩ := bnd2_inv h
  refine r_callV (pc := 1) (rest := []) (st1 := [vI r1]) C (xExtOK σ b) [] (c_x_Picture_take l hq1) cl_RX3_106 x_s370 (by decide) rfl rfl rfl rfl ⟨Nat.le_of_ble_eq_true rfl, Nat.le_of_ble_eq_true rfl⟩ (Nat.le_of_ble_eq_true rfl) rfl rfl dX3_takeSaying_1 ?_
  refine r_istore_n (pc := 4) (lv' := [(2, vI r1), (0, vR b 370), (1, vI x1)]) C rfl dX3_takeSaying_4 (by decide) rfl ?_
  refine r_aload_n (pc := 5) C 1 rfl rfl dX3_takeSaying_5 ?_
  obtain ⟨r2, M2, hq2, h⟩ := bnd2_inv h
  refine r_callV (pc := 6) (rest := []) (st1 := [vI r2]) C (xExtOK σ b) [] (c_x_Picture_takePair l hq2) cl_RX3_95 x_s370 (by decide) rfl rfl rfl rfl ⟨Nat.le_of_ble_eq_true rfl, Nat.le_of_ble_eq_true rfl⟩ (Nat.le_of_ble_eq_true rfl) rfl rfl dX3_takeSaying_6 ?_
  refine r_istore_n (pc := 9) (lv' := [(3, vI r2), (2, vI r1), (0, vR b 370), (1, vI x1)]) C rfl dX3_takeSaying_9 (by decide) rfl ?_
  refine r_aload_n (pc := 10) C 2 rfl rfl dX3_takeSaying_10 ?_
  obtain ⟨r3, M3, hq3, h⟩ := bnd2_inv h
  refine r_callV (pc := 11) (rest := []) (st1 := [vI r3]) C (xExtOK σ b) [] (c_x_Picture_take l hq3) cl_RX3_106 x_s370 (by decide) rfl rfl rfl rfl ⟨Nat.le_of_ble_eq_true rfl, Nat.le_of_ble_eq_true rfl⟩ (Nat.le_of_ble_eq_true rfl) rfl rfl dX3_takeSaying_11 ?_
  refine r_istore (pc := 14) (lv' := [(4, vI r3), (3, vI r2), (2, vI r1), (0, vR b 370), (1, vI x1)]) C dX3_takeSaying_14 (by decide) rfl ?_
  refine r_aload_n (pc := 16) C 3 rfl rfl dX3_takeSaying_16 ?_
  obtain ⟨r4, M4, hq4, h⟩ := bnd2_inv h
  refine r_callV (pc := 17) (rest := []) (st1 := [vI r4]) C (xExtOK σ b) [] (c_x_Picture_take l hq4) cl_RX3_106 x_s370 (by decide) rfl rfl rfl rfl ⟨Nat.le_of_ble_eq_true rfl, Nat.le_of_ble_eq_true rfl⟩ (Nat.le_of_ble_eq_true rfl) rfl rfl dX3_takeSaying_17 ?_
  refine r_istore (pc := 20) (lv' := [(5, vI r4), (4, vI r3), (3, vI r2), (2, vI r1), (0, vR b 370), (1, vI x1)]) C dX3_takeSaying_20 (by decide) rfl ?_
  refine r_aload_n (pc := 22) C 4 rfl rfl dX3_takeSaying_22 ?_
  obtain ⟨r5, M5, hq5, h⟩ := bnd2_inv h
  refine r_callV (pc := 23) (rest := []) (st1 := [vI r5]) C (xExtOK σ b) [] (c_x_Picture_take l hq5) cl_RX3_106 x_s370 (by decide) rfl rfl rfl rfl ⟨Nat.le_of_ble_eq_true rfl, Nat.le_of_ble_eq_true rfl⟩ (Nat.le_of_ble_eq_true rfl) rfl rfl dX3_takeSaying_23 ?_
  refine r_istore (pc := 26) (lv' := [(6, vI r5), (5, vI r4), (4, vI r3), (3, vI r2), (2, vI r1), (0, vR b 370), (1, vI x1)]) C dX3_takeSaying_26 (by decide) rfl ?_
  refine r_aload_n (pc := 28) C 5 rfl rfl dX3_takeSaying_28 ?_
  obtain ⟨r6, M6, hq6, h⟩ := bnd2_inv h
  refine r_callV (pc := 29) (rest := []) (st1 := [vI r6]) C (xExtOK σ b) [] (c_x_Picture_take l hq6) cl_RX3_106 x_s370 (by decide) rfl rfl rfl rfl ⟨Nat.le_of_ble_eq_true rfl, Nat.le_of_ble_eq_true rfl⟩ (Nat.le_of_ble_eq_true rfl) rfl rfl dX3_takeSaying_29 ?_
  refine r_istore (pc := 32) (lv' := [(7, vI r6), (6, vI r5), (5, vI r4), (4, vI r3), (3, vI r2), (2, vI r1), (0, vR b 370), (1, vI x1)]) C dX3_takeSaying_32 (by decide) rfl ?_
  refine r_iload_n (pc := 34) C 5 rfl rfl dX3_takeSaying_34 ?_
  refine r_iconst (pc := 35) C dX3_takeSaying_35 ?_
  refine r_icmp_gt (pc := 36) (tgt := 59) C h dX3_takeSaying_36 (by decide) (fun hc36 h => ?_) (fun hc36 h => ?_)
  · refine r_iconst (pc := 59) C dX3_takeSaying_59 ?_
    have e := Option.some.inj h
    exact r_zret (pc := 60) C hr (Or.inl rfl) (congrArg (fun z => some (vB z)) (Prod.mk.inj e).1.symm) (Prod.mk.inj e).2.symm dX3_takeSaying_60
  · refine r_iload_n (pc := 39) C 4 rfl rfl dX3_takeSaying_39 ?_
    refine r_sipush (pc := 40) (j := 999) C (by decide +kernel) dX3_takeSaying_40 ?_
    refine r_icmp_gt (pc := 43) (tgt := 59) C h dX3_takeSaying_43 (by decide) (fun hc43 h => ?_) (fun hc43 h => ?_)
    · refine r_iconst (pc := 59) C dX3_takeSaying_59 ?_
      have e := Option.some.inj h
      exact r_zret (pc := 60) C hr (Or.inl rfl) (congrArg (fun z => some (vB z)) (Prod.mk.inj e).1.symm) (Prod.mk.inj e).2.symm dX3_takeSaying_60
    · refine r_iload (pc := 46) C 3 rfl dX3_takeSaying_46 ?_
      refine r_bipush (pc := 48) (j := 99) C (by decide +kernel) dX3_takeSaying_48 ?_
      refine r_icmp_gt (pc := 50) (tgt := 59) C h dX3_takeSaying_50 (by decide) (fun hc50 h => ?_) (fun hc50 h => ?_)
      · refine r_iconst (pc := 59) C dX3_takeSaying_59 ?_
        have e := Option.some.inj h
        exact r_zret (pc := 60) C hr (Or.inl rfl) (congrArg (fun z => some (vB z)) (Prod.mk.inj e).1.symm) (Prod.mk.inj e).2.symm dX3_takeSaying_60
      · refine r_iload (pc := 53) C 0 rfl dX3_takeSaying_53 ?_
        refine r_iconst (pc := 55) C dX3_takeSaying_55 ?_
        refine r_icmp_le (pc := 56) (tgt := 61) C h dX3_takeSaying_56 (by decide) (fun hc56 h => ?_) (fun hc56 h => ?_)
        · refine r_iload_n (pc := 61) C 5 rfl rfl dX3_takeSaying_61 ?_
          refine r_if_ne (pc := 62) (tgt := 72) C h dX3_takeSaying_62 (by decide) (fun hc62 h => ?_) (fun hc62 h => ?_)
          · refine r_sub (lv' := [(0, vR b 370), (1, vI x1), (2, vI r1), (3, vI r2), (4, vI r3), (5, vI r4), (6, vI r5), (7, vI r6)]) [6, 7, 5, 4, 3, 2, 1, 0] rfl ?_
            exact w_x_Picture_takeSaying_B72 C hr h
          · refine r_iload (pc := 65) C 3 rfl dX3_takeSaying_65 ?_
            refine r_if_eq (pc := 67) (tgt := 72) C h dX3_takeSaying_67 (by decide) (fun hc67 h => ?_) (fun hc67 h => ?_)
            · refine r_sub (lv' := [(0, vR b 370), (1, vI x1), (2, vI r1), (3, vI r2), (4, vI r3), (5, vI r4), (6, vI r5), (7, vI r6)]) [6, 7, 5, 4, 3, 2, 1, 0] rfl ?_
              exact w_x_Picture_takeSaying_B72 C hr h
            · refine r_iconst (pc := 70) C dX3_takeSaying_70 ?_
              have e := Option.some.inj h
              exact r_zret (pc := 71) C hr (Or.inl rfl) (congrArg (fun z => some (vB z)) (Prod.mk.inj e).1.symm) (Prod.mk.inj e).2.symm dX3_takeSaying_71
        · refine r_iconst (pc := 59) C dX3_takeSaying_59 ?_
          have e := Option.some.inj h
          exact r_zret (pc := 60) C hr (Or.inl rfl) (congrArg (fun z => some (vB z)) (Prod.mk.inj e).1.symm) (Prod.mk.inj e).2.symm dX3_takeSaying_60
set_option maxHeartbeats 4000000 in
set_option maxRecDepth 20000 in
theorem c_x_Picture_takeVoice (l : Launch) {x1 : Int} {M : Mem} {r0 : Bool} {M0 : Mem} (h : x_Picture_takeVoice x1 M = some (r0, M0)) : Ct l yX3_takeVoice cX3_takeVoice 2 (some .boolean) 2 32 vwCl xSh xN xRf (xExt σ) (fun b => [vR b 370, vI x1]) M (fun b => (some (vB r0))) M0 := by
  refine Ct_of (xExtOK σ) (by decide) (fun b => Nat.le_of_ble_eq_true rfl) ?_
  intro p e s m args below meth c D E b C hr
  unfold x_Picture_takeVoice at h
  refine (show xWX p l e 2 32 s m args below meth c 2 D E b (some (vB r0)) M0 M 0 [(0, vR b 370), (1, vI x1)] [] from ?_)
  refine r_aload_n (pc := 0) C 0 rfl rfl dX3_takeVoice_0 ?_
  refine r_getR (pc := 1) C fl_RX3_23 x_s370 (by decide) x_kPicture_4 x_r370_4 dX3_takeVoice_1 ?_
  refine r_getR (pc := 4) C fl_RX3_44 x_s51 (by decide) x_kState_0 x_r51_0 dX3_takeVoice_4 ?_
  refine r_iload_n (pc := 7) C 1 rfl rfl dX3_takeVoice_7 ?_
  refine r_aload_n (pc := 8) C 0 rfl rfl dX3_takeVoice_8 ?_
  obtain ⟨r1, M1, hq1, h⟩ := bnd2_inv h
  refine r_callV (pc := 9) (rest := [vI x1, vR b 52]) (st1 := [vI r1, vI x1, vR b 52]) C (xExtOK σ b) [] (c_x_Picture_take l hq1) cl_RX3_106 x_s370 (by decide) rfl rfl rfl rfl ⟨Nat.le_of_ble_eq_true rfl, Nat.le_of_ble_eq_true rfl⟩ (Nat.le_of_ble_eq_true rfl) rfl rfl dX3_takeVoice_9 ?_
  obtain ⟨hi12, h⟩ := chk_inv h
  obtain ⟨M_12, hM_12, h⟩ := lt_inv h
  refine r_iast (pc := 12) C x_s52 (by decide) (by decide) hi12 rfl hM_12 dX3_takeVoice_12 ?_
  refine r_aload_n (pc := 13) C 0 rfl rfl dX3_takeVoice_13 ?_
  refine r_getR (pc := 14) C fl_RX3_23 x_s370 (by decide) x_kPicture_4 x_r370_4 dX3_takeVoice_14 ?_
  refine r_getR (pc := 17) C fl_RX3_50 x_s51 (by decide) x_kState_1 x_r51_1 dX3_takeVoice_17 ?_
  refine r_iload_n (pc := 20) C 1 rfl rfl dX3_takeVoice_20 ?_
  refine r_aload_n (pc := 21) C 0 rfl rfl dX3_takeVoice_21 ?_
  obtain ⟨r2, M2, hq2, h⟩ := bnd2_inv h
  refine r_callV (pc := 22) (rest := [vI x1, vR b 53]) (st1 := [vI r2, vI x1, vR b 53]) C (xExtOK σ b) [] (c_x_Picture_take l hq2) cl_RX3_106 x_s370 (by decide) rfl rfl rfl rfl ⟨Nat.le_of_ble_eq_true rfl, Nat.le_of_ble_eq_true rfl⟩ (Nat.le_of_ble_eq_true rfl) rfl rfl dX3_takeVoice_22 ?_
  obtain ⟨hi25, h⟩ := chk_inv h
  obtain ⟨M_25, hM_25, h⟩ := lt_inv h
  refine r_iast (pc := 25) C x_s53 (by decide) (by decide) hi25 rfl hM_25 dX3_takeVoice_25 ?_
  refine r_aload_n (pc := 26) C 0 rfl rfl dX3_takeVoice_26 ?_
  refine r_getR (pc := 27) C fl_RX3_23 x_s370 (by decide) x_kPicture_4 x_r370_4 dX3_takeVoice_27 ?_
  refine r_getR (pc := 30) C fl_RX3_53 x_s51 (by decide) x_kState_2 x_r51_2 dX3_takeVoice_30 ?_
  refine r_iload_n (pc := 33) C 1 rfl rfl dX3_takeVoice_33 ?_
  refine r_aload_n (pc := 34) C 0 rfl rfl dX3_takeVoice_34 ?_
  obtain ⟨r3, M3, hq3, h⟩ := bnd2_inv h
  refine r_callV (pc := 35) (rest := [vI x1, vR b 54]) (st1 := [vI r3, vI x1, vR b 54]) C (xExtOK σ b) [] (c_x_Picture_take l hq3) cl_RX3_106 x_s370 (by decide) rfl rfl rfl rfl ⟨Nat.le_of_ble_eq_true rfl, Nat.le_of_ble_eq_true rfl⟩ (Nat.le_of_ble_eq_true rfl) rfl rfl dX3_takeVoice_35 ?_
  obtain ⟨hi38, h⟩ := chk_inv h
  obtain ⟨M_38, hM_38, h⟩ := lt_inv h
  refine r_iast (pc := 38) C x_s54 (by decide) (by decide) hi38 rfl hM_38 dX3_takeVoice_38 ?_
  refine r_aload_n (pc := 39) C 0 rfl rfl dX3_takeVoice_39 ?_
  refine r_getR (pc := 40) C fl_RX3_23 x_s370 (by decide) x_kPicture_4 x_r370_4 dX3_takeVoice_40 ?_
  refine r_getR (pc := 43) C fl_RX3_44 x_s51 (by decide) x_kState_0 x_r51_0 dX3_takeVoice_43 ?_
  refine r_iload_n (pc := 46) C 1 rfl rfl dX3_takeVoice_46 ?_
  obtain ⟨hi47, h⟩ := chk_inv h
  refine r_iald (pc := 47) C x_s52 (by decide) (by decide) hi47 rfl dX3_takeVoice_47 ?_
  refine r_bipush (pc := 48) (j := 10) C (by decide +kernel) dX3_takeVoice_48 ?_
  refine r_icmp_ge (pc := 50) (tgt := 84) C h dX3_takeVoice_50 (by decide) (fun hc50 h => ?_) (fun hc50 h => ?_)
  · refine r_iconst (pc := 84) C dX3_takeVoice_84 ?_
    have e := Option.some.inj h
    exact r_zret (pc := 85) C hr (Or.inl rfl) (congrArg (fun z => some (vB z)) (Prod.mk.inj e).1.symm) (Prod.mk.inj e).2.symm dX3_takeVoice_85
  · refine r_aload_n (pc := 53) C 0 rfl rfl dX3_takeVoice_53 ?_
    refine r_getR (pc := 54) C fl_RX3_23 x_s370 (by decide) x_kPicture_4 x_r370_4 dX3_takeVoice_54 ?_
    refine r_getR (pc := 57) C fl_RX3_50 x_s51 (by decide) x_kState_1 x_r51_1 dX3_takeVoice_57 ?_
    refine r_iload_n (pc := 60) C 1 rfl rfl dX3_takeVoice_60 ?_
    obtain ⟨hi61, h⟩ := chk_inv h
    refine r_iald (pc := 61) C x_s53 (by decide) (by decide) hi61 rfl dX3_takeVoice_61 ?_
    refine r_iconst (pc := 62) C dX3_takeVoice_62 ?_
    refine r_icmp_gt (pc := 63) (tgt := 84) C h dX3_takeVoice_63 (by decide) (fun hc63 h => ?_) (fun hc63 h => ?_)
    · refine r_iconst (pc := 84) C dX3_takeVoice_84 ?_
      have e := Option.some.inj h
      exact r_zret (pc := 85) C hr (Or.inl rfl) (congrArg (fun z => some (vB z)) (Prod.mk.inj e).1.symm) (Prod.mk.inj e).2.symm dX3_takeVoice_85
    · refine r_aload_n (pc := 66) C 0 rfl rfl dX3_takeVoice_66 ?_
      refine r_getR (pc := 67) C fl_RX3_23 x_s370 (by decide) x_kPicture_4 x_r370_4 dX3_takeVoice_67 ?_
      refine r_getR (pc := 70) C fl_RX3_53 x_s51 (by decide) x_kState_2 x_r51_2 dX3_takeVoice_70 ?_
      refine r_iload_n (pc := 73) C 1 rfl rfl dX3_takeVoice_73 ?_
      obtain ⟨hi74, h⟩ := chk_inv h
      refine r_iald (pc := 74) C x_s54 (by decide) (by decide) hi74 rfl dX3_takeVoice_74 ?_
      refine r_bipush (pc := 75) (j := 99) C (by decide +kernel) dX3_takeVoice_75 ?_
      refine r_icmp_gt (pc := 77) (tgt := 84) C h dX3_takeVoice_77 (by decide) (fun hc77 h => ?_) (fun hc77 h => ?_)
      · refine r_iconst (pc := 84) C dX3_takeVoice_84 ?_
        have e := Option.some.inj h
        exact r_zret (pc := 85) C hr (Or.inl rfl) (congrArg (fun z => some (vB z)) (Prod.mk.inj e).1.symm) (Prod.mk.inj e).2.symm dX3_takeVoice_85
      · refine r_iconst (pc := 80) C dX3_takeVoice_80 ?_
        refine r_goto (pc := 81) (tgt := 85) C dX3_takeVoice_81 (by decide) ?_
        have e := Option.some.inj h
        exact r_zret (pc := 85) C hr (Or.inr rfl) (congrArg (fun z => some (vB z)) (Prod.mk.inj e).1.symm) (Prod.mk.inj e).2.symm dX3_takeVoice_85
set_option maxHeartbeats 4000000 in
set_option maxRecDepth 20000 in
theorem w_x_Picture_read_L117_s (C : xCX σ p s m args meth c cX3_read 5 RX3 D E b) (hr : meth.sig.returnType = (some .boolean)) {r0 : Bool} {M0 : Mem} {v3 : Int} {v4 : Int} {M : Mem} {q : Int × Int × Mem} {rec : Int → Int → Mem → Option (Int × Int × Mem)} (hrec : ∀ (v3 : Int) (v4 : Int) (M : Mem), rec v3 v4 M = some q → xWX p l e 4 104 s m args below meth c 5 D E b (some (vB r0)) M0 M 117 [(0, vR b 370), (3, vI v3), (4, vI v4)] []) (hfol : ∀ (v3 : Int) (v4 : Int) (M : Mem), q = (v3, v4, M) → xWX p l e 4 104 s m args below meth c 5 D E b (some (vB r0)) M0 M 154 [(0, vR b 370), (3, vI v3)] []) (h : x_Picture_read_L117 rec v3 v4 M = some q) :
    xWX p l e 4 104 s m args below meth c 5 D E b (some (vB r0)) M0 M 117 [(0, vR b 370), (3, vI v3), (4, vI v4)] [] := by
  unfold x_Picture_read_L117 at h
  refine r_iload (pc := 117) C 2 rfl dX3_read_117 ?_
  refine r_aload_n (pc := 119) C 0 rfl rfl dX3_read_119 ?_
  refine r_getR (pc := 120) C fl_RX3_15 x_s370 (by decide) x_kPicture_2 x_r370_2 dX3_read_120 ?_
  refine r_getI (pc := 123) C fl_RX3_39 x_s23 (by decide) x_kTown_0 dX3_read_123 ?_
  refine r_icmp_ge (pc := 126) (tgt := 154) C h dX3_read_126 (by decide) (fun hc126 h => ?_) (fun hc126 h => ?_)
  · refine r_sub (lv' := [(0, vR b 370), (3, vI v3)]) [0, 1] rfl ?_
    exact hfol _ _ _ (Option.some.inj h).symm
  · refine r_aload_n (pc := 129) C 0 rfl rfl dX3_read_129 ?_
    refine r_iload (pc := 130) C 2 rfl dX3_read_130 ?_
    obtain ⟨r4, M4, hq4, h⟩ := bnd2_inv h
    refine r_callV (pc := 132) (rest := []) (st1 := [vB r4]) C (xExtOK σ b) [vI v4] (c_x_Picture_takeVoice l hq4) cl_RX3_99 x_s370 (by decide) rfl rfl rfl rfl ⟨Nat.le_of_ble_eq_true rfl, Nat.le_of_ble_eq_true rfl⟩ (Nat.le_of_ble_eq_true rfl) rfl rfl dX3_read_132 ?_
    refine r_if_eqB (pc := 135) (tgt := 146) C h dX3_read_135 (by decide) (fun hc135 h => ?_) (fun hc135 h => ?_)
    · refine r_iload_n (pc := 138) C 1 rfl rfl dX3_read_138 ?_
      refine r_if_eq (pc := 139) (tgt := 146) C h dX3_read_139 (by decide) (fun hc139 h => ?_) (fun hc139 h => ?_)
      · refine r_iconst (pc := 146) C dX3_read_146 ?_
        refine r_istore_n (pc := 147) (lv' := [(3, vI 0), (0, vR b 370), (4, vI v4)]) C rfl dX3_read_147 (by decide) rfl ?_
        obtain ⟨v4_148, hv4_148, h⟩ := lt_inv h
        refine r_iincN (pc := 148) (y := v4_148) (lv' := [(4, vI v4_148), (3, vI 0), (0, vR b 370)]) C 2 rfl hv4_148 dX3_read_148 (by decide) rfl ?_
        refine r_goto (pc := 151) (tgt := 117) C dX3_read_151 (by decide) ?_
        refine r_sub (lv' := [(0, vR b 370), (3, vI 0), (4, vI v4_148)]) [2, 1, 0] rfl ?_
        exact hrec _ _ _ h
      · refine r_iconst (pc := 142) C dX3_read_142 ?_
        refine r_goto (pc := 143) (tgt := 147) C dX3_read_143 (by decide) ?_
        refine r_istore_n (pc := 147) (lv' := [(3, vI 1), (0, vR b 370), (4, vI v4)]) C rfl dX3_read_147 (by decide) rfl ?_
        obtain ⟨v4_148, hv4_148, h⟩ := lt_inv h
        refine r_iincN (pc := 148) (y := v4_148) (lv' := [(4, vI v4_148), (3, vI 1), (0, vR b 370)]) C 2 rfl hv4_148 dX3_read_148 (by decide) rfl ?_
        refine r_goto (pc := 151) (tgt := 117) C dX3_read_151 (by decide) ?_
        refine r_sub (lv' := [(0, vR b 370), (3, vI 1), (4, vI v4_148)]) [2, 1, 0] rfl ?_
        exact hrec _ _ _ h
    · refine r_iconst (pc := 146) C dX3_read_146 ?_
      refine r_istore_n (pc := 147) (lv' := [(3, vI 0), (0, vR b 370), (4, vI v4)]) C rfl dX3_read_147 (by decide) rfl ?_
      obtain ⟨v4_148, hv4_148, h⟩ := lt_inv h
      refine r_iincN (pc := 148) (y := v4_148) (lv' := [(4, vI v4_148), (3, vI 0), (0, vR b 370)]) C 2 rfl hv4_148 dX3_read_148 (by decide) rfl ?_
      refine r_goto (pc := 151) (tgt := 117) C dX3_read_151 (by decide) ?_
      refine r_sub (lv' := [(0, vR b 370), (3, vI 0), (4, vI v4_148)]) [2, 1, 0] rfl ?_
      exact hrec _ _ _ h
set_option maxHeartbeats 4000000 in
theorem w_x_Picture_read_L117 (C : xCX σ p s m args meth c cX3_read 5 RX3 D E b) (hr : meth.sig.returnType = (some .boolean)) {r0 : Bool} {M0 : Mem} {q : Int × Int × Mem} (hfol : ∀ (v3 : Int) (v4 : Int) (M : Mem), q = (v3, v4, M) → xWX p l e 4 104 s m args below meth c 5 D E b (some (vB r0)) M0 M 154 [(0, vR b 370), (3, vI v3)] []) : ∀ (n : Nat) (v3 : Int) (v4 : Int) (M : Mem), itr3 (x_Picture_read_L117) n v3 v4 M = some q →
    xWX p l e 4 104 s m args below meth c 5 D E b (some (vB r0)) M0 M 117 [(0, vR b 370), (3, vI v3), (4, vI v4)] [] := by
  intro n
  induction n with
  | zero => exact fun _ _ _ h => itr_z h
  | succ n ih => exact fun _ _ _ h => w_x_Picture_read_L117_s C hr ih hfol h
set_option maxHeartbeats 4000000 in
set_option maxRecDepth 20000 in
theorem w_x_Picture_read_L157_s (C : xCX σ p s m args meth c cX3_read 5 RX3 D E b) (hr : meth.sig.returnType = (some .boolean)) {r0 : Bool} {M0 : Mem} {v3 : Int} {v4 : Int} {M : Mem} {q : Int × Int × Mem} {rec : Int → Int → Mem → Option (Int × Int × Mem)} (hrec : ∀ (v3 : Int) (v4 : Int) (M : Mem), rec v3 v4 M = some q → xWX p l e 4 104 s m args below meth c 5 D E b (some (vB r0)) M0 M 157 [(0, vR b 370), (3, vI v3), (4, vI v4)] []) (hfol : ∀ (v3 : Int) (v4 : Int) (M : Mem), q = (v3, v4, M) → xWX p l e 4 104 s m args below meth c 5 D E b (some (vB r0)) M0 M 194 [(3, vI v3)] []) (h : x_Picture_read_L157 rec v3 v4 M = some q) :
    xWX p l e 4 104 s m args below meth c 5 D E b (some (vB r0)) M0 M 157 [(0, vR b 370), (3, vI v3), (4, vI v4)] [] := by
  unfold x_Picture_read_L157 at h
  refine r_iload (pc := 157) C 2 rfl dX3_read_157 ?_
  refine r_aload_n (pc := 159) C 0 rfl rfl dX3_read_159 ?_
  refine r_getR (pc := 160) C fl_RX3_15 x_s370 (by decide) x_kPicture_2 x_r370_2 dX3_read_160 ?_
  refine r_getI (pc := 163) C fl_RX3_56 x_s23 (by decide) x_kTown_2 dX3_read_163 ?_
  refine r_icmp_ge (pc := 166) (tgt := 194) C h dX3_read_166 (by decide) (fun hc166 h => ?_) (fun hc166 h => ?_)
  · refine r_sub (lv' := [(3, vI v3)]) [1] rfl ?_
    exact hfol _ _ _ (Option.some.inj h).symm
  · refine r_aload_n (pc := 169) C 0 rfl rfl dX3_read_169 ?_
    refine r_iload (pc := 170) C 2 rfl dX3_read_170 ?_
    obtain ⟨r6, M6, hq6, h⟩ := bnd2_inv h
    refine r_callV (pc := 172) (rest := []) (st1 := [vB r6]) C (xExtOK σ b) [vI v4] (c_x_Picture_takeSaying l hq6) cl_RX3_103 x_s370 (by decide) rfl rfl rfl rfl ⟨Nat.le_of_ble_eq_true rfl, Nat.le_of_ble_eq_true rfl⟩ (Nat.le_of_ble_eq_true rfl) rfl rfl dX3_read_172 ?_
    refine r_if_eqB (pc := 175) (tgt := 186) C h dX3_read_175 (by decide) (fun hc175 h => ?_) (fun hc175 h => ?_)
    · refine r_iload_n (pc := 178) C 1 rfl rfl dX3_read_178 ?_
      refine r_if_eq (pc := 179) (tgt := 186) C h dX3_read_179 (by decide) (fun hc179 h => ?_) (fun hc179 h => ?_)
      · refine r_iconst (pc := 186) C dX3_read_186 ?_
        refine r_istore_n (pc := 187) (lv' := [(3, vI 0), (0, vR b 370), (4, vI v4)]) C rfl dX3_read_187 (by decide) rfl ?_
        obtain ⟨v4_188, hv4_188, h⟩ := lt_inv h
        refine r_iincN (pc := 188) (y := v4_188) (lv' := [(4, vI v4_188), (3, vI 0), (0, vR b 370)]) C 2 rfl hv4_188 dX3_read_188 (by decide) rfl ?_
        refine r_goto (pc := 191) (tgt := 157) C dX3_read_191 (by decide) ?_
        refine r_sub (lv' := [(0, vR b 370), (3, vI 0), (4, vI v4_188)]) [2, 1, 0] rfl ?_
        exact hrec _ _ _ h
      · refine r_iconst (pc := 182) C dX3_read_182 ?_
        refine r_goto (pc := 183) (tgt := 187) C dX3_read_183 (by decide) ?_
        refine r_istore_n (pc := 187) (lv' := [(3, vI 1), (0, vR b 370), (4, vI v4)]) C rfl dX3_read_187 (by decide) rfl ?_
        obtain ⟨v4_188, hv4_188, h⟩ := lt_inv h
        refine r_iincN (pc := 188) (y := v4_188) (lv' := [(4, vI v4_188), (3, vI 1), (0, vR b 370)]) C 2 rfl hv4_188 dX3_read_188 (by decide) rfl ?_
        refine r_goto (pc := 191) (tgt := 157) C dX3_read_191 (by decide) ?_
        refine r_sub (lv' := [(0, vR b 370), (3, vI 1), (4, vI v4_188)]) [2, 1, 0] rfl ?_
        exact hrec _ _ _ h
    · refine r_iconst (pc := 186) C dX3_read_186 ?_
      refine r_istore_n (pc := 187) (lv' := [(3, vI 0), (0, vR b 370), (4, vI v4)]) C rfl dX3_read_187 (by decide) rfl ?_
      obtain ⟨v4_188, hv4_188, h⟩ := lt_inv h
      refine r_iincN (pc := 188) (y := v4_188) (lv' := [(4, vI v4_188), (3, vI 0), (0, vR b 370)]) C 2 rfl hv4_188 dX3_read_188 (by decide) rfl ?_
      refine r_goto (pc := 191) (tgt := 157) C dX3_read_191 (by decide) ?_
      refine r_sub (lv' := [(0, vR b 370), (3, vI 0), (4, vI v4_188)]) [2, 1, 0] rfl ?_
      exact hrec _ _ _ h
set_option maxHeartbeats 4000000 in
theorem w_x_Picture_read_L157 (C : xCX σ p s m args meth c cX3_read 5 RX3 D E b) (hr : meth.sig.returnType = (some .boolean)) {r0 : Bool} {M0 : Mem} {q : Int × Int × Mem} (hfol : ∀ (v3 : Int) (v4 : Int) (M : Mem), q = (v3, v4, M) → xWX p l e 4 104 s m args below meth c 5 D E b (some (vB r0)) M0 M 194 [(3, vI v3)] []) : ∀ (n : Nat) (v3 : Int) (v4 : Int) (M : Mem), itr3 (x_Picture_read_L157) n v3 v4 M = some q →
    xWX p l e 4 104 s m args below meth c 5 D E b (some (vB r0)) M0 M 157 [(0, vR b 370), (3, vI v3), (4, vI v4)] [] := by
  intro n
  induction n with
  | zero => exact fun _ _ _ h => itr_z h
  | succ n ih => exact fun _ _ _ h => w_x_Picture_read_L157_s C hr ih hfol h
set_option maxHeartbeats 4000000 in
set_option maxRecDepth 20000 in
theorem w_x_Picture_read_B113 (C : xCX σ p s m args meth c cX3_read 5 RX3 D E b) (hr : meth.sig.returnType = (some .boolean)) {r0 : Bool} {M0 : Mem} {M : Mem} {s0 : Int} (h : x_Picture_read_B113 s0 M = some (r0, M0)) :
    xWX p l e 4 104 s m args below meth c 5 D E b (some (vB r0)) M0 M 113 [(0, vR b 370)] [vI s0] := by
  unfold x_Picture_read_B113 at h
  refine r_istore_n (pc := 113) (lv' := [(3, vI s0), (0, vR b 370)]) C rfl dX3_read_113 (by decide) rfl ?_
  refine r_iconst (pc := 114) C dX3_read_114 ?_
  refine r_istore (pc := 115) (lv' := [(4, vI 0), (3, vI s0), (0, vR b 370)]) C dX3_read_115 (by decide) rfl ?_
  refine r_sub (lv' := [(0, vR b 370), (3, vI s0), (4, vI 0)]) [2, 1, 0] rfl ?_
  obtain ⟨q5, hl5, h⟩ := bnd_inv h
  refine w_x_Picture_read_L117 C hr (fun v3_5 v4_5 M_5 hq => ?_) FUEL _ _ _ hl5
  have hq := hq.symm
  subst hq
  refine r_iconst (pc := 154) C dX3_read_154 ?_
  refine r_istore (pc := 155) (lv' := [(4, vI 0), (0, vR b 370), (3, vI v3_5)]) C dX3_read_155 (by decide) rfl ?_
  refine r_sub (lv' := [(0, vR b 370), (3, vI v3_5), (4, vI 0)]) [1, 2, 0] rfl ?_
  obtain ⟨q7, hl7, h⟩ := bnd_inv h
  refine w_x_Picture_read_L157 C hr (fun v3_7 v4_7 M_7 hq => ?_) FUEL _ _ _ hl7
  have hq := hq.symm
  subst hq
  refine r_iload_n (pc := 194) C 0 rfl rfl dX3_read_194 ?_
  obtain ⟨hb195, h⟩ := chk_inv h
  have e := Option.some.inj h
  exact r_zret (pc := 195) C hr hb195 ((congrArg (fun z => some (vB z)) (Prod.mk.inj e).1.symm).trans (congrArg (fun z => some (vI z)) (b2i_dec hb195))) (Prod.mk.inj e).2.symm dX3_read_195
set_option maxHeartbeats 4000000 in
set_option maxRecDepth 20000 in
theorem c_x_Picture_read (l : Launch) {M : Mem} {r0 : Bool} {M0 : Mem} (h : x_Picture_read M = some (r0, M0)) : Ct l yX3_read cX3_read 5 (some .boolean) 4 104 vwCl xSh xN xRf (xExt σ) (fun b => [vR b 370, vR b 1]) M (fun b => (some (vB r0))) M0 := by
  refine Ct_of (xExtOK σ) (by decide) (fun b => Nat.le_of_ble_eq_true rfl) ?_
  intro p e s m args below meth c D E b C hr
  unfold x_Picture_read at h
  refine (show xWX p l e 4 104 s m args below meth c 5 D E b (some (vB r0)) M0 M 0 [(0, vR b 370), (1, vR b 1)] [] from ?_)
  refine r_iconst (pc := 0) C dX3_read_0 ?_
  refine r_iconst (pc := 1) C dX3_read_1 ?_
  refine r_aload_n (pc := 2) C 0 rfl rfl dX3_read_2 ?_
  refine r_getR (pc := 3) C fl_RX3_15 x_s370 (by decide) x_kPicture_2 x_r370_2 dX3_read_3 ?_
  refine r_getI (pc := 6) C fl_RX3_39 x_s23 (by decide) x_kTown_0 dX3_read_6 ?_
  refine r_imul (pc := 9) C dX3_read_9 ?_
  refine r_iadd (pc := 10) C dX3_read_10 ?_
  refine r_bipush (pc := 11) (j := 7) C (by decide +kernel) dX3_read_11 ?_
  refine r_aload_n (pc := 13) C 0 rfl rfl dX3_read_13 ?_
  refine r_getR (pc := 14) C fl_RX3_15 x_s370 (by decide) x_kPicture_2 x_r370_2 dX3_read_14 ?_
  refine r_getI (pc := 17) C fl_RX3_56 x_s23 (by decide) x_kTown_2 dX3_read_17 ?_
  refine r_imul (pc := 20) C dX3_read_20 ?_
  refine r_iadd (pc := 21) C dX3_read_21 ?_
  refine r_iconst (pc := 22) C dX3_read_22 ?_
  refine r_iadd (pc := 23) C dX3_read_23 ?_
  obtain ⟨v2_24, hv2_24, h⟩ := lt_inv h
  refine r_topI hv2_24 ?_
  refine r_istore_n (pc := 24) (lv' := [(2, vI v2_24), (0, vR b 370), (1, vR b 1)]) C rfl dX3_read_24 (by decide) rfl ?_
  refine r_aload_n (pc := 25) C 2 rfl rfl dX3_read_25 ?_
  refine r_getI (pc := 26) C fl_RX3_81 x_s1 (by decide) x_kTape_1 dX3_read_26 ?_
  refine r_iload_n (pc := 29) C 0 rfl rfl dX3_read_29 ?_
  refine r_icmp_ne (pc := 30) (tgt := 42) C h dX3_read_30 (by decide) (fun hc30 h => ?_) (fun hc30 h => ?_)
  · refine r_iconst (pc := 42) C dX3_read_42 ?_
    have e := Option.some.inj h
    exact r_zret (pc := 43) C hr (Or.inl rfl) (congrArg (fun z => some (vB z)) (Prod.mk.inj e).1.symm) (Prod.mk.inj e).2.symm dX3_read_43
  · refine r_iload_n (pc := 33) C 0 rfl rfl dX3_read_33 ?_
    refine r_aload_n (pc := 34) C 2 rfl rfl dX3_read_34 ?_
    refine r_getR (pc := 35) C fl_RX3_84 x_s1 (by decide) x_kTape_0 x_r1_0 dX3_read_35 ?_
    refine r_alen (pc := 38) C x_s2 (by decide) dX3_read_38 ?_
    refine r_icmp_le (pc := 39) (tgt := 44) C h dX3_read_39 (by decide) (fun hc39 h => ?_) (fun hc39 h => ?_)
    · refine r_aload_n (pc := 44) C 2 rfl rfl dX3_read_44 ?_
      refine r_getR (pc := 45) C fl_RX3_84 x_s1 (by decide) x_kTape_0 x_r1_0 dX3_read_45 ?_
      refine r_iload_n (pc := 48) C 0 rfl rfl dX3_read_48 ?_
      refine r_iconst (pc := 49) C dX3_read_49 ?_
      refine r_isub (pc := 50) C dX3_read_50 ?_
      obtain ⟨r1, hq1, h⟩ := bnd_inv h
      refine r_callS (pc := 51) (rest := []) (st1 := [vI r1]) C (xExtOK σ b) [vR b 2, vI (v2_24 - 1)] (c_x_Picture_sealOf l 2 1600 x_s2 (by decide) (by decide) hq1) cl_RX3_77 rfl rfl ⟨Nat.le_of_ble_eq_true rfl, Nat.le_of_ble_eq_true rfl⟩ (Nat.le_of_ble_eq_true rfl) rfl rfl dX3_read_51 ?_
      refine r_aload_n (pc := 54) C 2 rfl rfl dX3_read_54 ?_
      refine r_getR (pc := 55) C fl_RX3_84 x_s1 (by decide) x_kTape_0 x_r1_0 dX3_read_55 ?_
      refine r_iload_n (pc := 58) C 0 rfl rfl dX3_read_58 ?_
      refine r_iconst (pc := 59) C dX3_read_59 ?_
      refine r_isub (pc := 60) C dX3_read_60 ?_
      obtain ⟨hi61, h⟩ := chk_inv h
      refine r_iald (pc := 61) C x_s2 (by decide) (by decide) hi61 rfl dX3_read_61 ?_
      refine r_icmp_eq (pc := 62) (tgt := 67) C h dX3_read_62 (by decide) (fun hc62 h => ?_) (fun hc62 h => ?_)
      · refine r_aload_n (pc := 67) C 1 rfl rfl dX3_read_67 ?_
        refine r_getR (pc := 68) C fl_RX3_23 x_s370 (by decide) x_kPicture_4 x_r370_4 dX3_read_68 ?_
        obtain ⟨M2, hq2, h⟩ := bnd_inv h
        refine r_callV (pc := 71) (rest := []) (st1 := []) C (xExtOK σ b) [] (c_x_State_reset l 51 x_m51 hq2) cl_RX3_85 x_s51 (by decide) rfl rfl rfl rfl ⟨Nat.le_of_ble_eq_true rfl, Nat.le_of_ble_eq_true rfl⟩ (Nat.le_of_ble_eq_true rfl) rfl rfl dX3_read_71 ?_
        refine r_aload_n (pc := 74) C 1 rfl rfl dX3_read_74 ?_
        refine r_aload_n (pc := 75) C 2 rfl rfl dX3_read_75 ?_
        obtain ⟨M_76, hM_76, h⟩ := lt_inv h
        refine r_putD (pc := 76) (r := 1) C fl_RX3_88 x_ft3 x_w3_5 x_s370 (by decide) x_kPicture_5 hM_76 dX3_read_76 ?_
        refine r_aload_n (pc := 79) C 1 rfl rfl dX3_read_79 ?_
        refine r_iconst (pc := 80) C dX3_read_80 ?_
        obtain ⟨M_81, hM_81, h⟩ := lt_inv h
        refine r_putI (pc := 81) C fl_RX3_92 x_ft3 x_w3_6 x_s370 (by decide) x_kPicture_6 hM_81 dX3_read_81 ?_
        refine r_aload_n (pc := 84) C 1 rfl rfl dX3_read_84 ?_
        refine r_getR (pc := 85) C fl_RX3_23 x_s370 (by decide) x_kPicture_4 x_r370_4 dX3_read_85 ?_
        refine r_aload_n (pc := 88) C 1 rfl rfl dX3_read_88 ?_
        obtain ⟨r3, M3, hq3, h⟩ := bnd2_inv h
        refine r_callV (pc := 89) (rest := [vR b 51]) (st1 := [vI r3, vR b 51]) C (xExtOK σ b) [] (c_x_Picture_takePair l hq3) cl_RX3_95 x_s370 (by decide) rfl rfl rfl rfl ⟨Nat.le_of_ble_eq_true rfl, Nat.le_of_ble_eq_true rfl⟩ (Nat.le_of_ble_eq_true rfl) rfl rfl dX3_read_89 ?_
        obtain ⟨M_92, hM_92, h⟩ := lt_inv h
        refine r_putI (pc := 92) C fl_RX3_30 x_ft6 x_w6_13 x_s51 (by decide) x_kState_13 hM_92 dX3_read_92 ?_
        refine r_aload_n (pc := 95) C 1 rfl rfl dX3_read_95 ?_
        refine r_getR (pc := 96) C fl_RX3_23 x_s370 (by decide) x_kPicture_4 x_r370_4 dX3_read_96 ?_
        refine r_getI (pc := 99) C fl_RX3_30 x_s51 (by decide) x_kState_13 dX3_read_99 ?_
        refine r_sipush (pc := 102) (j := 999) C (by decide +kernel) dX3_read_102 ?_
        refine r_icmp_gt (pc := 105) (tgt := 112) C h dX3_read_105 (by decide) (fun hc105 h => ?_) (fun hc105 h => ?_)
        · refine r_iconst (pc := 112) C dX3_read_112 ?_
          refine r_sub (lv' := [(0, vR b 370)]) [1] rfl ?_
          exact w_x_Picture_read_B113 C hr h
        · refine r_iconst (pc := 108) C dX3_read_108 ?_
          refine r_goto (pc := 109) (tgt := 113) C dX3_read_109 (by decide) ?_
          refine r_sub (lv' := [(0, vR b 370)]) [1] rfl ?_
          exact w_x_Picture_read_B113 C hr h
      · refine r_iconst (pc := 65) C dX3_read_65 ?_
        have e := Option.some.inj h
        exact r_zret (pc := 66) C hr (Or.inl rfl) (congrArg (fun z => some (vB z)) (Prod.mk.inj e).1.symm) (Prod.mk.inj e).2.symm dX3_read_66
    · refine r_iconst (pc := 42) C dX3_read_42 ?_
      have e := Option.some.inj h
      exact r_zret (pc := 43) C hr (Or.inl rfl) (congrArg (fun z => some (vB z)) (Prod.mk.inj e).1.symm) (Prod.mk.inj e).2.symm dX3_read_43
set_option maxHeartbeats 4000000 in
set_option maxRecDepth 20000 in
theorem c_x_X_on (l : Launch) {M : Mem} {r0 : Bool} {M0 : Mem} (h : x_X_on M = some (r0, M0)) : Ct l yX11_on cX11_on 2 (some .boolean) 5 128 vwCl xSh xN xRf (xExt σ) (fun b => [vR b 0]) M (fun b => (some (vB r0))) M0 := by
  refine Ct_of (xExtOK σ) (by decide) (fun b => Nat.le_of_ble_eq_true rfl) ?_
  intro p e s m args below meth c D E b C hr
  unfold x_X_on at h
  refine (show xWX p l e 5 128 s m args below meth c 2 D E b (some (vB r0)) M0 M 0 [(0, vR b 0)] [] from ?_)
  refine r_aload_n (pc := 0) C 0 rfl rfl dX11_on_0 ?_
  refine r_getR (pc := 1) C fl_RX11_70 x_s0 (by decide) x_kX_8 x_r0_8 dX11_on_1 ?_
  refine r_aload_n (pc := 4) C 0 rfl rfl dX11_on_4 ?_
  refine r_getR (pc := 5) C fl_RX11_12 x_s0 (by decide) x_kX_0 x_r0_0 dX11_on_5 ?_
  obtain ⟨r1, M1, hq1, h⟩ := bnd2_inv h
  refine r_callV (pc := 8) (rest := []) (st1 := [vB r1]) C (xExtOK σ b) [vR b 1] (c_x_Picture_read l hq1) cl_RX11_297 x_s370 (by decide) rfl rfl rfl rfl ⟨Nat.le_of_ble_eq_true rfl, Nat.le_of_ble_eq_true rfl⟩ (Nat.le_of_ble_eq_true rfl) rfl rfl dX11_on_8 ?_
  obtain ⟨v1_11, hv1_11, h⟩ := lt_inv h
  refine r_topI hv1_11 ?_
  refine r_istore_n (pc := 11) (lv' := [(1, vI v1_11), (0, vR b 0)]) C rfl dX11_on_11 (by decide) rfl ?_
  refine r_aload_n (pc := 12) C 1 rfl rfl dX11_on_12 ?_
  refine r_getR (pc := 13) C fl_RX11_12 x_s0 (by decide) x_kX_0 x_r0_0 dX11_on_13 ?_
  refine r_iconst (pc := 16) C dX11_on_16 ?_
  obtain ⟨M_17, hM_17, h⟩ := lt_inv h
  refine r_putI (pc := 17) C fl_RX11_82 x_ft7 x_w7_1 x_s1 (by decide) x_kTape_1 hM_17 dX11_on_17 ?_
  refine r_iload_n (pc := 20) C 0 rfl rfl dX11_on_20 ?_
  refine r_if_ne (pc := 21) (tgt := 30) C h dX11_on_21 (by decide) (fun hc21 h => ?_) (fun hc21 h => ?_)
  · refine r_aload_n (pc := 30) C 1 rfl rfl dX11_on_30 ?_
    refine r_getR (pc := 31) C fl_RX11_35 x_s0 (by decide) x_kX_3 x_r0_3 dX11_on_31 ?_
    refine r_aload_n (pc := 34) C 1 rfl rfl dX11_on_34 ?_
    refine r_getR (pc := 35) C fl_RX11_39 x_s0 (by decide) x_kX_4 x_r0_4 dX11_on_35 ?_
    obtain ⟨M2, hq2, h⟩ := bnd_inv h
    refine r_callV (pc := 38) (rest := []) (st1 := []) C (xExtOK σ b) [vR b 51] (c_x_State_copyFrom l 38 51 x_m38 x_m51 hq2) cl_RX11_300 x_s38 (by decide) rfl rfl rfl rfl ⟨Nat.le_of_ble_eq_true rfl, Nat.le_of_ble_eq_true rfl⟩ (Nat.le_of_ble_eq_true rfl) rfl rfl dX11_on_38 ?_
    refine r_aload_n (pc := 41) C 1 rfl rfl dX11_on_41 ?_
    refine r_getR (pc := 42) C fl_RX11_45 x_s0 (by decide) x_kX_5 x_r0_5 dX11_on_42 ?_
    obtain ⟨M3, hq3, h⟩ := bnd_inv h
    refine r_callV (pc := 45) (rest := []) (st1 := []) C (xExtOK σ b) [] (c_x_Past_clear l hq3) cl_RX11_110 x_s64 (by decide) rfl rfl rfl rfl ⟨Nat.le_of_ble_eq_true rfl, Nat.le_of_ble_eq_true rfl⟩ (Nat.le_of_ble_eq_true rfl) rfl rfl dX11_on_45 ?_
    refine r_iconst (pc := 48) C dX11_on_48 ?_
    have e := Option.some.inj h
    exact r_zret (pc := 49) C hr (Or.inr rfl) (congrArg (fun z => some (vB z)) (Prod.mk.inj e).1.symm) (Prod.mk.inj e).2.symm dX11_on_49
  · refine r_aload_n (pc := 24) C 1 rfl rfl dX11_on_24 ?_
    refine r_iconst (pc := 25) C dX11_on_25 ?_
    obtain ⟨r4, M4, hq4, h⟩ := bnd2_inv h
    refine r_callV (pc := 26) (rest := []) (st1 := [vB r4]) C (xExtOK σ b) [vI 5] (c_x_X_no l hq4) cl_RX11_93 x_s0 (by decide) rfl rfl rfl rfl ⟨Nat.le_of_ble_eq_true rfl, Nat.le_of_ble_eq_true rfl⟩ (Nat.le_of_ble_eq_true rfl) rfl rfl dX11_on_26 ?_
    have e := Option.some.inj h
    exact r_zret (pc := 29) C hr (b2i01 _) (congrArg (fun z => some (vB z)) (Prod.mk.inj e).1.symm) (Prod.mk.inj e).2.symm dX11_on_29
set_option maxHeartbeats 4000000 in
set_option maxRecDepth 20000 in
theorem c_x_X_status (l : Launch) {x1 : Int} {M : Mem} {r0 : Int} (h : x_X_status x1 M = some r0) : Ct l yX11_status cX11_status 2 (some .int) 1 12 vwCl xSh xN xRf (xExt σ) (fun b => [vR b 0, vI x1]) M (fun b => (some (vI r0))) M := by
  refine Ct_of (xExtOK σ) (by decide) (fun b => Nat.le_of_ble_eq_true rfl) ?_
  intro p e s m args below meth c D E b C hr
  unfold x_X_status at h
  refine (show xWX p l e 1 12 s m args below meth c 2 D E b (some (vI r0)) M M 0 [(0, vR b 0), (1, vI x1)] [] from ?_)
  refine r_iload_n (pc := 0) C 1 rfl rfl dX11_status_0 ?_
  refine r_if_lt (pc := 1) (tgt := 22) C h dX11_status_1 (by decide) (fun hc1 h => ?_) (fun hc1 h => ?_)
  · refine r_iconst (pc := 22) C dX11_status_22 ?_
    have e := Option.some.inj h
    exact r_iret (pc := 23) C hr (congrArg (fun z => some (vI z)) e.symm) rfl dX11_status_23
  · refine r_iload_n (pc := 4) C 1 rfl rfl dX11_status_4 ?_
    refine r_aload_n (pc := 5) C 0 rfl rfl dX11_status_5 ?_
    refine r_getR (pc := 6) C fl_RX11_74 x_s0 (by decide) x_kX_9 x_r0_9 dX11_status_6 ?_
    refine r_alen (pc := 9) C x_s372 (by decide) dX11_status_9 ?_
    refine r_icmp_ge (pc := 10) (tgt := 22) C h dX11_status_10 (by decide) (fun hc10 h => ?_) (fun hc10 h => ?_)
    · refine r_iconst (pc := 22) C dX11_status_22 ?_
      have e := Option.some.inj h
      exact r_iret (pc := 23) C hr (congrArg (fun z => some (vI z)) e.symm) rfl dX11_status_23
    · refine r_aload_n (pc := 13) C 0 rfl rfl dX11_status_13 ?_
      refine r_getR (pc := 14) C fl_RX11_74 x_s0 (by decide) x_kX_9 x_r0_9 dX11_status_14 ?_
      refine r_iload_n (pc := 17) C 1 rfl rfl dX11_status_17 ?_
      obtain ⟨hi18, h⟩ := chk_inv h
      refine r_iald (pc := 18) C x_s372 (by decide) (by decide) hi18 rfl dX11_status_18 ?_
      refine r_goto (pc := 19) (tgt := 23) C dX11_status_19 (by decide) ?_
      have e := Option.some.inj h
      exact r_iret (pc := 23) C hr (congrArg (fun z => some (vI z)) e.symm) rfl dX11_status_23
set_option maxHeartbeats 4000000 in
set_option maxRecDepth 20000 in
theorem w_x_Reader_fact_B151 (C : xCX σ p s m args meth c cX4_fact 2 RX4 D E b) (hr : meth.sig.returnType = none) {M0 : Mem} (rc : Nat → Mem → Option Mem) (dn : Nat) (hrc0 : ∀ (M M0 : Mem), rc 0 M = some M0 → Ct l yX4_fact cX4_fact 2 none (12 + dn) (400 + 40 * dn) vwCl xSh xN xRf (xExt σ) (fun b => [vR b 3]) M (fun b => none) M0) (hrc1 : ∀ (M M0 : Mem), rc 1 M = some M0 → Ct l yX4_part cX4_part 2 none (12 + dn) (400 + 40 * dn) vwCl xSh xN xRf (xExt σ) (fun b => [vR b 3]) M (fun b => none) M0) (hrc2 : ∀ (M M0 : Mem), rc 2 M = some M0 → Ct l yX4_sum cX4_sum 5 none (12 + dn) (400 + 40 * dn) vwCl xSh xN xRf (xExt σ) (fun b => [vR b 3]) M (fun b => none) M0) (hrc3 : ∀ (M M0 : Mem), rc 3 M = some M0 → Ct l yX4_test cX4_test 4 none (12 + dn) (400 + 40 * dn) vwCl xSh xN xRf (xExt σ) (fun b => [vR b 3]) M (fun b => none) M0) {M : Mem} {v1 : Int} (h : x_Reader_fact_B151 rc v1 M = some M0) :
    xWX p l e (12 + (dn + 1)) (400 + 40 * (dn + 1)) s m args below meth c 2 D E b none M0 M 151 [(0, vR b 3), (1, vI v1)] [] := by
  unfold x_Reader_fact_B151 at h
  refine r_aload_n (pc := 151) C 0 rfl rfl dX4_fact_151 ?_
  refine r_getI (pc := 152) C fl_RX4_36 x_s3 (by decide) x_kReader_1 dX4_fact_152 ?_
  refine r_if_eq (pc := 155) (tgt := 159) C h dX4_fact_155 (by decide) (fun hc155 h => ?_) (fun hc155 h => ?_)
  · refine r_aload_n (pc := 159) C 0 rfl rfl dX4_fact_159 ?_
    refine r_dup (pc := 160) C rfl dX4_fact_160 ?_
    refine r_getI (pc := 161) C fl_RX4_39 x_s3 (by decide) x_kReader_4 dX4_fact_161 ?_
    refine r_iconst (pc := 164) C dX4_fact_164 ?_
    refine r_iadd (pc := 165) C dX4_fact_165 ?_
    obtain ⟨M_166, hM_166, h⟩ := lt_inv h
    refine r_putI (pc := 166) C fl_RX4_39 x_ft4 x_w4_4 x_s3 (by decide) x_kReader_4 hM_166 dX4_fact_166 ?_
    refine r_aload_n (pc := 169) C 0 rfl rfl dX4_fact_169 ?_
    obtain ⟨M6, hq6, h⟩ := bnd_inv h
    refine r_callV (pc := 170) (rest := []) (st1 := []) C (xExtOK σ b) [] (hrc2 _ _ hq6) cl_RX4_144 x_s3 (by decide) rfl rfl rfl rfl ⟨by simp only [mkR]; omega, by simp only [mkR]; omega⟩ (Nat.le_of_ble_eq_true rfl) rfl rfl dX4_fact_170 ?_
    refine r_aload_n (pc := 173) C 0 rfl rfl dX4_fact_173 ?_
    refine r_getR (pc := 174) C fl_RX4_12 x_s3 (by decide) x_kReader_0 x_r3_0 dX4_fact_174 ?_
    refine r_getR (pc := 177) C fl_RX4_129 x_s4 (by decide) x_kTown_12 x_r4_12 dX4_fact_177 ?_
    refine r_iload_n (pc := 180) C 1 rfl rfl dX4_fact_180 ?_
    obtain ⟨M7, hq7, h⟩ := bnd_inv h
    refine r_callV (pc := 181) (rest := []) (st1 := []) C (xExtOK σ b) [vI v1] (c_x_Rules_addSign l 13 x_m13 hq7) cl_RX4_156 x_s13 (by decide) rfl rfl rfl rfl ⟨by simp only [mkR]; omega, by simp only [mkR]; omega⟩ (Nat.le_of_ble_eq_true rfl) rfl rfl dX4_fact_181 ?_
    have e := Option.some.inj h
    exact r_vret (pc := 184) C hr rfl e.symm dX4_fact_184
  · have e := Option.some.inj h
    exact r_vret (pc := 158) C hr rfl e.symm dX4_fact_158
set_option maxHeartbeats 4000000 in
set_option maxRecDepth 20000 in
theorem c_x_Reader_fact (l : Launch) (rc : Nat → Mem → Option Mem) (dn : Nat) (hrc0 : ∀ (M M0 : Mem), rc 0 M = some M0 → Ct l yX4_fact cX4_fact 2 none (12 + dn) (400 + 40 * dn) vwCl xSh xN xRf (xExt σ) (fun b => [vR b 3]) M (fun b => none) M0) (hrc1 : ∀ (M M0 : Mem), rc 1 M = some M0 → Ct l yX4_part cX4_part 2 none (12 + dn) (400 + 40 * dn) vwCl xSh xN xRf (xExt σ) (fun b => [vR b 3]) M (fun b => none) M0) (hrc2 : ∀ (M M0 : Mem), rc 2 M = some M0 → Ct l yX4_sum cX4_sum 5 none (12 + dn) (400 + 40 * dn) vwCl xSh xN xRf (xExt σ) (fun b => [vR b 3]) M (fun b => none) M0) (hrc3 : ∀ (M M0 : Mem), rc 3 M = some M0 → Ct l yX4_test cX4_test 4 none (12 + dn) (400 + 40 * dn) vwCl xSh xN xRf (xExt σ) (fun b => [vR b 3]) M (fun b => none) M0) {M : Mem} {M0 : Mem} (h : x_Reader_fact rc M = some M0) : Ct l yX4_fact cX4_fact 2 none (12 + (dn + 1)) (400 + 40 * (dn + 1)) vwCl xSh xN xRf (xExt σ) (fun b => [vR b 3]) M (fun b => none) M0 := by
  refine Ct_of (xExtOK σ) (by decide) (fun b => Nat.le_of_ble_eq_true rfl) ?_
  intro p e s m args below meth c D E b C hr
  unfold x_Reader_fact at h
  refine (show xWX p l e (12 + (dn + 1)) (400 + 40 * (dn + 1)) s m args below meth c 2 D E b none M0 M 0 [(0, vR b 3)] [] from ?_)
  refine r_aload_n (pc := 0) C 0 rfl rfl dX4_fact_0 ?_
  refine r_bipush (pc := 1) (j := 19) C (by decide +kernel) dX4_fact_1 ?_
  obtain ⟨r1, hq1, h⟩ := bnd_inv h
  refine r_callV (pc := 3) (rest := []) (st1 := [vB r1]) C (xExtOK σ b) [vI 19] (c_x_Reader_at l hq1) cl_RX4_47 x_s3 (by decide) rfl rfl rfl rfl ⟨by simp only [mkR]; omega, by simp only [mkR]; omega⟩ (Nat.le_of_ble_eq_true rfl) rfl rfl dX4_fact_3 ?_
  refine r_if_eqB (pc := 6) (tgt := 46) C h dX4_fact_6 (by decide) (fun hc6 h => ?_) (fun hc6 h => ?_)
  · refine r_aload_n (pc := 9) C 0 rfl rfl dX4_fact_9 ?_
    obtain ⟨r13, M13, hq13, h⟩ := bnd2_inv h
    refine r_callV (pc := 10) (rest := []) (st1 := [vB r13]) C (xExtOK σ b) [] (c_x_Reader_enter l hq13) cl_RX4_159 x_s3 (by decide) rfl rfl rfl rfl ⟨by simp only [mkR]; omega, by simp only [mkR]; omega⟩ (Nat.le_of_ble_eq_true rfl) rfl rfl dX4_fact_10 ?_
    refine r_if_neB (pc := 13) (tgt := 17) C h dX4_fact_13 (by decide) (fun hc13 h => ?_) (fun hc13 h => ?_)
    · refine r_aload_n (pc := 17) C 0 rfl rfl dX4_fact_17 ?_
      obtain ⟨M14, hq14, h⟩ := bnd_inv h
      refine r_callV (pc := 18) (rest := []) (st1 := []) C (xExtOK σ b) [] (hrc0 _ _ hq14) cl_RX4_153 x_s3 (by decide) rfl rfl rfl rfl ⟨by simp only [mkR]; omega, by simp only [mkR]; omega⟩ (Nat.le_of_ble_eq_true rfl) rfl rfl dX4_fact_18 ?_
      refine r_aload_n (pc := 21) C 0 rfl rfl dX4_fact_21 ?_
      refine r_dup (pc := 22) C rfl dX4_fact_22 ?_
      refine r_getI (pc := 23) C fl_RX4_42 x_s3 (by decide) x_kReader_5 dX4_fact_23 ?_
      refine r_iconst (pc := 26) C dX4_fact_26 ?_
      refine r_isub (pc := 27) C dX4_fact_27 ?_
      obtain ⟨M_28, hM_28, h⟩ := lt_inv h
      refine r_putI (pc := 28) C fl_RX4_42 x_ft4 x_w4_5 x_s3 (by decide) x_kReader_5 hM_28 dX4_fact_28 ?_
      refine r_aload_n (pc := 31) C 0 rfl rfl dX4_fact_31 ?_
      refine r_getR (pc := 32) C fl_RX4_12 x_s3 (by decide) x_kReader_0 x_r3_0 dX4_fact_32 ?_
      refine r_getR (pc := 35) C fl_RX4_129 x_s4 (by decide) x_kTown_12 x_r4_12 dX4_fact_35 ?_
      refine r_bipush (pc := 38) (j := 19) C (by decide +kernel) dX4_fact_38 ?_
      obtain ⟨M15, hq15, h⟩ := bnd_inv h
      refine r_callV (pc := 40) (rest := []) (st1 := []) C (xExtOK σ b) [vI 19] (c_x_Rules_addSign l 13 x_m13 hq15) cl_RX4_156 x_s13 (by decide) rfl rfl rfl rfl ⟨by simp only [mkR]; omega, by simp only [mkR]; omega⟩ (Nat.le_of_ble_eq_true rfl) rfl rfl dX4_fact_40 ?_
      refine r_goto (pc := 43) (tgt := 184) C dX4_fact_43 (by decide) ?_
      have e := Option.some.inj h
      exact r_vret (pc := 184) C hr rfl e.symm dX4_fact_184
    · have e := Option.some.inj h
      exact r_vret (pc := 16) C hr rfl e.symm dX4_fact_16
  · refine r_aload_n (pc := 46) C 0 rfl rfl dX4_fact_46 ?_
    refine r_bipush (pc := 47) (j := 91) C (by decide +kernel) dX4_fact_47 ?_
    obtain ⟨r2, hq2, h⟩ := bnd_inv h
    refine r_callV (pc := 49) (rest := []) (st1 := [vB r2]) C (xExtOK σ b) [vI 91] (c_x_Reader_at l hq2) cl_RX4_47 x_s3 (by decide) rfl rfl rfl rfl ⟨by simp only [mkR]; omega, by simp only [mkR]; omega⟩ (Nat.le_of_ble_eq_true rfl) rfl rfl dX4_fact_49 ?_
    refine r_if_eqB (pc := 52) (tgt := 86) C h dX4_fact_52 (by decide) (fun hc52 h => ?_) (fun hc52 h => ?_)
    · refine r_aload_n (pc := 55) C 0 rfl rfl dX4_fact_55 ?_
      obtain ⟨r10, M10, hq10, h⟩ := bnd2_inv h
      refine r_callV (pc := 56) (rest := []) (st1 := [vB r10]) C (xExtOK σ b) [] (c_x_Reader_enter l hq10) cl_RX4_159 x_s3 (by decide) rfl rfl rfl rfl ⟨by simp only [mkR]; omega, by simp only [mkR]; omega⟩ (Nat.le_of_ble_eq_true rfl) rfl rfl dX4_fact_56 ?_
      refine r_if_neB (pc := 59) (tgt := 63) C h dX4_fact_59 (by decide) (fun hc59 h => ?_) (fun hc59 h => ?_)
      · refine r_aload_n (pc := 63) C 0 rfl rfl dX4_fact_63 ?_
        obtain ⟨M11, hq11, h⟩ := bnd_inv h
        refine r_callV (pc := 64) (rest := []) (st1 := []) C (xExtOK σ b) [] (hrc3 _ _ hq11) cl_RX4_147 x_s3 (by decide) rfl rfl rfl rfl ⟨by simp only [mkR]; omega, by simp only [mkR]; omega⟩ (Nat.le_of_ble_eq_true rfl) rfl rfl dX4_fact_64 ?_
        refine r_aload_n (pc := 67) C 0 rfl rfl dX4_fact_67 ?_
        refine r_bipush (pc := 68) (j := 93) C (by decide +kernel) dX4_fact_68 ?_
        obtain ⟨M12, hq12, h⟩ := bnd_inv h
        refine r_callV (pc := 70) (rest := []) (st1 := []) C (xExtOK σ b) [vI 93] (c_x_Reader_require l hq12) cl_RX4_62 x_s3 (by decide) rfl rfl rfl rfl ⟨by simp only [mkR]; omega, by simp only [mkR]; omega⟩ (Nat.le_of_ble_eq_true rfl) rfl rfl dX4_fact_70 ?_
        refine r_aload_n (pc := 73) C 0 rfl rfl dX4_fact_73 ?_
        refine r_dup (pc := 74) C rfl dX4_fact_74 ?_
        refine r_getI (pc := 75) C fl_RX4_42 x_s3 (by decide) x_kReader_5 dX4_fact_75 ?_
        refine r_iconst (pc := 78) C dX4_fact_78 ?_
        refine r_isub (pc := 79) C dX4_fact_79 ?_
        obtain ⟨M_80, hM_80, h⟩ := lt_inv h
        refine r_putI (pc := 80) C fl_RX4_42 x_ft4 x_w4_5 x_s3 (by decide) x_kReader_5 hM_80 dX4_fact_80 ?_
        refine r_goto (pc := 83) (tgt := 184) C dX4_fact_83 (by decide) ?_
        have e := Option.some.inj h
        exact r_vret (pc := 184) C hr rfl e.symm dX4_fact_184
      · have e := Option.some.inj h
        exact r_vret (pc := 62) C hr rfl e.symm dX4_fact_62
    · refine r_aload_n (pc := 86) C 0 rfl rfl dX4_fact_86 ?_
      refine r_bipush (pc := 87) (j := 20) C (by decide +kernel) dX4_fact_87 ?_
      obtain ⟨r3, hq3, h⟩ := bnd_inv h
      refine r_callV (pc := 89) (rest := []) (st1 := [vB r3]) C (xExtOK σ b) [vI 20] (c_x_Reader_at l hq3) cl_RX4_47 x_s3 (by decide) rfl rfl rfl rfl ⟨by simp only [mkR]; omega, by simp only [mkR]; omega⟩ (Nat.le_of_ble_eq_true rfl) rfl rfl dX4_fact_89 ?_
      refine r_if_eqB (pc := 92) (tgt := 119) C h dX4_fact_92 (by decide) (fun hc92 h => ?_) (fun hc92 h => ?_)
      · refine r_aload_n (pc := 95) C 0 rfl rfl dX4_fact_95 ?_
        refine r_dup (pc := 96) C rfl dX4_fact_96 ?_
        refine r_getI (pc := 97) C fl_RX4_39 x_s3 (by decide) x_kReader_4 dX4_fact_97 ?_
        refine r_iconst (pc := 100) C dX4_fact_100 ?_
        refine r_iadd (pc := 101) C dX4_fact_101 ?_
        obtain ⟨M_102, hM_102, h⟩ := lt_inv h
        refine r_putI (pc := 102) C fl_RX4_39 x_ft4 x_w4_4 x_s3 (by decide) x_kReader_4 hM_102 dX4_fact_102 ?_
        refine r_aload_n (pc := 105) C 0 rfl rfl dX4_fact_105 ?_
        refine r_getR (pc := 106) C fl_RX4_12 x_s3 (by decide) x_kReader_0 x_r3_0 dX4_fact_106 ?_
        refine r_getR (pc := 109) C fl_RX4_129 x_s4 (by decide) x_kTown_12 x_r4_12 dX4_fact_109 ?_
        refine r_iconst (pc := 112) C dX4_fact_112 ?_
        obtain ⟨M9, hq9, h⟩ := bnd_inv h
        refine r_callV (pc := 113) (rest := []) (st1 := []) C (xExtOK σ b) [vI 1] (c_x_Rules_addNumber l 13 x_m13 hq9) cl_RX4_163 x_s13 (by decide) rfl rfl rfl rfl ⟨by simp only [mkR]; omega, by simp only [mkR]; omega⟩ (Nat.le_of_ble_eq_true rfl) rfl rfl dX4_fact_113 ?_
        refine r_goto (pc := 116) (tgt := 184) C dX4_fact_116 (by decide) ?_
        have e := Option.some.inj h
        exact r_vret (pc := 184) C hr rfl e.symm dX4_fact_184
      · refine r_aload_n (pc := 119) C 0 rfl rfl dX4_fact_119 ?_
        obtain ⟨M4, hq4, h⟩ := bnd_inv h
        refine r_callV (pc := 120) (rest := []) (st1 := []) C (xExtOK σ b) [] (hrc2 _ _ hq4) cl_RX4_144 x_s3 (by decide) rfl rfl rfl rfl ⟨by simp only [mkR]; omega, by simp only [mkR]; omega⟩ (Nat.le_of_ble_eq_true rfl) rfl rfl dX4_fact_120 ?_
        refine r_aload_n (pc := 123) C 0 rfl rfl dX4_fact_123 ?_
        obtain ⟨r5, hq5, h⟩ := bnd_inv h
        refine r_callV (pc := 124) (rest := []) (st1 := [vI r5]) C (xExtOK σ b) [] (c_x_Reader_kind l hq5) cl_RX4_54 x_s3 (by decide) rfl rfl rfl rfl ⟨by simp only [mkR]; omega, by simp only [mkR]; omega⟩ (Nat.le_of_ble_eq_true rfl) rfl rfl dX4_fact_124 ?_
        refine r_istore_n (pc := 127) (lv' := [(1, vI r5), (0, vR b 3)]) C rfl dX4_fact_127 (by decide) rfl ?_
        refine r_iload_n (pc := 128) C 0 rfl rfl dX4_fact_128 ?_
        refine r_bipush (pc := 129) (j := 60) C (by decide +kernel) dX4_fact_129 ?_
        refine r_icmp_eq (pc := 131) (tgt := 151) C h dX4_fact_131 (by decide) (fun hc131 h => ?_) (fun hc131 h => ?_)
        · refine r_sub (lv' := [(0, vR b 3), (1, vI r5)]) [1, 0] rfl ?_
          exact w_x_Reader_fact_B151 C hr rc dn hrc0 hrc1 hrc2 hrc3 h
        · refine r_iload_n (pc := 134) C 0 rfl rfl dX4_fact_134 ?_
          refine r_bipush (pc := 135) (j := 62) C (by decide +kernel) dX4_fact_135 ?_
          refine r_icmp_eq (pc := 137) (tgt := 151) C h dX4_fact_137 (by decide) (fun hc137 h => ?_) (fun hc137 h => ?_)
          · refine r_sub (lv' := [(0, vR b 3), (1, vI r5)]) [1, 0] rfl ?_
            exact w_x_Reader_fact_B151 C hr rc dn hrc0 hrc1 hrc2 hrc3 h
          · refine r_iload_n (pc := 140) C 0 rfl rfl dX4_fact_140 ?_
            refine r_bipush (pc := 141) (j := 61) C (by decide +kernel) dX4_fact_141 ?_
            refine r_icmp_eq (pc := 143) (tgt := 151) C h dX4_fact_143 (by decide) (fun hc143 h => ?_) (fun hc143 h => ?_)
            · refine r_sub (lv' := [(0, vR b 3), (1, vI r5)]) [1, 0] rfl ?_
              exact w_x_Reader_fact_B151 C hr rc dn hrc0 hrc1 hrc2 hrc3 h
            · refine r_aload_n (pc := 146) C 1 rfl rfl dX4_fact_146 ?_
              refine r_iconst (pc := 147) C dX4_fact_147 ?_
              obtain ⟨M8, hq8, h⟩ := bnd_inv h
              refine r_callV (pc := 148) (rest := []) (st1 := []) C (xExtOK σ b) [vI 1] (c_x_Reader_refuse l hq8) cl_RX4_65 x_s3 (by decide) rfl rfl rfl rfl ⟨by simp only [mkR]; omega, by simp only [mkR]; omega⟩ (Nat.le_of_ble_eq_true rfl) rfl rfl dX4_fact_148 ?_
              refine r_sub (lv' := [(0, vR b 3), (1, vI r5)]) [1, 0] rfl ?_
              exact w_x_Reader_fact_B151 C hr rc dn hrc0 hrc1 hrc2 hrc3 h
set_option maxHeartbeats 4000000 in
set_option maxRecDepth 20000 in
theorem w_x_Reader_test_L8_B66 (C : xCX σ p s m args meth c cX4_test 4 RX4 D E b) (hr : meth.sig.returnType = none) {M0 : Mem} (rc : Nat → Mem → Option Mem) (dn : Nat) (hrc0 : ∀ (M M0 : Mem), rc 0 M = some M0 → Ct l yX4_fact cX4_fact 2 none (12 + dn) (400 + 40 * dn) vwCl xSh xN xRf (xExt σ) (fun b => [vR b 3]) M (fun b => none) M0) (hrc1 : ∀ (M M0 : Mem), rc 1 M = some M0 → Ct l yX4_part cX4_part 2 none (12 + dn) (400 + 40 * dn) vwCl xSh xN xRf (xExt σ) (fun b => [vR b 3]) M (fun b => none) M0) (hrc2 : ∀ (M M0 : Mem), rc 2 M = some M0 → Ct l yX4_sum cX4_sum 5 none (12 + dn) (400 + 40 * dn) vwCl xSh xN xRf (xExt σ) (fun b => [vR b 3]) M (fun b => none) M0) (hrc3 : ∀ (M M0 : Mem), rc 3 M = some M0 → Ct l yX4_test cX4_test 4 none (12 + dn) (400 + 40 * dn) vwCl xSh xN xRf (xExt σ) (fun b => [vR b 3]) M (fun b => none) M0) {M : Mem} {v1 : Int} {v2 : Int} {v3 : Int} {q : Int × Int × Mem} {rec : Int → Int → Mem → Option (Int × Int × Mem)} (hrec : ∀ (v1 : Int) (v2 : Int) (M : Mem), rec v1 v2 M = some q → xWX p l e (12 + (dn + 1)) (400 + 40 * (dn + 1)) s m args below meth c 4 D E b none M0 M 8 [(0, vR b 3), (1, vI v1), (2, vI v2)] []) (hfol : ∀ (v1 : Int) (v2 : Int) (M : Mem), q = (v1, v2, M) → xWX p l e (12 + (dn + 1)) (400 + 40 * (dn + 1)) s m args below meth c 4 D E b none M0 M 102 [(0, vR b 3), (1, vI v1)] []) (h : x_Reader_test_L8_B66 rc rec v1 v2 v3 M = some q) :
    xWX p l e (12 + (dn + 1)) (400 + 40 * (dn + 1)) s m args below meth c 4 D E b none M0 M 66 [(0, vR b 3), (1, vI v1), (2, vI v2), (3, vI v3)] [] := by
  unfold x_Reader_test_L8_B66 at h
  refine r_aload_n (pc := 66) C 0 rfl rfl dX4_test_66 ?_
  refine r_dup (pc := 67) C rfl dX4_test_67 ?_
  refine r_getI (pc := 68) C fl_RX4_39 x_s3 (by decide) x_kReader_4 dX4_test_68 ?_
  refine r_iconst (pc := 71) C dX4_test_71 ?_
  refine r_iadd (pc := 72) C dX4_test_72 ?_
  obtain ⟨M_73, hM_73, h⟩ := lt_inv h
  refine r_putI (pc := 73) C fl_RX4_39 x_ft4 x_w4_4 x_s3 (by decide) x_kReader_4 hM_73 dX4_test_73 ?_
  refine r_aload_n (pc := 76) C 0 rfl rfl dX4_test_76 ?_
  obtain ⟨M4, hq4, h⟩ := bnd_inv h
  refine r_callV (pc := 77) (rest := []) (st1 := []) C (xExtOK σ b) [] (hrc0 _ _ hq4) cl_RX4_153 x_s3 (by decide) rfl rfl rfl rfl ⟨by simp only [mkR]; omega, by simp only [mkR]; omega⟩ (Nat.le_of_ble_eq_true rfl) rfl rfl dX4_test_77 ?_
  refine r_iload_n (pc := 80) C 3 rfl rfl dX4_test_80 ?_
  refine r_if_eq (pc := 81) (tgt := 96) C h dX4_test_81 (by decide) (fun hc81 h => ?_) (fun hc81 h => ?_)
  · obtain ⟨v2_96, hv2_96, h⟩ := lt_inv h
    refine r_iincN (pc := 96) (y := v2_96) (lv' := [(2, vI v2_96), (0, vR b 3), (1, vI v1), (3, vI v3)]) C 2 rfl hv2_96 dX4_test_96 (by decide) rfl ?_
    refine r_goto (pc := 99) (tgt := 8) C dX4_test_99 (by decide) ?_
    refine r_sub (lv' := [(0, vR b 3), (1, vI v1), (2, vI v2_96)]) [1, 2, 0] rfl ?_
    exact hrec _ _ _ h
  · refine r_aload_n (pc := 84) C 0 rfl rfl dX4_test_84 ?_
    refine r_getR (pc := 85) C fl_RX4_12 x_s3 (by decide) x_kReader_0 x_r3_0 dX4_test_85 ?_
    refine r_getR (pc := 88) C fl_RX4_129 x_s4 (by decide) x_kTown_12 x_r4_12 dX4_test_88 ?_
    refine r_bipush (pc := 91) (j := 18) C (by decide +kernel) dX4_test_91 ?_
    obtain ⟨M5, hq5, h⟩ := bnd_inv h
    refine r_callV (pc := 93) (rest := []) (st1 := []) C (xExtOK σ b) [vI 18] (c_x_Rules_addSign l 13 x_m13 hq5) cl_RX4_156 x_s13 (by decide) rfl rfl rfl rfl ⟨by simp only [mkR]; omega, by simp only [mkR]; omega⟩ (Nat.le_of_ble_eq_true rfl) rfl rfl dX4_test_93 ?_
    obtain ⟨v2_96, hv2_96, h⟩ := lt_inv h
    refine r_iincN (pc := 96) (y := v2_96) (lv' := [(2, vI v2_96), (0, vR b 3), (1, vI v1), (3, vI v3)]) C 2 rfl hv2_96 dX4_test_96 (by decide) rfl ?_
    refine r_goto (pc := 99) (tgt := 8) C dX4_test_99 (by decide) ?_
    refine r_sub (lv' := [(0, vR b 3), (1, vI v1), (2, vI v2_96)]) [1, 2, 0] rfl ?_
    exact hrec _ _ _ h
set_option maxHeartbeats 4000000 in
set_option maxRecDepth 20000 in
theorem w_x_Reader_test_L8_B60 (C : xCX σ p s m args meth c cX4_test 4 RX4 D E b) (hr : meth.sig.returnType = none) {M0 : Mem} (rc : Nat → Mem → Option Mem) (dn : Nat) (hrc0 : ∀ (M M0 : Mem), rc 0 M = some M0 → Ct l yX4_fact cX4_fact 2 none (12 + dn) (400 + 40 * dn) vwCl xSh xN xRf (xExt σ) (fun b => [vR b 3]) M (fun b => none) M0) (hrc1 : ∀ (M M0 : Mem), rc 1 M = some M0 → Ct l yX4_part cX4_part 2 none (12 + dn) (400 + 40 * dn) vwCl xSh xN xRf (xExt σ) (fun b => [vR b 3]) M (fun b => none) M0) (hrc2 : ∀ (M M0 : Mem), rc 2 M = some M0 → Ct l yX4_sum cX4_sum 5 none (12 + dn) (400 + 40 * dn) vwCl xSh xN xRf (xExt σ) (fun b => [vR b 3]) M (fun b => none) M0) (hrc3 : ∀ (M M0 : Mem), rc 3 M = some M0 → Ct l yX4_test cX4_test 4 none (12 + dn) (400 + 40 * dn) vwCl xSh xN xRf (xExt σ) (fun b => [vR b 3]) M (fun b => none) M0) {M : Mem} {v1 : Int} {v2 : Int} {v3 : Int} {q : Int × Int × Mem} {rec : Int → Int → Mem → Option (Int × Int × Mem)} (hrec : ∀ (v1 : Int) (v2 : Int) (M : Mem), rec v1 v2 M = some q → xWX p l e (12 + (dn + 1)) (400 + 40 * (dn + 1)) s m args below meth c 4 D E b none M0 M 8 [(0, vR b 3), (1, vI v1), (2, vI v2)] []) (hfol : ∀ (v1 : Int) (v2 : Int) (M : Mem), q = (v1, v2, M) → xWX p l e (12 + (dn + 1)) (400 + 40 * (dn + 1)) s m args below meth c 4 D E b none M0 M 102 [(0, vR b 3), (1, vI v1)] []) (h : x_Reader_test_L8_B60 rc rec v1 v2 v3 M = some q) :
    xWX p l e (12 + (dn + 1)) (400 + 40 * (dn + 1)) s m args below meth c 4 D E b none M0 M 60 [(0, vR b 3), (1, vI v1), (2, vI v2), (3, vI v3)] [] := by
  unfold x_Reader_test_L8_B60 at h
  refine r_iload_n (pc := 60) C 3 rfl rfl dX4_test_60 ?_
  refine r_if_ne (pc := 61) (tgt := 66) C h dX4_test_61 (by decide) (fun hc61 h => ?_) (fun hc61 h => ?_)
  · refine r_sub (lv' := [(0, vR b 3), (1, vI v1), (2, vI v2), (3, vI v3)]) [0, 1, 2, 3] rfl ?_
    exact w_x_Reader_test_L8_B66 C hr rc dn hrc0 hrc1 hrc2 hrc3 hrec hfol h
  · refine r_iconst (pc := 64) C dX4_test_64 ?_
    refine r_istore_n (pc := 65) (lv' := [(1, vI 1), (0, vR b 3), (2, vI v2), (3, vI v3)]) C rfl dX4_test_65 (by decide) rfl ?_
    refine r_sub (lv' := [(0, vR b 3), (1, vI 1), (2, vI v2), (3, vI v3)]) [1, 0, 2, 3] rfl ?_
    exact w_x_Reader_test_L8_B66 C hr rc dn hrc0 hrc1 hrc2 hrc3 hrec hfol h
set_option maxHeartbeats 4000000 in
set_option maxRecDepth 20000 in
theorem w_x_Reader_test_L8_B33 (C : xCX σ p s m args meth c cX4_test 4 RX4 D E b) (hr : meth.sig.returnType = none) {M0 : Mem} (rc : Nat → Mem → Option Mem) (dn : Nat) (hrc0 : ∀ (M M0 : Mem), rc 0 M = some M0 → Ct l yX4_fact cX4_fact 2 none (12 + dn) (400 + 40 * dn) vwCl xSh xN xRf (xExt σ) (fun b => [vR b 3]) M (fun b => none) M0) (hrc1 : ∀ (M M0 : Mem), rc 1 M = some M0 → Ct l yX4_part cX4_part 2 none (12 + dn) (400 + 40 * dn) vwCl xSh xN xRf (xExt σ) (fun b => [vR b 3]) M (fun b => none) M0) (hrc2 : ∀ (M M0 : Mem), rc 2 M = some M0 → Ct l yX4_sum cX4_sum 5 none (12 + dn) (400 + 40 * dn) vwCl xSh xN xRf (xExt σ) (fun b => [vR b 3]) M (fun b => none) M0) (hrc3 : ∀ (M M0 : Mem), rc 3 M = some M0 → Ct l yX4_test cX4_test 4 none (12 + dn) (400 + 40 * dn) vwCl xSh xN xRf (xExt σ) (fun b => [vR b 3]) M (fun b => none) M0) {M : Mem} {v1 : Int} {v2 : Int} {q : Int × Int × Mem} {rec : Int → Int → Mem → Option (Int × Int × Mem)} (hrec : ∀ (v1 : Int) (v2 : Int) (M : Mem), rec v1 v2 M = some q → xWX p l e (12 + (dn + 1)) (400 + 40 * (dn + 1)) s m args below meth c 4 D E b none M0 M 8 [(0, vR b 3), (1, vI v1), (2, vI v2)] []) (hfol : ∀ (v1 : Int) (v2 : Int) (M : Mem), q = (v1, v2, M) → xWX p l e (12 + (dn + 1)) (400 + 40 * (dn + 1)) s m args below meth c 4 D E b none M0 M 102 [(0, vR b 3), (1, vI v1)] []) (h : x_Reader_test_L8_B33 rc rec v1 v2 M = some q) :
    xWX p l e (12 + (dn + 1)) (400 + 40 * (dn + 1)) s m args below meth c 4 D E b none M0 M 33 [(0, vR b 3), (1, vI v1), (2, vI v2)] [] := by
  unfold x_Reader_test_L8_B33 at h
  refine r_aload_n (pc := 33) C 0 rfl rfl dX4_test_33 ?_
  refine r_bipush (pc := 34) (j := 18) C (by decide +kernel) dX4_test_34 ?_
  obtain ⟨r3, hq3, h⟩ := bnd_inv h
  refine r_callV (pc := 36) (rest := []) (st1 := [vB r3]) C (xExtOK σ b) [vI 18] (c_x_Reader_at l hq3) cl_RX4_47 x_s3 (by decide) rfl rfl rfl rfl ⟨by simp only [mkR]; omega, by simp only [mkR]; omega⟩ (Nat.le_of_ble_eq_true rfl) rfl rfl dX4_test_36 ?_
  obtain ⟨v3_39, hv3_39, h⟩ := lt_inv h
  refine r_topI hv3_39 ?_
  refine r_istore_n (pc := 39) (lv' := [(3, vI v3_39), (0, vR b 3), (1, vI v1), (2, vI v2)]) C rfl dX4_test_39 (by decide) rfl ?_
  refine r_iload_n (pc := 40) C 0 rfl rfl dX4_test_40 ?_
  refine r_if_ne (pc := 41) (tgt := 60) C h dX4_test_41 (by decide) (fun hc41 h => ?_) (fun hc41 h => ?_)
  · refine r_sub (lv' := [(0, vR b 3), (1, vI v1), (2, vI v2), (3, vI v3_39)]) [1, 2, 3, 0] rfl ?_
    exact w_x_Reader_test_L8_B60 C hr rc dn hrc0 hrc1 hrc2 hrc3 hrec hfol h
  · refine r_iload_n (pc := 44) C 2 rfl rfl dX4_test_44 ?_
    refine r_if_eq (pc := 45) (tgt := 60) C h dX4_test_45 (by decide) (fun hc45 h => ?_) (fun hc45 h => ?_)
    · refine r_sub (lv' := [(0, vR b 3), (1, vI v1), (2, vI v2), (3, vI v3_39)]) [1, 2, 3, 0] rfl ?_
      exact w_x_Reader_test_L8_B60 C hr rc dn hrc0 hrc1 hrc2 hrc3 hrec hfol h
    · refine r_aload_n (pc := 48) C 1 rfl rfl dX4_test_48 ?_
      refine r_getR (pc := 49) C fl_RX4_12 x_s3 (by decide) x_kReader_0 x_r3_0 dX4_test_49 ?_
      refine r_getR (pc := 52) C fl_RX4_129 x_s4 (by decide) x_kTown_12 x_r4_12 dX4_test_52 ?_
      refine r_bipush (pc := 55) (j := 17) C (by decide +kernel) dX4_test_55 ?_
      obtain ⟨M6, hq6, h⟩ := bnd_inv h
      refine r_callV (pc := 57) (rest := []) (st1 := []) C (xExtOK σ b) [vI 17] (c_x_Rules_addSign l 13 x_m13 hq6) cl_RX4_156 x_s13 (by decide) rfl rfl rfl rfl ⟨by simp only [mkR]; omega, by simp only [mkR]; omega⟩ (Nat.le_of_ble_eq_true rfl) rfl rfl dX4_test_57 ?_
      refine r_sub (lv' := [(0, vR b 3), (1, vI v1), (2, vI v2), (3, vI v3_39)]) [1, 2, 3, 0] rfl ?_
      exact w_x_Reader_test_L8_B60 C hr rc dn hrc0 hrc1 hrc2 hrc3 hrec hfol h
set_option maxHeartbeats 4000000 in
set_option maxRecDepth 20000 in
theorem w_x_Reader_test_L8_s (C : xCX σ p s m args meth c cX4_test 4 RX4 D E b) (hr : meth.sig.returnType = none) {M0 : Mem} (rc : Nat → Mem → Option Mem) (dn : Nat) (hrc0 : ∀ (M M0 : Mem), rc 0 M = some M0 → Ct l yX4_fact cX4_fact 2 none (12 + dn) (400 + 40 * dn) vwCl xSh xN xRf (xExt σ) (fun b => [vR b 3]) M (fun b => none) M0) (hrc1 : ∀ (M M0 : Mem), rc 1 M = some M0 → Ct l yX4_part cX4_part 2 none (12 + dn) (400 + 40 * dn) vwCl xSh xN xRf (xExt σ) (fun b => [vR b 3]) M (fun b => none) M0) (hrc2 : ∀ (M M0 : Mem), rc 2 M = some M0 → Ct l yX4_sum cX4_sum 5 none (12 + dn) (400 + 40 * dn) vwCl xSh xN xRf (xExt σ) (fun b => [vR b 3]) M (fun b => none) M0) (hrc3 : ∀ (M M0 : Mem), rc 3 M = some M0 → Ct l yX4_test cX4_test 4 none (12 + dn) (400 + 40 * dn) vwCl xSh xN xRf (xExt σ) (fun b => [vR b 3]) M (fun b => none) M0) {v1 : Int} {v2 : Int} {M : Mem} {q : Int × Int × Mem} {rec : Int → Int → Mem → Option (Int × Int × Mem)} (hrec : ∀ (v1 : Int) (v2 : Int) (M : Mem), rec v1 v2 M = some q → xWX p l e (12 + (dn + 1)) (400 + 40 * (dn + 1)) s m args below meth c 4 D E b none M0 M 8 [(0, vR b 3), (1, vI v1), (2, vI v2)] []) (hfol : ∀ (v1 : Int) (v2 : Int) (M : Mem), q = (v1, v2, M) → xWX p l e (12 + (dn + 1)) (400 + 40 * (dn + 1)) s m args below meth c 4 D E b none M0 M 102 [(0, vR b 3), (1, vI v1)] []) (h : x_Reader_test_L8 rc rec v1 v2 M = some q) :
    xWX p l e (12 + (dn + 1)) (400 + 40 * (dn + 1)) s m args below meth c 4 D E b none M0 M 8 [(0, vR b 3), (1, vI v1), (2, vI v2)] [] := by
  unfold x_Reader_test_L8 at h
  refine r_iload_n (pc := 8) C 2 rfl rfl dX4_test_8 ?_
  refine r_sipush (pc := 9) (j := 1600) C (by decide +kernel) dX4_test_9 ?_
  refine r_icmp_ge (pc := 12) (tgt := 102) C h dX4_test_12 (by decide) (fun hc12 h => ?_) (fun hc12 h => ?_)
  · refine r_sub (lv' := [(0, vR b 3), (1, vI v1)]) [0, 1] rfl ?_
    exact hfol _ _ _ (Option.some.inj h).symm
  · refine r_aload_n (pc := 15) C 0 rfl rfl dX4_test_15 ?_
    refine r_bipush (pc := 16) (j := 17) C (by decide +kernel) dX4_test_16 ?_
    obtain ⟨r2, hq2, h⟩ := bnd_inv h
    refine r_callV (pc := 18) (rest := []) (st1 := [vB r2]) C (xExtOK σ b) [vI 17] (c_x_Reader_at l hq2) cl_RX4_47 x_s3 (by decide) rfl rfl rfl rfl ⟨by simp only [mkR]; omega, by simp only [mkR]; omega⟩ (Nat.le_of_ble_eq_true rfl) rfl rfl dX4_test_18 ?_
    refine r_if_neB (pc := 21) (tgt := 33) C h dX4_test_21 (by decide) (fun hc21 h => ?_) (fun hc21 h => ?_)
    · refine r_sub (lv' := [(0, vR b 3), (1, vI v1), (2, vI v2)]) [0, 1, 2] rfl ?_
      exact w_x_Reader_test_L8_B33 C hr rc dn hrc0 hrc1 hrc2 hrc3 hrec hfol h
    · refine r_aload_n (pc := 24) C 0 rfl rfl dX4_test_24 ?_
      refine r_bipush (pc := 25) (j := 18) C (by decide +kernel) dX4_test_25 ?_
      obtain ⟨r7, hq7, h⟩ := bnd_inv h
      refine r_callV (pc := 27) (rest := []) (st1 := [vB r7]) C (xExtOK σ b) [vI 18] (c_x_Reader_at l hq7) cl_RX4_47 x_s3 (by decide) rfl rfl rfl rfl ⟨by simp only [mkR]; omega, by simp only [mkR]; omega⟩ (Nat.le_of_ble_eq_true rfl) rfl rfl dX4_test_27 ?_
      refine r_if_eqB (pc := 30) (tgt := 102) C h dX4_test_30 (by decide) (fun hc30 h => ?_) (fun hc30 h => ?_)
      · refine r_sub (lv' := [(0, vR b 3), (1, vI v1), (2, vI v2)]) [0, 1, 2] rfl ?_
        exact w_x_Reader_test_L8_B33 C hr rc dn hrc0 hrc1 hrc2 hrc3 hrec hfol h
      · refine r_sub (lv' := [(0, vR b 3), (1, vI v1)]) [0, 1] rfl ?_
        exact hfol _ _ _ (Option.some.inj h).symm
set_option maxHeartbeats 4000000 in
theorem w_x_Reader_test_L8 (C : xCX σ p s m args meth c cX4_test 4 RX4 D E b) (hr : meth.sig.returnType = none) {M0 : Mem} (rc : Nat → Mem → Option Mem) (dn : Nat) (hrc0 : ∀ (M M0 : Mem), rc 0 M = some M0 → Ct l yX4_fact cX4_fact 2 none (12 + dn) (400 + 40 * dn) vwCl xSh xN xRf (xExt σ) (fun b => [vR b 3]) M (fun b => none) M0) (hrc1 : ∀ (M M0 : Mem), rc 1 M = some M0 → Ct l yX4_part cX4_part 2 none (12 + dn) (400 + 40 * dn) vwCl xSh xN xRf (xExt σ) (fun b => [vR b 3]) M (fun b => none) M0) (hrc2 : ∀ (M M0 : Mem), rc 2 M = some M0 → Ct l yX4_sum cX4_sum 5 none (12 + dn) (400 + 40 * dn) vwCl xSh xN xRf (xExt σ) (fun b => [vR b 3]) M (fun b => none) M0) (hrc3 : ∀ (M M0 : Mem), rc 3 M = some M0 → Ct l yX4_test cX4_test 4 none (12 + dn) (400 + 40 * dn) vwCl xSh xN xRf (xExt σ) (fun b => [vR b 3]) M (fun b => none) M0) {q : Int × Int × Mem} (hfol : ∀ (v1 : Int) (v2 : Int) (M : Mem), q = (v1, v2, M) → xWX p l e (12 + (dn + 1)) (400 + 40 * (dn + 1)) s m args below meth c 4 D E b none M0 M 102 [(0, vR b 3), (1, vI v1)] []) : ∀ (n : Nat) (v1 : Int) (v2 : Int) (M : Mem), itr3 (x_Reader_test_L8 rc) n v1 v2 M = some q →
    xWX p l e (12 + (dn + 1)) (400 + 40 * (dn + 1)) s m args below meth c 4 D E b none M0 M 8 [(0, vR b 3), (1, vI v1), (2, vI v2)] [] := by
  intro n
  induction n with
  | zero => exact fun _ _ _ h => itr_z h
  | succ n ih => exact fun _ _ _ h => w_x_Reader_test_L8_s C hr rc dn hrc0 hrc1 hrc2 hrc3 ih hfol h
set_option maxHeartbeats 4000000 in
set_option maxRecDepth 20000 in
theorem c_x_Reader_test (l : Launch) (rc : Nat → Mem → Option Mem) (dn : Nat) (hrc0 : ∀ (M M0 : Mem), rc 0 M = some M0 → Ct l yX4_fact cX4_fact 2 none (12 + dn) (400 + 40 * dn) vwCl xSh xN xRf (xExt σ) (fun b => [vR b 3]) M (fun b => none) M0) (hrc1 : ∀ (M M0 : Mem), rc 1 M = some M0 → Ct l yX4_part cX4_part 2 none (12 + dn) (400 + 40 * dn) vwCl xSh xN xRf (xExt σ) (fun b => [vR b 3]) M (fun b => none) M0) (hrc2 : ∀ (M M0 : Mem), rc 2 M = some M0 → Ct l yX4_sum cX4_sum 5 none (12 + dn) (400 + 40 * dn) vwCl xSh xN xRf (xExt σ) (fun b => [vR b 3]) M (fun b => none) M0) (hrc3 : ∀ (M M0 : Mem), rc 3 M = some M0 → Ct l yX4_test cX4_test 4 none (12 + dn) (400 + 40 * dn) vwCl xSh xN xRf (xExt σ) (fun b => [vR b 3]) M (fun b => none) M0) {M : Mem} {M0 : Mem} (h : x_Reader_test rc M = some M0) : Ct l yX4_test cX4_test 4 none (12 + (dn + 1)) (400 + 40 * (dn + 1)) vwCl xSh xN xRf (xExt σ) (fun b => [vR b 3]) M (fun b => none) M0 := by
  refine Ct_of (xExtOK σ) (by decide) (fun b => Nat.le_of_ble_eq_true rfl) ?_
  intro p e s m args below meth c D E b C hr
  unfold x_Reader_test at h
  refine (show xWX p l e (12 + (dn + 1)) (400 + 40 * (dn + 1)) s m args below meth c 4 D E b none M0 M 0 [(0, vR b 3)] [] from ?_)
  refine r_iconst (pc := 0) C dX4_test_0 ?_
  refine r_istore_n (pc := 1) (lv' := [(1, vI 0), (0, vR b 3)]) C rfl dX4_test_1 (by decide) rfl ?_
  refine r_aload_n (pc := 2) C 1 rfl rfl dX4_test_2 ?_
  obtain ⟨M1, hq1, h⟩ := bnd_inv h
  refine r_callV (pc := 3) (rest := []) (st1 := []) C (xExtOK σ b) [] (hrc0 _ _ hq1) cl_RX4_153 x_s3 (by decide) rfl rfl rfl rfl ⟨by simp only [mkR]; omega, by simp only [mkR]; omega⟩ (Nat.le_of_ble_eq_true rfl) rfl rfl dX4_test_3 ?_
  refine r_iconst (pc := 6) C dX4_test_6 ?_
  refine r_istore_n (pc := 7) (lv' := [(2, vI 0), (1, vI 0), (0, vR b 3)]) C rfl dX4_test_7 (by decide) rfl ?_
  refine r_sub (lv' := [(0, vR b 3), (1, vI 0), (2, vI 0)]) [2, 1, 0] rfl ?_
  obtain ⟨q8, hl8, h⟩ := bnd_inv h
  refine w_x_Reader_test_L8 C hr rc dn hrc0 hrc1 hrc2 hrc3 (fun v1_8 v2_8 M_8 hq => ?_) FUEL _ _ _ hl8
  have hq := hq.symm
  subst hq
  refine r_iload_n (pc := 102) C 1 rfl rfl dX4_test_102 ?_
  refine r_if_eq (pc := 103) (tgt := 118) C h dX4_test_103 (by decide) (fun hc103 h => ?_) (fun hc103 h => ?_)
  · have e := Option.some.inj h
    exact r_vret (pc := 118) C hr rfl e.symm dX4_test_118
  · refine r_aload_n (pc := 106) C 0 rfl rfl dX4_test_106 ?_
    refine r_getR (pc := 107) C fl_RX4_12 x_s3 (by decide) x_kReader_0 x_r3_0 dX4_test_107 ?_
    refine r_getR (pc := 110) C fl_RX4_129 x_s4 (by decide) x_kTown_12 x_r4_12 dX4_test_110 ?_
    refine r_bipush (pc := 113) (j := 17) C (by decide +kernel) dX4_test_113 ?_
    obtain ⟨M9, hq9, h⟩ := bnd_inv h
    refine r_callV (pc := 115) (rest := []) (st1 := []) C (xExtOK σ b) [vI 17] (c_x_Rules_addSign l 13 x_m13 hq9) cl_RX4_156 x_s13 (by decide) rfl rfl rfl rfl ⟨by simp only [mkR]; omega, by simp only [mkR]; omega⟩ (Nat.le_of_ble_eq_true rfl) rfl rfl dX4_test_115 ?_
    have e := Option.some.inj h
    exact r_vret (pc := 118) C hr rfl e.symm dX4_test_118
set_option maxHeartbeats 4000000 in
set_option maxRecDepth 20000 in
theorem w_x_Reader_part_B152 (C : xCX σ p s m args meth c cX4_part 2 RX4 D E b) (hr : meth.sig.returnType = none) {M0 : Mem} (rc : Nat → Mem → Option Mem) (dn : Nat) (hrc0 : ∀ (M M0 : Mem), rc 0 M = some M0 → Ct l yX4_fact cX4_fact 2 none (12 + dn) (400 + 40 * dn) vwCl xSh xN xRf (xExt σ) (fun b => [vR b 3]) M (fun b => none) M0) (hrc1 : ∀ (M M0 : Mem), rc 1 M = some M0 → Ct l yX4_part cX4_part 2 none (12 + dn) (400 + 40 * dn) vwCl xSh xN xRf (xExt σ) (fun b => [vR b 3]) M (fun b => none) M0) (hrc2 : ∀ (M M0 : Mem), rc 2 M = some M0 → Ct l yX4_sum cX4_sum 5 none (12 + dn) (400 + 40 * dn) vwCl xSh xN xRf (xExt σ) (fun b => [vR b 3]) M (fun b => none) M0) (hrc3 : ∀ (M M0 : Mem), rc 3 M = some M0 → Ct l yX4_test cX4_test 4 none (12 + dn) (400 + 40 * dn) vwCl xSh xN xRf (xExt σ) (fun b => [vR b 3]) M (fun b => none) M0) {M : Mem} {v1 : Int} (h : x_Reader_part_B152 rc v1 M = some M0) :
    xWX p l e (12 + (dn + 1)) (400 + 40 * (dn + 1)) s m args below meth c 2 D E b none M0 M 152 [(0, vR b 3), (1, vI v1)] [] := by
  unfold x_Reader_part_B152 at h
  refine r_aload_n (pc := 152) C 0 rfl rfl dX4_part_152 ?_
  refine r_bipush (pc := 153) (j := 44) C (by decide +kernel) dX4_part_153 ?_
  obtain ⟨M7, hq7, h⟩ := bnd_inv h
  refine r_callV (pc := 155) (rest := []) (st1 := []) C (xExtOK σ b) [vI 44] (c_x_Reader_require l hq7) cl_RX4_62 x_s3 (by decide) rfl rfl rfl rfl ⟨by simp only [mkR]; omega, by simp only [mkR]; omega⟩ (Nat.le_of_ble_eq_true rfl) rfl rfl dX4_part_155 ?_
  refine r_aload_n (pc := 158) C 0 rfl rfl dX4_part_158 ?_
  obtain ⟨M8, hq8, h⟩ := bnd_inv h
  refine r_callV (pc := 159) (rest := []) (st1 := []) C (xExtOK σ b) [] (hrc2 _ _ hq8) cl_RX4_144 x_s3 (by decide) rfl rfl rfl rfl ⟨by simp only [mkR]; omega, by simp only [mkR]; omega⟩ (Nat.le_of_ble_eq_true rfl) rfl rfl dX4_part_159 ?_
  refine r_aload_n (pc := 162) C 0 rfl rfl dX4_part_162 ?_
  refine r_bipush (pc := 163) (j := 41) C (by decide +kernel) dX4_part_163 ?_
  obtain ⟨M9, hq9, h⟩ := bnd_inv h
  refine r_callV (pc := 165) (rest := []) (st1 := []) C (xExtOK σ b) [vI 41] (c_x_Reader_require l hq9) cl_RX4_62 x_s3 (by decide) rfl rfl rfl rfl ⟨by simp only [mkR]; omega, by simp only [mkR]; omega⟩ (Nat.le_of_ble_eq_true rfl) rfl rfl dX4_part_165 ?_
  refine r_aload_n (pc := 168) C 0 rfl rfl dX4_part_168 ?_
  refine r_dup (pc := 169) C rfl dX4_part_169 ?_
  refine r_getI (pc := 170) C fl_RX4_42 x_s3 (by decide) x_kReader_5 dX4_part_170 ?_
  refine r_iconst (pc := 173) C dX4_part_173 ?_
  refine r_isub (pc := 174) C dX4_part_174 ?_
  obtain ⟨M_175, hM_175, h⟩ := lt_inv h
  refine r_putI (pc := 175) C fl_RX4_42 x_ft4 x_w4_5 x_s3 (by decide) x_kReader_5 hM_175 dX4_part_175 ?_
  refine r_aload_n (pc := 178) C 0 rfl rfl dX4_part_178 ?_
  refine r_getR (pc := 179) C fl_RX4_12 x_s3 (by decide) x_kReader_0 x_r3_0 dX4_part_179 ?_
  refine r_getR (pc := 182) C fl_RX4_129 x_s4 (by decide) x_kTown_12 x_r4_12 dX4_part_182 ?_
  refine r_iload_n (pc := 185) C 1 rfl rfl dX4_part_185 ?_
  obtain ⟨M10, hq10, h⟩ := bnd_inv h
  refine r_callV (pc := 186) (rest := []) (st1 := []) C (xExtOK σ b) [vI v1] (c_x_Rules_addSign l 13 x_m13 hq10) cl_RX4_156 x_s13 (by decide) rfl rfl rfl rfl ⟨by simp only [mkR]; omega, by simp only [mkR]; omega⟩ (Nat.le_of_ble_eq_true rfl) rfl rfl dX4_part_186 ?_
  refine r_goto (pc := 189) (tgt := 229) C dX4_part_189 (by decide) ?_
  have e := Option.some.inj h
  exact r_vret (pc := 229) C hr rfl e.symm dX4_part_229
set_option maxHeartbeats 4000000 in
set_option maxRecDepth 20000 in
theorem w_x_Reader_part_B117 (C : xCX σ p s m args meth c cX4_part 2 RX4 D E b) (hr : meth.sig.returnType = none) {M0 : Mem} (rc : Nat → Mem → Option Mem) (dn : Nat) (hrc0 : ∀ (M M0 : Mem), rc 0 M = some M0 → Ct l yX4_fact cX4_fact 2 none (12 + dn) (400 + 40 * dn) vwCl xSh xN xRf (xExt σ) (fun b => [vR b 3]) M (fun b => none) M0) (hrc1 : ∀ (M M0 : Mem), rc 1 M = some M0 → Ct l yX4_part cX4_part 2 none (12 + dn) (400 + 40 * dn) vwCl xSh xN xRf (xExt σ) (fun b => [vR b 3]) M (fun b => none) M0) (hrc2 : ∀ (M M0 : Mem), rc 2 M = some M0 → Ct l yX4_sum cX4_sum 5 none (12 + dn) (400 + 40 * dn) vwCl xSh xN xRf (xExt σ) (fun b => [vR b 3]) M (fun b => none) M0) (hrc3 : ∀ (M M0 : Mem), rc 3 M = some M0 → Ct l yX4_test cX4_test 4 none (12 + dn) (400 + 40 * dn) vwCl xSh xN xRf (xExt σ) (fun b => [vR b 3]) M (fun b => none) M0) {M : Mem} {v1 : Int} (h : x_Reader_part_B117 rc v1 M = some M0) :
    xWX p l e (12 + (dn + 1)) (400 + 40 * (dn + 1)) s m args below meth c 2 D E b none M0 M 117 [(0, vR b 3), (1, vI v1)] [] := by
  unfold x_Reader_part_B117 at h
  refine r_aload_n (pc := 117) C 0 rfl rfl dX4_part_117 ?_
  obtain ⟨r5, M5, hq5, h⟩ := bnd2_inv h
  refine r_callV (pc := 118) (rest := []) (st1 := [vB r5]) C (xExtOK σ b) [] (c_x_Reader_enter l hq5) cl_RX4_159 x_s3 (by decide) rfl rfl rfl rfl ⟨by simp only [mkR]; omega, by simp only [mkR]; omega⟩ (Nat.le_of_ble_eq_true rfl) rfl rfl dX4_part_118 ?_
  refine r_if_neB (pc := 121) (tgt := 125) C h dX4_part_121 (by decide) (fun hc121 h => ?_) (fun hc121 h => ?_)
  · refine r_iload_n (pc := 125) C 1 rfl rfl dX4_part_125 ?_
    refine r_bipush (pc := 126) (j := 16) C (by decide +kernel) dX4_part_126 ?_
    refine r_icmp_ne (pc := 128) (tgt := 148) C h dX4_part_128 (by decide) (fun hc128 h => ?_) (fun hc128 h => ?_)
    · refine r_aload_n (pc := 148) C 0 rfl rfl dX4_part_148 ?_
      obtain ⟨M6, hq6, h⟩ := bnd_inv h
      refine r_callV (pc := 149) (rest := []) (st1 := []) C (xExtOK σ b) [] (hrc2 _ _ hq6) cl_RX4_144 x_s3 (by decide) rfl rfl rfl rfl ⟨by simp only [mkR]; omega, by simp only [mkR]; omega⟩ (Nat.le_of_ble_eq_true rfl) rfl rfl dX4_part_149 ?_
      refine r_sub (lv' := [(0, vR b 3), (1, vI v1)]) [0, 1] rfl ?_
      exact w_x_Reader_part_B152 C hr rc dn hrc0 hrc1 hrc2 hrc3 h
    · refine r_aload_n (pc := 131) C 0 rfl rfl dX4_part_131 ?_
      obtain ⟨M11, hq11, h⟩ := bnd_inv h
      refine r_callV (pc := 132) (rest := []) (st1 := []) C (xExtOK σ b) [] (hrc3 _ _ hq11) cl_RX4_147 x_s3 (by decide) rfl rfl rfl rfl ⟨by simp only [mkR]; omega, by simp only [mkR]; omega⟩ (Nat.le_of_ble_eq_true rfl) rfl rfl dX4_part_132 ?_
      refine r_aload_n (pc := 135) C 0 rfl rfl dX4_part_135 ?_
      refine r_bipush (pc := 136) (j := 44) C (by decide +kernel) dX4_part_136 ?_
      obtain ⟨M12, hq12, h⟩ := bnd_inv h
      refine r_callV (pc := 138) (rest := []) (st1 := []) C (xExtOK σ b) [vI 44] (c_x_Reader_require l hq12) cl_RX4_62 x_s3 (by decide) rfl rfl rfl rfl ⟨by simp only [mkR]; omega, by simp only [mkR]; omega⟩ (Nat.le_of_ble_eq_true rfl) rfl rfl dX4_part_138 ?_
      refine r_aload_n (pc := 141) C 0 rfl rfl dX4_part_141 ?_
      obtain ⟨M13, hq13, h⟩ := bnd_inv h
      refine r_callV (pc := 142) (rest := []) (st1 := []) C (xExtOK σ b) [] (hrc2 _ _ hq13) cl_RX4_144 x_s3 (by decide) rfl rfl rfl rfl ⟨by simp only [mkR]; omega, by simp only [mkR]; omega⟩ (Nat.le_of_ble_eq_true rfl) rfl rfl dX4_part_142 ?_
      refine r_goto (pc := 145) (tgt := 152) C dX4_part_145 (by decide) ?_
      refine r_sub (lv' := [(0, vR b 3), (1, vI v1)]) [0, 1] rfl ?_
      exact w_x_Reader_part_B152 C hr rc dn hrc0 hrc1 hrc2 hrc3 h
  · have e := Option.some.inj h
    exact r_vret (pc := 124) C hr rfl e.symm dX4_part_124
set_option maxHeartbeats 4000000 in
set_option maxRecDepth 20000 in
theorem w_x_Reader_part_B93 (C : xCX σ p s m args meth c cX4_part 2 RX4 D E b) (hr : meth.sig.returnType = none) {M0 : Mem} (rc : Nat → Mem → Option Mem) (dn : Nat) (hrc0 : ∀ (M M0 : Mem), rc 0 M = some M0 → Ct l yX4_fact cX4_fact 2 none (12 + dn) (400 + 40 * dn) vwCl xSh xN xRf (xExt σ) (fun b => [vR b 3]) M (fun b => none) M0) (hrc1 : ∀ (M M0 : Mem), rc 1 M = some M0 → Ct l yX4_part cX4_part 2 none (12 + dn) (400 + 40 * dn) vwCl xSh xN xRf (xExt σ) (fun b => [vR b 3]) M (fun b => none) M0) (hrc2 : ∀ (M M0 : Mem), rc 2 M = some M0 → Ct l yX4_sum cX4_sum 5 none (12 + dn) (400 + 40 * dn) vwCl xSh xN xRf (xExt σ) (fun b => [vR b 3]) M (fun b => none) M0) (hrc3 : ∀ (M M0 : Mem), rc 3 M = some M0 → Ct l yX4_test cX4_test 4 none (12 + dn) (400 + 40 * dn) vwCl xSh xN xRf (xExt σ) (fun b => [vR b 3]) M (fun b => none) M0) {M : Mem} {v1 : Int} (h : x_Reader_part_B93 rc v1 M = some M0) :
    xWX p l e (12 + (dn + 1)) (400 + 40 * (dn + 1)) s m args below meth c 2 D E b none M0 M 93 [(0, vR b 3), (1, vI v1)] [] := by
  unfold x_Reader_part_B93 at h
  refine r_aload_n (pc := 93) C 0 rfl rfl dX4_part_93 ?_
  refine r_dup (pc := 94) C rfl dX4_part_94 ?_
  refine r_getI (pc := 95) C fl_RX4_39 x_s3 (by decide) x_kReader_4 dX4_part_95 ?_
  refine r_iconst (pc := 98) C dX4_part_98 ?_
  refine r_iadd (pc := 99) C dX4_part_99 ?_
  obtain ⟨M_100, hM_100, h⟩ := lt_inv h
  refine r_putI (pc := 100) C fl_RX4_39 x_ft4 x_w4_4 x_s3 (by decide) x_kReader_4 hM_100 dX4_part_100 ?_
  refine r_aload_n (pc := 103) C 0 rfl rfl dX4_part_103 ?_
  refine r_bipush (pc := 104) (j := 40) C (by decide +kernel) dX4_part_104 ?_
  obtain ⟨r4, hq4, h⟩ := bnd_inv h
  refine r_callV (pc := 106) (rest := []) (st1 := [vB r4]) C (xExtOK σ b) [vI 40] (c_x_Reader_at l hq4) cl_RX4_47 x_s3 (by decide) rfl rfl rfl rfl ⟨by simp only [mkR]; omega, by simp only [mkR]; omega⟩ (Nat.le_of_ble_eq_true rfl) rfl rfl dX4_part_106 ?_
  refine r_if_neB (pc := 109) (tgt := 117) C h dX4_part_109 (by decide) (fun hc109 h => ?_) (fun hc109 h => ?_)
  · refine r_sub (lv' := [(0, vR b 3), (1, vI v1)]) [0, 1] rfl ?_
    exact w_x_Reader_part_B117 C hr rc dn hrc0 hrc1 hrc2 hrc3 h
  · refine r_aload_n (pc := 112) C 0 rfl rfl dX4_part_112 ?_
    refine r_iconst (pc := 113) C dX4_part_113 ?_
    obtain ⟨M14, hq14, h⟩ := bnd_inv h
    refine r_callV (pc := 114) (rest := []) (st1 := []) C (xExtOK σ b) [vI 1] (c_x_Reader_refuse l hq14) cl_RX4_65 x_s3 (by decide) rfl rfl rfl rfl ⟨by simp only [mkR]; omega, by simp only [mkR]; omega⟩ (Nat.le_of_ble_eq_true rfl) rfl rfl dX4_part_114 ?_
    refine r_sub (lv' := [(0, vR b 3), (1, vI v1)]) [0, 1] rfl ?_
    exact w_x_Reader_part_B117 C hr rc dn hrc0 hrc1 hrc2 hrc3 h
set_option maxHeartbeats 4000000 in
set_option maxRecDepth 20000 in
theorem c_x_Reader_part (l : Launch) (rc : Nat → Mem → Option Mem) (dn : Nat) (hrc0 : ∀ (M M0 : Mem), rc 0 M = some M0 → Ct l yX4_fact cX4_fact 2 none (12 + dn) (400 + 40 * dn) vwCl xSh xN xRf (xExt σ) (fun b => [vR b 3]) M (fun b => none) M0) (hrc1 : ∀ (M M0 : Mem), rc 1 M = some M0 → Ct l yX4_part cX4_part 2 none (12 + dn) (400 + 40 * dn) vwCl xSh xN xRf (xExt σ) (fun b => [vR b 3]) M (fun b => none) M0) (hrc2 : ∀ (M M0 : Mem), rc 2 M = some M0 → Ct l yX4_sum cX4_sum 5 none (12 + dn) (400 + 40 * dn) vwCl xSh xN xRf (xExt σ) (fun b => [vR b 3]) M (fun b => none) M0) (hrc3 : ∀ (M M0 : Mem), rc 3 M = some M0 → Ct l yX4_test cX4_test 4 none (12 + dn) (400 + 40 * dn) vwCl xSh xN xRf (xExt σ) (fun b => [vR b 3]) M (fun b => none) M0) {M : Mem} {M0 : Mem} (h : x_Reader_part rc M = some M0) : Ct l yX4_part cX4_part 2 none (12 + (dn + 1)) (400 + 40 * (dn + 1)) vwCl xSh xN xRf (xExt σ) (fun b => [vR b 3]) M (fun b => none) M0 := by
  refine Ct_of (xExtOK σ) (by decide) (fun b => Nat.le_of_ble_eq_true rfl) ?_
  intro p e s m args below meth c D E b C hr
  unfold x_Reader_part at h
  refine (show xWX p l e (12 + (dn + 1)) (400 + 40 * (dn + 1)) s m args below meth c 2 D E b none M0 M 0 [(0, vR b 3)] [] from ?_)
  refine r_aload_n (pc := 0) C 0 rfl rfl dX4_part_0 ?_
  obtain ⟨r1, hq1, h⟩ := bnd_inv h
  refine r_callV (pc := 1) (rest := []) (st1 := [vI r1]) C (xExtOK σ b) [] (c_x_Reader_kind l hq1) cl_RX4_54 x_s3 (by decide) rfl rfl rfl rfl ⟨by simp only [mkR]; omega, by simp only [mkR]; omega⟩ (Nat.le_of_ble_eq_true rfl) rfl rfl dX4_part_1 ?_
  refine r_istore_n (pc := 4) (lv' := [(1, vI r1), (0, vR b 3)]) C rfl dX4_part_4 (by decide) rfl ?_
  refine r_aload_n (pc := 5) C 1 rfl rfl dX4_part_5 ?_
  refine r_bipush (pc := 6) (j := 24) C (by decide +kernel) dX4_part_6 ?_
  obtain ⟨r2, hq2, h⟩ := bnd_inv h
  refine r_callV (pc := 8) (rest := []) (st1 := [vB r2]) C (xExtOK σ b) [vI 24] (c_x_Reader_at l hq2) cl_RX4_47 x_s3 (by decide) rfl rfl rfl rfl ⟨by simp only [mkR]; omega, by simp only [mkR]; omega⟩ (Nat.le_of_ble_eq_true rfl) rfl rfl dX4_part_8 ?_
  refine r_if_eqB (pc := 11) (tgt := 35) C h dX4_part_11 (by decide) (fun hc11 h => ?_) (fun hc11 h => ?_)
  · refine r_aload_n (pc := 14) C 1 rfl rfl dX4_part_14 ?_
    refine r_getR (pc := 15) C fl_RX4_12 x_s3 (by decide) x_kReader_0 x_r3_0 dX4_part_15 ?_
    refine r_getR (pc := 18) C fl_RX4_129 x_s4 (by decide) x_kTown_12 x_r4_12 dX4_part_18 ?_
    refine r_aload_n (pc := 21) C 1 rfl rfl dX4_part_21 ?_
    refine r_iconst (pc := 22) C dX4_part_22 ?_
    refine r_sipush (pc := 23) (j := 9999) C (by decide +kernel) dX4_part_23 ?_
    obtain ⟨r21, M21, hq21, h⟩ := bnd2_inv h
    refine r_callV (pc := 26) (rest := [vR b 13]) (st1 := [vI r21, vR b 13]) C (xExtOK σ b) [vI 0, vI 9999] (c_x_Reader_number l hq21) cl_RX4_83 x_s3 (by decide) rfl rfl rfl rfl ⟨by simp only [mkR]; omega, by simp only [mkR]; omega⟩ (Nat.le_of_ble_eq_true rfl) rfl rfl dX4_part_26 ?_
    obtain ⟨M22, hq22, h⟩ := bnd_inv h
    refine r_callV (pc := 29) (rest := []) (st1 := []) C (xExtOK σ b) [vI r21] (c_x_Rules_addNumber l 13 x_m13 hq22) cl_RX4_163 x_s13 (by decide) rfl rfl rfl rfl ⟨by simp only [mkR]; omega, by simp only [mkR]; omega⟩ (Nat.le_of_ble_eq_true rfl) rfl rfl dX4_part_29 ?_
    refine r_goto (pc := 32) (tgt := 229) C dX4_part_32 (by decide) ?_
    have e := Option.some.inj h
    exact r_vret (pc := 229) C hr rfl e.symm dX4_part_229
  · refine r_aload_n (pc := 35) C 1 rfl rfl dX4_part_35 ?_
    refine r_bipush (pc := 36) (j := 40) C (by decide +kernel) dX4_part_36 ?_
    obtain ⟨r3, hq3, h⟩ := bnd_inv h
    refine r_callV (pc := 38) (rest := []) (st1 := [vB r3]) C (xExtOK σ b) [vI 40] (c_x_Reader_at l hq3) cl_RX4_47 x_s3 (by decide) rfl rfl rfl rfl ⟨by simp only [mkR]; omega, by simp only [mkR]; omega⟩ (Nat.le_of_ble_eq_true rfl) rfl rfl dX4_part_38 ?_
    refine r_if_eqB (pc := 41) (tgt := 75) C h dX4_part_41 (by decide) (fun hc41 h => ?_) (fun hc41 h => ?_)
    · refine r_aload_n (pc := 44) C 1 rfl rfl dX4_part_44 ?_
      obtain ⟨r18, M18, hq18, h⟩ := bnd2_inv h
      refine r_callV (pc := 45) (rest := []) (st1 := [vB r18]) C (xExtOK σ b) [] (c_x_Reader_enter l hq18) cl_RX4_159 x_s3 (by decide) rfl rfl rfl rfl ⟨by simp only [mkR]; omega, by simp only [mkR]; omega⟩ (Nat.le_of_ble_eq_true rfl) rfl rfl dX4_part_45 ?_
      refine r_if_neB (pc := 48) (tgt := 52) C h dX4_part_48 (by decide) (fun hc48 h => ?_) (fun hc48 h => ?_)
      · refine r_aload_n (pc := 52) C 1 rfl rfl dX4_part_52 ?_
        obtain ⟨M19, hq19, h⟩ := bnd_inv h
        refine r_callV (pc := 53) (rest := []) (st1 := []) C (xExtOK σ b) [] (hrc2 _ _ hq19) cl_RX4_144 x_s3 (by decide) rfl rfl rfl rfl ⟨by simp only [mkR]; omega, by simp only [mkR]; omega⟩ (Nat.le_of_ble_eq_true rfl) rfl rfl dX4_part_53 ?_
        refine r_aload_n (pc := 56) C 1 rfl rfl dX4_part_56 ?_
        refine r_bipush (pc := 57) (j := 41) C (by decide +kernel) dX4_part_57 ?_
        obtain ⟨M20, hq20, h⟩ := bnd_inv h
        refine r_callV (pc := 59) (rest := []) (st1 := []) C (xExtOK σ b) [vI 41] (c_x_Reader_require l hq20) cl_RX4_62 x_s3 (by decide) rfl rfl rfl rfl ⟨by simp only [mkR]; omega, by simp only [mkR]; omega⟩ (Nat.le_of_ble_eq_true rfl) rfl rfl dX4_part_59 ?_
        refine r_aload_n (pc := 62) C 1 rfl rfl dX4_part_62 ?_
        refine r_dup (pc := 63) C rfl dX4_part_63 ?_
        refine r_getI (pc := 64) C fl_RX4_42 x_s3 (by decide) x_kReader_5 dX4_part_64 ?_
        refine r_iconst (pc := 67) C dX4_part_67 ?_
        refine r_isub (pc := 68) C dX4_part_68 ?_
        obtain ⟨M_69, hM_69, h⟩ := lt_inv h
        refine r_putI (pc := 69) C fl_RX4_42 x_ft4 x_w4_5 x_s3 (by decide) x_kReader_5 hM_69 dX4_part_69 ?_
        refine r_goto (pc := 72) (tgt := 229) C dX4_part_72 (by decide) ?_
        have e := Option.some.inj h
        exact r_vret (pc := 229) C hr rfl e.symm dX4_part_229
      · have e := Option.some.inj h
        exact r_vret (pc := 51) C hr rfl e.symm dX4_part_51
    · refine r_iload_n (pc := 75) C 0 rfl rfl dX4_part_75 ?_
      refine r_bipush (pc := 76) (j := 21) C (by decide +kernel) dX4_part_76 ?_
      refine r_icmp_eq (pc := 78) (tgt := 93) C h dX4_part_78 (by decide) (fun hc78 h => ?_) (fun hc78 h => ?_)
      · refine r_sub (lv' := [(0, vR b 3), (1, vI r1)]) [1, 0] rfl ?_
        exact w_x_Reader_part_B93 C hr rc dn hrc0 hrc1 hrc2 hrc3 h
      · refine r_iload_n (pc := 81) C 0 rfl rfl dX4_part_81 ?_
        refine r_bipush (pc := 82) (j := 22) C (by decide +kernel) dX4_part_82 ?_
        refine r_icmp_eq (pc := 84) (tgt := 93) C h dX4_part_84 (by decide) (fun hc84 h => ?_) (fun hc84 h => ?_)
        · refine r_sub (lv' := [(0, vR b 3), (1, vI r1)]) [1, 0] rfl ?_
          exact w_x_Reader_part_B93 C hr rc dn hrc0 hrc1 hrc2 hrc3 h
        · refine r_iload_n (pc := 87) C 0 rfl rfl dX4_part_87 ?_
          refine r_bipush (pc := 88) (j := 16) C (by decide +kernel) dX4_part_88 ?_
          refine r_icmp_ne (pc := 90) (tgt := 192) C h dX4_part_90 (by decide) (fun hc90 h => ?_) (fun hc90 h => ?_)
          · refine r_aload_n (pc := 192) C 1 rfl rfl dX4_part_192 ?_
            refine r_iload_n (pc := 193) C 0 rfl rfl dX4_part_193 ?_
            obtain ⟨r15, hq15, h⟩ := bnd_inv h
            refine r_callV (pc := 194) (rest := []) (st1 := [vB r15]) C (xExtOK σ b) [vI r1] (c_x_Reader_isAsked l hq15) cl_RX4_169 x_s3 (by decide) rfl rfl rfl rfl ⟨by simp only [mkR]; omega, by simp only [mkR]; omega⟩ (Nat.le_of_ble_eq_true rfl) rfl rfl dX4_part_194 ?_
            refine r_if_eqB (pc := 197) (tgt := 224) C h dX4_part_197 (by decide) (fun hc197 h => ?_) (fun hc197 h => ?_)
            · refine r_aload_n (pc := 200) C 1 rfl rfl dX4_part_200 ?_
              refine r_dup (pc := 201) C rfl dX4_part_201 ?_
              refine r_getI (pc := 202) C fl_RX4_39 x_s3 (by decide) x_kReader_4 dX4_part_202 ?_
              refine r_iconst (pc := 205) C dX4_part_205 ?_
              refine r_iadd (pc := 206) C dX4_part_206 ?_
              obtain ⟨M_207, hM_207, h⟩ := lt_inv h
              refine r_putI (pc := 207) C fl_RX4_39 x_ft4 x_w4_4 x_s3 (by decide) x_kReader_4 hM_207 dX4_part_207 ?_
              refine r_aload_n (pc := 210) C 1 rfl rfl dX4_part_210 ?_
              refine r_getR (pc := 211) C fl_RX4_12 x_s3 (by decide) x_kReader_0 x_r3_0 dX4_part_211 ?_
              refine r_getR (pc := 214) C fl_RX4_129 x_s4 (by decide) x_kTown_12 x_r4_12 dX4_part_214 ?_
              refine r_iload_n (pc := 217) C 0 rfl rfl dX4_part_217 ?_
              obtain ⟨M17, hq17, h⟩ := bnd_inv h
              refine r_callV (pc := 218) (rest := []) (st1 := []) C (xExtOK σ b) [vI r1] (c_x_Rules_addFact l 13 x_m13 hq17) cl_RX4_172 x_s13 (by decide) rfl rfl rfl rfl ⟨by simp only [mkR]; omega, by simp only [mkR]; omega⟩ (Nat.le_of_ble_eq_true rfl) rfl rfl dX4_part_218 ?_
              refine r_goto (pc := 221) (tgt := 229) C dX4_part_221 (by decide) ?_
              have e := Option.some.inj h
              exact r_vret (pc := 229) C hr rfl e.symm dX4_part_229
            · refine r_aload_n (pc := 224) C 1 rfl rfl dX4_part_224 ?_
              refine r_iconst (pc := 225) C dX4_part_225 ?_
              obtain ⟨M16, hq16, h⟩ := bnd_inv h
              refine r_callV (pc := 226) (rest := []) (st1 := []) C (xExtOK σ b) [vI 1] (c_x_Reader_refuse l hq16) cl_RX4_65 x_s3 (by decide) rfl rfl rfl rfl ⟨by simp only [mkR]; omega, by simp only [mkR]; omega⟩ (Nat.le_of_ble_eq_true rfl) rfl rfl dX4_part_226 ?_
              have e := Option.some.inj h
              exact r_vret (pc := 229) C hr rfl e.symm dX4_part_229
          · refine r_sub (lv' := [(0, vR b 3), (1, vI r1)]) [1, 0] rfl ?_
            exact w_x_Reader_part_B93 C hr rc dn hrc0 hrc1 hrc2 hrc3 h
set_option maxHeartbeats 4000000 in
set_option maxRecDepth 20000 in
theorem w_x_Reader_sum_L8_B99 (C : xCX σ p s m args meth c cX4_sum 5 RX4 D E b) (hr : meth.sig.returnType = none) {M0 : Mem} (rc : Nat → Mem → Option Mem) (dn : Nat) (hrc0 : ∀ (M M0 : Mem), rc 0 M = some M0 → Ct l yX4_fact cX4_fact 2 none (12 + dn) (400 + 40 * dn) vwCl xSh xN xRf (xExt σ) (fun b => [vR b 3]) M (fun b => none) M0) (hrc1 : ∀ (M M0 : Mem), rc 1 M = some M0 → Ct l yX4_part cX4_part 2 none (12 + dn) (400 + 40 * dn) vwCl xSh xN xRf (xExt σ) (fun b => [vR b 3]) M (fun b => none) M0) (hrc2 : ∀ (M M0 : Mem), rc 2 M = some M0 → Ct l yX4_sum cX4_sum 5 none (12 + dn) (400 + 40 * dn) vwCl xSh xN xRf (xExt σ) (fun b => [vR b 3]) M (fun b => none) M0) (hrc3 : ∀ (M M0 : Mem), rc 3 M = some M0 → Ct l yX4_test cX4_test 4 none (12 + dn) (400 + 40 * dn) vwCl xSh xN xRf (xExt σ) (fun b => [vR b 3]) M (fun b => none) M0) {M : Mem} {v1 : Int} {v2 : Int} {v3 : Int} {v4 : Int} {q : Int × Int × Mem} {rec : Int → Int → Mem → Option (Int × Int × Mem)} (hrec : ∀ (v1 : Int) (v2 : Int) (M : Mem), rec v1 v2 M = some q → xWX p l e (12 + (dn + 1)) (400 + 40 * (dn + 1)) s m args below meth c 5 D E b none M0 M 8 [(0, vR b 3), (1, vI v1), (2, vI v2)] []) (hfol : ∀ (v1 : Int) (v2 : Int) (M : Mem), q = (v1, v2, M) → xWX p l e (12 + (dn + 1)) (400 + 40 * (dn + 1)) s m args below meth c 5 D E b none M0 M 135 [(0, vR b 3), (1, vI v1)] []) (h : x_Reader_sum_L8_B99 rc rec v1 v2 v3 v4 M = some q) :
    xWX p l e (12 + (dn + 1)) (400 + 40 * (dn + 1)) s m args below meth c 5 D E b none M0 M 99 [(0, vR b 3), (1, vI v1), (2, vI v2), (3, vI v3), (4, vI v4)] [] := by
  unfold x_Reader_sum_L8_B99 at h
  refine r_aload_n (pc := 99) C 0 rfl rfl dX4_sum_99 ?_
  refine r_dup (pc := 100) C rfl dX4_sum_100 ?_
  refine r_getI (pc := 101) C fl_RX4_39 x_s3 (by decide) x_kReader_4 dX4_sum_101 ?_
  refine r_iconst (pc := 104) C dX4_sum_104 ?_
  refine r_iadd (pc := 105) C dX4_sum_105 ?_
  obtain ⟨M_106, hM_106, h⟩ := lt_inv h
  refine r_putI (pc := 106) C fl_RX4_39 x_ft4 x_w4_4 x_s3 (by decide) x_kReader_4 hM_106 dX4_sum_106 ?_
  refine r_aload_n (pc := 109) C 0 rfl rfl dX4_sum_109 ?_
  obtain ⟨M3, hq3, h⟩ := bnd_inv h
  refine r_callV (pc := 110) (rest := []) (st1 := []) C (xExtOK σ b) [] (hrc1 _ _ hq3) cl_RX4_166 x_s3 (by decide) rfl rfl rfl rfl ⟨by simp only [mkR]; omega, by simp only [mkR]; omega⟩ (Nat.le_of_ble_eq_true rfl) rfl rfl dX4_sum_110 ?_
  refine r_iload (pc := 113) C 4 rfl dX4_sum_113 ?_
  refine r_if_ne (pc := 115) (tgt := 129) C h dX4_sum_115 (by decide) (fun hc115 h => ?_) (fun hc115 h => ?_)
  · obtain ⟨v2_129, hv2_129, h⟩ := lt_inv h
    refine r_iincN (pc := 129) (y := v2_129) (lv' := [(2, vI v2_129), (0, vR b 3), (1, vI v1), (3, vI v3), (4, vI v4)]) C 2 rfl hv2_129 dX4_sum_129 (by decide) rfl ?_
    refine r_goto (pc := 132) (tgt := 8) C dX4_sum_132 (by decide) ?_
    refine r_sub (lv' := [(0, vR b 3), (1, vI v1), (2, vI v2_129)]) [1, 2, 0] rfl ?_
    exact hrec _ _ _ h
  · refine r_aload_n (pc := 118) C 0 rfl rfl dX4_sum_118 ?_
    refine r_getR (pc := 119) C fl_RX4_12 x_s3 (by decide) x_kReader_0 x_r3_0 dX4_sum_119 ?_
    refine r_getR (pc := 122) C fl_RX4_129 x_s4 (by decide) x_kTown_12 x_r4_12 dX4_sum_122 ?_
    refine r_iload_n (pc := 125) C 3 rfl rfl dX4_sum_125 ?_
    obtain ⟨M4, hq4, h⟩ := bnd_inv h
    refine r_callV (pc := 126) (rest := []) (st1 := []) C (xExtOK σ b) [vI v3] (c_x_Rules_addSign l 13 x_m13 hq4) cl_RX4_156 x_s13 (by decide) rfl rfl rfl rfl ⟨by simp only [mkR]; omega, by simp only [mkR]; omega⟩ (Nat.le_of_ble_eq_true rfl) rfl rfl dX4_sum_126 ?_
    obtain ⟨v2_129, hv2_129, h⟩ := lt_inv h
    refine r_iincN (pc := 129) (y := v2_129) (lv' := [(2, vI v2_129), (0, vR b 3), (1, vI v1), (3, vI v3), (4, vI v4)]) C 2 rfl hv2_129 dX4_sum_129 (by decide) rfl ?_
    refine r_goto (pc := 132) (tgt := 8) C dX4_sum_132 (by decide) ?_
    refine r_sub (lv' := [(0, vR b 3), (1, vI v1), (2, vI v2_129)]) [1, 2, 0] rfl ?_
    exact hrec _ _ _ h
set_option maxHeartbeats 4000000 in
set_option maxRecDepth 20000 in
theorem w_x_Reader_sum_L8_B92 (C : xCX σ p s m args meth c cX4_sum 5 RX4 D E b) (hr : meth.sig.returnType = none) {M0 : Mem} (rc : Nat → Mem → Option Mem) (dn : Nat) (hrc0 : ∀ (M M0 : Mem), rc 0 M = some M0 → Ct l yX4_fact cX4_fact 2 none (12 + dn) (400 + 40 * dn) vwCl xSh xN xRf (xExt σ) (fun b => [vR b 3]) M (fun b => none) M0) (hrc1 : ∀ (M M0 : Mem), rc 1 M = some M0 → Ct l yX4_part cX4_part 2 none (12 + dn) (400 + 40 * dn) vwCl xSh xN xRf (xExt σ) (fun b => [vR b 3]) M (fun b => none) M0) (hrc2 : ∀ (M M0 : Mem), rc 2 M = some M0 → Ct l yX4_sum cX4_sum 5 none (12 + dn) (400 + 40 * dn) vwCl xSh xN xRf (xExt σ) (fun b => [vR b 3]) M (fun b => none) M0) (hrc3 : ∀ (M M0 : Mem), rc 3 M = some M0 → Ct l yX4_test cX4_test 4 none (12 + dn) (400 + 40 * dn) vwCl xSh xN xRf (xExt σ) (fun b => [vR b 3]) M (fun b => none) M0) {M : Mem} {v1 : Int} {v2 : Int} {v3 : Int} {v4 : Int} {q : Int × Int × Mem} {rec : Int → Int → Mem → Option (Int × Int × Mem)} (hrec : ∀ (v1 : Int) (v2 : Int) (M : Mem), rec v1 v2 M = some q → xWX p l e (12 + (dn + 1)) (400 + 40 * (dn + 1)) s m args below meth c 5 D E b none M0 M 8 [(0, vR b 3), (1, vI v1), (2, vI v2)] []) (hfol : ∀ (v1 : Int) (v2 : Int) (M : Mem), q = (v1, v2, M) → xWX p l e (12 + (dn + 1)) (400 + 40 * (dn + 1)) s m args below meth c 5 D E b none M0 M 135 [(0, vR b 3), (1, vI v1)] []) (h : x_Reader_sum_L8_B92 rc rec v1 v2 v3 v4 M = some q) :
    xWX p l e (12 + (dn + 1)) (400 + 40 * (dn + 1)) s m args below meth c 5 D E b none M0 M 92 [(0, vR b 3), (1, vI v1), (2, vI v2), (3, vI v3), (4, vI v4)] [] := by
  unfold x_Reader_sum_L8_B92 at h
  refine r_iload (pc := 92) C 4 rfl dX4_sum_92 ?_
  refine r_if_eq (pc := 94) (tgt := 99) C h dX4_sum_94 (by decide) (fun hc94 h => ?_) (fun hc94 h => ?_)
  · refine r_sub (lv' := [(0, vR b 3), (1, vI v1), (2, vI v2), (3, vI v3), (4, vI v4)]) [0, 1, 2, 3, 4] rfl ?_
    exact w_x_Reader_sum_L8_B99 C hr rc dn hrc0 hrc1 hrc2 hrc3 hrec hfol h
  · refine r_iload_n (pc := 97) C 3 rfl rfl dX4_sum_97 ?_
    refine r_istore_n (pc := 98) (lv' := [(1, vI v3), (0, vR b 3), (2, vI v2), (3, vI v3), (4, vI v4)]) C rfl dX4_sum_98 (by decide) rfl ?_
    refine r_sub (lv' := [(0, vR b 3), (1, vI v3), (2, vI v2), (3, vI v3), (4, vI v4)]) [1, 0, 2, 3, 4] rfl ?_
    exact w_x_Reader_sum_L8_B99 C hr rc dn hrc0 hrc1 hrc2 hrc3 hrec hfol h
set_option maxHeartbeats 4000000 in
set_option maxRecDepth 20000 in
theorem w_x_Reader_sum_L8_B72 (C : xCX σ p s m args meth c cX4_sum 5 RX4 D E b) (hr : meth.sig.returnType = none) {M0 : Mem} (rc : Nat → Mem → Option Mem) (dn : Nat) (hrc0 : ∀ (M M0 : Mem), rc 0 M = some M0 → Ct l yX4_fact cX4_fact 2 none (12 + dn) (400 + 40 * dn) vwCl xSh xN xRf (xExt σ) (fun b => [vR b 3]) M (fun b => none) M0) (hrc1 : ∀ (M M0 : Mem), rc 1 M = some M0 → Ct l yX4_part cX4_part 2 none (12 + dn) (400 + 40 * dn) vwCl xSh xN xRf (xExt σ) (fun b => [vR b 3]) M (fun b => none) M0) (hrc2 : ∀ (M M0 : Mem), rc 2 M = some M0 → Ct l yX4_sum cX4_sum 5 none (12 + dn) (400 + 40 * dn) vwCl xSh xN xRf (xExt σ) (fun b => [vR b 3]) M (fun b => none) M0) (hrc3 : ∀ (M M0 : Mem), rc 3 M = some M0 → Ct l yX4_test cX4_test 4 none (12 + dn) (400 + 40 * dn) vwCl xSh xN xRf (xExt σ) (fun b => [vR b 3]) M (fun b => none) M0) {M : Mem} {v1 : Int} {v2 : Int} {v3 : Int} {v4 : Int} {q : Int × Int × Mem} {rec : Int → Int → Mem → Option (Int × Int × Mem)} (hrec : ∀ (v1 : Int) (v2 : Int) (M : Mem), rec v1 v2 M = some q → xWX p l e (12 + (dn + 1)) (400 + 40 * (dn + 1)) s m args below meth c 5 D E b none M0 M 8 [(0, vR b 3), (1, vI v1), (2, vI v2)] []) (hfol : ∀ (v1 : Int) (v2 : Int) (M : Mem), q = (v1, v2, M) → xWX p l e (12 + (dn + 1)) (400 + 40 * (dn + 1)) s m args below meth c 5 D E b none M0 M 135 [(0, vR b 3), (1, vI v1)] []) (h : x_Reader_sum_L8_B72 rc rec v1 v2 v3 v4 M = some q) :
    xWX p l e (12 + (dn + 1)) (400 + 40 * (dn + 1)) s m args below meth c 5 D E b none M0 M 72 [(0, vR b 3), (1, vI v1), (2, vI v2), (3, vI v3), (4, vI v4)] [] := by
  unfold x_Reader_sum_L8_B72 at h
  refine r_iload (pc := 72) C 4 rfl dX4_sum_72 ?_
  refine r_if_eq (pc := 74) (tgt := 92) C h dX4_sum_74 (by decide) (fun hc74 h => ?_) (fun hc74 h => ?_)
  · refine r_sub (lv' := [(0, vR b 3), (1, vI v1), (2, vI v2), (3, vI v3), (4, vI v4)]) [0, 1, 2, 3, 4] rfl ?_
    exact w_x_Reader_sum_L8_B92 C hr rc dn hrc0 hrc1 hrc2 hrc3 hrec hfol h
  · refine r_iload_n (pc := 77) C 1 rfl rfl dX4_sum_77 ?_
    refine r_if_eq (pc := 78) (tgt := 92) C h dX4_sum_78 (by decide) (fun hc78 h => ?_) (fun hc78 h => ?_)
    · refine r_sub (lv' := [(0, vR b 3), (1, vI v1), (2, vI v2), (3, vI v3), (4, vI v4)]) [0, 1, 2, 3, 4] rfl ?_
      exact w_x_Reader_sum_L8_B92 C hr rc dn hrc0 hrc1 hrc2 hrc3 hrec hfol h
    · refine r_aload_n (pc := 81) C 0 rfl rfl dX4_sum_81 ?_
      refine r_getR (pc := 82) C fl_RX4_12 x_s3 (by decide) x_kReader_0 x_r3_0 dX4_sum_82 ?_
      refine r_getR (pc := 85) C fl_RX4_129 x_s4 (by decide) x_kTown_12 x_r4_12 dX4_sum_85 ?_
      refine r_iload_n (pc := 88) C 1 rfl rfl dX4_sum_88 ?_
      obtain ⟨M5, hq5, h⟩ := bnd_inv h
      refine r_callV (pc := 89) (rest := []) (st1 := []) C (xExtOK σ b) [vI v1] (c_x_Rules_addSign l 13 x_m13 hq5) cl_RX4_156 x_s13 (by decide) rfl rfl rfl rfl ⟨by simp only [mkR]; omega, by simp only [mkR]; omega⟩ (Nat.le_of_ble_eq_true rfl) rfl rfl dX4_sum_89 ?_
      refine r_sub (lv' := [(0, vR b 3), (1, vI v1), (2, vI v2), (3, vI v3), (4, vI v4)]) [0, 1, 2, 3, 4] rfl ?_
      exact w_x_Reader_sum_L8_B92 C hr rc dn hrc0 hrc1 hrc2 hrc3 hrec hfol h
set_option maxHeartbeats 4000000 in
set_option maxRecDepth 20000 in
theorem w_x_Reader_sum_L8_B44 (C : xCX σ p s m args meth c cX4_sum 5 RX4 D E b) (hr : meth.sig.returnType = none) {M0 : Mem} (rc : Nat → Mem → Option Mem) (dn : Nat) (hrc0 : ∀ (M M0 : Mem), rc 0 M = some M0 → Ct l yX4_fact cX4_fact 2 none (12 + dn) (400 + 40 * dn) vwCl xSh xN xRf (xExt σ) (fun b => [vR b 3]) M (fun b => none) M0) (hrc1 : ∀ (M M0 : Mem), rc 1 M = some M0 → Ct l yX4_part cX4_part 2 none (12 + dn) (400 + 40 * dn) vwCl xSh xN xRf (xExt σ) (fun b => [vR b 3]) M (fun b => none) M0) (hrc2 : ∀ (M M0 : Mem), rc 2 M = some M0 → Ct l yX4_sum cX4_sum 5 none (12 + dn) (400 + 40 * dn) vwCl xSh xN xRf (xExt σ) (fun b => [vR b 3]) M (fun b => none) M0) (hrc3 : ∀ (M M0 : Mem), rc 3 M = some M0 → Ct l yX4_test cX4_test 4 none (12 + dn) (400 + 40 * dn) vwCl xSh xN xRf (xExt σ) (fun b => [vR b 3]) M (fun b => none) M0) {M : Mem} {v1 : Int} {v2 : Int} {v3 : Int} {s0 : Int} {q : Int × Int × Mem} {rec : Int → Int → Mem → Option (Int × Int × Mem)} (hrec : ∀ (v1 : Int) (v2 : Int) (M : Mem), rec v1 v2 M = some q → xWX p l e (12 + (dn + 1)) (400 + 40 * (dn + 1)) s m args below meth c 5 D E b none M0 M 8 [(0, vR b 3), (1, vI v1), (2, vI v2)] []) (hfol : ∀ (v1 : Int) (v2 : Int) (M : Mem), q = (v1, v2, M) → xWX p l e (12 + (dn + 1)) (400 + 40 * (dn + 1)) s m args below meth c 5 D E b none M0 M 135 [(0, vR b 3), (1, vI v1)] []) (h : x_Reader_sum_L8_B44 rc rec v1 v2 v3 s0 M = some q) :
    xWX p l e (12 + (dn + 1)) (400 + 40 * (dn + 1)) s m args below meth c 5 D E b none M0 M 44 [(0, vR b 3), (1, vI v1), (2, vI v2), (3, vI v3)] [vI s0] := by
  unfold x_Reader_sum_L8_B44 at h
  refine r_istore (pc := 44) (lv' := [(4, vI s0), (0, vR b 3), (1, vI v1), (2, vI v2), (3, vI v3)]) C dX4_sum_44 (by decide) rfl ?_
  refine r_iload (pc := 46) C 0 rfl dX4_sum_46 ?_
  refine r_if_ne (pc := 48) (tgt := 72) C h dX4_sum_48 (by decide) (fun hc48 h => ?_) (fun hc48 h => ?_)
  · refine r_sub (lv' := [(0, vR b 3), (1, vI v1), (2, vI v2), (3, vI v3), (4, vI s0)]) [1, 2, 3, 4, 0] rfl ?_
    exact w_x_Reader_sum_L8_B72 C hr rc dn hrc0 hrc1 hrc2 hrc3 hrec hfol h
  · refine r_iload_n (pc := 51) C 4 rfl rfl dX4_sum_51 ?_
    refine r_bipush (pc := 52) (j := 42) C (by decide +kernel) dX4_sum_52 ?_
    refine r_icmp_eq (pc := 54) (tgt := 72) C h dX4_sum_54 (by decide) (fun hc54 h => ?_) (fun hc54 h => ?_)
    · refine r_sub (lv' := [(0, vR b 3), (1, vI v1), (2, vI v2), (3, vI v3), (4, vI s0)]) [1, 2, 3, 4, 0] rfl ?_
      exact w_x_Reader_sum_L8_B72 C hr rc dn hrc0 hrc1 hrc2 hrc3 hrec hfol h
    · refine r_iload_n (pc := 57) C 4 rfl rfl dX4_sum_57 ?_
      refine r_bipush (pc := 58) (j := 47) C (by decide +kernel) dX4_sum_58 ?_
      refine r_icmp_eq (pc := 60) (tgt := 72) C h dX4_sum_60 (by decide) (fun hc60 h => ?_) (fun hc60 h => ?_)
      · refine r_sub (lv' := [(0, vR b 3), (1, vI v1), (2, vI v2), (3, vI v3), (4, vI s0)]) [1, 2, 3, 4, 0] rfl ?_
        exact w_x_Reader_sum_L8_B72 C hr rc dn hrc0 hrc1 hrc2 hrc3 hrec hfol h
      · refine r_iload_n (pc := 63) C 4 rfl rfl dX4_sum_63 ?_
        refine r_bipush (pc := 64) (j := 37) C (by decide +kernel) dX4_sum_64 ?_
        refine r_icmp_eq (pc := 66) (tgt := 72) C h dX4_sum_66 (by decide) (fun hc66 h => ?_) (fun hc66 h => ?_)
        · refine r_sub (lv' := [(0, vR b 3), (1, vI v1), (2, vI v2), (3, vI v3), (4, vI s0)]) [1, 2, 3, 4, 0] rfl ?_
          exact w_x_Reader_sum_L8_B72 C hr rc dn hrc0 hrc1 hrc2 hrc3 hrec hfol h
        · refine r_goto (pc := 69) (tgt := 135) C dX4_sum_69 (by decide) ?_
          refine r_sub (lv' := [(0, vR b 3), (1, vI v1)]) [1, 2] rfl ?_
          exact hfol _ _ _ (Option.some.inj h).symm
set_option maxHeartbeats 4000000 in
set_option maxRecDepth 20000 in
theorem w_x_Reader_sum_L8_B39 (C : xCX σ p s m args meth c cX4_sum 5 RX4 D E b) (hr : meth.sig.returnType = none) {M0 : Mem} (rc : Nat → Mem → Option Mem) (dn : Nat) (hrc0 : ∀ (M M0 : Mem), rc 0 M = some M0 → Ct l yX4_fact cX4_fact 2 none (12 + dn) (400 + 40 * dn) vwCl xSh xN xRf (xExt σ) (fun b => [vR b 3]) M (fun b => none) M0) (hrc1 : ∀ (M M0 : Mem), rc 1 M = some M0 → Ct l yX4_part cX4_part 2 none (12 + dn) (400 + 40 * dn) vwCl xSh xN xRf (xExt σ) (fun b => [vR b 3]) M (fun b => none) M0) (hrc2 : ∀ (M M0 : Mem), rc 2 M = some M0 → Ct l yX4_sum cX4_sum 5 none (12 + dn) (400 + 40 * dn) vwCl xSh xN xRf (xExt σ) (fun b => [vR b 3]) M (fun b => none) M0) (hrc3 : ∀ (M M0 : Mem), rc 3 M = some M0 → Ct l yX4_test cX4_test 4 none (12 + dn) (400 + 40 * dn) vwCl xSh xN xRf (xExt σ) (fun b => [vR b 3]) M (fun b => none) M0) {M : Mem} {v1 : Int} {v2 : Int} {v3 : Int} {q : Int × Int × Mem} {rec : Int → Int → Mem → Option (Int × Int × Mem)} (hrec : ∀ (v1 : Int) (v2 : Int) (M : Mem), rec v1 v2 M = some q → xWX p l e (12 + (dn + 1)) (400 + 40 * (dn + 1)) s m args below meth c 5 D E b none M0 M 8 [(0, vR b 3), (1, vI v1), (2, vI v2)] []) (hfol : ∀ (v1 : Int) (v2 : Int) (M : Mem), q = (v1, v2, M) → xWX p l e (12 + (dn + 1)) (400 + 40 * (dn + 1)) s m args below meth c 5 D E b none M0 M 135 [(0, vR b 3), (1, vI v1)] []) (h : x_Reader_sum_L8_B39 rc rec v1 v2 v3 M = some q) :
    xWX p l e (12 + (dn + 1)) (400 + 40 * (dn + 1)) s m args below meth c 5 D E b none M0 M 39 [(0, vR b 3), (1, vI v1), (2, vI v2), (3, vI v3)] [] := by
  unfold x_Reader_sum_L8_B39 at h
  refine r_iconst (pc := 39) C dX4_sum_39 ?_
  refine r_goto (pc := 40) (tgt := 44) C dX4_sum_40 (by decide) ?_
  refine r_sub (lv' := [(0, vR b 3), (1, vI v1), (2, vI v2), (3, vI v3)]) [0, 1, 2, 3] rfl ?_
  exact w_x_Reader_sum_L8_B44 C hr rc dn hrc0 hrc1 hrc2 hrc3 hrec hfol h
set_option maxHeartbeats 4000000 in
set_option maxRecDepth 20000 in
theorem w_x_Reader_sum_L8_s (C : xCX σ p s m args meth c cX4_sum 5 RX4 D E b) (hr : meth.sig.returnType = none) {M0 : Mem} (rc : Nat → Mem → Option Mem) (dn : Nat) (hrc0 : ∀ (M M0 : Mem), rc 0 M = some M0 → Ct l yX4_fact cX4_fact 2 none (12 + dn) (400 + 40 * dn) vwCl xSh xN xRf (xExt σ) (fun b => [vR b 3]) M (fun b => none) M0) (hrc1 : ∀ (M M0 : Mem), rc 1 M = some M0 → Ct l yX4_part cX4_part 2 none (12 + dn) (400 + 40 * dn) vwCl xSh xN xRf (xExt σ) (fun b => [vR b 3]) M (fun b => none) M0) (hrc2 : ∀ (M M0 : Mem), rc 2 M = some M0 → Ct l yX4_sum cX4_sum 5 none (12 + dn) (400 + 40 * dn) vwCl xSh xN xRf (xExt σ) (fun b => [vR b 3]) M (fun b => none) M0) (hrc3 : ∀ (M M0 : Mem), rc 3 M = some M0 → Ct l yX4_test cX4_test 4 none (12 + dn) (400 + 40 * dn) vwCl xSh xN xRf (xExt σ) (fun b => [vR b 3]) M (fun b => none) M0) {v1 : Int} {v2 : Int} {M : Mem} {q : Int × Int × Mem} {rec : Int → Int → Mem → Option (Int × Int × Mem)} (hrec : ∀ (v1 : Int) (v2 : Int) (M : Mem), rec v1 v2 M = some q → xWX p l e (12 + (dn + 1)) (400 + 40 * (dn + 1)) s m args below meth c 5 D E b none M0 M 8 [(0, vR b 3), (1, vI v1), (2, vI v2)] []) (hfol : ∀ (v1 : Int) (v2 : Int) (M : Mem), q = (v1, v2, M) → xWX p l e (12 + (dn + 1)) (400 + 40 * (dn + 1)) s m args below meth c 5 D E b none M0 M 135 [(0, vR b 3), (1, vI v1)] []) (h : x_Reader_sum_L8 rc rec v1 v2 M = some q) :
    xWX p l e (12 + (dn + 1)) (400 + 40 * (dn + 1)) s m args below meth c 5 D E b none M0 M 8 [(0, vR b 3), (1, vI v1), (2, vI v2)] [] := by
  unfold x_Reader_sum_L8 at h
  refine r_iload_n (pc := 8) C 2 rfl rfl dX4_sum_8 ?_
  refine r_sipush (pc := 9) (j := 1600) C (by decide +kernel) dX4_sum_9 ?_
  refine r_icmp_ge (pc := 12) (tgt := 135) C h dX4_sum_12 (by decide) (fun hc12 h => ?_) (fun hc12 h => ?_)
  · refine r_sub (lv' := [(0, vR b 3), (1, vI v1)]) [0, 1] rfl ?_
    exact hfol _ _ _ (Option.some.inj h).symm
  · refine r_aload_n (pc := 15) C 0 rfl rfl dX4_sum_15 ?_
    refine r_getI (pc := 16) C fl_RX4_36 x_s3 (by decide) x_kReader_1 dX4_sum_16 ?_
    refine r_if_ne (pc := 19) (tgt := 135) C h dX4_sum_19 (by decide) (fun hc19 h => ?_) (fun hc19 h => ?_)
    · refine r_sub (lv' := [(0, vR b 3), (1, vI v1)]) [0, 1] rfl ?_
      exact hfol _ _ _ (Option.some.inj h).symm
    · refine r_aload_n (pc := 22) C 0 rfl rfl dX4_sum_22 ?_
      obtain ⟨r2, hq2, h⟩ := bnd_inv h
      refine r_callV (pc := 23) (rest := []) (st1 := [vI r2]) C (xExtOK σ b) [] (c_x_Reader_kind l hq2) cl_RX4_54 x_s3 (by decide) rfl rfl rfl rfl ⟨by simp only [mkR]; omega, by simp only [mkR]; omega⟩ (Nat.le_of_ble_eq_true rfl) rfl rfl dX4_sum_23 ?_
      refine r_istore_n (pc := 26) (lv' := [(3, vI r2), (0, vR b 3), (1, vI v1), (2, vI v2)]) C rfl dX4_sum_26 (by decide) rfl ?_
      refine r_iload_n (pc := 27) C 0 rfl rfl dX4_sum_27 ?_
      refine r_bipush (pc := 28) (j := 43) C (by decide +kernel) dX4_sum_28 ?_
      refine r_icmp_eq (pc := 30) (tgt := 39) C h dX4_sum_30 (by decide) (fun hc30 h => ?_) (fun hc30 h => ?_)
      · refine r_sub (lv' := [(0, vR b 3), (1, vI v1), (2, vI v2), (3, vI r2)]) [1, 2, 3, 0] rfl ?_
        exact w_x_Reader_sum_L8_B39 C hr rc dn hrc0 hrc1 hrc2 hrc3 hrec hfol h
      · refine r_iload_n (pc := 33) C 0 rfl rfl dX4_sum_33 ?_
        refine r_bipush (pc := 34) (j := 45) C (by decide +kernel) dX4_sum_34 ?_
        refine r_icmp_ne (pc := 36) (tgt := 43) C h dX4_sum_36 (by decide) (fun hc36 h => ?_) (fun hc36 h => ?_)
        · refine r_iconst (pc := 43) C dX4_sum_43 ?_
          refine r_sub (lv' := [(0, vR b 3), (1, vI v1), (2, vI v2), (3, vI r2)]) [1, 2, 3, 0] rfl ?_
          exact w_x_Reader_sum_L8_B44 C hr rc dn hrc0 hrc1 hrc2 hrc3 hrec hfol h
        · refine r_sub (lv' := [(0, vR b 3), (1, vI v1), (2, vI v2), (3, vI r2)]) [1, 2, 3, 0] rfl ?_
          exact w_x_Reader_sum_L8_B39 C hr rc dn hrc0 hrc1 hrc2 hrc3 hrec hfol h
set_option maxHeartbeats 4000000 in
theorem w_x_Reader_sum_L8 (C : xCX σ p s m args meth c cX4_sum 5 RX4 D E b) (hr : meth.sig.returnType = none) {M0 : Mem} (rc : Nat → Mem → Option Mem) (dn : Nat) (hrc0 : ∀ (M M0 : Mem), rc 0 M = some M0 → Ct l yX4_fact cX4_fact 2 none (12 + dn) (400 + 40 * dn) vwCl xSh xN xRf (xExt σ) (fun b => [vR b 3]) M (fun b => none) M0) (hrc1 : ∀ (M M0 : Mem), rc 1 M = some M0 → Ct l yX4_part cX4_part 2 none (12 + dn) (400 + 40 * dn) vwCl xSh xN xRf (xExt σ) (fun b => [vR b 3]) M (fun b => none) M0) (hrc2 : ∀ (M M0 : Mem), rc 2 M = some M0 → Ct l yX4_sum cX4_sum 5 none (12 + dn) (400 + 40 * dn) vwCl xSh xN xRf (xExt σ) (fun b => [vR b 3]) M (fun b => none) M0) (hrc3 : ∀ (M M0 : Mem), rc 3 M = some M0 → Ct l yX4_test cX4_test 4 none (12 + dn) (400 + 40 * dn) vwCl xSh xN xRf (xExt σ) (fun b => [vR b 3]) M (fun b => none) M0) {q : Int × Int × Mem} (hfol : ∀ (v1 : Int) (v2 : Int) (M : Mem), q = (v1, v2, M) → xWX p l e (12 + (dn + 1)) (400 + 40 * (dn + 1)) s m args below meth c 5 D E b none M0 M 135 [(0, vR b 3), (1, vI v1)] []) : ∀ (n : Nat) (v1 : Int) (v2 : Int) (M : Mem), itr3 (x_Reader_sum_L8 rc) n v1 v2 M = some q →
    xWX p l e (12 + (dn + 1)) (400 + 40 * (dn + 1)) s m args below meth c 5 D E b none M0 M 8 [(0, vR b 3), (1, vI v1), (2, vI v2)] [] := by
  intro n
  induction n with
  | zero => exact fun _ _ _ h => itr_z h
  | succ n ih => exact fun _ _ _ h => w_x_Reader_sum_L8_s C hr rc dn hrc0 hrc1 hrc2 hrc3 ih hfol h
set_option maxHeartbeats 4000000 in
set_option maxRecDepth 20000 in
theorem c_x_Reader_sum (l : Launch) (rc : Nat → Mem → Option Mem) (dn : Nat) (hrc0 : ∀ (M M0 : Mem), rc 0 M = some M0 → Ct l yX4_fact cX4_fact 2 none (12 + dn) (400 + 40 * dn) vwCl xSh xN xRf (xExt σ) (fun b => [vR b 3]) M (fun b => none) M0) (hrc1 : ∀ (M M0 : Mem), rc 1 M = some M0 → Ct l yX4_part cX4_part 2 none (12 + dn) (400 + 40 * dn) vwCl xSh xN xRf (xExt σ) (fun b => [vR b 3]) M (fun b => none) M0) (hrc2 : ∀ (M M0 : Mem), rc 2 M = some M0 → Ct l yX4_sum cX4_sum 5 none (12 + dn) (400 + 40 * dn) vwCl xSh xN xRf (xExt σ) (fun b => [vR b 3]) M (fun b => none) M0) (hrc3 : ∀ (M M0 : Mem), rc 3 M = some M0 → Ct l yX4_test cX4_test 4 none (12 + dn) (400 + 40 * dn) vwCl xSh xN xRf (xExt σ) (fun b => [vR b 3]) M (fun b => none) M0) {M : Mem} {M0 : Mem} (h : x_Reader_sum rc M = some M0) : Ct l yX4_sum cX4_sum 5 none (12 + (dn + 1)) (400 + 40 * (dn + 1)) vwCl xSh xN xRf (xExt σ) (fun b => [vR b 3]) M (fun b => none) M0 := by
  refine Ct_of (xExtOK σ) (by decide) (fun b => Nat.le_of_ble_eq_true rfl) ?_
  intro p e s m args below meth c D E b C hr
  unfold x_Reader_sum at h
  refine (show xWX p l e (12 + (dn + 1)) (400 + 40 * (dn + 1)) s m args below meth c 5 D E b none M0 M 0 [(0, vR b 3)] [] from ?_)
  refine r_iconst (pc := 0) C dX4_sum_0 ?_
  refine r_istore_n (pc := 1) (lv' := [(1, vI 0), (0, vR b 3)]) C rfl dX4_sum_1 (by decide) rfl ?_
  refine r_aload_n (pc := 2) C 1 rfl rfl dX4_sum_2 ?_
  obtain ⟨M1, hq1, h⟩ := bnd_inv h
  refine r_callV (pc := 3) (rest := []) (st1 := []) C (xExtOK σ b) [] (hrc1 _ _ hq1) cl_RX4_166 x_s3 (by decide) rfl rfl rfl rfl ⟨by simp only [mkR]; omega, by simp only [mkR]; omega⟩ (Nat.le_of_ble_eq_true rfl) rfl rfl dX4_sum_3 ?_
  refine r_iconst (pc := 6) C dX4_sum_6 ?_
  refine r_istore_n (pc := 7) (lv' := [(2, vI 0), (1, vI 0), (0, vR b 3)]) C rfl dX4_sum_7 (by decide) rfl ?_
  refine r_sub (lv' := [(0, vR b 3), (1, vI 0), (2, vI 0)]) [2, 1, 0] rfl ?_
  obtain ⟨q6, hl6, h⟩ := bnd_inv h
  refine w_x_Reader_sum_L8 C hr rc dn hrc0 hrc1 hrc2 hrc3 (fun v1_6 v2_6 M_6 hq => ?_) FUEL _ _ _ hl6
  have hq := hq.symm
  subst hq
  refine r_iload_n (pc := 135) C 1 rfl rfl dX4_sum_135 ?_
  refine r_if_eq (pc := 136) (tgt := 150) C h dX4_sum_136 (by decide) (fun hc136 h => ?_) (fun hc136 h => ?_)
  · have e := Option.some.inj h
    exact r_vret (pc := 150) C hr rfl e.symm dX4_sum_150
  · refine r_aload_n (pc := 139) C 0 rfl rfl dX4_sum_139 ?_
    refine r_getR (pc := 140) C fl_RX4_12 x_s3 (by decide) x_kReader_0 x_r3_0 dX4_sum_140 ?_
    refine r_getR (pc := 143) C fl_RX4_129 x_s4 (by decide) x_kTown_12 x_r4_12 dX4_sum_143 ?_
    refine r_iload_n (pc := 146) C 1 rfl rfl dX4_sum_146 ?_
    obtain ⟨M7, hq7, h⟩ := bnd_inv h
    refine r_callV (pc := 147) (rest := []) (st1 := []) C (xExtOK σ b) [vI v1_6] (c_x_Rules_addSign l 13 x_m13 hq7) cl_RX4_156 x_s13 (by decide) rfl rfl rfl rfl ⟨by simp only [mkR]; omega, by simp only [mkR]; omega⟩ (Nat.le_of_ble_eq_true rfl) rfl rfl dX4_sum_147 ?_
    have e := Option.some.inj h
    exact r_vret (pc := 150) C hr rfl e.symm dX4_sum_150
theorem c_x_rec (l : Launch) : ∀ n : Nat, (∀ (M M0 : Mem), x_rec n 0 M = some M0 → Ct l yX4_fact cX4_fact 2 none (12 + n) (400 + 40 * n) vwCl xSh xN xRf (xExt σ) (fun b => [vR b 3]) M (fun b => none) M0) ∧ (∀ (M M0 : Mem), x_rec n 1 M = some M0 → Ct l yX4_part cX4_part 2 none (12 + n) (400 + 40 * n) vwCl xSh xN xRf (xExt σ) (fun b => [vR b 3]) M (fun b => none) M0) ∧ (∀ (M M0 : Mem), x_rec n 2 M = some M0 → Ct l yX4_sum cX4_sum 5 none (12 + n) (400 + 40 * n) vwCl xSh xN xRf (xExt σ) (fun b => [vR b 3]) M (fun b => none) M0) ∧ (∀ (M M0 : Mem), x_rec n 3 M = some M0 → Ct l yX4_test cX4_test 4 none (12 + n) (400 + 40 * n) vwCl xSh xN xRf (xExt σ) (fun b => [vR b 3]) M (fun b => none) M0) := by
  intro n
  induction n with
  | zero => exact ⟨fun _ _ h => itr_z h, fun _ _ h => itr_z h, fun _ _ h => itr_z h, fun _ _ h => itr_z h⟩
  | succ n ih =>
    obtain ⟨i0, i1, i2, i3⟩ := ih
    exact ⟨fun M M0 h => c_x_Reader_fact l (x_rec n) n i0 i1 i2 i3 h, fun M M0 h => c_x_Reader_part l (x_rec n) n i0 i1 i2 i3 h, fun M M0 h => c_x_Reader_sum l (x_rec n) n i0 i1 i2 i3 h, fun M M0 h => c_x_Reader_test l (x_rec n) n i0 i1 i2 i3 h⟩
theorem c_x_Reader_fact_R (l : Launch) {M M0 : Mem} (h : x_rec 64 0 M = some M0) : Ct l yX4_fact cX4_fact 2 none 76 2960 vwCl xSh xN xRf (xExt σ) (fun b => [vR b 3]) M (fun b => none) M0 := (c_x_rec l 64).1 M M0 h
theorem c_x_Reader_part_R (l : Launch) {M M0 : Mem} (h : x_rec 64 1 M = some M0) : Ct l yX4_part cX4_part 2 none 76 2960 vwCl xSh xN xRf (xExt σ) (fun b => [vR b 3]) M (fun b => none) M0 := (c_x_rec l 64).2.1 M M0 h
theorem c_x_Reader_sum_R (l : Launch) {M M0 : Mem} (h : x_rec 64 2 M = some M0) : Ct l yX4_sum cX4_sum 5 none 76 2960 vwCl xSh xN xRf (xExt σ) (fun b => [vR b 3]) M (fun b => none) M0 := (c_x_rec l 64).2.2.1 M M0 h
theorem c_x_Reader_test_R (l : Launch) {M M0 : Mem} (h : x_rec 64 3 M = some M0) : Ct l yX4_test cX4_test 4 none 76 2960 vwCl xSh xN xRf (xExt σ) (fun b => [vR b 3]) M (fun b => none) M0 := (c_x_rec l 64).2.2.2 M M0 h
set_option maxHeartbeats 4000000 in
set_option maxRecDepth 20000 in
theorem w_x_Reader_readRule_B69 (C : xCX σ p s m args meth c cX4_readRule 2 RX4 D E b) (hr : meth.sig.returnType = none) {M0 : Mem} {M : Mem} {v1 : Int} (h : x_Reader_readRule_B69 v1 M = some M0) :
    xWX p l e 77 2984 s m args below meth c 2 D E b none M0 M 69 [(0, vR b 3), (1, vI v1)] [] := by
  unfold x_Reader_readRule_B69 at h
  refine r_aload_n (pc := 69) C 0 rfl rfl dX4_readRule_69 ?_
  refine r_getR (pc := 70) C fl_RX4_12 x_s3 (by decide) x_kReader_0 x_r3_0 dX4_readRule_70 ?_
  refine r_getR (pc := 73) C fl_RX4_129 x_s4 (by decide) x_kTown_12 x_r4_12 dX4_readRule_73 ?_
  refine r_iload_n (pc := 76) C 1 rfl rfl dX4_readRule_76 ?_
  obtain ⟨M4, hq4, h⟩ := bnd_inv h
  refine r_callV (pc := 77) (rest := []) (st1 := []) C (xExtOK σ b) [vI v1] (c_x_Rules_stop l 13 x_m13 hq4) cl_RX4_150 x_s13 (by decide) rfl rfl rfl rfl ⟨Nat.le_of_ble_eq_true rfl, Nat.le_of_ble_eq_true rfl⟩ (Nat.le_of_ble_eq_true rfl) rfl rfl dX4_readRule_77 ?_
  have e := Option.some.inj h
  exact r_vret (pc := 80) C hr rfl e.symm dX4_readRule_80
set_option maxHeartbeats 4000000 in
set_option maxRecDepth 20000 in
theorem w_x_Reader_readRule_B20 (C : xCX σ p s m args meth c cX4_readRule 2 RX4 D E b) (hr : meth.sig.returnType = none) {M0 : Mem} {M : Mem} {v1 : Int} (h : x_Reader_readRule_B20 v1 M = some M0) :
    xWX p l e 77 2984 s m args below meth c 2 D E b none M0 M 20 [(0, vR b 3), (1, vI v1)] [] := by
  unfold x_Reader_readRule_B20 at h
  refine r_aload_n (pc := 20) C 0 rfl rfl dX4_readRule_20 ?_
  refine r_getI (pc := 21) C fl_RX4_36 x_s3 (by decide) x_kReader_1 dX4_readRule_21 ?_
  refine r_if_eq (pc := 24) (tgt := 28) C h dX4_readRule_24 (by decide) (fun hc24 h => ?_) (fun hc24 h => ?_)
  · refine r_aload_n (pc := 28) C 0 rfl rfl dX4_readRule_28 ?_
    refine r_dup (pc := 29) C rfl dX4_readRule_29 ?_
    refine r_getI (pc := 30) C fl_RX4_39 x_s3 (by decide) x_kReader_4 dX4_readRule_30 ?_
    refine r_iconst (pc := 33) C dX4_readRule_33 ?_
    refine r_iadd (pc := 34) C dX4_readRule_34 ?_
    obtain ⟨M_35, hM_35, h⟩ := lt_inv h
    refine r_putI (pc := 35) C fl_RX4_39 x_ft4 x_w4_4 x_s3 (by decide) x_kReader_4 hM_35 dX4_readRule_35 ?_
    refine r_aload_n (pc := 38) C 0 rfl rfl dX4_readRule_38 ?_
    refine r_iload_n (pc := 39) C 1 rfl rfl dX4_readRule_39 ?_
    obtain ⟨M_40, hM_40, h⟩ := lt_inv h
    refine r_putI (pc := 40) C fl_RX4_138 x_ft4 x_w4_6 x_s3 (by decide) x_kReader_6 hM_40 dX4_readRule_40 ?_
    refine r_aload_n (pc := 43) C 0 rfl rfl dX4_readRule_43 ?_
    refine r_getR (pc := 44) C fl_RX4_12 x_s3 (by decide) x_kReader_0 x_r3_0 dX4_readRule_44 ?_
    refine r_getR (pc := 47) C fl_RX4_129 x_s4 (by decide) x_kTown_12 x_r4_12 dX4_readRule_47 ?_
    refine r_iload_n (pc := 50) C 1 rfl rfl dX4_readRule_50 ?_
    obtain ⟨M2, hq2, h⟩ := bnd_inv h
    refine r_callV (pc := 51) (rest := []) (st1 := []) C (xExtOK σ b) [vI v1] (c_x_Rules_start l 13 x_m13 hq2) cl_RX4_141 x_s13 (by decide) rfl rfl rfl rfl ⟨Nat.le_of_ble_eq_true rfl, Nat.le_of_ble_eq_true rfl⟩ (Nat.le_of_ble_eq_true rfl) rfl rfl dX4_readRule_51 ?_
    refine r_iload_n (pc := 54) C 1 rfl rfl dX4_readRule_54 ?_
    refine r_if_ne (pc := 55) (tgt := 65) C h dX4_readRule_55 (by decide) (fun hc55 h => ?_) (fun hc55 h => ?_)
    · refine r_aload_n (pc := 65) C 0 rfl rfl dX4_readRule_65 ?_
      obtain ⟨M3, hq3, h⟩ := bnd_inv h
      refine r_callV (pc := 66) (rest := []) (st1 := []) C (xExtOK σ b) [] (c_x_Reader_test_R l hq3) cl_RX4_147 x_s3 (by decide) rfl rfl rfl rfl ⟨Nat.le_of_ble_eq_true rfl, Nat.le_of_ble_eq_true rfl⟩ (Nat.le_of_ble_eq_true rfl) rfl rfl dX4_readRule_66 ?_
      refine r_sub (lv' := [(0, vR b 3), (1, vI v1)]) [0, 1] rfl ?_
      exact w_x_Reader_readRule_B69 C hr h
    · refine r_aload_n (pc := 58) C 0 rfl rfl dX4_readRule_58 ?_
      obtain ⟨M5, hq5, h⟩ := bnd_inv h
      refine r_callV (pc := 59) (rest := []) (st1 := []) C (xExtOK σ b) [] (c_x_Reader_sum_R l hq5) cl_RX4_144 x_s3 (by decide) rfl rfl rfl rfl ⟨Nat.le_of_ble_eq_true rfl, Nat.le_of_ble_eq_true rfl⟩ (Nat.le_of_ble_eq_true rfl) rfl rfl dX4_readRule_59 ?_
      refine r_goto (pc := 62) (tgt := 69) C dX4_readRule_62 (by decide) ?_
      refine r_sub (lv' := [(0, vR b 3), (1, vI v1)]) [0, 1] rfl ?_
      exact w_x_Reader_readRule_B69 C hr h
  · have e := Option.some.inj h
    exact r_vret (pc := 27) C hr rfl e.symm dX4_readRule_27
set_option maxHeartbeats 4000000 in
set_option maxRecDepth 20000 in
theorem c_x_Reader_readRule (l : Launch) {x1 : Int} {M : Mem} {M0 : Mem} (h : x_Reader_readRule x1 M = some M0) : Ct l yX4_readRule cX4_readRule 2 none 77 2984 vwCl xSh xN xRf (xExt σ) (fun b => [vR b 3, vI x1]) M (fun b => none) M0 := by
  refine Ct_of (xExtOK σ) (by decide) (fun b => Nat.le_of_ble_eq_true rfl) ?_
  intro p e s m args below meth c D E b C hr
  unfold x_Reader_readRule at h
  refine (show xWX p l e 77 2984 s m args below meth c 2 D E b none M0 M 0 [(0, vR b 3), (1, vI x1)] [] from ?_)
  refine r_aload_n (pc := 0) C 0 rfl rfl dX4_readRule_0 ?_
  refine r_getR (pc := 1) C fl_RX4_12 x_s3 (by decide) x_kReader_0 x_r3_0 dX4_readRule_1 ?_
  refine r_getR (pc := 4) C fl_RX4_129 x_s4 (by decide) x_kTown_12 x_r4_12 dX4_readRule_4 ?_
  refine r_iload_n (pc := 7) C 1 rfl rfl dX4_readRule_7 ?_
  obtain ⟨r1, hq1, h⟩ := bnd_inv h
  refine r_callV (pc := 8) (rest := []) (st1 := [vB r1]) C (xExtOK σ b) [vI x1] (c_x_Rules_isTold l 13 x_m13 hq1) cl_RX4_133 x_s13 (by decide) rfl rfl rfl rfl ⟨Nat.le_of_ble_eq_true rfl, Nat.le_of_ble_eq_true rfl⟩ (Nat.le_of_ble_eq_true rfl) rfl rfl dX4_readRule_8 ?_
  refine r_if_eqB (pc := 11) (tgt := 20) C h dX4_readRule_11 (by decide) (fun hc11 h => ?_) (fun hc11 h => ?_)
  · refine r_aload_n (pc := 14) C 0 rfl rfl dX4_readRule_14 ?_
    refine r_bipush (pc := 15) (j := 6) C (by decide +kernel) dX4_readRule_15 ?_
    obtain ⟨M6, hq6, h⟩ := bnd_inv h
    refine r_callV (pc := 17) (rest := []) (st1 := []) C (xExtOK σ b) [vI 6] (c_x_Reader_refuse l hq6) cl_RX4_65 x_s3 (by decide) rfl rfl rfl rfl ⟨Nat.le_of_ble_eq_true rfl, Nat.le_of_ble_eq_true rfl⟩ (Nat.le_of_ble_eq_true rfl) rfl rfl dX4_readRule_17 ?_
    refine r_sub (lv' := [(0, vR b 3), (1, vI x1)]) [0, 1] rfl ?_
    exact w_x_Reader_readRule_B20 C hr h
  · refine r_sub (lv' := [(0, vR b 3), (1, vI x1)]) [0, 1] rfl ?_
    exact w_x_Reader_readRule_B20 C hr h
set_option maxHeartbeats 4000000 in
set_option maxRecDepth 20000 in
theorem c_x_Reader_readStatement (l : Launch) {x1 : Int} {M : Mem} {M0 : Mem} (h : x_Reader_readStatement x1 M = some M0) : Ct l yX4_readStatement cX4_readStatement 2 none 78 3005 vwCl xSh xN xRf (xExt σ) (fun b => [vR b 3, vI x1]) M (fun b => none) M0 := by
  refine Ct_of (xExtOK σ) (by decide) (fun b => Nat.le_of_ble_eq_true rfl) ?_
  intro p e s m args below meth c D E b C hr
  unfold x_Reader_readStatement at h
  refine (show xWX p l e 78 3005 s m args below meth c 2 D E b none M0 M 0 [(0, vR b 3), (1, vI x1)] [] from ?_)
  refine r_iload_n (pc := 0) C 1 rfl rfl dX4_readStatement_0 ?_
  refine ite_split h (fun hc1_0 h => ?_) (fun hn1_0 h => ?_)
  · refine r_tabI (pc := 1) (tgt := 44) C hc1_0 (by decide) (by decide) rfl dX4_readStatement_1 (by decide) ?_
    refine r_aload_n (pc := 44) C 0 rfl rfl dX4_readStatement_44 ?_
    obtain ⟨M1, hq1, h⟩ := bnd_inv h
    refine r_callV (pc := 45) (rest := []) (st1 := []) C (xExtOK σ b) [] (c_x_Reader_readVoice l hq1) cl_RX4_71 x_s3 (by decide) rfl rfl rfl rfl ⟨Nat.le_of_ble_eq_true rfl, Nat.le_of_ble_eq_true rfl⟩ (Nat.le_of_ble_eq_true rfl) rfl rfl dX4_readStatement_45 ?_
    refine r_goto (pc := 48) (tgt := 117) C dX4_readStatement_48 (by decide) ?_
    have e := Option.some.inj h
    exact r_vret (pc := 117) C hr rfl e.symm dX4_readStatement_117
  refine ite_split h (fun hc1_1 h => ?_) (fun hn1_1 h => ?_)
  · refine r_tabI (pc := 1) (tgt := 51) C hc1_1 (by decide) (by decide) rfl dX4_readStatement_1 (by decide) ?_
    refine r_aload_n (pc := 51) C 0 rfl rfl dX4_readStatement_51 ?_
    obtain ⟨M2, hq2, h⟩ := bnd_inv h
    refine r_callV (pc := 52) (rest := []) (st1 := []) C (xExtOK σ b) [] (c_x_Reader_readPerson l hq2) cl_RX4_74 x_s3 (by decide) rfl rfl rfl rfl ⟨Nat.le_of_ble_eq_true rfl, Nat.le_of_ble_eq_true rfl⟩ (Nat.le_of_ble_eq_true rfl) rfl rfl dX4_readStatement_52 ?_
    refine r_goto (pc := 55) (tgt := 117) C dX4_readStatement_55 (by decide) ?_
    have e := Option.some.inj h
    exact r_vret (pc := 117) C hr rfl e.symm dX4_readStatement_117
  refine ite_split h (fun hc1_2 h => ?_) (fun hn1_2 h => ?_)
  · refine r_tabI (pc := 1) (tgt := 58) C hc1_2 (by decide) (by decide) rfl dX4_readStatement_1 (by decide) ?_
    refine r_aload_n (pc := 58) C 0 rfl rfl dX4_readStatement_58 ?_
    obtain ⟨M3, hq3, h⟩ := bnd_inv h
    refine r_callV (pc := 59) (rest := []) (st1 := []) C (xExtOK σ b) [] (c_x_Reader_readWants l hq3) cl_RX4_77 x_s3 (by decide) rfl rfl rfl rfl ⟨Nat.le_of_ble_eq_true rfl, Nat.le_of_ble_eq_true rfl⟩ (Nat.le_of_ble_eq_true rfl) rfl rfl dX4_readStatement_59 ?_
    refine r_goto (pc := 62) (tgt := 117) C dX4_readStatement_62 (by decide) ?_
    have e := Option.some.inj h
    exact r_vret (pc := 117) C hr rfl e.symm dX4_readStatement_117
  refine ite_split h (fun hc1_3 h => ?_) (fun hn1_3 h => ?_)
  · refine r_tabI (pc := 1) (tgt := 65) C hc1_3 (by decide) (by decide) rfl dX4_readStatement_1 (by decide) ?_
    refine r_aload_n (pc := 65) C 0 rfl rfl dX4_readStatement_65 ?_
    refine r_iconst (pc := 66) C dX4_readStatement_66 ?_
    obtain ⟨M4, hq4, h⟩ := bnd_inv h
    refine r_callV (pc := 67) (rest := []) (st1 := []) C (xExtOK σ b) [vI 0] (c_x_Reader_readRule l hq4) cl_RX4_80 x_s3 (by decide) rfl rfl rfl rfl ⟨Nat.le_of_ble_eq_true rfl, Nat.le_of_ble_eq_true rfl⟩ (Nat.le_of_ble_eq_true rfl) rfl rfl dX4_readStatement_67 ?_
    refine r_goto (pc := 70) (tgt := 117) C dX4_readStatement_70 (by decide) ?_
    have e := Option.some.inj h
    exact r_vret (pc := 117) C hr rfl e.symm dX4_readStatement_117
  refine ite_split h (fun hc1_4 h => ?_) (fun hn1_4 h => ?_)
  · refine r_tabI (pc := 1) (tgt := 73) C hc1_4 (by decide) (by decide) rfl dX4_readStatement_1 (by decide) ?_
    refine r_aload_n (pc := 73) C 0 rfl rfl dX4_readStatement_73 ?_
    refine r_iconst (pc := 74) C dX4_readStatement_74 ?_
    obtain ⟨M5, hq5, h⟩ := bnd_inv h
    refine r_callV (pc := 75) (rest := []) (st1 := []) C (xExtOK σ b) [vI 1] (c_x_Reader_readRule l hq5) cl_RX4_80 x_s3 (by decide) rfl rfl rfl rfl ⟨Nat.le_of_ble_eq_true rfl, Nat.le_of_ble_eq_true rfl⟩ (Nat.le_of_ble_eq_true rfl) rfl rfl dX4_readStatement_75 ?_
    refine r_goto (pc := 78) (tgt := 117) C dX4_readStatement_78 (by decide) ?_
    have e := Option.some.inj h
    exact r_vret (pc := 117) C hr rfl e.symm dX4_readStatement_117
  refine ite_split h (fun hc1_5 h => ?_) (fun hn1_5 h => ?_)
  · refine r_tabI (pc := 1) (tgt := 81) C hc1_5 (by decide) (by decide) rfl dX4_readStatement_1 (by decide) ?_
    refine r_aload_n (pc := 81) C 0 rfl rfl dX4_readStatement_81 ?_
    refine r_iconst (pc := 82) C dX4_readStatement_82 ?_
    obtain ⟨M6, hq6, h⟩ := bnd_inv h
    refine r_callV (pc := 83) (rest := []) (st1 := []) C (xExtOK σ b) [vI 2] (c_x_Reader_readRule l hq6) cl_RX4_80 x_s3 (by decide) rfl rfl rfl rfl ⟨Nat.le_of_ble_eq_true rfl, Nat.le_of_ble_eq_true rfl⟩ (Nat.le_of_ble_eq_true rfl) rfl rfl dX4_readStatement_83 ?_
    refine r_goto (pc := 86) (tgt := 117) C dX4_readStatement_86 (by decide) ?_
    have e := Option.some.inj h
    exact r_vret (pc := 117) C hr rfl e.symm dX4_readStatement_117
  refine ite_split h (fun hc1_6 h => ?_) (fun hn1_6 h => ?_)
  · refine r_tabI (pc := 1) (tgt := 89) C hc1_6 (by decide) (by decide) rfl dX4_readStatement_1 (by decide) ?_
    refine r_aload_n (pc := 89) C 0 rfl rfl dX4_readStatement_89 ?_
    refine r_bipush (pc := 90) (j := 6) C (by decide +kernel) dX4_readStatement_90 ?_
    obtain ⟨M7, hq7, h⟩ := bnd_inv h
    refine r_callV (pc := 92) (rest := []) (st1 := []) C (xExtOK σ b) [vI 6] (c_x_Reader_require l hq7) cl_RX4_62 x_s3 (by decide) rfl rfl rfl rfl ⟨Nat.le_of_ble_eq_true rfl, Nat.le_of_ble_eq_true rfl⟩ (Nat.le_of_ble_eq_true rfl) rfl rfl dX4_readStatement_92 ?_
    refine r_aload_n (pc := 95) C 0 rfl rfl dX4_readStatement_95 ?_
    refine r_getR (pc := 96) C fl_RX4_12 x_s3 (by decide) x_kReader_0 x_r3_0 dX4_readStatement_96 ?_
    refine r_aload_n (pc := 99) C 0 rfl rfl dX4_readStatement_99 ?_
    refine r_iconst (pc := 100) C dX4_readStatement_100 ?_
    refine r_bipush (pc := 101) (j := 100) C (by decide +kernel) dX4_readStatement_101 ?_
    obtain ⟨r8, M8, hq8, h⟩ := bnd2_inv h
    refine r_callV (pc := 103) (rest := [vR b 4]) (st1 := [vI r8, vR b 4]) C (xExtOK σ b) [vI 0, vI 100] (c_x_Reader_number l hq8) cl_RX4_83 x_s3 (by decide) rfl rfl rfl rfl ⟨Nat.le_of_ble_eq_true rfl, Nat.le_of_ble_eq_true rfl⟩ (Nat.le_of_ble_eq_true rfl) rfl rfl dX4_readStatement_103 ?_
    obtain ⟨M_106, hM_106, h⟩ := lt_inv h
    refine r_putI (pc := 106) C fl_RX4_87 x_ft9 x_w9_3 x_s4 (by decide) x_kTown_3 hM_106 dX4_readStatement_106 ?_
    refine r_goto (pc := 109) (tgt := 117) C dX4_readStatement_109 (by decide) ?_
    have e := Option.some.inj h
    exact r_vret (pc := 117) C hr rfl e.symm dX4_readStatement_117
  refine r_tabO (pc := 1) (tgt := 112) C (by have hx := w32_rng x1; omega) dX4_readStatement_1 (by decide) ?_
  refine r_aload_n (pc := 112) C 0 rfl rfl dX4_readStatement_112 ?_
  refine r_iconst (pc := 113) C dX4_readStatement_113 ?_
  obtain ⟨M9, hq9, h⟩ := bnd_inv h
  refine r_callV (pc := 114) (rest := []) (st1 := []) C (xExtOK σ b) [vI 1] (c_x_Reader_refuse l hq9) cl_RX4_65 x_s3 (by decide) rfl rfl rfl rfl ⟨Nat.le_of_ble_eq_true rfl, Nat.le_of_ble_eq_true rfl⟩ (Nat.le_of_ble_eq_true rfl) rfl rfl dX4_readStatement_114 ?_
  have e := Option.some.inj h
  exact r_vret (pc := 117) C hr rfl e.symm dX4_readStatement_117
set_option maxHeartbeats 4000000 in
set_option maxRecDepth 20000 in
theorem w_x_Reader_read_L39_B72 (C : xCX σ p s m args meth c cX4_read 4 RX4 D E b) (hr : meth.sig.returnType = (some .int)) {r0 : Int} {M0 : Mem} {M : Mem} {v2 : Int} {v3 : Int} {q : Int × Int × Mem} {rec : Int → Int → Mem → Option (Int × Int × Mem)} (hrec : ∀ (v2 : Int) (v3 : Int) (M : Mem), rec v2 v3 M = some q → xWX p l e 79 3026 s m args below meth c 4 D E b (some (vI r0)) M0 M 39 [(0, vR b 3), (2, vI v2), (3, vI v3)] []) (hfol : ∀ (v2 : Int) (v3 : Int) (M : Mem), q = (v2, v3, M) → xWX p l e 79 3026 s m args below meth c 4 D E b (some (vI r0)) M0 M 95 [(0, vR b 3), (2, vI v2)] []) (h : x_Reader_read_L39_B72 rec v2 v3 M = some q) :
    xWX p l e 79 3026 s m args below meth c 4 D E b (some (vI r0)) M0 M 72 [(0, vR b 3), (2, vI v2), (3, vI v3)] [] := by
  unfold x_Reader_read_L39_B72 at h
  refine r_aload_n (pc := 72) C 0 rfl rfl dX4_read_72 ?_
  refine r_aload_n (pc := 73) C 0 rfl rfl dX4_read_73 ?_
  obtain ⟨r4, hq4, h⟩ := bnd_inv h
  refine r_callV (pc := 74) (rest := [vR b 3]) (st1 := [vI r4, vR b 3]) C (xExtOK σ b) [] (c_x_Reader_kind l hq4) cl_RX4_54 x_s3 (by decide) rfl rfl rfl rfl ⟨Nat.le_of_ble_eq_true rfl, Nat.le_of_ble_eq_true rfl⟩ (Nat.le_of_ble_eq_true rfl) rfl rfl dX4_read_74 ?_
  obtain ⟨M5, hq5, h⟩ := bnd_inv h
  refine r_callV (pc := 77) (rest := []) (st1 := []) C (xExtOK σ b) [vI r4] (c_x_Reader_readStatement l hq5) cl_RX4_58 x_s3 (by decide) rfl rfl rfl rfl ⟨Nat.le_of_ble_eq_true rfl, Nat.le_of_ble_eq_true rfl⟩ (Nat.le_of_ble_eq_true rfl) rfl rfl dX4_read_77 ?_
  refine r_aload_n (pc := 80) C 0 rfl rfl dX4_read_80 ?_
  refine r_bipush (pc := 81) (j := 59) C (by decide +kernel) dX4_read_81 ?_
  obtain ⟨M6, hq6, h⟩ := bnd_inv h
  refine r_callV (pc := 83) (rest := []) (st1 := []) C (xExtOK σ b) [vI 59] (c_x_Reader_require l hq6) cl_RX4_62 x_s3 (by decide) rfl rfl rfl rfl ⟨Nat.le_of_ble_eq_true rfl, Nat.le_of_ble_eq_true rfl⟩ (Nat.le_of_ble_eq_true rfl) rfl rfl dX4_read_83 ?_
  obtain ⟨v2_86, hv2_86, h⟩ := lt_inv h
  refine r_iincN (pc := 86) (y := v2_86) (lv' := [(2, vI v2_86), (0, vR b 3), (3, vI v3)]) C 1 rfl hv2_86 dX4_read_86 (by decide) rfl ?_
  obtain ⟨v3_89, hv3_89, h⟩ := lt_inv h
  refine r_iincN (pc := 89) (y := v3_89) (lv' := [(3, vI v3_89), (2, vI v2_86), (0, vR b 3)]) C 2 rfl hv3_89 dX4_read_89 (by decide) rfl ?_
  refine r_goto (pc := 92) (tgt := 39) C dX4_read_92 (by decide) ?_
  refine r_sub (lv' := [(0, vR b 3), (2, vI v2_86), (3, vI v3_89)]) [2, 1, 0] rfl ?_
  exact hrec _ _ _ h
set_option maxHeartbeats 4000000 in
set_option maxRecDepth 20000 in
theorem w_x_Reader_read_L39_s (C : xCX σ p s m args meth c cX4_read 4 RX4 D E b) (hr : meth.sig.returnType = (some .int)) {r0 : Int} {M0 : Mem} {v2 : Int} {v3 : Int} {M : Mem} {q : Int × Int × Mem} {rec : Int → Int → Mem → Option (Int × Int × Mem)} (hrec : ∀ (v2 : Int) (v3 : Int) (M : Mem), rec v2 v3 M = some q → xWX p l e 79 3026 s m args below meth c 4 D E b (some (vI r0)) M0 M 39 [(0, vR b 3), (2, vI v2), (3, vI v3)] []) (hfol : ∀ (v2 : Int) (v3 : Int) (M : Mem), q = (v2, v3, M) → xWX p l e 79 3026 s m args below meth c 4 D E b (some (vI r0)) M0 M 95 [(0, vR b 3), (2, vI v2)] []) (h : x_Reader_read_L39 rec v2 v3 M = some q) :
    xWX p l e 79 3026 s m args below meth c 4 D E b (some (vI r0)) M0 M 39 [(0, vR b 3), (2, vI v2), (3, vI v3)] [] := by
  unfold x_Reader_read_L39 at h
  refine r_iload_n (pc := 39) C 2 rfl rfl dX4_read_39 ?_
  refine r_sipush (pc := 40) (j := 1600) C (by decide +kernel) dX4_read_40 ?_
  refine r_icmp_ge (pc := 43) (tgt := 95) C h dX4_read_43 (by decide) (fun hc43 h => ?_) (fun hc43 h => ?_)
  · refine r_sub (lv' := [(0, vR b 3), (2, vI v2)]) [0, 1] rfl ?_
    exact hfol _ _ _ (Option.some.inj h).symm
  · refine r_aload_n (pc := 46) C 0 rfl rfl dX4_read_46 ?_
    refine r_getI (pc := 47) C fl_RX4_36 x_s3 (by decide) x_kReader_1 dX4_read_47 ?_
    refine r_if_ne (pc := 50) (tgt := 95) C h dX4_read_50 (by decide) (fun hc50 h => ?_) (fun hc50 h => ?_)
    · refine r_sub (lv' := [(0, vR b 3), (2, vI v2)]) [0, 1] rfl ?_
      exact hfol _ _ _ (Option.some.inj h).symm
    · refine r_aload_n (pc := 53) C 0 rfl rfl dX4_read_53 ?_
      refine r_bipush (pc := 54) (j := 25) C (by decide +kernel) dX4_read_54 ?_
      obtain ⟨r3, hq3, h⟩ := bnd_inv h
      refine r_callV (pc := 56) (rest := []) (st1 := [vB r3]) C (xExtOK σ b) [vI 25] (c_x_Reader_at l hq3) cl_RX4_47 x_s3 (by decide) rfl rfl rfl rfl ⟨Nat.le_of_ble_eq_true rfl, Nat.le_of_ble_eq_true rfl⟩ (Nat.le_of_ble_eq_true rfl) rfl rfl dX4_read_56 ?_
      refine r_if_neB (pc := 59) (tgt := 95) C h dX4_read_59 (by decide) (fun hc59 h => ?_) (fun hc59 h => ?_)
      · refine r_sub (lv' := [(0, vR b 3), (2, vI v2)]) [0, 1] rfl ?_
        exact hfol _ _ _ (Option.some.inj h).symm
      · refine r_iload_n (pc := 62) C 1 rfl rfl dX4_read_62 ?_
        refine r_bipush (pc := 63) (j := 80) C (by decide +kernel) dX4_read_63 ?_
        refine r_icmp_ne (pc := 65) (tgt := 72) C h dX4_read_65 (by decide) (fun hc65 h => ?_) (fun hc65 h => ?_)
        · refine r_sub (lv' := [(0, vR b 3), (2, vI v2), (3, vI v3)]) [0, 1, 2] rfl ?_
          exact w_x_Reader_read_L39_B72 C hr hrec hfol h
        · refine r_aload_n (pc := 68) C 0 rfl rfl dX4_read_68 ?_
          obtain ⟨M7, hq7, h⟩ := bnd_inv h
          refine r_callV (pc := 69) (rest := []) (st1 := []) C (xExtOK σ b) [] (c_x_Reader_refuseOneMore l hq7) cl_RX4_51 x_s3 (by decide) rfl rfl rfl rfl ⟨Nat.le_of_ble_eq_true rfl, Nat.le_of_ble_eq_true rfl⟩ (Nat.le_of_ble_eq_true rfl) rfl rfl dX4_read_69 ?_
          refine r_sub (lv' := [(0, vR b 3), (2, vI v2), (3, vI v3)]) [0, 1, 2] rfl ?_
          exact w_x_Reader_read_L39_B72 C hr hrec hfol h
set_option maxHeartbeats 4000000 in
theorem w_x_Reader_read_L39 (C : xCX σ p s m args meth c cX4_read 4 RX4 D E b) (hr : meth.sig.returnType = (some .int)) {r0 : Int} {M0 : Mem} {q : Int × Int × Mem} (hfol : ∀ (v2 : Int) (v3 : Int) (M : Mem), q = (v2, v3, M) → xWX p l e 79 3026 s m args below meth c 4 D E b (some (vI r0)) M0 M 95 [(0, vR b 3), (2, vI v2)] []) : ∀ (n : Nat) (v2 : Int) (v3 : Int) (M : Mem), itr3 (x_Reader_read_L39) n v2 v3 M = some q →
    xWX p l e 79 3026 s m args below meth c 4 D E b (some (vI r0)) M0 M 39 [(0, vR b 3), (2, vI v2), (3, vI v3)] [] := by
  intro n
  induction n with
  | zero => exact fun _ _ _ h => itr_z h
  | succ n ih => exact fun _ _ _ h => w_x_Reader_read_L39_s C hr ih hfol h
set_option maxHeartbeats 4000000 in
set_option maxRecDepth 20000 in
theorem c_x_Reader_read (l : Launch) {M : Mem} {r0 : Int} {M0 : Mem} (h : x_Reader_read M = some (r0, M0)) : Ct l yX4_read cX4_read 4 (some .int) 79 3026 vwCl xSh xN xRf (xExt σ) (fun b => [vR b 3, vR b 1]) M (fun b => (some (vI r0))) M0 := by
  refine Ct_of (xExtOK σ) (by decide) (fun b => Nat.le_of_ble_eq_true rfl) ?_
  intro p e s m args below meth c D E b C hr
  unfold x_Reader_read at h
  refine (show xWX p l e 79 3026 s m args below meth c 4 D E b (some (vI r0)) M0 M 0 [(0, vR b 3), (1, vR b 1)] [] from ?_)
  refine r_aload_n (pc := 0) C 0 rfl rfl dX4_read_0 ?_
  refine r_getR (pc := 1) C fl_RX4_25 x_s3 (by decide) x_kReader_3 x_r3_3 dX4_read_1 ?_
  refine r_aload_n (pc := 4) C 1 rfl rfl dX4_read_4 ?_
  obtain ⟨M1, hq1, h⟩ := bnd_inv h
  refine r_callV (pc := 5) (rest := []) (st1 := []) C (xExtOK σ b) [vR b 1] (c_x_Tokens_split l hq1) cl_RX4_29 x_s19 (by decide) rfl rfl rfl rfl ⟨Nat.le_of_ble_eq_true rfl, Nat.le_of_ble_eq_true rfl⟩ (Nat.le_of_ble_eq_true rfl) rfl rfl dX4_read_5 ?_
  refine r_aload_n (pc := 8) C 0 rfl rfl dX4_read_8 ?_
  refine r_getR (pc := 9) C fl_RX4_12 x_s3 (by decide) x_kReader_0 x_r3_0 dX4_read_9 ?_
  obtain ⟨M2, hq2, h⟩ := bnd_inv h
  refine r_callV (pc := 12) (rest := []) (st1 := []) C (xExtOK σ b) [] (c_x_Town_clear l 4 x_m4 hq2) cl_RX4_33 x_s4 (by decide) rfl rfl rfl rfl ⟨Nat.le_of_ble_eq_true rfl, Nat.le_of_ble_eq_true rfl⟩ (Nat.le_of_ble_eq_true rfl) rfl rfl dX4_read_12 ?_
  refine r_aload_n (pc := 15) C 0 rfl rfl dX4_read_15 ?_
  refine r_iconst (pc := 16) C dX4_read_16 ?_
  obtain ⟨M_17, hM_17, h⟩ := lt_inv h
  refine r_putI (pc := 17) C fl_RX4_36 x_ft4 x_w4_1 x_s3 (by decide) x_kReader_1 hM_17 dX4_read_17 ?_
  refine r_aload_n (pc := 20) C 0 rfl rfl dX4_read_20 ?_
  refine r_iconst (pc := 21) C dX4_read_21 ?_
  obtain ⟨M_22, hM_22, h⟩ := lt_inv h
  refine r_putI (pc := 22) C fl_RX4_18 x_ft4 x_w4_2 x_s3 (by decide) x_kReader_2 hM_22 dX4_read_22 ?_
  refine r_aload_n (pc := 25) C 0 rfl rfl dX4_read_25 ?_
  refine r_iconst (pc := 26) C dX4_read_26 ?_
  obtain ⟨M_27, hM_27, h⟩ := lt_inv h
  refine r_putI (pc := 27) C fl_RX4_39 x_ft4 x_w4_4 x_s3 (by decide) x_kReader_4 hM_27 dX4_read_27 ?_
  refine r_aload_n (pc := 30) C 0 rfl rfl dX4_read_30 ?_
  refine r_iconst (pc := 31) C dX4_read_31 ?_
  obtain ⟨M_32, hM_32, h⟩ := lt_inv h
  refine r_putI (pc := 32) C fl_RX4_42 x_ft4 x_w4_5 x_s3 (by decide) x_kReader_5 hM_32 dX4_read_32 ?_
  refine r_iconst (pc := 35) C dX4_read_35 ?_
  refine r_istore_n (pc := 36) (lv' := [(2, vI 0), (0, vR b 3), (1, vR b 1)]) C rfl dX4_read_36 (by decide) rfl ?_
  refine r_iconst (pc := 37) C dX4_read_37 ?_
  refine r_istore_n (pc := 38) (lv' := [(3, vI 0), (2, vI 0), (0, vR b 3), (1, vR b 1)]) C rfl dX4_read_38 (by decide) rfl ?_
  refine r_sub (lv' := [(0, vR b 3), (2, vI 0), (3, vI 0)]) [2, 1, 0] rfl ?_
  obtain ⟨q8, hl8, h⟩ := bnd_inv h
  refine w_x_Reader_read_L39 C hr (fun v2_8 v3_8 M_8 hq => ?_) FUEL _ _ _ hl8
  have hq := hq.symm
  subst hq
  refine r_aload_n (pc := 95) C 0 rfl rfl dX4_read_95 ?_
  refine r_getI (pc := 96) C fl_RX4_36 x_s3 (by decide) x_kReader_1 dX4_read_96 ?_
  refine r_if_ne (pc := 99) (tgt := 106) C h dX4_read_99 (by decide) (fun hc99 h => ?_) (fun hc99 h => ?_)
  · refine r_iconst (pc := 106) C dX4_read_106 ?_
    have e := Option.some.inj h
    exact r_iret (pc := 107) C hr (congrArg (fun z => some (vI z)) (Prod.mk.inj e).1.symm) (Prod.mk.inj e).2.symm dX4_read_107
  · refine r_iload_n (pc := 102) C 1 rfl rfl dX4_read_102 ?_
    refine r_goto (pc := 103) (tgt := 107) C dX4_read_103 (by decide) ?_
    have e := Option.some.inj h
    exact r_iret (pc := 107) C hr (congrArg (fun z => some (vI z)) (Prod.mk.inj e).1.symm) (Prod.mk.inj e).2.symm dX4_read_107
set_option maxHeartbeats 4000000 in
set_option maxRecDepth 20000 in
theorem c_x_X_town (l : Launch) {M : Mem} {r0 : Int} {M0 : Mem} (h : x_X_town M = some (r0, M0)) : Ct l yX11_town cX11_town 2 (some .int) 80 3049 vwCl xSh xN xRf (xExt σ) (fun b => [vR b 0]) M (fun b => (some (vI r0))) M0 := by
  refine Ct_of (xExtOK σ) (by decide) (fun b => Nat.le_of_ble_eq_true rfl) ?_
  intro p e s m args below meth c D E b C hr
  unfold x_X_town at h
  refine (show xWX p l e 80 3049 s m args below meth c 2 D E b (some (vI r0)) M0 M 0 [(0, vR b 0)] [] from ?_)
  refine r_aload_n (pc := 0) C 0 rfl rfl dX11_town_0 ?_
  refine r_getR (pc := 1) C fl_RX11_19 x_s0 (by decide) x_kX_1 x_r0_1 dX11_town_1 ?_
  refine r_aload_n (pc := 4) C 0 rfl rfl dX11_town_4 ?_
  refine r_getR (pc := 5) C fl_RX11_12 x_s0 (by decide) x_kX_0 x_r0_0 dX11_town_5 ?_
  obtain ⟨r1, M1, hq1, h⟩ := bnd2_inv h
  refine r_callV (pc := 8) (rest := []) (st1 := [vI r1]) C (xExtOK σ b) [vR b 1] (c_x_Reader_read l hq1) cl_RX11_97 x_s3 (by decide) rfl rfl rfl rfl ⟨Nat.le_of_ble_eq_true rfl, Nat.le_of_ble_eq_true rfl⟩ (Nat.le_of_ble_eq_true rfl) rfl rfl dX11_town_8 ?_
  refine r_istore_n (pc := 11) (lv' := [(1, vI r1), (0, vR b 0)]) C rfl dX11_town_11 (by decide) rfl ?_
  refine r_aload_n (pc := 12) C 1 rfl rfl dX11_town_12 ?_
  refine r_getR (pc := 13) C fl_RX11_12 x_s0 (by decide) x_kX_0 x_r0_0 dX11_town_13 ?_
  refine r_iconst (pc := 16) C dX11_town_16 ?_
  obtain ⟨M_17, hM_17, h⟩ := lt_inv h
  refine r_putI (pc := 17) C fl_RX11_82 x_ft7 x_w7_1 x_s1 (by decide) x_kTape_1 hM_17 dX11_town_17 ?_
  refine r_iload_n (pc := 20) C 0 rfl rfl dX11_town_20 ?_
  refine r_iconst (pc := 21) C dX11_town_21 ?_
  refine r_icmp_ne (pc := 22) (tgt := 31) C h dX11_town_22 (by decide) (fun hc22 h => ?_) (fun hc22 h => ?_)
  · refine r_aload_n (pc := 31) C 1 rfl rfl dX11_town_31 ?_
    refine r_getR (pc := 32) C fl_RX11_26 x_s0 (by decide) x_kX_2 x_r0_2 dX11_town_32 ?_
    refine r_aload_n (pc := 35) C 1 rfl rfl dX11_town_35 ?_
    refine r_getR (pc := 36) C fl_RX11_19 x_s0 (by decide) x_kX_1 x_r0_1 dX11_town_36 ?_
    refine r_getR (pc := 39) C fl_RX11_101 x_s3 (by decide) x_kReader_0 x_r3_0 dX11_town_39 ?_
    obtain ⟨M2, hq2, h⟩ := bnd_inv h
    refine r_callV (pc := 42) (rest := []) (st1 := []) C (xExtOK σ b) [vR b 4] (c_x_Town_copyFrom l 23 4 x_m23 x_m4 hq2) cl_RX11_104 x_s23 (by decide) rfl rfl rfl rfl ⟨Nat.le_of_ble_eq_true rfl, Nat.le_of_ble_eq_true rfl⟩ (Nat.le_of_ble_eq_true rfl) rfl rfl dX11_town_42 ?_
    refine r_aload_n (pc := 45) C 1 rfl rfl dX11_town_45 ?_
    refine r_getR (pc := 46) C fl_RX11_35 x_s0 (by decide) x_kX_3 x_r0_3 dX11_town_46 ?_
    obtain ⟨M3, hq3, h⟩ := bnd_inv h
    refine r_callV (pc := 49) (rest := []) (st1 := []) C (xExtOK σ b) [] (c_x_State_reset l 38 x_m38 hq3) cl_RX11_107 x_s38 (by decide) rfl rfl rfl rfl ⟨Nat.le_of_ble_eq_true rfl, Nat.le_of_ble_eq_true rfl⟩ (Nat.le_of_ble_eq_true rfl) rfl rfl dX11_town_49 ?_
    refine r_aload_n (pc := 52) C 1 rfl rfl dX11_town_52 ?_
    refine r_getR (pc := 53) C fl_RX11_45 x_s0 (by decide) x_kX_5 x_r0_5 dX11_town_53 ?_
    obtain ⟨M4, hq4, h⟩ := bnd_inv h
    refine r_callV (pc := 56) (rest := []) (st1 := []) C (xExtOK σ b) [] (c_x_Past_clear l hq4) cl_RX11_110 x_s64 (by decide) rfl rfl rfl rfl ⟨Nat.le_of_ble_eq_true rfl, Nat.le_of_ble_eq_true rfl⟩ (Nat.le_of_ble_eq_true rfl) rfl rfl dX11_town_56 ?_
    refine r_aload_n (pc := 59) C 1 rfl rfl dX11_town_59 ?_
    refine r_getR (pc := 60) C fl_RX11_63 x_s0 (by decide) x_kX_7 x_r0_7 dX11_town_60 ?_
    obtain ⟨M5, hq5, h⟩ := bnd_inv h
    refine r_callV (pc := 63) (rest := []) (st1 := []) C (xExtOK σ b) [] (c_x_Heard_clear l hq5) cl_RX11_113 x_s354 (by decide) rfl rfl rfl rfl ⟨Nat.le_of_ble_eq_true rfl, Nat.le_of_ble_eq_true rfl⟩ (Nat.le_of_ble_eq_true rfl) rfl rfl dX11_town_63 ?_
    refine r_iload_n (pc := 66) C 0 rfl rfl dX11_town_66 ?_
    have e := Option.some.inj h
    exact r_iret (pc := 67) C hr (congrArg (fun z => some (vI z)) (Prod.mk.inj e).1.symm) (Prod.mk.inj e).2.symm dX11_town_67
  · refine r_aload_n (pc := 25) C 1 rfl rfl dX11_town_25 ?_
    refine r_iconst (pc := 26) C dX11_town_26 ?_
    obtain ⟨r6, M6, hq6, h⟩ := bnd2_inv h
    refine r_callV (pc := 27) (rest := []) (st1 := [vI r6]) C (xExtOK σ b) [vI 1] (c_x_X_none l hq6) cl_RX11_85 x_s0 (by decide) rfl rfl rfl rfl ⟨Nat.le_of_ble_eq_true rfl, Nat.le_of_ble_eq_true rfl⟩ (Nat.le_of_ble_eq_true rfl) rfl rfl dX11_town_27 ?_
    have e := Option.some.inj h
    exact r_iret (pc := 30) C hr (congrArg (fun z => some (vI z)) (Prod.mk.inj e).1.symm) (Prod.mk.inj e).2.symm dX11_town_30
end
