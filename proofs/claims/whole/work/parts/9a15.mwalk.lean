theorem dX12_image_0 : decode cX12_image 0 = .ok (.aload_n 0, 1) := by decide +kernel
theorem dX12_image_1 : decode cX12_image 1 = .ok (.iconst 0, 1) := by decide +kernel
theorem dX12_image_2 : decode cX12_image 2 = .ok (.putfield 222, 3) := by decide +kernel
theorem dX12_image_5 : decode cX12_image 5 = .ok (.aload_n 0, 1) := by decide +kernel
theorem dX12_image_6 : decode cX12_image 6 = .ok (.aload_n 0, 1) := by decide +kernel
theorem dX12_image_7 : decode cX12_image 7 = .ok (.getfield 147, 3) := by decide +kernel
theorem dX12_image_10 : decode cX12_image 10 = .ok (.iconst 0, 1) := by decide +kernel
theorem dX12_image_11 : decode cX12_image 11 = .ok (.iaload, 1) := by decide +kernel
theorem dX12_image_12 : decode cX12_image 12 = .ok (.bipush 8, 2) := by decide +kernel
theorem dX12_image_14 : decode cX12_image 14 = .ok (.ishr, 1) := by decide +kernel
theorem dX12_image_15 : decode cX12_image 15 = .ok (.invokevirtual 520, 3) := by decide +kernel
theorem dX12_image_18 : decode cX12_image 18 = .ok (.aload_n 0, 1) := by decide +kernel
theorem dX12_image_19 : decode cX12_image 19 = .ok (.aload_n 0, 1) := by decide +kernel
theorem dX12_image_20 : decode cX12_image 20 = .ok (.getfield 147, 3) := by decide +kernel
theorem dX12_image_23 : decode cX12_image 23 = .ok (.iconst 0, 1) := by decide +kernel
theorem dX12_image_24 : decode cX12_image 24 = .ok (.iaload, 1) := by decide +kernel
theorem dX12_image_25 : decode cX12_image 25 = .ok (.invokevirtual 520, 3) := by decide +kernel
theorem dX12_image_28 : decode cX12_image 28 = .ok (.iconst 0, 1) := by decide +kernel
theorem dX12_image_29 : decode cX12_image 29 = .ok (.istore_n 1, 1) := by decide +kernel
theorem dX12_image_30 : decode cX12_image 30 = .ok (.iload_n 1, 1) := by decide +kernel
theorem dX12_image_31 : decode cX12_image 31 = .ok (.aload_n 0, 1) := by decide +kernel
theorem dX12_image_32 : decode cX12_image 32 = .ok (.getfield 54, 3) := by decide +kernel
theorem dX12_image_35 : decode cX12_image 35 = .ok (.aload_n 0, 1) := by decide +kernel
theorem dX12_image_36 : decode cX12_image 36 = .ok (.getfield 51, 3) := by decide +kernel
theorem dX12_image_39 : decode cX12_image 39 = .ok (.iaload, 1) := by decide +kernel
theorem dX12_image_40 : decode cX12_image 40 = .ok (.if_icmp .ge 51, 3) := by decide +kernel
theorem dX12_image_43 : decode cX12_image 43 = .ok (.aload_n 0, 1) := by decide +kernel
theorem dX12_image_44 : decode cX12_image 44 = .ok (.aload_n 0, 1) := by decide +kernel
theorem dX12_image_45 : decode cX12_image 45 = .ok (.getfield 150, 3) := by decide +kernel
theorem dX12_image_48 : decode cX12_image 48 = .ok (.iload_n 1, 1) := by decide +kernel
theorem dX12_image_49 : decode cX12_image 49 = .ok (.iaload, 1) := by decide +kernel
theorem dX12_image_50 : decode cX12_image 50 = .ok (.invokevirtual 520, 3) := by decide +kernel
theorem dX12_image_53 : decode cX12_image 53 = .ok (.aload_n 0, 1) := by decide +kernel
theorem dX12_image_54 : decode cX12_image 54 = .ok (.aload_n 0, 1) := by decide +kernel
theorem dX12_image_55 : decode cX12_image 55 = .ok (.getfield 156, 3) := by decide +kernel
theorem dX12_image_58 : decode cX12_image 58 = .ok (.iconst 0, 1) := by decide +kernel
theorem dX12_image_59 : decode cX12_image 59 = .ok (.iaload, 1) := by decide +kernel
theorem dX12_image_60 : decode cX12_image 60 = .ok (.iload_n 1, 1) := by decide +kernel
theorem dX12_image_61 : decode cX12_image 61 = .ok (.invokestatic 428, 3) := by decide +kernel
theorem dX12_image_64 : decode cX12_image 64 = .ok (.ifCond .eq 7, 3) := by decide +kernel
theorem dX12_image_67 : decode cX12_image 67 = .ok (.iconst 1, 1) := by decide +kernel
theorem dX12_image_68 : decode cX12_image 68 = .ok (.goto 4, 3) := by decide +kernel
theorem dX12_image_71 : decode cX12_image 71 = .ok (.iconst 0, 1) := by decide +kernel
theorem dX12_image_72 : decode cX12_image 72 = .ok (.invokevirtual 520, 3) := by decide +kernel
theorem dX12_image_75 : decode cX12_image 75 = .ok (.aload_n 0, 1) := by decide +kernel
theorem dX12_image_76 : decode cX12_image 76 = .ok (.aload_n 0, 1) := by decide +kernel
theorem dX12_image_77 : decode cX12_image 77 = .ok (.getfield 153, 3) := by decide +kernel
theorem dX12_image_80 : decode cX12_image 80 = .ok (.iload_n 1, 1) := by decide +kernel
theorem dX12_image_81 : decode cX12_image 81 = .ok (.iaload, 1) := by decide +kernel
theorem dX12_image_82 : decode cX12_image 82 = .ok (.invokevirtual 520, 3) := by decide +kernel
theorem dX12_image_85 : decode cX12_image 85 = .ok (.iinc 1 1, 3) := by decide +kernel
theorem dX12_image_88 : decode cX12_image 88 = .ok (.goto (-58), 3) := by decide +kernel
theorem dX12_image_91 : decode cX12_image 91 = .ok (.iconst 0, 1) := by decide +kernel
theorem dX12_image_92 : decode cX12_image 92 = .ok (.istore_n 1, 1) := by decide +kernel
theorem dX12_image_93 : decode cX12_image 93 = .ok (.iload_n 1, 1) := by decide +kernel
theorem dX12_image_94 : decode cX12_image 94 = .ok (.aload_n 0, 1) := by decide +kernel
theorem dX12_image_95 : decode cX12_image 95 = .ok (.getfield 69, 3) := by decide +kernel
theorem dX12_image_98 : decode cX12_image 98 = .ok (.aload_n 0, 1) := by decide +kernel
theorem dX12_image_99 : decode cX12_image 99 = .ok (.getfield 51, 3) := by decide +kernel
theorem dX12_image_102 : decode cX12_image 102 = .ok (.iaload, 1) := by decide +kernel
theorem dX12_image_103 : decode cX12_image 103 = .ok (.if_icmp .ge 94, 3) := by decide +kernel
theorem dX12_image_106 : decode cX12_image 106 = .ok (.aload_n 0, 1) := by decide +kernel
theorem dX12_image_107 : decode cX12_image 107 = .ok (.aload_n 0, 1) := by decide +kernel
theorem dX12_image_108 : decode cX12_image 108 = .ok (.getfield 159, 3) := by decide +kernel
theorem dX12_image_111 : decode cX12_image 111 = .ok (.iload_n 1, 1) := by decide +kernel
theorem dX12_image_112 : decode cX12_image 112 = .ok (.iaload, 1) := by decide +kernel
theorem dX12_image_113 : decode cX12_image 113 = .ok (.invokevirtual 520, 3) := by decide +kernel
theorem dX12_image_116 : decode cX12_image 116 = .ok (.aload_n 0, 1) := by decide +kernel
theorem dX12_image_117 : decode cX12_image 117 = .ok (.aload_n 0, 1) := by decide +kernel
theorem dX12_image_118 : decode cX12_image 118 = .ok (.getfield 162, 3) := by decide +kernel
theorem dX12_image_121 : decode cX12_image 121 = .ok (.iload_n 1, 1) := by decide +kernel
theorem dX12_image_122 : decode cX12_image 122 = .ok (.iaload, 1) := by decide +kernel
theorem dX12_image_123 : decode cX12_image 123 = .ok (.bipush 8, 2) := by decide +kernel
theorem dX12_image_125 : decode cX12_image 125 = .ok (.ishr, 1) := by decide +kernel
theorem dX12_image_126 : decode cX12_image 126 = .ok (.invokevirtual 520, 3) := by decide +kernel
theorem dX12_image_129 : decode cX12_image 129 = .ok (.aload_n 0, 1) := by decide +kernel
theorem dX12_image_130 : decode cX12_image 130 = .ok (.aload_n 0, 1) := by decide +kernel
theorem dX12_image_131 : decode cX12_image 131 = .ok (.getfield 162, 3) := by decide +kernel
theorem dX12_image_134 : decode cX12_image 134 = .ok (.iload_n 1, 1) := by decide +kernel
theorem dX12_image_135 : decode cX12_image 135 = .ok (.iaload, 1) := by decide +kernel
theorem dX12_image_136 : decode cX12_image 136 = .ok (.invokevirtual 520, 3) := by decide +kernel
theorem dX12_image_139 : decode cX12_image 139 = .ok (.aload_n 0, 1) := by decide +kernel
theorem dX12_image_140 : decode cX12_image 140 = .ok (.aload_n 0, 1) := by decide +kernel
theorem dX12_image_141 : decode cX12_image 141 = .ok (.getfield 165, 3) := by decide +kernel
theorem dX12_image_144 : decode cX12_image 144 = .ok (.iload_n 1, 1) := by decide +kernel
theorem dX12_image_145 : decode cX12_image 145 = .ok (.iaload, 1) := by decide +kernel
theorem dX12_image_146 : decode cX12_image 146 = .ok (.invokevirtual 520, 3) := by decide +kernel
theorem dX12_image_149 : decode cX12_image 149 = .ok (.aload_n 0, 1) := by decide +kernel
theorem dX12_image_150 : decode cX12_image 150 = .ok (.aload_n 0, 1) := by decide +kernel
theorem dX12_image_151 : decode cX12_image 151 = .ok (.getfield 168, 3) := by decide +kernel
theorem dX12_image_154 : decode cX12_image 154 = .ok (.iload_n 1, 1) := by decide +kernel
theorem dX12_image_155 : decode cX12_image 155 = .ok (.iaload, 1) := by decide +kernel
theorem dX12_image_156 : decode cX12_image 156 = .ok (.invokevirtual 520, 3) := by decide +kernel
theorem dX12_image_159 : decode cX12_image 159 = .ok (.aload_n 0, 1) := by decide +kernel
theorem dX12_image_160 : decode cX12_image 160 = .ok (.aload_n 0, 1) := by decide +kernel
theorem dX12_image_161 : decode cX12_image 161 = .ok (.getfield 171, 3) := by decide +kernel
theorem dX12_image_164 : decode cX12_image 164 = .ok (.iload_n 1, 1) := by decide +kernel
theorem dX12_image_165 : decode cX12_image 165 = .ok (.iaload, 1) := by decide +kernel
theorem dX12_image_166 : decode cX12_image 166 = .ok (.invokevirtual 520, 3) := by decide +kernel
theorem dX12_image_169 : decode cX12_image 169 = .ok (.aload_n 0, 1) := by decide +kernel
theorem dX12_image_170 : decode cX12_image 170 = .ok (.aload_n 0, 1) := by decide +kernel
theorem dX12_image_171 : decode cX12_image 171 = .ok (.getfield 174, 3) := by decide +kernel
theorem dX12_image_174 : decode cX12_image 174 = .ok (.iconst 0, 1) := by decide +kernel
theorem dX12_image_175 : decode cX12_image 175 = .ok (.iaload, 1) := by decide +kernel
theorem dX12_image_176 : decode cX12_image 176 = .ok (.iload_n 1, 1) := by decide +kernel
theorem dX12_image_177 : decode cX12_image 177 = .ok (.invokestatic 428, 3) := by decide +kernel
theorem dX12_image_180 : decode cX12_image 180 = .ok (.ifCond .eq 7, 3) := by decide +kernel
theorem dX12_image_183 : decode cX12_image 183 = .ok (.iconst 1, 1) := by decide +kernel
theorem dX12_image_184 : decode cX12_image 184 = .ok (.goto 4, 3) := by decide +kernel
theorem dX12_image_187 : decode cX12_image 187 = .ok (.iconst 0, 1) := by decide +kernel
theorem dX12_image_188 : decode cX12_image 188 = .ok (.invokevirtual 520, 3) := by decide +kernel
theorem dX12_image_191 : decode cX12_image 191 = .ok (.iinc 1 1, 3) := by decide +kernel
theorem dX12_image_194 : decode cX12_image 194 = .ok (.goto (-101), 3) := by decide +kernel
theorem dX12_image_197 : decode cX12_image 197 = .ok (.sipush 199, 3) := by decide +kernel
theorem dX12_image_200 : decode cX12_image 200 = .ok (.istore_n 1, 1) := by decide +kernel
theorem dX12_image_201 : decode cX12_image 201 = .ok (.iconst 0, 1) := by decide +kernel
theorem dX12_image_202 : decode cX12_image 202 = .ok (.istore_n 2, 1) := by decide +kernel
theorem dX12_image_203 : decode cX12_image 203 = .ok (.iload_n 2, 1) := by decide +kernel
theorem dX12_image_204 : decode cX12_image 204 = .ok (.aload_n 0, 1) := by decide +kernel
theorem dX12_image_205 : decode cX12_image 205 = .ok (.getfield 222, 3) := by decide +kernel
theorem dX12_image_208 : decode cX12_image 208 = .ok (.if_icmp .ge 24, 3) := by decide +kernel
theorem dX12_image_211 : decode cX12_image 211 = .ok (.iconst 5, 1) := by decide +kernel
theorem dX12_image_212 : decode cX12_image 212 = .ok (.iload_n 1, 1) := by decide +kernel
theorem dX12_image_213 : decode cX12_image 213 = .ok (.imul, 1) := by decide +kernel
theorem dX12_image_214 : decode cX12_image 214 = .ok (.aload_n 0, 1) := by decide +kernel
theorem dX12_image_215 : decode cX12_image 215 = .ok (.getfield 219, 3) := by decide +kernel
theorem dX12_image_218 : decode cX12_image 218 = .ok (.iload_n 2, 1) := by decide +kernel
theorem dX12_image_219 : decode cX12_image 219 = .ok (.iaload, 1) := by decide +kernel
theorem dX12_image_220 : decode cX12_image 220 = .ok (.iadd, 1) := by decide +kernel
theorem dX12_image_221 : decode cX12_image 221 = .ok (.sipush 251, 3) := by decide +kernel
theorem dX12_image_224 : decode cX12_image 224 = .ok (.irem, 1) := by decide +kernel
theorem dX12_image_225 : decode cX12_image 225 = .ok (.istore_n 1, 1) := by decide +kernel
theorem dX12_image_226 : decode cX12_image 226 = .ok (.iinc 2 1, 3) := by decide +kernel
theorem dX12_image_229 : decode cX12_image 229 = .ok (.goto (-26), 3) := by decide +kernel
theorem dX12_image_232 : decode cX12_image 232 = .ok (.aload_n 0, 1) := by decide +kernel
theorem dX12_image_233 : decode cX12_image 233 = .ok (.iload_n 1, 1) := by decide +kernel
theorem dX12_image_234 : decode cX12_image 234 = .ok (.invokevirtual 520, 3) := by decide +kernel
theorem dX12_image_237 : decode cX12_image 237 = .ok (.aload_n 0, 1) := by decide +kernel
theorem dX12_image_238 : decode cX12_image 238 = .ok (.getfield 222, 3) := by decide +kernel
theorem dX12_image_241 : decode cX12_image 241 = .ok (.ireturn, 1) := by decide +kernel
theorem dX12_octet_0 : decode cX12_octet 0 = .ok (.iload_n 1, 1) := by decide +kernel
theorem dX12_octet_1 : decode cX12_octet 1 = .ok (.iconst 0, 1) := by decide +kernel
theorem dX12_octet_2 : decode cX12_octet 2 = .ok (.aload_n 0, 1) := by decide +kernel
theorem dX12_octet_3 : decode cX12_octet 3 = .ok (.getfield 222, 3) := by decide +kernel
theorem dX12_octet_6 : decode cX12_octet 6 = .ok (.iconst 1, 1) := by decide +kernel
theorem dX12_octet_7 : decode cX12_octet 7 = .ok (.isub, 1) := by decide +kernel
theorem dX12_octet_8 : decode cX12_octet 8 = .ok (.invokestatic 303, 3) := by decide +kernel
theorem dX12_octet_11 : decode cX12_octet 11 = .ok (.ifCond .eq 12, 3) := by decide +kernel
theorem dX12_octet_14 : decode cX12_octet 14 = .ok (.aload_n 0, 1) := by decide +kernel
theorem dX12_octet_15 : decode cX12_octet 15 = .ok (.getfield 219, 3) := by decide +kernel
theorem dX12_octet_18 : decode cX12_octet 18 = .ok (.iload_n 1, 1) := by decide +kernel
theorem dX12_octet_19 : decode cX12_octet 19 = .ok (.iaload, 1) := by decide +kernel
theorem dX12_octet_20 : decode cX12_octet 20 = .ok (.goto 4, 3) := by decide +kernel
theorem dX12_octet_23 : decode cX12_octet 23 = .ok (.iconst (-1), 1) := by decide +kernel
theorem dX12_octet_24 : decode cX12_octet 24 = .ok (.ireturn, 1) := by decide +kernel
theorem dX12_voiceOn_0 : decode cX12_voiceOn 0 = .ok (.aload_n 0, 1) := by decide +kernel
theorem dX12_voiceOn_1 : decode cX12_voiceOn 1 = .ok (.getfield 150, 3) := by decide +kernel
theorem dX12_voiceOn_4 : decode cX12_voiceOn 4 = .ok (.bipush 7, 2) := by decide +kernel
theorem dX12_voiceOn_6 : decode cX12_voiceOn 6 = .ok (.iload_n 1, 1) := by decide +kernel
theorem dX12_voiceOn_7 : decode cX12_voiceOn 7 = .ok (.iadd, 1) := by decide +kernel
theorem dX12_voiceOn_8 : decode cX12_voiceOn 8 = .ok (.aload_n 0, 1) := by decide +kernel
theorem dX12_voiceOn_9 : decode cX12_voiceOn 9 = .ok (.getfield 7, 3) := by decide +kernel
theorem dX12_voiceOn_12 : decode cX12_voiceOn 12 = .ok (.iload_n 2, 1) := by decide +kernel
theorem dX12_voiceOn_13 : decode cX12_voiceOn 13 = .ok (.iaload, 1) := by decide +kernel
theorem dX12_voiceOn_14 : decode cX12_voiceOn 14 = .ok (.iastore, 1) := by decide +kernel
theorem dX12_voiceOn_15 : decode cX12_voiceOn 15 = .ok (.aload_n 0, 1) := by decide +kernel
theorem dX12_voiceOn_16 : decode cX12_voiceOn 16 = .ok (.getfield 156, 3) := by decide +kernel
theorem dX12_voiceOn_19 : decode cX12_voiceOn 19 = .ok (.iconst 1, 1) := by decide +kernel
theorem dX12_voiceOn_20 : decode cX12_voiceOn 20 = .ok (.dup2, 1) := by decide +kernel
theorem dX12_voiceOn_21 : decode cX12_voiceOn 21 = .ok (.iaload, 1) := by decide +kernel
theorem dX12_voiceOn_22 : decode cX12_voiceOn 22 = .ok (.aload_n 0, 1) := by decide +kernel
theorem dX12_voiceOn_23 : decode cX12_voiceOn 23 = .ok (.getfield 7, 3) := by decide +kernel
theorem dX12_voiceOn_26 : decode cX12_voiceOn 26 = .ok (.iload_n 2, 1) := by decide +kernel
theorem dX12_voiceOn_27 : decode cX12_voiceOn 27 = .ok (.iconst 1, 1) := by decide +kernel
theorem dX12_voiceOn_28 : decode cX12_voiceOn 28 = .ok (.iadd, 1) := by decide +kernel
theorem dX12_voiceOn_29 : decode cX12_voiceOn 29 = .ok (.iaload, 1) := by decide +kernel
theorem dX12_voiceOn_30 : decode cX12_voiceOn 30 = .ok (.iconst 1, 1) := by decide +kernel
theorem dX12_voiceOn_31 : decode cX12_voiceOn 31 = .ok (.if_icmp .ne 9, 3) := by decide +kernel
theorem dX12_voiceOn_34 : decode cX12_voiceOn 34 = .ok (.iconst 1, 1) := by decide +kernel
theorem dX12_voiceOn_35 : decode cX12_voiceOn 35 = .ok (.iload_n 1, 1) := by decide +kernel
theorem dX12_voiceOn_36 : decode cX12_voiceOn 36 = .ok (.ishl, 1) := by decide +kernel
theorem dX12_voiceOn_37 : decode cX12_voiceOn 37 = .ok (.goto 4, 3) := by decide +kernel
theorem dX12_voiceOn_40 : decode cX12_voiceOn 40 = .ok (.iconst 0, 1) := by decide +kernel
theorem dX12_voiceOn_41 : decode cX12_voiceOn 41 = .ok (.ior, 1) := by decide +kernel
theorem dX12_voiceOn_42 : decode cX12_voiceOn 42 = .ok (.iastore, 1) := by decide +kernel
theorem dX12_voiceOn_43 : decode cX12_voiceOn 43 = .ok (.aload_n 0, 1) := by decide +kernel
theorem dX12_voiceOn_44 : decode cX12_voiceOn 44 = .ok (.getfield 153, 3) := by decide +kernel
theorem dX12_voiceOn_47 : decode cX12_voiceOn 47 = .ok (.bipush 7, 2) := by decide +kernel
theorem dX12_voiceOn_49 : decode cX12_voiceOn 49 = .ok (.iload_n 1, 1) := by decide +kernel
theorem dX12_voiceOn_50 : decode cX12_voiceOn 50 = .ok (.iadd, 1) := by decide +kernel
theorem dX12_voiceOn_51 : decode cX12_voiceOn 51 = .ok (.aload_n 0, 1) := by decide +kernel
theorem dX12_voiceOn_52 : decode cX12_voiceOn 52 = .ok (.getfield 7, 3) := by decide +kernel
theorem dX12_voiceOn_55 : decode cX12_voiceOn 55 = .ok (.iload_n 2, 1) := by decide +kernel
theorem dX12_voiceOn_56 : decode cX12_voiceOn 56 = .ok (.iconst 2, 1) := by decide +kernel
theorem dX12_voiceOn_57 : decode cX12_voiceOn 57 = .ok (.iadd, 1) := by decide +kernel
theorem dX12_voiceOn_58 : decode cX12_voiceOn 58 = .ok (.iaload, 1) := by decide +kernel
theorem dX12_voiceOn_59 : decode cX12_voiceOn 59 = .ok (.iastore, 1) := by decide +kernel
theorem dX12_voiceOn_60 : decode cX12_voiceOn 60 = .ok (.aload_n 0, 1) := by decide +kernel
theorem dX12_voiceOn_61 : decode cX12_voiceOn 61 = .ok (.getfield 7, 3) := by decide +kernel
theorem dX12_voiceOn_64 : decode cX12_voiceOn 64 = .ok (.iload_n 2, 1) := by decide +kernel
theorem dX12_voiceOn_65 : decode cX12_voiceOn 65 = .ok (.iaload, 1) := by decide +kernel
theorem dX12_voiceOn_66 : decode cX12_voiceOn 66 = .ok (.bipush 9, 2) := by decide +kernel
theorem dX12_voiceOn_68 : decode cX12_voiceOn 68 = .ok (.if_icmp .gt 32, 3) := by decide +kernel
theorem dX12_voiceOn_71 : decode cX12_voiceOn 71 = .ok (.aload_n 0, 1) := by decide +kernel
theorem dX12_voiceOn_72 : decode cX12_voiceOn 72 = .ok (.getfield 7, 3) := by decide +kernel
theorem dX12_voiceOn_75 : decode cX12_voiceOn 75 = .ok (.iload_n 2, 1) := by decide +kernel
theorem dX12_voiceOn_76 : decode cX12_voiceOn 76 = .ok (.iconst 1, 1) := by decide +kernel
theorem dX12_voiceOn_77 : decode cX12_voiceOn 77 = .ok (.iadd, 1) := by decide +kernel
theorem dX12_voiceOn_78 : decode cX12_voiceOn 78 = .ok (.iaload, 1) := by decide +kernel
theorem dX12_voiceOn_79 : decode cX12_voiceOn 79 = .ok (.iconst 1, 1) := by decide +kernel
theorem dX12_voiceOn_80 : decode cX12_voiceOn 80 = .ok (.if_icmp .gt 20, 3) := by decide +kernel
theorem dX12_voiceOn_83 : decode cX12_voiceOn 83 = .ok (.aload_n 0, 1) := by decide +kernel
theorem dX12_voiceOn_84 : decode cX12_voiceOn 84 = .ok (.getfield 7, 3) := by decide +kernel
theorem dX12_voiceOn_87 : decode cX12_voiceOn 87 = .ok (.iload_n 2, 1) := by decide +kernel
theorem dX12_voiceOn_88 : decode cX12_voiceOn 88 = .ok (.iconst 2, 1) := by decide +kernel
theorem dX12_voiceOn_89 : decode cX12_voiceOn 89 = .ok (.iadd, 1) := by decide +kernel
theorem dX12_voiceOn_90 : decode cX12_voiceOn 90 = .ok (.iaload, 1) := by decide +kernel
theorem dX12_voiceOn_91 : decode cX12_voiceOn 91 = .ok (.bipush 99, 2) := by decide +kernel
theorem dX12_voiceOn_93 : decode cX12_voiceOn 93 = .ok (.if_icmp .gt 7, 3) := by decide +kernel
theorem dX12_voiceOn_96 : decode cX12_voiceOn 96 = .ok (.iconst 1, 1) := by decide +kernel
theorem dX12_voiceOn_97 : decode cX12_voiceOn 97 = .ok (.goto 4, 3) := by decide +kernel
theorem dX12_voiceOn_100 : decode cX12_voiceOn 100 = .ok (.iconst 0, 1) := by decide +kernel
theorem dX12_voiceOn_101 : decode cX12_voiceOn 101 = .ok (.ireturn, 1) := by decide +kernel
theorem dX12_isAloneBy_0 : decode cX12_isAloneBy 0 = .ok (.iconst 0, 1) := by decide +kernel
theorem dX12_isAloneBy_1 : decode cX12_isAloneBy 1 = .ok (.istore_n 3, 1) := by decide +kernel
theorem dX12_isAloneBy_2 : decode cX12_isAloneBy 2 = .ok (.iload_n 3, 1) := by decide +kernel
theorem dX12_isAloneBy_3 : decode cX12_isAloneBy 3 = .ok (.iload_n 1, 1) := by decide +kernel
theorem dX12_isAloneBy_4 : decode cX12_isAloneBy 4 = .ok (.if_icmp .ge 37, 3) := by decide +kernel
theorem dX12_isAloneBy_7 : decode cX12_isAloneBy 7 = .ok (.aload_n 0, 1) := by decide +kernel
theorem dX12_isAloneBy_8 : decode cX12_isAloneBy 8 = .ok (.getfield 159, 3) := by decide +kernel
theorem dX12_isAloneBy_11 : decode cX12_isAloneBy 11 = .ok (.bipush 12, 2) := by decide +kernel
theorem dX12_isAloneBy_13 : decode cX12_isAloneBy 13 = .ok (.iload_n 3, 1) := by decide +kernel
theorem dX12_isAloneBy_14 : decode cX12_isAloneBy 14 = .ok (.iadd, 1) := by decide +kernel
theorem dX12_isAloneBy_15 : decode cX12_isAloneBy 15 = .ok (.iaload, 1) := by decide +kernel
theorem dX12_isAloneBy_16 : decode cX12_isAloneBy 16 = .ok (.iconst 2, 1) := by decide +kernel
theorem dX12_isAloneBy_17 : decode cX12_isAloneBy 17 = .ok (.if_icmp .ne 18, 3) := by decide +kernel
theorem dX12_isAloneBy_20 : decode cX12_isAloneBy 20 = .ok (.aload_n 0, 1) := by decide +kernel
theorem dX12_isAloneBy_21 : decode cX12_isAloneBy 21 = .ok (.getfield 168, 3) := by decide +kernel
theorem dX12_isAloneBy_24 : decode cX12_isAloneBy 24 = .ok (.bipush 12, 2) := by decide +kernel
theorem dX12_isAloneBy_26 : decode cX12_isAloneBy 26 = .ok (.iload_n 3, 1) := by decide +kernel
theorem dX12_isAloneBy_27 : decode cX12_isAloneBy 27 = .ok (.iadd, 1) := by decide +kernel
theorem dX12_isAloneBy_28 : decode cX12_isAloneBy 28 = .ok (.iaload, 1) := by decide +kernel
theorem dX12_isAloneBy_29 : decode cX12_isAloneBy 29 = .ok (.iload_n 2, 1) := by decide +kernel
theorem dX12_isAloneBy_30 : decode cX12_isAloneBy 30 = .ok (.if_icmp .ne 5, 3) := by decide +kernel
theorem dX12_isAloneBy_33 : decode cX12_isAloneBy 33 = .ok (.iconst 0, 1) := by decide +kernel
theorem dX12_isAloneBy_34 : decode cX12_isAloneBy 34 = .ok (.ireturn, 1) := by decide +kernel
theorem dX12_isAloneBy_35 : decode cX12_isAloneBy 35 = .ok (.iinc 3 1, 3) := by decide +kernel
theorem dX12_isAloneBy_38 : decode cX12_isAloneBy 38 = .ok (.goto (-36), 3) := by decide +kernel
theorem dX12_isAloneBy_41 : decode cX12_isAloneBy 41 = .ok (.iconst 1, 1) := by decide +kernel
theorem dX12_isAloneBy_42 : decode cX12_isAloneBy 42 = .ok (.ireturn, 1) := by decide +kernel
theorem dX12_sayingOn_0 : decode cX12_sayingOn 0 = .ok (.bipush 12, 2) := by decide +kernel
theorem dX12_sayingOn_2 : decode cX12_sayingOn 2 = .ok (.iload_n 1, 1) := by decide +kernel
theorem dX12_sayingOn_3 : decode cX12_sayingOn 3 = .ok (.iadd, 1) := by decide +kernel
theorem dX12_sayingOn_4 : decode cX12_sayingOn 4 = .ok (.istore_n 3, 1) := by decide +kernel
theorem dX12_sayingOn_5 : decode cX12_sayingOn 5 = .ok (.aload_n 0, 1) := by decide +kernel
theorem dX12_sayingOn_6 : decode cX12_sayingOn 6 = .ok (.getfield 7, 3) := by decide +kernel
theorem dX12_sayingOn_9 : decode cX12_sayingOn 9 = .ok (.iload_n 2, 1) := by decide +kernel
theorem dX12_sayingOn_10 : decode cX12_sayingOn 10 = .ok (.iaload, 1) := by decide +kernel
theorem dX12_sayingOn_11 : decode cX12_sayingOn 11 = .ok (.istore 4, 2) := by decide +kernel
theorem dX12_sayingOn_13 : decode cX12_sayingOn 13 = .ok (.aload_n 0, 1) := by decide +kernel
theorem dX12_sayingOn_14 : decode cX12_sayingOn 14 = .ok (.getfield 7, 3) := by decide +kernel
theorem dX12_sayingOn_17 : decode cX12_sayingOn 17 = .ok (.iload_n 2, 1) := by decide +kernel
theorem dX12_sayingOn_18 : decode cX12_sayingOn 18 = .ok (.iconst 4, 1) := by decide +kernel
theorem dX12_sayingOn_19 : decode cX12_sayingOn 19 = .ok (.iadd, 1) := by decide +kernel
theorem dX12_sayingOn_20 : decode cX12_sayingOn 20 = .ok (.iaload, 1) := by decide +kernel
theorem dX12_sayingOn_21 : decode cX12_sayingOn 21 = .ok (.istore 5, 2) := by decide +kernel
theorem dX12_sayingOn_23 : decode cX12_sayingOn 23 = .ok (.aload_n 0, 1) := by decide +kernel
theorem dX12_sayingOn_24 : decode cX12_sayingOn 24 = .ok (.getfield 159, 3) := by decide +kernel
theorem dX12_sayingOn_27 : decode cX12_sayingOn 27 = .ok (.iload_n 3, 1) := by decide +kernel
theorem dX12_sayingOn_28 : decode cX12_sayingOn 28 = .ok (.iload 4, 2) := by decide +kernel
theorem dX12_sayingOn_30 : decode cX12_sayingOn 30 = .ok (.iastore, 1) := by decide +kernel
theorem dX12_sayingOn_31 : decode cX12_sayingOn 31 = .ok (.aload_n 0, 1) := by decide +kernel
theorem dX12_sayingOn_32 : decode cX12_sayingOn 32 = .ok (.getfield 162, 3) := by decide +kernel
theorem dX12_sayingOn_35 : decode cX12_sayingOn 35 = .ok (.iload_n 3, 1) := by decide +kernel
theorem dX12_sayingOn_36 : decode cX12_sayingOn 36 = .ok (.aload_n 0, 1) := by decide +kernel
theorem dX12_sayingOn_37 : decode cX12_sayingOn 37 = .ok (.getfield 7, 3) := by decide +kernel
theorem dX12_sayingOn_40 : decode cX12_sayingOn 40 = .ok (.iload_n 2, 1) := by decide +kernel
theorem dX12_sayingOn_41 : decode cX12_sayingOn 41 = .ok (.iconst 1, 1) := by decide +kernel
theorem dX12_sayingOn_42 : decode cX12_sayingOn 42 = .ok (.iadd, 1) := by decide +kernel
theorem dX12_sayingOn_43 : decode cX12_sayingOn 43 = .ok (.iaload, 1) := by decide +kernel
theorem dX12_sayingOn_44 : decode cX12_sayingOn 44 = .ok (.bipush 8, 2) := by decide +kernel
theorem dX12_sayingOn_46 : decode cX12_sayingOn 46 = .ok (.ishl, 1) := by decide +kernel
theorem dX12_sayingOn_47 : decode cX12_sayingOn 47 = .ok (.aload_n 0, 1) := by decide +kernel
theorem dX12_sayingOn_48 : decode cX12_sayingOn 48 = .ok (.getfield 7, 3) := by decide +kernel
theorem dX12_sayingOn_51 : decode cX12_sayingOn 51 = .ok (.iload_n 2, 1) := by decide +kernel
theorem dX12_sayingOn_52 : decode cX12_sayingOn 52 = .ok (.iconst 2, 1) := by decide +kernel
theorem dX12_sayingOn_53 : decode cX12_sayingOn 53 = .ok (.iadd, 1) := by decide +kernel
theorem dX12_sayingOn_54 : decode cX12_sayingOn 54 = .ok (.iaload, 1) := by decide +kernel
theorem dX12_sayingOn_55 : decode cX12_sayingOn 55 = .ok (.ior, 1) := by decide +kernel
theorem dX12_sayingOn_56 : decode cX12_sayingOn 56 = .ok (.iastore, 1) := by decide +kernel
theorem dX12_sayingOn_57 : decode cX12_sayingOn 57 = .ok (.aload_n 0, 1) := by decide +kernel
theorem dX12_sayingOn_58 : decode cX12_sayingOn 58 = .ok (.getfield 165, 3) := by decide +kernel
theorem dX12_sayingOn_61 : decode cX12_sayingOn 61 = .ok (.iload_n 3, 1) := by decide +kernel
theorem dX12_sayingOn_62 : decode cX12_sayingOn 62 = .ok (.aload_n 0, 1) := by decide +kernel
theorem dX12_sayingOn_63 : decode cX12_sayingOn 63 = .ok (.getfield 7, 3) := by decide +kernel
theorem dX12_sayingOn_66 : decode cX12_sayingOn 66 = .ok (.iload_n 2, 1) := by decide +kernel
theorem dX12_sayingOn_67 : decode cX12_sayingOn 67 = .ok (.iconst 3, 1) := by decide +kernel
theorem dX12_sayingOn_68 : decode cX12_sayingOn 68 = .ok (.iadd, 1) := by decide +kernel
theorem dX12_sayingOn_69 : decode cX12_sayingOn 69 = .ok (.iaload, 1) := by decide +kernel
theorem dX12_sayingOn_70 : decode cX12_sayingOn 70 = .ok (.iastore, 1) := by decide +kernel
theorem dX12_sayingOn_71 : decode cX12_sayingOn 71 = .ok (.aload_n 0, 1) := by decide +kernel
theorem dX12_sayingOn_72 : decode cX12_sayingOn 72 = .ok (.getfield 168, 3) := by decide +kernel
theorem dX12_sayingOn_75 : decode cX12_sayingOn 75 = .ok (.iload_n 3, 1) := by decide +kernel
theorem dX12_sayingOn_76 : decode cX12_sayingOn 76 = .ok (.iload 5, 2) := by decide +kernel
theorem dX12_sayingOn_78 : decode cX12_sayingOn 78 = .ok (.sipush 255, 3) := by decide +kernel
theorem dX12_sayingOn_81 : decode cX12_sayingOn 81 = .ok (.if_icmp .ne 7, 3) := by decide +kernel
theorem dX12_sayingOn_84 : decode cX12_sayingOn 84 = .ok (.iconst (-1), 1) := by decide +kernel
theorem dX12_sayingOn_85 : decode cX12_sayingOn 85 = .ok (.goto 5, 3) := by decide +kernel
theorem dX12_sayingOn_88 : decode cX12_sayingOn 88 = .ok (.iload 5, 2) := by decide +kernel
theorem dX12_sayingOn_90 : decode cX12_sayingOn 90 = .ok (.iastore, 1) := by decide +kernel
theorem dX12_sayingOn_91 : decode cX12_sayingOn 91 = .ok (.aload_n 0, 1) := by decide +kernel
theorem dX12_sayingOn_92 : decode cX12_sayingOn 92 = .ok (.getfield 171, 3) := by decide +kernel
theorem dX12_sayingOn_95 : decode cX12_sayingOn 95 = .ok (.iload_n 3, 1) := by decide +kernel
theorem dX12_sayingOn_96 : decode cX12_sayingOn 96 = .ok (.aload_n 0, 1) := by decide +kernel
theorem dX12_sayingOn_97 : decode cX12_sayingOn 97 = .ok (.getfield 7, 3) := by decide +kernel
theorem dX12_sayingOn_100 : decode cX12_sayingOn 100 = .ok (.iload_n 2, 1) := by decide +kernel
theorem dX12_sayingOn_101 : decode cX12_sayingOn 101 = .ok (.iconst 5, 1) := by decide +kernel
theorem dX12_sayingOn_102 : decode cX12_sayingOn 102 = .ok (.iadd, 1) := by decide +kernel
theorem dX12_sayingOn_103 : decode cX12_sayingOn 103 = .ok (.iaload, 1) := by decide +kernel
theorem dX12_sayingOn_104 : decode cX12_sayingOn 104 = .ok (.iastore, 1) := by decide +kernel
theorem dX12_sayingOn_105 : decode cX12_sayingOn 105 = .ok (.aload_n 0, 1) := by decide +kernel
theorem dX12_sayingOn_106 : decode cX12_sayingOn 106 = .ok (.getfield 174, 3) := by decide +kernel
theorem dX12_sayingOn_109 : decode cX12_sayingOn 109 = .ok (.iconst 1, 1) := by decide +kernel
theorem dX12_sayingOn_110 : decode cX12_sayingOn 110 = .ok (.dup2, 1) := by decide +kernel
theorem dX12_sayingOn_111 : decode cX12_sayingOn 111 = .ok (.iaload, 1) := by decide +kernel
theorem dX12_sayingOn_112 : decode cX12_sayingOn 112 = .ok (.aload_n 0, 1) := by decide +kernel
theorem dX12_sayingOn_113 : decode cX12_sayingOn 113 = .ok (.getfield 7, 3) := by decide +kernel
theorem dX12_sayingOn_116 : decode cX12_sayingOn 116 = .ok (.iload_n 2, 1) := by decide +kernel
theorem dX12_sayingOn_117 : decode cX12_sayingOn 117 = .ok (.bipush 6, 2) := by decide +kernel
theorem dX12_sayingOn_119 : decode cX12_sayingOn 119 = .ok (.iadd, 1) := by decide +kernel
theorem dX12_sayingOn_120 : decode cX12_sayingOn 120 = .ok (.iaload, 1) := by decide +kernel
theorem dX12_sayingOn_121 : decode cX12_sayingOn 121 = .ok (.iconst 1, 1) := by decide +kernel
theorem dX12_sayingOn_122 : decode cX12_sayingOn 122 = .ok (.if_icmp .ne 9, 3) := by decide +kernel
theorem dX12_sayingOn_125 : decode cX12_sayingOn 125 = .ok (.iconst 1, 1) := by decide +kernel
theorem dX12_sayingOn_126 : decode cX12_sayingOn 126 = .ok (.iload_n 1, 1) := by decide +kernel
theorem dX12_sayingOn_127 : decode cX12_sayingOn 127 = .ok (.ishl, 1) := by decide +kernel
theorem dX12_sayingOn_128 : decode cX12_sayingOn 128 = .ok (.goto 4, 3) := by decide +kernel
theorem dX12_sayingOn_131 : decode cX12_sayingOn 131 = .ok (.iconst 0, 1) := by decide +kernel
theorem dX12_sayingOn_132 : decode cX12_sayingOn 132 = .ok (.ior, 1) := by decide +kernel
theorem dX12_sayingOn_133 : decode cX12_sayingOn 133 = .ok (.iastore, 1) := by decide +kernel
theorem dX12_sayingOn_134 : decode cX12_sayingOn 134 = .ok (.iload 4, 2) := by decide +kernel
theorem dX12_sayingOn_136 : decode cX12_sayingOn 136 = .ok (.iconst 5, 1) := by decide +kernel
theorem dX12_sayingOn_137 : decode cX12_sayingOn 137 = .ok (.if_icmp .gt 53, 3) := by decide +kernel
theorem dX12_sayingOn_140 : decode cX12_sayingOn 140 = .ok (.aload_n 0, 1) := by decide +kernel
theorem dX12_sayingOn_141 : decode cX12_sayingOn 141 = .ok (.getfield 162, 3) := by decide +kernel
theorem dX12_sayingOn_144 : decode cX12_sayingOn 144 = .ok (.iload_n 3, 1) := by decide +kernel
theorem dX12_sayingOn_145 : decode cX12_sayingOn 145 = .ok (.iaload, 1) := by decide +kernel
theorem dX12_sayingOn_146 : decode cX12_sayingOn 146 = .ok (.sipush 999, 3) := by decide +kernel
theorem dX12_sayingOn_149 : decode cX12_sayingOn 149 = .ok (.if_icmp .gt 41, 3) := by decide +kernel
theorem dX12_sayingOn_152 : decode cX12_sayingOn 152 = .ok (.aload_n 0, 1) := by decide +kernel
theorem dX12_sayingOn_153 : decode cX12_sayingOn 153 = .ok (.getfield 165, 3) := by decide +kernel
theorem dX12_sayingOn_156 : decode cX12_sayingOn 156 = .ok (.iload_n 3, 1) := by decide +kernel
theorem dX12_sayingOn_157 : decode cX12_sayingOn 157 = .ok (.iaload, 1) := by decide +kernel
theorem dX12_sayingOn_158 : decode cX12_sayingOn 158 = .ok (.bipush 99, 2) := by decide +kernel
theorem dX12_sayingOn_160 : decode cX12_sayingOn 160 = .ok (.if_icmp .gt 30, 3) := by decide +kernel
theorem dX12_sayingOn_163 : decode cX12_sayingOn 163 = .ok (.aload_n 0, 1) := by decide +kernel
theorem dX12_sayingOn_164 : decode cX12_sayingOn 164 = .ok (.getfield 7, 3) := by decide +kernel
theorem dX12_sayingOn_167 : decode cX12_sayingOn 167 = .ok (.iload_n 2, 1) := by decide +kernel
theorem dX12_sayingOn_168 : decode cX12_sayingOn 168 = .ok (.bipush 6, 2) := by decide +kernel
theorem dX12_sayingOn_170 : decode cX12_sayingOn 170 = .ok (.iadd, 1) := by decide +kernel
theorem dX12_sayingOn_171 : decode cX12_sayingOn 171 = .ok (.iaload, 1) := by decide +kernel
theorem dX12_sayingOn_172 : decode cX12_sayingOn 172 = .ok (.iconst 1, 1) := by decide +kernel
theorem dX12_sayingOn_173 : decode cX12_sayingOn 173 = .ok (.if_icmp .gt 17, 3) := by decide +kernel
theorem dX12_sayingOn_176 : decode cX12_sayingOn 176 = .ok (.iload 4, 2) := by decide +kernel
theorem dX12_sayingOn_178 : decode cX12_sayingOn 178 = .ok (.ifCond .ne 14, 3) := by decide +kernel
theorem dX12_sayingOn_181 : decode cX12_sayingOn 181 = .ok (.aload_n 0, 1) := by decide +kernel
theorem dX12_sayingOn_182 : decode cX12_sayingOn 182 = .ok (.getfield 165, 3) := by decide +kernel
theorem dX12_sayingOn_185 : decode cX12_sayingOn 185 = .ok (.iload_n 3, 1) := by decide +kernel
theorem dX12_sayingOn_186 : decode cX12_sayingOn 186 = .ok (.iaload, 1) := by decide +kernel
theorem dX12_sayingOn_187 : decode cX12_sayingOn 187 = .ok (.ifCond .le 5, 3) := by decide +kernel
theorem dX12_sayingOn_190 : decode cX12_sayingOn 190 = .ok (.iconst 0, 1) := by decide +kernel
theorem dX12_sayingOn_191 : decode cX12_sayingOn 191 = .ok (.ireturn, 1) := by decide +kernel
theorem dX12_sayingOn_192 : decode cX12_sayingOn 192 = .ok (.iload 4, 2) := by decide +kernel
theorem dX12_sayingOn_194 : decode cX12_sayingOn 194 = .ok (.iconst 2, 1) := by decide +kernel
theorem dX12_sayingOn_195 : decode cX12_sayingOn 195 = .ok (.if_icmp .ne 69, 3) := by decide +kernel
theorem dX12_sayingOn_198 : decode cX12_sayingOn 198 = .ok (.aload_n 0, 1) := by decide +kernel
theorem dX12_sayingOn_199 : decode cX12_sayingOn 199 = .ok (.iload 5, 2) := by decide +kernel
theorem dX12_sayingOn_201 : decode cX12_sayingOn 201 = .ok (.invokevirtual 462, 3) := by decide +kernel
theorem dX12_sayingOn_204 : decode cX12_sayingOn 204 = .ok (.ifCond .eq 58, 3) := by decide +kernel
theorem dX12_sayingOn_207 : decode cX12_sayingOn 207 = .ok (.aload_n 0, 1) := by decide +kernel
theorem dX12_sayingOn_208 : decode cX12_sayingOn 208 = .ok (.getfield 156, 3) := by decide +kernel
theorem dX12_sayingOn_211 : decode cX12_sayingOn 211 = .ok (.iconst 1, 1) := by decide +kernel
theorem dX12_sayingOn_212 : decode cX12_sayingOn 212 = .ok (.iaload, 1) := by decide +kernel
theorem dX12_sayingOn_213 : decode cX12_sayingOn 213 = .ok (.iload 5, 2) := by decide +kernel
theorem dX12_sayingOn_215 : decode cX12_sayingOn 215 = .ok (.invokestatic 428, 3) := by decide +kernel
theorem dX12_sayingOn_218 : decode cX12_sayingOn 218 = .ok (.ifCond .ne 44, 3) := by decide +kernel
theorem dX12_sayingOn_221 : decode cX12_sayingOn 221 = .ok (.aload_n 0, 1) := by decide +kernel
theorem dX12_sayingOn_222 : decode cX12_sayingOn 222 = .ok (.iload_n 1, 1) := by decide +kernel
theorem dX12_sayingOn_223 : decode cX12_sayingOn 223 = .ok (.iload 5, 2) := by decide +kernel
theorem dX12_sayingOn_225 : decode cX12_sayingOn 225 = .ok (.invokevirtual 523, 3) := by decide +kernel
theorem dX12_sayingOn_228 : decode cX12_sayingOn 228 = .ok (.ifCond .eq 34, 3) := by decide +kernel
theorem dX12_sayingOn_231 : decode cX12_sayingOn 231 = .ok (.aload_n 0, 1) := by decide +kernel
theorem dX12_sayingOn_232 : decode cX12_sayingOn 232 = .ok (.getfield 171, 3) := by decide +kernel
theorem dX12_sayingOn_235 : decode cX12_sayingOn 235 = .ok (.iload_n 3, 1) := by decide +kernel
theorem dX12_sayingOn_236 : decode cX12_sayingOn 236 = .ok (.iaload, 1) := by decide +kernel
theorem dX12_sayingOn_237 : decode cX12_sayingOn 237 = .ok (.iconst 1, 1) := by decide +kernel
theorem dX12_sayingOn_238 : decode cX12_sayingOn 238 = .ok (.aload_n 0, 1) := by decide +kernel
theorem dX12_sayingOn_239 : decode cX12_sayingOn 239 = .ok (.getfield 78, 3) := by decide +kernel
theorem dX12_sayingOn_242 : decode cX12_sayingOn 242 = .ok (.bipush 12, 2) := by decide +kernel
theorem dX12_sayingOn_244 : decode cX12_sayingOn 244 = .ok (.aload_n 0, 1) := by decide +kernel
theorem dX12_sayingOn_245 : decode cX12_sayingOn 245 = .ok (.getfield 51, 3) := by decide +kernel
theorem dX12_sayingOn_248 : decode cX12_sayingOn 248 = .ok (.imul, 1) := by decide +kernel
theorem dX12_sayingOn_249 : decode cX12_sayingOn 249 = .ok (.iload_n 1, 1) := by decide +kernel
theorem dX12_sayingOn_250 : decode cX12_sayingOn 250 = .ok (.iadd, 1) := by decide +kernel
theorem dX12_sayingOn_251 : decode cX12_sayingOn 251 = .ok (.iaload, 1) := by decide +kernel
theorem dX12_sayingOn_252 : decode cX12_sayingOn 252 = .ok (.invokestatic 303, 3) := by decide +kernel
theorem dX12_sayingOn_255 : decode cX12_sayingOn 255 = .ok (.ifCond .eq 7, 3) := by decide +kernel
theorem dX12_sayingOn_258 : decode cX12_sayingOn 258 = .ok (.iconst 1, 1) := by decide +kernel
theorem dX12_sayingOn_259 : decode cX12_sayingOn 259 = .ok (.goto 4, 3) := by decide +kernel
theorem dX12_sayingOn_262 : decode cX12_sayingOn 262 = .ok (.iconst 0, 1) := by decide +kernel
theorem dX12_sayingOn_263 : decode cX12_sayingOn 263 = .ok (.ireturn, 1) := by decide +kernel
theorem dX12_sayingOn_264 : decode cX12_sayingOn 264 = .ok (.aload_n 0, 1) := by decide +kernel
theorem dX12_sayingOn_265 : decode cX12_sayingOn 265 = .ok (.getfield 171, 3) := by decide +kernel
theorem dX12_sayingOn_268 : decode cX12_sayingOn 268 = .ok (.iload_n 3, 1) := by decide +kernel
theorem dX12_sayingOn_269 : decode cX12_sayingOn 269 = .ok (.iaload, 1) := by decide +kernel
theorem dX12_sayingOn_270 : decode cX12_sayingOn 270 = .ok (.ifCond .eq 5, 3) := by decide +kernel
theorem dX12_sayingOn_273 : decode cX12_sayingOn 273 = .ok (.iconst 0, 1) := by decide +kernel
theorem dX12_sayingOn_274 : decode cX12_sayingOn 274 = .ok (.ireturn, 1) := by decide +kernel
theorem dX12_sayingOn_275 : decode cX12_sayingOn 275 = .ok (.iload 4, 2) := by decide +kernel
theorem dX12_sayingOn_277 : decode cX12_sayingOn 277 = .ok (.iconst 3, 1) := by decide +kernel
theorem dX12_sayingOn_278 : decode cX12_sayingOn 278 = .ok (.if_icmp .eq 9, 3) := by decide +kernel
theorem dX12_sayingOn_281 : decode cX12_sayingOn 281 = .ok (.iload 4, 2) := by decide +kernel
theorem dX12_sayingOn_283 : decode cX12_sayingOn 283 = .ok (.iconst 5, 1) := by decide +kernel
theorem dX12_sayingOn_284 : decode cX12_sayingOn 284 = .ok (.if_icmp .ne 12, 3) := by decide +kernel
theorem dX12_sayingOn_287 : decode cX12_sayingOn 287 = .ok (.aload_n 0, 1) := by decide +kernel
theorem dX12_sayingOn_288 : decode cX12_sayingOn 288 = .ok (.iload 5, 2) := by decide +kernel
theorem dX12_sayingOn_290 : decode cX12_sayingOn 290 = .ok (.invokevirtual 462, 3) := by decide +kernel
theorem dX12_sayingOn_293 : decode cX12_sayingOn 293 = .ok (.goto 28, 3) := by decide +kernel
theorem dX12_sayingOn_296 : decode cX12_sayingOn 296 = .ok (.iload 5, 2) := by decide +kernel
theorem dX12_sayingOn_298 : decode cX12_sayingOn 298 = .ok (.sipush 255, 3) := by decide +kernel
theorem dX12_sayingOn_301 : decode cX12_sayingOn 301 = .ok (.if_icmp .ne 19, 3) := by decide +kernel
theorem dX12_sayingOn_304 : decode cX12_sayingOn 304 = .ok (.aload_n 0, 1) := by decide +kernel
theorem dX12_sayingOn_305 : decode cX12_sayingOn 305 = .ok (.getfield 7, 3) := by decide +kernel
theorem dX12_sayingOn_308 : decode cX12_sayingOn 308 = .ok (.iload_n 2, 1) := by decide +kernel
theorem dX12_sayingOn_309 : decode cX12_sayingOn 309 = .ok (.bipush 6, 2) := by decide +kernel
theorem dX12_sayingOn_311 : decode cX12_sayingOn 311 = .ok (.iadd, 1) := by decide +kernel
theorem dX12_sayingOn_312 : decode cX12_sayingOn 312 = .ok (.iaload, 1) := by decide +kernel
theorem dX12_sayingOn_313 : decode cX12_sayingOn 313 = .ok (.ifCond .ne 7, 3) := by decide +kernel
theorem dX12_sayingOn_316 : decode cX12_sayingOn 316 = .ok (.iconst 1, 1) := by decide +kernel
theorem dX12_sayingOn_317 : decode cX12_sayingOn 317 = .ok (.goto 4, 3) := by decide +kernel
theorem dX12_sayingOn_320 : decode cX12_sayingOn 320 = .ok (.iconst 0, 1) := by decide +kernel
theorem dX12_sayingOn_321 : decode cX12_sayingOn 321 = .ok (.ireturn, 1) := by decide +kernel
theorem dX12_comesOn_0 : decode cX12_comesOn 0 = .ok (.iconst 2, 1) := by decide +kernel
theorem dX12_comesOn_1 : decode cX12_comesOn 1 = .ok (.iconst 3, 1) := by decide +kernel
theorem dX12_comesOn_2 : decode cX12_comesOn 2 = .ok (.aload_n 0, 1) := by decide +kernel
theorem dX12_comesOn_3 : decode cX12_comesOn 3 = .ok (.getfield 54, 3) := by decide +kernel
theorem dX12_comesOn_6 : decode cX12_comesOn 6 = .ok (.aload_n 0, 1) := by decide +kernel
theorem dX12_comesOn_7 : decode cX12_comesOn 7 = .ok (.getfield 51, 3) := by decide +kernel
theorem dX12_comesOn_10 : decode cX12_comesOn 10 = .ok (.iaload, 1) := by decide +kernel
theorem dX12_comesOn_11 : decode cX12_comesOn 11 = .ok (.imul, 1) := by decide +kernel
theorem dX12_comesOn_12 : decode cX12_comesOn 12 = .ok (.iadd, 1) := by decide +kernel
theorem dX12_comesOn_13 : decode cX12_comesOn 13 = .ok (.istore_n 2, 1) := by decide +kernel
theorem dX12_comesOn_14 : decode cX12_comesOn 14 = .ok (.iload_n 1, 1) := by decide +kernel
theorem dX12_comesOn_15 : decode cX12_comesOn 15 = .ok (.iload_n 2, 1) := by decide +kernel
theorem dX12_comesOn_16 : decode cX12_comesOn 16 = .ok (.bipush 7, 2) := by decide +kernel
theorem dX12_comesOn_18 : decode cX12_comesOn 18 = .ok (.aload_n 0, 1) := by decide +kernel
theorem dX12_comesOn_19 : decode cX12_comesOn 19 = .ok (.getfield 69, 3) := by decide +kernel
theorem dX12_comesOn_22 : decode cX12_comesOn 22 = .ok (.aload_n 0, 1) := by decide +kernel
theorem dX12_comesOn_23 : decode cX12_comesOn 23 = .ok (.getfield 51, 3) := by decide +kernel
theorem dX12_comesOn_26 : decode cX12_comesOn 26 = .ok (.iaload, 1) := by decide +kernel
theorem dX12_comesOn_27 : decode cX12_comesOn 27 = .ok (.imul, 1) := by decide +kernel
theorem dX12_comesOn_28 : decode cX12_comesOn 28 = .ok (.iadd, 1) := by decide +kernel
theorem dX12_comesOn_29 : decode cX12_comesOn 29 = .ok (.iconst 1, 1) := by decide +kernel
theorem dX12_comesOn_30 : decode cX12_comesOn 30 = .ok (.iadd, 1) := by decide +kernel
theorem dX12_comesOn_31 : decode cX12_comesOn 31 = .ok (.if_icmp .ne 25, 3) := by decide +kernel
theorem dX12_comesOn_34 : decode cX12_comesOn 34 = .ok (.aload_n 0, 1) := by decide +kernel
theorem dX12_comesOn_35 : decode cX12_comesOn 35 = .ok (.getfield 7, 3) := by decide +kernel
theorem dX12_comesOn_38 : decode cX12_comesOn 38 = .ok (.iconst 0, 1) := by decide +kernel
theorem dX12_comesOn_39 : decode cX12_comesOn 39 = .ok (.iaload, 1) := by decide +kernel
theorem dX12_comesOn_40 : decode cX12_comesOn 40 = .ok (.bipush 8, 2) := by decide +kernel
theorem dX12_comesOn_42 : decode cX12_comesOn 42 = .ok (.ishl, 1) := by decide +kernel
theorem dX12_comesOn_43 : decode cX12_comesOn 43 = .ok (.aload_n 0, 1) := by decide +kernel
theorem dX12_comesOn_44 : decode cX12_comesOn 44 = .ok (.getfield 7, 3) := by decide +kernel
theorem dX12_comesOn_47 : decode cX12_comesOn 47 = .ok (.iconst 1, 1) := by decide +kernel
theorem dX12_comesOn_48 : decode cX12_comesOn 48 = .ok (.iaload, 1) := by decide +kernel
theorem dX12_comesOn_49 : decode cX12_comesOn 49 = .ok (.ior, 1) := by decide +kernel
theorem dX12_comesOn_50 : decode cX12_comesOn 50 = .ok (.sipush 999, 3) := by decide +kernel
theorem dX12_comesOn_53 : decode cX12_comesOn 53 = .ok (.if_icmp .le 5, 3) := by decide +kernel
theorem dX12_comesOn_56 : decode cX12_comesOn 56 = .ok (.iconst 0, 1) := by decide +kernel
theorem dX12_comesOn_57 : decode cX12_comesOn 57 = .ok (.ireturn, 1) := by decide +kernel
theorem dX12_comesOn_58 : decode cX12_comesOn 58 = .ok (.sipush 199, 3) := by decide +kernel
theorem dX12_comesOn_61 : decode cX12_comesOn 61 = .ok (.istore_n 3, 1) := by decide +kernel
theorem dX12_comesOn_62 : decode cX12_comesOn 62 = .ok (.iconst 0, 1) := by decide +kernel
theorem dX12_comesOn_63 : decode cX12_comesOn 63 = .ok (.istore 4, 2) := by decide +kernel
theorem dX12_comesOn_65 : decode cX12_comesOn 65 = .ok (.iload 4, 2) := by decide +kernel
theorem dX12_comesOn_67 : decode cX12_comesOn 67 = .ok (.iload_n 1, 1) := by decide +kernel
theorem dX12_comesOn_68 : decode cX12_comesOn 68 = .ok (.iconst 1, 1) := by decide +kernel
theorem dX12_comesOn_69 : decode cX12_comesOn 69 = .ok (.isub, 1) := by decide +kernel
theorem dX12_comesOn_70 : decode cX12_comesOn 70 = .ok (.if_icmp .ge 25, 3) := by decide +kernel
theorem dX12_comesOn_73 : decode cX12_comesOn 73 = .ok (.iconst 5, 1) := by decide +kernel
theorem dX12_comesOn_74 : decode cX12_comesOn 74 = .ok (.iload_n 3, 1) := by decide +kernel
theorem dX12_comesOn_75 : decode cX12_comesOn 75 = .ok (.imul, 1) := by decide +kernel
theorem dX12_comesOn_76 : decode cX12_comesOn 76 = .ok (.aload_n 0, 1) := by decide +kernel
theorem dX12_comesOn_77 : decode cX12_comesOn 77 = .ok (.getfield 7, 3) := by decide +kernel
theorem dX12_comesOn_80 : decode cX12_comesOn 80 = .ok (.iload 4, 2) := by decide +kernel
theorem dX12_comesOn_82 : decode cX12_comesOn 82 = .ok (.iaload, 1) := by decide +kernel
theorem dX12_comesOn_83 : decode cX12_comesOn 83 = .ok (.iadd, 1) := by decide +kernel
theorem dX12_comesOn_84 : decode cX12_comesOn 84 = .ok (.sipush 251, 3) := by decide +kernel
theorem dX12_comesOn_87 : decode cX12_comesOn 87 = .ok (.irem, 1) := by decide +kernel
theorem dX12_comesOn_88 : decode cX12_comesOn 88 = .ok (.istore_n 3, 1) := by decide +kernel
theorem dX12_comesOn_89 : decode cX12_comesOn 89 = .ok (.iinc 4 1, 3) := by decide +kernel
theorem dX12_comesOn_92 : decode cX12_comesOn 92 = .ok (.goto (-27), 3) := by decide +kernel
theorem dX12_comesOn_95 : decode cX12_comesOn 95 = .ok (.aload_n 0, 1) := by decide +kernel
theorem dX12_comesOn_96 : decode cX12_comesOn 96 = .ok (.getfield 7, 3) := by decide +kernel
theorem dX12_comesOn_99 : decode cX12_comesOn 99 = .ok (.iload_n 1, 1) := by decide +kernel
theorem dX12_comesOn_100 : decode cX12_comesOn 100 = .ok (.iconst 1, 1) := by decide +kernel
theorem dX12_comesOn_101 : decode cX12_comesOn 101 = .ok (.isub, 1) := by decide +kernel
theorem dX12_comesOn_102 : decode cX12_comesOn 102 = .ok (.iaload, 1) := by decide +kernel
theorem dX12_comesOn_103 : decode cX12_comesOn 103 = .ok (.iload_n 3, 1) := by decide +kernel
theorem dX12_comesOn_104 : decode cX12_comesOn 104 = .ok (.if_icmp .eq 5, 3) := by decide +kernel
theorem dX12_comesOn_107 : decode cX12_comesOn 107 = .ok (.iconst 0, 1) := by decide +kernel
theorem dX12_comesOn_108 : decode cX12_comesOn 108 = .ok (.ireturn, 1) := by decide +kernel
theorem dX12_comesOn_109 : decode cX12_comesOn 109 = .ok (.aload_n 0, 1) := by decide +kernel
theorem dX12_comesOn_110 : decode cX12_comesOn 110 = .ok (.iconst 1, 1) := by decide +kernel
theorem dX12_comesOn_111 : decode cX12_comesOn 111 = .ok (.iconst 0, 1) := by decide +kernel
theorem dX12_comesOn_112 : decode cX12_comesOn 112 = .ok (.invokevirtual 396, 3) := by decide +kernel
theorem dX12_comesOn_115 : decode cX12_comesOn 115 = .ok (.aload_n 0, 1) := by decide +kernel
theorem dX12_comesOn_116 : decode cX12_comesOn 116 = .ok (.getfield 147, 3) := by decide +kernel
theorem dX12_comesOn_119 : decode cX12_comesOn 119 = .ok (.iconst 1, 1) := by decide +kernel
theorem dX12_comesOn_120 : decode cX12_comesOn 120 = .ok (.aload_n 0, 1) := by decide +kernel
theorem dX12_comesOn_121 : decode cX12_comesOn 121 = .ok (.getfield 7, 3) := by decide +kernel
theorem dX12_comesOn_124 : decode cX12_comesOn 124 = .ok (.iconst 0, 1) := by decide +kernel
theorem dX12_comesOn_125 : decode cX12_comesOn 125 = .ok (.iaload, 1) := by decide +kernel
theorem dX12_comesOn_126 : decode cX12_comesOn 126 = .ok (.bipush 8, 2) := by decide +kernel
theorem dX12_comesOn_128 : decode cX12_comesOn 128 = .ok (.ishl, 1) := by decide +kernel
theorem dX12_comesOn_129 : decode cX12_comesOn 129 = .ok (.aload_n 0, 1) := by decide +kernel
theorem dX12_comesOn_130 : decode cX12_comesOn 130 = .ok (.getfield 7, 3) := by decide +kernel
theorem dX12_comesOn_133 : decode cX12_comesOn 133 = .ok (.iconst 1, 1) := by decide +kernel
theorem dX12_comesOn_134 : decode cX12_comesOn 134 = .ok (.iaload, 1) := by decide +kernel
theorem dX12_comesOn_135 : decode cX12_comesOn 135 = .ok (.ior, 1) := by decide +kernel
theorem dX12_comesOn_136 : decode cX12_comesOn 136 = .ok (.iastore, 1) := by decide +kernel
theorem dX12_comesOn_137 : decode cX12_comesOn 137 = .ok (.aload_n 0, 1) := by decide +kernel
theorem dX12_comesOn_138 : decode cX12_comesOn 138 = .ok (.getfield 156, 3) := by decide +kernel
theorem dX12_comesOn_141 : decode cX12_comesOn 141 = .ok (.iconst 1, 1) := by decide +kernel
theorem dX12_comesOn_142 : decode cX12_comesOn 142 = .ok (.iconst 0, 1) := by decide +kernel
theorem dX12_comesOn_143 : decode cX12_comesOn 143 = .ok (.iastore, 1) := by decide +kernel
theorem dX12_comesOn_144 : decode cX12_comesOn 144 = .ok (.aload_n 0, 1) := by decide +kernel
theorem dX12_comesOn_145 : decode cX12_comesOn 145 = .ok (.getfield 174, 3) := by decide +kernel
theorem dX12_comesOn_148 : decode cX12_comesOn 148 = .ok (.iconst 1, 1) := by decide +kernel
theorem dX12_comesOn_149 : decode cX12_comesOn 149 = .ok (.iconst 0, 1) := by decide +kernel
theorem dX12_comesOn_150 : decode cX12_comesOn 150 = .ok (.iastore, 1) := by decide +kernel
theorem dX12_comesOn_151 : decode cX12_comesOn 151 = .ok (.aload_n 0, 1) := by decide +kernel
theorem dX12_comesOn_152 : decode cX12_comesOn 152 = .ok (.getfield 177, 3) := by decide +kernel
theorem dX12_comesOn_155 : decode cX12_comesOn 155 = .ok (.iconst 1, 1) := by decide +kernel
theorem dX12_comesOn_156 : decode cX12_comesOn 156 = .ok (.iconst 0, 1) := by decide +kernel
theorem dX12_comesOn_157 : decode cX12_comesOn 157 = .ok (.iastore, 1) := by decide +kernel
theorem dX12_comesOn_158 : decode cX12_comesOn 158 = .ok (.iconst 0, 1) := by decide +kernel
theorem dX12_comesOn_159 : decode cX12_comesOn 159 = .ok (.istore 4, 2) := by decide +kernel
theorem dX12_comesOn_161 : decode cX12_comesOn 161 = .ok (.iload 4, 2) := by decide +kernel
theorem dX12_comesOn_163 : decode cX12_comesOn 163 = .ok (.aload_n 0, 1) := by decide +kernel
theorem dX12_comesOn_164 : decode cX12_comesOn 164 = .ok (.getfield 54, 3) := by decide +kernel
theorem dX12_comesOn_167 : decode cX12_comesOn 167 = .ok (.aload_n 0, 1) := by decide +kernel
theorem dX12_comesOn_168 : decode cX12_comesOn 168 = .ok (.getfield 51, 3) := by decide +kernel
theorem dX12_comesOn_171 : decode cX12_comesOn 171 = .ok (.iaload, 1) := by decide +kernel
theorem dX12_comesOn_172 : decode cX12_comesOn 172 = .ok (.if_icmp .ge 26, 3) := by decide +kernel
theorem dX12_comesOn_175 : decode cX12_comesOn 175 = .ok (.aload_n 0, 1) := by decide +kernel
theorem dX12_comesOn_176 : decode cX12_comesOn 176 = .ok (.iload 4, 2) := by decide +kernel
theorem dX12_comesOn_178 : decode cX12_comesOn 178 = .ok (.iconst 2, 1) := by decide +kernel
theorem dX12_comesOn_179 : decode cX12_comesOn 179 = .ok (.iconst 3, 1) := by decide +kernel
theorem dX12_comesOn_180 : decode cX12_comesOn 180 = .ok (.iload 4, 2) := by decide +kernel
theorem dX12_comesOn_182 : decode cX12_comesOn 182 = .ok (.imul, 1) := by decide +kernel
theorem dX12_comesOn_183 : decode cX12_comesOn 183 = .ok (.iadd, 1) := by decide +kernel
theorem dX12_comesOn_184 : decode cX12_comesOn 184 = .ok (.invokevirtual 526, 3) := by decide +kernel
theorem dX12_comesOn_187 : decode cX12_comesOn 187 = .ok (.ifCond .ne 5, 3) := by decide +kernel
theorem dX12_comesOn_190 : decode cX12_comesOn 190 = .ok (.iconst 0, 1) := by decide +kernel
theorem dX12_comesOn_191 : decode cX12_comesOn 191 = .ok (.ireturn, 1) := by decide +kernel
theorem dX12_comesOn_192 : decode cX12_comesOn 192 = .ok (.iinc 4 1, 3) := by decide +kernel
theorem dX12_comesOn_195 : decode cX12_comesOn 195 = .ok (.goto (-34), 3) := by decide +kernel
theorem dX12_comesOn_198 : decode cX12_comesOn 198 = .ok (.iconst 0, 1) := by decide +kernel
theorem dX12_comesOn_199 : decode cX12_comesOn 199 = .ok (.istore 4, 2) := by decide +kernel
theorem dX12_comesOn_201 : decode cX12_comesOn 201 = .ok (.iload 4, 2) := by decide +kernel
theorem dX12_comesOn_203 : decode cX12_comesOn 203 = .ok (.aload_n 0, 1) := by decide +kernel
theorem dX12_comesOn_204 : decode cX12_comesOn 204 = .ok (.getfield 69, 3) := by decide +kernel
theorem dX12_comesOn_207 : decode cX12_comesOn 207 = .ok (.aload_n 0, 1) := by decide +kernel
theorem dX12_comesOn_208 : decode cX12_comesOn 208 = .ok (.getfield 51, 3) := by decide +kernel
theorem dX12_comesOn_211 : decode cX12_comesOn 211 = .ok (.iaload, 1) := by decide +kernel
theorem dX12_comesOn_212 : decode cX12_comesOn 212 = .ok (.if_icmp .ge 27, 3) := by decide +kernel
theorem dX12_comesOn_215 : decode cX12_comesOn 215 = .ok (.aload_n 0, 1) := by decide +kernel
theorem dX12_comesOn_216 : decode cX12_comesOn 216 = .ok (.iload 4, 2) := by decide +kernel
theorem dX12_comesOn_218 : decode cX12_comesOn 218 = .ok (.iload_n 2, 1) := by decide +kernel
theorem dX12_comesOn_219 : decode cX12_comesOn 219 = .ok (.bipush 7, 2) := by decide +kernel
theorem dX12_comesOn_221 : decode cX12_comesOn 221 = .ok (.iload 4, 2) := by decide +kernel
theorem dX12_comesOn_223 : decode cX12_comesOn 223 = .ok (.imul, 1) := by decide +kernel
theorem dX12_comesOn_224 : decode cX12_comesOn 224 = .ok (.iadd, 1) := by decide +kernel
theorem dX12_comesOn_225 : decode cX12_comesOn 225 = .ok (.invokevirtual 529, 3) := by decide +kernel
theorem dX12_comesOn_228 : decode cX12_comesOn 228 = .ok (.ifCond .ne 5, 3) := by decide +kernel
theorem dX12_comesOn_231 : decode cX12_comesOn 231 = .ok (.iconst 0, 1) := by decide +kernel
theorem dX12_comesOn_232 : decode cX12_comesOn 232 = .ok (.ireturn, 1) := by decide +kernel
theorem dX12_comesOn_233 : decode cX12_comesOn 233 = .ok (.iinc 4 1, 3) := by decide +kernel
theorem dX12_comesOn_236 : decode cX12_comesOn 236 = .ok (.goto (-35), 3) := by decide +kernel
theorem dX12_comesOn_239 : decode cX12_comesOn 239 = .ok (.iconst 1, 1) := by decide +kernel
theorem dX12_comesOn_240 : decode cX12_comesOn 240 = .ok (.ireturn, 1) := by decide +kernel
theorem dX12_on_0 : decode cX12_on 0 = .ok (.aload_n 0, 1) := by decide +kernel
theorem dX12_on_1 : decode cX12_on 1 = .ok (.getfield 13, 3) := by decide +kernel
theorem dX12_on_4 : decode cX12_on 4 = .ok (.istore_n 1, 1) := by decide +kernel
theorem dX12_on_5 : decode cX12_on 5 = .ok (.aload_n 0, 1) := by decide +kernel
theorem dX12_on_6 : decode cX12_on 6 = .ok (.iconst 0, 1) := by decide +kernel
theorem dX12_on_7 : decode cX12_on 7 = .ok (.putfield 13, 3) := by decide +kernel
theorem dX12_on_10 : decode cX12_on 10 = .ok (.aload_n 0, 1) := by decide +kernel
theorem dX12_on_11 : decode cX12_on 11 = .ok (.iload_n 1, 1) := by decide +kernel
theorem dX12_on_12 : decode cX12_on 12 = .ok (.invokevirtual 532, 3) := by decide +kernel
theorem dX12_on_15 : decode cX12_on 15 = .ok (.ifCond .ne 17, 3) := by decide +kernel
theorem dX12_on_18 : decode cX12_on 18 = .ok (.aload_n 0, 1) := by decide +kernel
theorem dX12_on_19 : decode cX12_on 19 = .ok (.iconst 5, 1) := by decide +kernel
theorem dX12_on_20 : decode cX12_on 20 = .ok (.invokevirtual 225, 3) := by decide +kernel
theorem dX12_on_23 : decode cX12_on 23 = .ok (.ifCond .lt 7, 3) := by decide +kernel
theorem dX12_on_26 : decode cX12_on 26 = .ok (.iconst 1, 1) := by decide +kernel
theorem dX12_on_27 : decode cX12_on 27 = .ok (.goto 4, 3) := by decide +kernel
theorem dX12_on_30 : decode cX12_on 30 = .ok (.iconst 0, 1) := by decide +kernel
theorem dX12_on_31 : decode cX12_on 31 = .ok (.ireturn, 1) := by decide +kernel
theorem dX12_on_32 : decode cX12_on 32 = .ok (.aload_n 0, 1) := by decide +kernel
theorem dX12_on_33 : decode cX12_on 33 = .ok (.iconst 0, 1) := by decide +kernel
theorem dX12_on_34 : decode cX12_on 34 = .ok (.iconst 1, 1) := by decide +kernel
theorem dX12_on_35 : decode cX12_on 35 = .ok (.invokevirtual 396, 3) := by decide +kernel
theorem dX12_on_38 : decode cX12_on 38 = .ok (.aload_n 0, 1) := by decide +kernel
theorem dX12_on_39 : decode cX12_on 39 = .ok (.iconst 0, 1) := by decide +kernel
theorem dX12_on_40 : decode cX12_on 40 = .ok (.putfield 186, 3) := by decide +kernel
theorem dX12_on_43 : decode cX12_on 43 = .ok (.iconst 1, 1) := by decide +kernel
theorem dX12_on_44 : decode cX12_on 44 = .ok (.ireturn, 1) := by decide +kernel
section
variable {p : Program} {l : Launch} {e : Env} {s : State} {m : MethodId} {args : Array Value} {below : List Frame} {meth : Method} {c : Code} {D : va_G} {E : Nat → ClassId} {b : Nat}
set_option maxHeartbeats 4000000 in
set_option maxRecDepth 20000 in
theorem w_m_image_L30_B72 (C : mCX p s m args meth c cX12_image 3 RX12 D E b) (hr : meth.sig.returnType = (some .int)) {r0 : Int} {M0 : Mem} {M : Mem} {v1 : Int} {s1 : Int} {q : Int × Mem} {rec : Int → Mem → Option (Int × Mem)} (hrec : ∀ (v1 : Int) (M : Mem), rec v1 M = some q → mWX p l e 2 33 s m args below meth c 3 D E b (some (vI r0)) M0 M 30 [(0, vR b 0), (1, vI v1)] []) (hfol : ∀ (v1 : Int) (M : Mem), q = (v1, M) → mWX p l e 2 33 s m args below meth c 3 D E b (some (vI r0)) M0 M 91 [(0, vR b 0)] []) (h : m_image_L30_B72 rec v1 s1 M = some q) :
    mWX p l e 2 33 s m args below meth c 3 D E b (some (vI r0)) M0 M 72 [(0, vR b 0), (1, vI v1)] [vI s1, vR b 0] := by
  unfold m_image_L30_B72 at h
  obtain ⟨M5, hq5, h⟩ := bnd_inv h
  refine r_callV (pc := 72) (rest := []) (st1 := []) C (mExtOK b) [vI s1] (c_m_writes l hq5) cl_RX12_520 m_s0 (by decide) rfl rfl rfl rfl ⟨Nat.le_of_ble_eq_true rfl, Nat.le_of_ble_eq_true rfl⟩ (Nat.le_of_ble_eq_true rfl) rfl rfl dX12_image_72 ?_
  refine r_aload_n (pc := 75) C 0 rfl rfl dX12_image_75 ?_
  refine r_aload_n (pc := 76) C 0 rfl rfl dX12_image_76 ?_
  refine r_getR (pc := 77) C fl_RX12_153 m_s0 (by decide) m_k46 m_r46 dX12_image_77 ?_
  refine r_iload_n (pc := 80) C 1 rfl rfl dX12_image_80 ?_
  obtain ⟨hi81, h⟩ := chk_inv h
  refine r_iald (pc := 81) C m_s27 (by decide) (by decide) hi81 rfl dX12_image_81 ?_
  obtain ⟨M6, hq6, h⟩ := bnd_inv h
  refine r_callV (pc := 82) (rest := []) (st1 := []) C (mExtOK b) [vI (M5 27 v1.toNat)] (c_m_writes l hq6) cl_RX12_520 m_s0 (by decide) rfl rfl rfl rfl ⟨Nat.le_of_ble_eq_true rfl, Nat.le_of_ble_eq_true rfl⟩ (Nat.le_of_ble_eq_true rfl) rfl rfl dX12_image_82 ?_
  obtain ⟨v1_85, hv1_85, h⟩ := lt_inv h
  refine r_iincN (pc := 85) (y := v1_85) (lv' := [(1, vI v1_85), (0, vR b 0)]) C 1 rfl hv1_85 dX12_image_85 (by decide) rfl ?_
  refine r_goto (pc := 88) (tgt := 30) C dX12_image_88 (by decide) ?_
  refine r_sub (lv' := [(0, vR b 0), (1, vI v1_85)]) [1, 0] rfl ?_
  exact hrec _ _ h
set_option maxHeartbeats 4000000 in
set_option maxRecDepth 20000 in
theorem w_m_image_L30_s (C : mCX p s m args meth c cX12_image 3 RX12 D E b) (hr : meth.sig.returnType = (some .int)) {r0 : Int} {M0 : Mem} {v1 : Int} {M : Mem} {q : Int × Mem} {rec : Int → Mem → Option (Int × Mem)} (hrec : ∀ (v1 : Int) (M : Mem), rec v1 M = some q → mWX p l e 2 33 s m args below meth c 3 D E b (some (vI r0)) M0 M 30 [(0, vR b 0), (1, vI v1)] []) (hfol : ∀ (v1 : Int) (M : Mem), q = (v1, M) → mWX p l e 2 33 s m args below meth c 3 D E b (some (vI r0)) M0 M 91 [(0, vR b 0)] []) (h : m_image_L30 rec v1 M = some q) :
    mWX p l e 2 33 s m args below meth c 3 D E b (some (vI r0)) M0 M 30 [(0, vR b 0), (1, vI v1)] [] := by
  unfold m_image_L30 at h
  refine r_iload_n (pc := 30) C 1 rfl rfl dX12_image_30 ?_
  refine r_aload_n (pc := 31) C 0 rfl rfl dX12_image_31 ?_
  refine r_getR (pc := 32) C fl_RX12_54 m_s0 (by decide) m_k14 m_r14 dX12_image_32 ?_
  refine r_aload_n (pc := 35) C 0 rfl rfl dX12_image_35 ?_
  refine r_getI (pc := 36) C fl_RX12_51 m_s0 (by decide) m_k13 dX12_image_36 ?_
  obtain ⟨hi39, h⟩ := chk_inv h
  refine r_iald (pc := 39) C m_s2 (by decide) (by decide) hi39 rfl dX12_image_39 ?_
  refine r_icmp_ge (pc := 40) (tgt := 91) C h dX12_image_40 (by decide) (fun hc40 h => ?_) (fun hc40 h => ?_)
  · refine r_sub (lv' := [(0, vR b 0)]) [0] rfl ?_
    exact hfol _ _ (Option.some.inj h).symm
  · refine r_aload_n (pc := 43) C 0 rfl rfl dX12_image_43 ?_
    refine r_aload_n (pc := 44) C 0 rfl rfl dX12_image_44 ?_
    refine r_getR (pc := 45) C fl_RX12_150 m_s0 (by decide) m_k45 m_r45 dX12_image_45 ?_
    refine r_iload_n (pc := 48) C 1 rfl rfl dX12_image_48 ?_
    obtain ⟨hi49, h⟩ := chk_inv h
    refine r_iald (pc := 49) C m_s26 (by decide) (by decide) hi49 rfl dX12_image_49 ?_
    obtain ⟨M3, hq3, h⟩ := bnd_inv h
    refine r_callV (pc := 50) (rest := []) (st1 := []) C (mExtOK b) [vI (M 26 v1.toNat)] (c_m_writes l hq3) cl_RX12_520 m_s0 (by decide) rfl rfl rfl rfl ⟨Nat.le_of_ble_eq_true rfl, Nat.le_of_ble_eq_true rfl⟩ (Nat.le_of_ble_eq_true rfl) rfl rfl dX12_image_50 ?_
    refine r_aload_n (pc := 53) C 0 rfl rfl dX12_image_53 ?_
    refine r_aload_n (pc := 54) C 0 rfl rfl dX12_image_54 ?_
    refine r_getR (pc := 55) C fl_RX12_156 m_s0 (by decide) m_k47 m_r47 dX12_image_55 ?_
    refine r_iconst (pc := 58) C dX12_image_58 ?_
    refine r_iald (pc := 59) C m_s28 (by decide) (by decide) (by decide) rfl dX12_image_59 ?_
    refine r_iload_n (pc := 60) C 1 rfl rfl dX12_image_60 ?_
    obtain ⟨r4, hq4, h⟩ := bnd_inv h
    refine r_callS (pc := 61) (rest := [vR b 0]) (st1 := [vB r4, vR b 0]) C (mExtOK b) [vI (M3 28 0), vI v1] (c_m_has2 l hq4) cl_RX12_428 rfl rfl ⟨Nat.le_of_ble_eq_true rfl, Nat.le_of_ble_eq_true rfl⟩ (Nat.le_of_ble_eq_true rfl) rfl rfl dX12_image_61 ?_
    refine r_if_eqB (pc := 64) (tgt := 71) C h dX12_image_64 (by decide) (fun hc64 h => ?_) (fun hc64 h => ?_)
    · refine r_iconst (pc := 67) C dX12_image_67 ?_
      refine r_goto (pc := 68) (tgt := 72) C dX12_image_68 (by decide) ?_
      refine r_sub (lv' := [(0, vR b 0), (1, vI v1)]) [0, 1] rfl ?_
      exact w_m_image_L30_B72 C hr hrec hfol h
    · refine r_iconst (pc := 71) C dX12_image_71 ?_
      refine r_sub (lv' := [(0, vR b 0), (1, vI v1)]) [0, 1] rfl ?_
      exact w_m_image_L30_B72 C hr hrec hfol h
set_option maxHeartbeats 4000000 in
theorem w_m_image_L30 (C : mCX p s m args meth c cX12_image 3 RX12 D E b) (hr : meth.sig.returnType = (some .int)) {r0 : Int} {M0 : Mem} {q : Int × Mem} (hfol : ∀ (v1 : Int) (M : Mem), q = (v1, M) → mWX p l e 2 33 s m args below meth c 3 D E b (some (vI r0)) M0 M 91 [(0, vR b 0)] []) : ∀ (n : Nat) (v1 : Int) (M : Mem), itr2 (m_image_L30) n v1 M = some q →
    mWX p l e 2 33 s m args below meth c 3 D E b (some (vI r0)) M0 M 30 [(0, vR b 0), (1, vI v1)] [] := by
  intro n
  induction n with
  | zero => exact fun _ _ h => itr_z h
  | succ n ih => exact fun _ _ h => w_m_image_L30_s C hr ih hfol h
set_option maxHeartbeats 4000000 in
set_option maxRecDepth 20000 in
theorem w_m_image_L93_s (C : mCX p s m args meth c cX12_image 3 RX12 D E b) (hr : meth.sig.returnType = (some .int)) {r0 : Int} {M0 : Mem} {v1 : Int} {M : Mem} {q : Int × Mem} {rec : Int → Mem → Option (Int × Mem)} (hrec : ∀ (v1 : Int) (M : Mem), rec v1 M = some q → mWX p l e 2 33 s m args below meth c 3 D E b (some (vI r0)) M0 M 93 [(0, vR b 0), (1, vI v1)] []) (hfol : ∀ (v1 : Int) (M : Mem), q = (v1, M) → mWX p l e 2 33 s m args below meth c 3 D E b (some (vI r0)) M0 M 197 [(0, vR b 0)] []) (h : m_image_L93 rec v1 M = some q) :
    mWX p l e 2 33 s m args below meth c 3 D E b (some (vI r0)) M0 M 93 [(0, vR b 0), (1, vI v1)] [] := by
  unfold m_image_L93 at h
  refine r_iload_n (pc := 93) C 1 rfl rfl dX12_image_93 ?_
  refine r_aload_n (pc := 94) C 0 rfl rfl dX12_image_94 ?_
  refine r_getR (pc := 95) C fl_RX12_69 m_s0 (by decide) m_k19 m_r19 dX12_image_95 ?_
  refine r_aload_n (pc := 98) C 0 rfl rfl dX12_image_98 ?_
  refine r_getI (pc := 99) C fl_RX12_51 m_s0 (by decide) m_k13 dX12_image_99 ?_
  obtain ⟨hi102, h⟩ := chk_inv h
  refine r_iald (pc := 102) C m_s7 (by decide) (by decide) hi102 rfl dX12_image_102 ?_
  refine r_icmp_ge (pc := 103) (tgt := 197) C h dX12_image_103 (by decide) (fun hc103 h => ?_) (fun hc103 h => ?_)
  · refine r_sub (lv' := [(0, vR b 0)]) [0] rfl ?_
    exact hfol _ _ (Option.some.inj h).symm
  · refine r_aload_n (pc := 106) C 0 rfl rfl dX12_image_106 ?_
    refine r_aload_n (pc := 107) C 0 rfl rfl dX12_image_107 ?_
    refine r_getR (pc := 108) C fl_RX12_159 m_s0 (by decide) m_k48 m_r48 dX12_image_108 ?_
    refine r_iload_n (pc := 111) C 1 rfl rfl dX12_image_111 ?_
    obtain ⟨hi112, h⟩ := chk_inv h
    refine r_iald (pc := 112) C m_s29 (by decide) (by decide) hi112 rfl dX12_image_112 ?_
    obtain ⟨M8, hq8, h⟩ := bnd_inv h
    refine r_callV (pc := 113) (rest := []) (st1 := []) C (mExtOK b) [vI (M 29 v1.toNat)] (c_m_writes l hq8) cl_RX12_520 m_s0 (by decide) rfl rfl rfl rfl ⟨Nat.le_of_ble_eq_true rfl, Nat.le_of_ble_eq_true rfl⟩ (Nat.le_of_ble_eq_true rfl) rfl rfl dX12_image_113 ?_
    refine r_aload_n (pc := 116) C 0 rfl rfl dX12_image_116 ?_
    refine r_aload_n (pc := 117) C 0 rfl rfl dX12_image_117 ?_
    refine r_getR (pc := 118) C fl_RX12_162 m_s0 (by decide) m_k49 m_r49 dX12_image_118 ?_
    refine r_iload_n (pc := 121) C 1 rfl rfl dX12_image_121 ?_
    obtain ⟨hi122, h⟩ := chk_inv h
    refine r_iald (pc := 122) C m_s30 (by decide) (by decide) hi122 rfl dX12_image_122 ?_
    refine r_bipush (pc := 123) (j := 8) C (by decide +kernel) dX12_image_123 ?_
    refine r_ishr (pc := 125) C dX12_image_125 ?_
    obtain ⟨M9, hq9, h⟩ := bnd_inv h
    refine r_callV (pc := 126) (rest := []) (st1 := []) C (mExtOK b) [vI (shr32 (M8 30 v1.toNat) 8)] (c_m_writes l hq9) cl_RX12_520 m_s0 (by decide) rfl rfl rfl rfl ⟨Nat.le_of_ble_eq_true rfl, Nat.le_of_ble_eq_true rfl⟩ (Nat.le_of_ble_eq_true rfl) rfl rfl dX12_image_126 ?_
    refine r_aload_n (pc := 129) C 0 rfl rfl dX12_image_129 ?_
    refine r_aload_n (pc := 130) C 0 rfl rfl dX12_image_130 ?_
    refine r_getR (pc := 131) C fl_RX12_162 m_s0 (by decide) m_k49 m_r49 dX12_image_131 ?_
    refine r_iload_n (pc := 134) C 1 rfl rfl dX12_image_134 ?_
    obtain ⟨hi135, h⟩ := chk_inv h
    refine r_iald (pc := 135) C m_s30 (by decide) (by decide) hi135 rfl dX12_image_135 ?_
    obtain ⟨M10, hq10, h⟩ := bnd_inv h
    refine r_callV (pc := 136) (rest := []) (st1 := []) C (mExtOK b) [vI (M9 30 v1.toNat)] (c_m_writes l hq10) cl_RX12_520 m_s0 (by decide) rfl rfl rfl rfl ⟨Nat.le_of_ble_eq_true rfl, Nat.le_of_ble_eq_true rfl⟩ (Nat.le_of_ble_eq_true rfl) rfl rfl dX12_image_136 ?_
    refine r_aload_n (pc := 139) C 0 rfl rfl dX12_image_139 ?_
    refine r_aload_n (pc := 140) C 0 rfl rfl dX12_image_140 ?_
    refine r_getR (pc := 141) C fl_RX12_165 m_s0 (by decide) m_k50 m_r50 dX12_image_141 ?_
    refine r_iload_n (pc := 144) C 1 rfl rfl dX12_image_144 ?_
    obtain ⟨hi145, h⟩ := chk_inv h
    refine r_iald (pc := 145) C m_s31 (by decide) (by decide) hi145 rfl dX12_image_145 ?_
    obtain ⟨M11, hq11, h⟩ := bnd_inv h
    refine r_callV (pc := 146) (rest := []) (st1 := []) C (mExtOK b) [vI (M10 31 v1.toNat)] (c_m_writes l hq11) cl_RX12_520 m_s0 (by decide) rfl rfl rfl rfl ⟨Nat.le_of_ble_eq_true rfl, Nat.le_of_ble_eq_true rfl⟩ (Nat.le_of_ble_eq_true rfl) rfl rfl dX12_image_146 ?_
    refine r_aload_n (pc := 149) C 0 rfl rfl dX12_image_149 ?_
    refine r_aload_n (pc := 150) C 0 rfl rfl dX12_image_150 ?_
    refine r_getR (pc := 151) C fl_RX12_168 m_s0 (by decide) m_k51 m_r51 dX12_image_151 ?_
    refine r_iload_n (pc := 154) C 1 rfl rfl dX12_image_154 ?_
    obtain ⟨hi155, h⟩ := chk_inv h
    refine r_iald (pc := 155) C m_s32 (by decide) (by decide) hi155 rfl dX12_image_155 ?_
    obtain ⟨M12, hq12, h⟩ := bnd_inv h
    refine r_callV (pc := 156) (rest := []) (st1 := []) C (mExtOK b) [vI (M11 32 v1.toNat)] (c_m_writes l hq12) cl_RX12_520 m_s0 (by decide) rfl rfl rfl rfl ⟨Nat.le_of_ble_eq_true rfl, Nat.le_of_ble_eq_true rfl⟩ (Nat.le_of_ble_eq_true rfl) rfl rfl dX12_image_156 ?_
    refine r_aload_n (pc := 159) C 0 rfl rfl dX12_image_159 ?_
    refine r_aload_n (pc := 160) C 0 rfl rfl dX12_image_160 ?_
    refine r_getR (pc := 161) C fl_RX12_171 m_s0 (by decide) m_k52 m_r52 dX12_image_161 ?_
    refine r_iload_n (pc := 164) C 1 rfl rfl dX12_image_164 ?_
    obtain ⟨hi165, h⟩ := chk_inv h
    refine r_iald (pc := 165) C m_s33 (by decide) (by decide) hi165 rfl dX12_image_165 ?_
    obtain ⟨M13, hq13, h⟩ := bnd_inv h
    refine r_callV (pc := 166) (rest := []) (st1 := []) C (mExtOK b) [vI (M12 33 v1.toNat)] (c_m_writes l hq13) cl_RX12_520 m_s0 (by decide) rfl rfl rfl rfl ⟨Nat.le_of_ble_eq_true rfl, Nat.le_of_ble_eq_true rfl⟩ (Nat.le_of_ble_eq_true rfl) rfl rfl dX12_image_166 ?_
    refine r_aload_n (pc := 169) C 0 rfl rfl dX12_image_169 ?_
    refine r_aload_n (pc := 170) C 0 rfl rfl dX12_image_170 ?_
    refine r_getR (pc := 171) C fl_RX12_174 m_s0 (by decide) m_k53 m_r53 dX12_image_171 ?_
    refine r_iconst (pc := 174) C dX12_image_174 ?_
    refine r_iald (pc := 175) C m_s34 (by decide) (by decide) (by decide) rfl dX12_image_175 ?_
    refine r_iload_n (pc := 176) C 1 rfl rfl dX12_image_176 ?_
    obtain ⟨r14, hq14, h⟩ := bnd_inv h
    refine r_callS (pc := 177) (rest := [vR b 0]) (st1 := [vB r14, vR b 0]) C (mExtOK b) [vI (M13 34 0), vI v1] (c_m_has2 l hq14) cl_RX12_428 rfl rfl ⟨Nat.le_of_ble_eq_true rfl, Nat.le_of_ble_eq_true rfl⟩ (Nat.le_of_ble_eq_true rfl) rfl rfl dX12_image_177 ?_
    refine r_if_eqB (pc := 180) (tgt := 187) C h dX12_image_180 (by decide) (fun hc180 h => ?_) (fun hc180 h => ?_)
    · refine r_iconst (pc := 183) C dX12_image_183 ?_
      refine r_goto (pc := 184) (tgt := 188) C dX12_image_184 (by decide) ?_
      obtain ⟨M16, hq16, h⟩ := bnd_inv h
      refine r_callV (pc := 188) (rest := []) (st1 := []) C (mExtOK b) [vI 1] (c_m_writes l hq16) cl_RX12_520 m_s0 (by decide) rfl rfl rfl rfl ⟨Nat.le_of_ble_eq_true rfl, Nat.le_of_ble_eq_true rfl⟩ (Nat.le_of_ble_eq_true rfl) rfl rfl dX12_image_188 ?_
      obtain ⟨v1_191, hv1_191, h⟩ := lt_inv h
      refine r_iincN (pc := 191) (y := v1_191) (lv' := [(1, vI v1_191), (0, vR b 0)]) C 1 rfl hv1_191 dX12_image_191 (by decide) rfl ?_
      refine r_goto (pc := 194) (tgt := 93) C dX12_image_194 (by decide) ?_
      refine r_sub (lv' := [(0, vR b 0), (1, vI v1_191)]) [1, 0] rfl ?_
      exact hrec _ _ h
    · refine r_iconst (pc := 187) C dX12_image_187 ?_
      obtain ⟨M15, hq15, h⟩ := bnd_inv h
      refine r_callV (pc := 188) (rest := []) (st1 := []) C (mExtOK b) [vI 0] (c_m_writes l hq15) cl_RX12_520 m_s0 (by decide) rfl rfl rfl rfl ⟨Nat.le_of_ble_eq_true rfl, Nat.le_of_ble_eq_true rfl⟩ (Nat.le_of_ble_eq_true rfl) rfl rfl dX12_image_188 ?_
      obtain ⟨v1_191, hv1_191, h⟩ := lt_inv h
      refine r_iincN (pc := 191) (y := v1_191) (lv' := [(1, vI v1_191), (0, vR b 0)]) C 1 rfl hv1_191 dX12_image_191 (by decide) rfl ?_
      refine r_goto (pc := 194) (tgt := 93) C dX12_image_194 (by decide) ?_
      refine r_sub (lv' := [(0, vR b 0), (1, vI v1_191)]) [1, 0] rfl ?_
      exact hrec _ _ h
set_option maxHeartbeats 4000000 in
theorem w_m_image_L93 (C : mCX p s m args meth c cX12_image 3 RX12 D E b) (hr : meth.sig.returnType = (some .int)) {r0 : Int} {M0 : Mem} {q : Int × Mem} (hfol : ∀ (v1 : Int) (M : Mem), q = (v1, M) → mWX p l e 2 33 s m args below meth c 3 D E b (some (vI r0)) M0 M 197 [(0, vR b 0)] []) : ∀ (n : Nat) (v1 : Int) (M : Mem), itr2 (m_image_L93) n v1 M = some q →
    mWX p l e 2 33 s m args below meth c 3 D E b (some (vI r0)) M0 M 93 [(0, vR b 0), (1, vI v1)] [] := by
  intro n
  induction n with
  | zero => exact fun _ _ h => itr_z h
  | succ n ih => exact fun _ _ h => w_m_image_L93_s C hr ih hfol h
set_option maxHeartbeats 4000000 in
set_option maxRecDepth 20000 in
theorem w_m_image_L203_s (C : mCX p s m args meth c cX12_image 3 RX12 D E b) (hr : meth.sig.returnType = (some .int)) {r0 : Int} {M0 : Mem} {M : Mem} {v1 : Int} {v2 : Int} {q : Int × Int} {rec : Int → Int → Option (Int × Int)} (hrec : ∀ (v1 : Int) (v2 : Int), rec v1 v2 = some q → mWX p l e 2 33 s m args below meth c 3 D E b (some (vI r0)) M0 M 203 [(0, vR b 0), (1, vI v1), (2, vI v2)] []) (hfol : ∀ (v1 : Int) (v2 : Int), q = (v1, v2) → mWX p l e 2 33 s m args below meth c 3 D E b (some (vI r0)) M0 M 232 [(0, vR b 0), (1, vI v1)] []) (h : m_image_L203 M rec v1 v2 = some q) :
    mWX p l e 2 33 s m args below meth c 3 D E b (some (vI r0)) M0 M 203 [(0, vR b 0), (1, vI v1), (2, vI v2)] [] := by
  unfold m_image_L203 at h
  refine r_iload_n (pc := 203) C 2 rfl rfl dX12_image_203 ?_
  refine r_aload_n (pc := 204) C 0 rfl rfl dX12_image_204 ?_
  refine r_getI (pc := 205) C fl_RX12_222 m_s0 (by decide) m_k69 dX12_image_205 ?_
  refine r_icmp_ge (pc := 208) (tgt := 232) C h dX12_image_208 (by decide) (fun hc208 h => ?_) (fun hc208 h => ?_)
  · refine r_sub (lv' := [(0, vR b 0), (1, vI v1)]) [0, 1] rfl ?_
    exact hfol _ _ (Option.some.inj h).symm
  · refine r_iconst (pc := 211) C dX12_image_211 ?_
    refine r_iload_n (pc := 212) C 1 rfl rfl dX12_image_212 ?_
    refine r_imul (pc := 213) C dX12_image_213 ?_
    refine r_aload_n (pc := 214) C 0 rfl rfl dX12_image_214 ?_
    refine r_getR (pc := 215) C fl_RX12_219 m_s0 (by decide) m_k68 m_r68 dX12_image_215 ?_
    refine r_iload_n (pc := 218) C 2 rfl rfl dX12_image_218 ?_
    obtain ⟨hi219, h⟩ := chk_inv h
    refine r_iald (pc := 219) C m_s45 (by decide) (by decide) hi219 rfl dX12_image_219 ?_
    refine r_iadd (pc := 220) C dX12_image_220 ?_
    refine r_sipush (pc := 221) (j := 251) C (by decide +kernel) dX12_image_221 ?_
    obtain ⟨hz224, h⟩ := chk_inv h
    refine r_irem (pc := 224) C hz224 dX12_image_224 ?_
    obtain ⟨v1_225, hv1_225, h⟩ := lt_inv h
    refine r_topI hv1_225 ?_
    refine r_istore_n (pc := 225) (lv' := [(1, vI v1_225), (0, vR b 0), (2, vI v2)]) C rfl dX12_image_225 (by decide) rfl ?_
    obtain ⟨v2_226, hv2_226, h⟩ := lt_inv h
    refine r_iincN (pc := 226) (y := v2_226) (lv' := [(2, vI v2_226), (1, vI v1_225), (0, vR b 0)]) C 2 rfl hv2_226 dX12_image_226 (by decide) rfl ?_
    refine r_goto (pc := 229) (tgt := 203) C dX12_image_229 (by decide) ?_
    refine r_sub (lv' := [(0, vR b 0), (1, vI v1_225), (2, vI v2_226)]) [2, 1, 0] rfl ?_
    exact hrec _ _ h
set_option maxHeartbeats 4000000 in
theorem w_m_image_L203 (C : mCX p s m args meth c cX12_image 3 RX12 D E b) (hr : meth.sig.returnType = (some .int)) {r0 : Int} {M0 : Mem} {M : Mem} {q : Int × Int} (hfol : ∀ (v1 : Int) (v2 : Int), q = (v1, v2) → mWX p l e 2 33 s m args below meth c 3 D E b (some (vI r0)) M0 M 232 [(0, vR b 0), (1, vI v1)] []) : ∀ (n : Nat) (v1 : Int) (v2 : Int), itr2 (m_image_L203 M) n v1 v2 = some q →
    mWX p l e 2 33 s m args below meth c 3 D E b (some (vI r0)) M0 M 203 [(0, vR b 0), (1, vI v1), (2, vI v2)] [] := by
  intro n
  induction n with
  | zero => exact fun _ _ h => itr_z h
  | succ n ih => exact fun _ _ h => w_m_image_L203_s C hr ih hfol h
set_option maxHeartbeats 4000000 in
set_option maxRecDepth 20000 in
theorem c_m_image (l : Launch) {M : Mem} {r0 : Int} {M0 : Mem} (h : m_image M = some (r0, M0)) : Ct l yX12_image cX12_image 3 (some .int) 2 33 vwCl mSh mN mRf mExt (fun b => [vR b 0]) M (fun b => (some (vI r0))) M0 := by
  refine Ct_of mExtOK (by decide) (fun b => Nat.le_of_ble_eq_true rfl) ?_
  intro p e s m args below meth c D E b C hr
  unfold m_image at h
  refine (show mWX p l e 2 33 s m args below meth c 3 D E b (some (vI r0)) M0 M 0 [(0, vR b 0)] [] from ?_)
  refine r_aload_n (pc := 0) C 0 rfl rfl dX12_image_0 ?_
  refine r_iconst (pc := 1) C dX12_image_1 ?_
  obtain ⟨M_2, hM_2, h⟩ := lt_inv h
  refine r_putI (pc := 2) C fl_RX12_222 mw_ft m_w69 m_s0 (by decide) m_k69 hM_2 dX12_image_2 ?_
  refine r_aload_n (pc := 5) C 0 rfl rfl dX12_image_5 ?_
  refine r_aload_n (pc := 6) C 0 rfl rfl dX12_image_6 ?_
  refine r_getR (pc := 7) C fl_RX12_147 m_s0 (by decide) m_k44 m_r44 dX12_image_7 ?_
  refine r_iconst (pc := 10) C dX12_image_10 ?_
  refine r_iald (pc := 11) C m_s25 (by decide) (by decide) (by decide) rfl dX12_image_11 ?_
  refine r_bipush (pc := 12) (j := 8) C (by decide +kernel) dX12_image_12 ?_
  refine r_ishr (pc := 14) C dX12_image_14 ?_
  obtain ⟨M1, hq1, h⟩ := bnd_inv h
  refine r_callV (pc := 15) (rest := []) (st1 := []) C (mExtOK b) [vI (shr32 (M_2 25 0) 8)] (c_m_writes l hq1) cl_RX12_520 m_s0 (by decide) rfl rfl rfl rfl ⟨Nat.le_of_ble_eq_true rfl, Nat.le_of_ble_eq_true rfl⟩ (Nat.le_of_ble_eq_true rfl) rfl rfl dX12_image_15 ?_
  refine r_aload_n (pc := 18) C 0 rfl rfl dX12_image_18 ?_
  refine r_aload_n (pc := 19) C 0 rfl rfl dX12_image_19 ?_
  refine r_getR (pc := 20) C fl_RX12_147 m_s0 (by decide) m_k44 m_r44 dX12_image_20 ?_
  refine r_iconst (pc := 23) C dX12_image_23 ?_
  refine r_iald (pc := 24) C m_s25 (by decide) (by decide) (by decide) rfl dX12_image_24 ?_
  obtain ⟨M2, hq2, h⟩ := bnd_inv h
  refine r_callV (pc := 25) (rest := []) (st1 := []) C (mExtOK b) [vI (M1 25 0)] (c_m_writes l hq2) cl_RX12_520 m_s0 (by decide) rfl rfl rfl rfl ⟨Nat.le_of_ble_eq_true rfl, Nat.le_of_ble_eq_true rfl⟩ (Nat.le_of_ble_eq_true rfl) rfl rfl dX12_image_25 ?_
  refine r_iconst (pc := 28) C dX12_image_28 ?_
  refine r_istore_n (pc := 29) (lv' := [(1, vI 0), (0, vR b 0)]) C rfl dX12_image_29 (by decide) rfl ?_
  refine r_sub (lv' := [(0, vR b 0), (1, vI 0)]) [1, 0] rfl ?_
  obtain ⟨q7, hl7, h⟩ := bnd_inv h
  refine w_m_image_L30 C hr (fun v1_7 M_7 hq => ?_) FUEL _ _ hl7
  have hq := hq.symm
  subst hq
  refine r_iconst (pc := 91) C dX12_image_91 ?_
  refine r_istore_n (pc := 92) (lv' := [(1, vI 0), (0, vR b 0)]) C rfl dX12_image_92 (by decide) rfl ?_
  refine r_sub (lv' := [(0, vR b 0), (1, vI 0)]) [1, 0] rfl ?_
  obtain ⟨q17, hl17, h⟩ := bnd_inv h
  refine w_m_image_L93 C hr (fun v1_17 M_17 hq => ?_) FUEL _ _ hl17
  have hq := hq.symm
  subst hq
  refine r_sipush (pc := 197) (j := 199) C (by decide +kernel) dX12_image_197 ?_
  refine r_istore_n (pc := 200) (lv' := [(1, vI 199), (0, vR b 0)]) C rfl dX12_image_200 (by decide) rfl ?_
  refine r_iconst (pc := 201) C dX12_image_201 ?_
  refine r_istore_n (pc := 202) (lv' := [(2, vI 0), (1, vI 199), (0, vR b 0)]) C rfl dX12_image_202 (by decide) rfl ?_
  refine r_sub (lv' := [(0, vR b 0), (1, vI 199), (2, vI 0)]) [2, 1, 0] rfl ?_
  obtain ⟨q18, hl18, h⟩ := bnd_inv h
  refine w_m_image_L203 C hr (fun v1_18 v2_18 hq => ?_) FUEL _ _ hl18
  have hq := hq.symm
  subst hq
  refine r_aload_n (pc := 232) C 0 rfl rfl dX12_image_232 ?_
  refine r_iload_n (pc := 233) C 1 rfl rfl dX12_image_233 ?_
  obtain ⟨M19, hq19, h⟩ := bnd_inv h
  refine r_callV (pc := 234) (rest := []) (st1 := []) C (mExtOK b) [vI v1_18] (c_m_writes l hq19) cl_RX12_520 m_s0 (by decide) rfl rfl rfl rfl ⟨Nat.le_of_ble_eq_true rfl, Nat.le_of_ble_eq_true rfl⟩ (Nat.le_of_ble_eq_true rfl) rfl rfl dX12_image_234 ?_
  refine r_aload_n (pc := 237) C 0 rfl rfl dX12_image_237 ?_
  refine r_getI (pc := 238) C fl_RX12_222 m_s0 (by decide) m_k69 dX12_image_238 ?_
  have e := Option.some.inj h
  exact r_iret (pc := 241) C hr (congrArg (fun z => some (vI z)) (Prod.mk.inj e).1.symm) (Prod.mk.inj e).2.symm dX12_image_241
set_option maxHeartbeats 4000000 in
set_option maxRecDepth 20000 in
theorem c_m_octet (l : Launch) {x1 : Int} {M : Mem} {r0 : Int} (h : m_octet x1 M = some r0) : Ct l yX12_octet cX12_octet 2 (some .int) 2 34 vwCl mSh mN mRf mExt (fun b => [vR b 0, vI x1]) M (fun b => (some (vI r0))) M := by
  refine Ct_of mExtOK (by decide) (fun b => Nat.le_of_ble_eq_true rfl) ?_
  intro p e s m args below meth c D E b C hr
  unfold m_octet at h
  refine (show mWX p l e 2 34 s m args below meth c 2 D E b (some (vI r0)) M M 0 [(0, vR b 0), (1, vI x1)] [] from ?_)
  refine r_iload_n (pc := 0) C 1 rfl rfl dX12_octet_0 ?_
  refine r_iconst (pc := 1) C dX12_octet_1 ?_
  refine r_aload_n (pc := 2) C 0 rfl rfl dX12_octet_2 ?_
  refine r_getI (pc := 3) C fl_RX12_222 m_s0 (by decide) m_k69 dX12_octet_3 ?_
  refine r_iconst (pc := 6) C dX12_octet_6 ?_
  refine r_isub (pc := 7) C dX12_octet_7 ?_
  obtain ⟨r1, hq1, h⟩ := bnd_inv h
  refine r_callS (pc := 8) (rest := []) (st1 := [vB r1]) C (mExtOK b) [vI x1, vI 0, vI ((M 0 69) - 1)] (c_m_is l hq1) cl_RX12_303 rfl rfl ⟨Nat.le_of_ble_eq_true rfl, Nat.le_of_ble_eq_true rfl⟩ (Nat.le_of_ble_eq_true rfl) rfl rfl dX12_octet_8 ?_
  refine r_if_eqB (pc := 11) (tgt := 23) C h dX12_octet_11 (by decide) (fun hc11 h => ?_) (fun hc11 h => ?_)
  · refine r_aload_n (pc := 14) C 0 rfl rfl dX12_octet_14 ?_
    refine r_getR (pc := 15) C fl_RX12_219 m_s0 (by decide) m_k68 m_r68 dX12_octet_15 ?_
    refine r_iload_n (pc := 18) C 1 rfl rfl dX12_octet_18 ?_
    obtain ⟨hi19, h⟩ := chk_inv h
    refine r_iald (pc := 19) C m_s45 (by decide) (by decide) hi19 rfl dX12_octet_19 ?_
    refine r_goto (pc := 20) (tgt := 24) C dX12_octet_20 (by decide) ?_
    have e := Option.some.inj h
    exact r_iret (pc := 24) C hr (congrArg (fun z => some (vI z)) e.symm) rfl dX12_octet_24
  · refine r_iconst (pc := 23) C dX12_octet_23 ?_
    have e := Option.some.inj h
    exact r_iret (pc := 24) C hr (congrArg (fun z => some (vI z)) e.symm) rfl dX12_octet_24
set_option maxHeartbeats 4000000 in
set_option maxRecDepth 20000 in
theorem w_m_voiceOn_B41 (C : mCX p s m args meth c cX12_voiceOn 3 RX12 D E b) (hr : meth.sig.returnType = (some .boolean)) {r0 : Bool} {M0 : Mem} {M : Mem} {v1 : Int} {v2 : Int} {s1 : Int} {s2 : Int} {s3 : Int} (h : m_voiceOn_B41 v1 v2 s1 s2 s3 M = some (r0, M0)) :
    mWX p l e 1 12 s m args below meth c 3 D E b (some (vB r0)) M0 M 41 [(0, vR b 0), (1, vI v1), (2, vI v2)] [vI s3, vI s2, vI s1, vR b 28] := by
  unfold m_voiceOn_B41 at h
  refine r_ior (pc := 41) C dX12_voiceOn_41 ?_
  obtain ⟨hi42, h⟩ := chk_inv h
  obtain ⟨M_42, hM_42, h⟩ := lt_inv h
  refine r_iast (pc := 42) C m_s28 (by decide) (by decide) hi42 rfl hM_42 dX12_voiceOn_42 ?_
  refine r_aload_n (pc := 43) C 0 rfl rfl dX12_voiceOn_43 ?_
  refine r_getR (pc := 44) C fl_RX12_153 m_s0 (by decide) m_k46 m_r46 dX12_voiceOn_44 ?_
  refine r_bipush (pc := 47) (j := 7) C (by decide +kernel) dX12_voiceOn_47 ?_
  refine r_iload_n (pc := 49) C 1 rfl rfl dX12_voiceOn_49 ?_
  refine r_iadd (pc := 50) C dX12_voiceOn_50 ?_
  refine r_aload_n (pc := 51) C 0 rfl rfl dX12_voiceOn_51 ?_
  refine r_getR (pc := 52) C fl_RX12_7 m_s0 (by decide) m_k0 m_r0 dX12_voiceOn_52 ?_
  refine r_iload_n (pc := 55) C 2 rfl rfl dX12_voiceOn_55 ?_
  refine r_iconst (pc := 56) C dX12_voiceOn_56 ?_
  refine r_iadd (pc := 57) C dX12_voiceOn_57 ?_
  obtain ⟨hi58, h⟩ := chk_inv h
  refine r_iald (pc := 58) C m_s1 (by decide) (by decide) hi58 rfl dX12_voiceOn_58 ?_
  obtain ⟨hi59, h⟩ := chk_inv h
  obtain ⟨M_59, hM_59, h⟩ := lt_inv h
  refine r_iast (pc := 59) C m_s27 (by decide) (by decide) hi59 rfl hM_59 dX12_voiceOn_59 ?_
  refine r_aload_n (pc := 60) C 0 rfl rfl dX12_voiceOn_60 ?_
  refine r_getR (pc := 61) C fl_RX12_7 m_s0 (by decide) m_k0 m_r0 dX12_voiceOn_61 ?_
  refine r_iload_n (pc := 64) C 2 rfl rfl dX12_voiceOn_64 ?_
  obtain ⟨hi65, h⟩ := chk_inv h
  refine r_iald (pc := 65) C m_s1 (by decide) (by decide) hi65 rfl dX12_voiceOn_65 ?_
  refine r_bipush (pc := 66) (j := 9) C (by decide +kernel) dX12_voiceOn_66 ?_
  refine r_icmp_gt (pc := 68) (tgt := 100) C h dX12_voiceOn_68 (by decide) (fun hc68 h => ?_) (fun hc68 h => ?_)
  · refine r_iconst (pc := 100) C dX12_voiceOn_100 ?_
    have e := Option.some.inj h
    exact r_zret (pc := 101) C hr (Or.inl rfl) (congrArg (fun z => some (vB z)) (Prod.mk.inj e).1.symm) (Prod.mk.inj e).2.symm dX12_voiceOn_101
  · refine r_aload_n (pc := 71) C 0 rfl rfl dX12_voiceOn_71 ?_
    refine r_getR (pc := 72) C fl_RX12_7 m_s0 (by decide) m_k0 m_r0 dX12_voiceOn_72 ?_
    refine r_iload_n (pc := 75) C 2 rfl rfl dX12_voiceOn_75 ?_
    refine r_iconst (pc := 76) C dX12_voiceOn_76 ?_
    refine r_iadd (pc := 77) C dX12_voiceOn_77 ?_
    obtain ⟨hi78, h⟩ := chk_inv h
    refine r_iald (pc := 78) C m_s1 (by decide) (by decide) hi78 rfl dX12_voiceOn_78 ?_
    refine r_iconst (pc := 79) C dX12_voiceOn_79 ?_
    refine r_icmp_gt (pc := 80) (tgt := 100) C h dX12_voiceOn_80 (by decide) (fun hc80 h => ?_) (fun hc80 h => ?_)
    · refine r_iconst (pc := 100) C dX12_voiceOn_100 ?_
      have e := Option.some.inj h
      exact r_zret (pc := 101) C hr (Or.inl rfl) (congrArg (fun z => some (vB z)) (Prod.mk.inj e).1.symm) (Prod.mk.inj e).2.symm dX12_voiceOn_101
    · refine r_aload_n (pc := 83) C 0 rfl rfl dX12_voiceOn_83 ?_
      refine r_getR (pc := 84) C fl_RX12_7 m_s0 (by decide) m_k0 m_r0 dX12_voiceOn_84 ?_
      refine r_iload_n (pc := 87) C 2 rfl rfl dX12_voiceOn_87 ?_
      refine r_iconst (pc := 88) C dX12_voiceOn_88 ?_
      refine r_iadd (pc := 89) C dX12_voiceOn_89 ?_
      obtain ⟨hi90, h⟩ := chk_inv h
      refine r_iald (pc := 90) C m_s1 (by decide) (by decide) hi90 rfl dX12_voiceOn_90 ?_
      refine r_bipush (pc := 91) (j := 99) C (by decide +kernel) dX12_voiceOn_91 ?_
      refine r_icmp_gt (pc := 93) (tgt := 100) C h dX12_voiceOn_93 (by decide) (fun hc93 h => ?_) (fun hc93 h => ?_)
      · refine r_iconst (pc := 100) C dX12_voiceOn_100 ?_
        have e := Option.some.inj h
        exact r_zret (pc := 101) C hr (Or.inl rfl) (congrArg (fun z => some (vB z)) (Prod.mk.inj e).1.symm) (Prod.mk.inj e).2.symm dX12_voiceOn_101
      · refine r_iconst (pc := 96) C dX12_voiceOn_96 ?_
        refine r_goto (pc := 97) (tgt := 101) C dX12_voiceOn_97 (by decide) ?_
        have e := Option.some.inj h
        exact r_zret (pc := 101) C hr (Or.inr rfl) (congrArg (fun z => some (vB z)) (Prod.mk.inj e).1.symm) (Prod.mk.inj e).2.symm dX12_voiceOn_101
set_option maxHeartbeats 4000000 in
set_option maxRecDepth 20000 in
theorem c_m_voiceOn (l : Launch) {x1 : Int} {x2 : Int} {M : Mem} {r0 : Bool} {M0 : Mem} (h : m_voiceOn x1 x2 M = some (r0, M0)) : Ct l yX12_voiceOn cX12_voiceOn 3 (some .boolean) 1 12 vwCl mSh mN mRf mExt (fun b => [vR b 0, vI x1, vI x2]) M (fun b => (some (vB r0))) M0 := by
  refine Ct_of mExtOK (by decide) (fun b => Nat.le_of_ble_eq_true rfl) ?_
  intro p e s m args below meth c D E b C hr
  unfold m_voiceOn at h
  refine (show mWX p l e 1 12 s m args below meth c 3 D E b (some (vB r0)) M0 M 0 [(0, vR b 0), (1, vI x1), (2, vI x2)] [] from ?_)
  refine r_aload_n (pc := 0) C 0 rfl rfl dX12_voiceOn_0 ?_
  refine r_getR (pc := 1) C fl_RX12_150 m_s0 (by decide) m_k45 m_r45 dX12_voiceOn_1 ?_
  refine r_bipush (pc := 4) (j := 7) C (by decide +kernel) dX12_voiceOn_4 ?_
  refine r_iload_n (pc := 6) C 1 rfl rfl dX12_voiceOn_6 ?_
  refine r_iadd (pc := 7) C dX12_voiceOn_7 ?_
  refine r_aload_n (pc := 8) C 0 rfl rfl dX12_voiceOn_8 ?_
  refine r_getR (pc := 9) C fl_RX12_7 m_s0 (by decide) m_k0 m_r0 dX12_voiceOn_9 ?_
  refine r_iload_n (pc := 12) C 2 rfl rfl dX12_voiceOn_12 ?_
  obtain ⟨hi13, h⟩ := chk_inv h
  refine r_iald (pc := 13) C m_s1 (by decide) (by decide) hi13 rfl dX12_voiceOn_13 ?_
  obtain ⟨hi14, h⟩ := chk_inv h
  obtain ⟨M_14, hM_14, h⟩ := lt_inv h
  refine r_iast (pc := 14) C m_s26 (by decide) (by decide) hi14 rfl hM_14 dX12_voiceOn_14 ?_
  refine r_aload_n (pc := 15) C 0 rfl rfl dX12_voiceOn_15 ?_
  refine r_getR (pc := 16) C fl_RX12_156 m_s0 (by decide) m_k47 m_r47 dX12_voiceOn_16 ?_
  refine r_iconst (pc := 19) C dX12_voiceOn_19 ?_
  refine r_dup2 (pc := 20) C rfl rfl dX12_voiceOn_20 ?_
  refine r_iald (pc := 21) C m_s28 (by decide) (by decide) (by decide) rfl dX12_voiceOn_21 ?_
  refine r_aload_n (pc := 22) C 0 rfl rfl dX12_voiceOn_22 ?_
  refine r_getR (pc := 23) C fl_RX12_7 m_s0 (by decide) m_k0 m_r0 dX12_voiceOn_23 ?_
  refine r_iload_n (pc := 26) C 2 rfl rfl dX12_voiceOn_26 ?_
  refine r_iconst (pc := 27) C dX12_voiceOn_27 ?_
  refine r_iadd (pc := 28) C dX12_voiceOn_28 ?_
  obtain ⟨hi29, h⟩ := chk_inv h
  refine r_iald (pc := 29) C m_s1 (by decide) (by decide) hi29 rfl dX12_voiceOn_29 ?_
  refine r_iconst (pc := 30) C dX12_voiceOn_30 ?_
  refine r_icmp_ne (pc := 31) (tgt := 40) C h dX12_voiceOn_31 (by decide) (fun hc31 h => ?_) (fun hc31 h => ?_)
  · refine r_iconst (pc := 40) C dX12_voiceOn_40 ?_
    refine r_sub (lv' := [(0, vR b 0), (1, vI x1), (2, vI x2)]) [0, 1, 2] rfl ?_
    exact w_m_voiceOn_B41 C hr h
  · refine r_iconst (pc := 34) C dX12_voiceOn_34 ?_
    refine r_iload_n (pc := 35) C 1 rfl rfl dX12_voiceOn_35 ?_
    refine r_ishl (pc := 36) C dX12_voiceOn_36 ?_
    refine r_goto (pc := 37) (tgt := 41) C dX12_voiceOn_37 (by decide) ?_
    refine r_sub (lv' := [(0, vR b 0), (1, vI x1), (2, vI x2)]) [0, 1, 2] rfl ?_
    exact w_m_voiceOn_B41 C hr h
set_option maxHeartbeats 4000000 in
set_option maxRecDepth 20000 in
theorem w_m_isAloneBy_L2_s (C : mCX p s m args meth c cX12_isAloneBy 4 RX12 D E b) (hr : meth.sig.returnType = (some .boolean)) {r0 : Bool} {v1 : Int} {v2 : Int} {M : Mem} {v3 : Int} {q : (Bool) ⊕ (Int)} {rec : Int → Option ((Bool) ⊕ (Int))} (hrec : ∀ (v3 : Int), rec v3 = some q → mWX p l e 1 12 s m args below meth c 4 D E b (some (vB r0)) M M 2 [(0, vR b 0), (1, vI v1), (2, vI v2), (3, vI v3)] []) (hret : ∀ r, q = .inl r → r = r0) (hfol : ∀ (v3 : Int), q = .inr v3 → mWX p l e 1 12 s m args below meth c 4 D E b (some (vB r0)) M M 41 [] []) (h : m_isAloneBy_L2 v1 v2 M rec v3 = some q) :
    mWX p l e 1 12 s m args below meth c 4 D E b (some (vB r0)) M M 2 [(0, vR b 0), (1, vI v1), (2, vI v2), (3, vI v3)] [] := by
  unfold m_isAloneBy_L2 at h
  refine r_iload_n (pc := 2) C 3 rfl rfl dX12_isAloneBy_2 ?_
  refine r_iload_n (pc := 3) C 1 rfl rfl dX12_isAloneBy_3 ?_
  refine r_icmp_ge (pc := 4) (tgt := 41) C h dX12_isAloneBy_4 (by decide) (fun hc4 h => ?_) (fun hc4 h => ?_)
  · refine r_sub (lv' := []) [] rfl ?_
    exact hfol _ (Option.some.inj h).symm
  · refine r_aload_n (pc := 7) C 0 rfl rfl dX12_isAloneBy_7 ?_
    refine r_getR (pc := 8) C fl_RX12_159 m_s0 (by decide) m_k48 m_r48 dX12_isAloneBy_8 ?_
    refine r_bipush (pc := 11) (j := 12) C (by decide +kernel) dX12_isAloneBy_11 ?_
    refine r_iload_n (pc := 13) C 3 rfl rfl dX12_isAloneBy_13 ?_
    refine r_iadd (pc := 14) C dX12_isAloneBy_14 ?_
    obtain ⟨hi15, h⟩ := chk_inv h
    refine r_iald (pc := 15) C m_s29 (by decide) (by decide) hi15 rfl dX12_isAloneBy_15 ?_
    refine r_iconst (pc := 16) C dX12_isAloneBy_16 ?_
    refine r_icmp_ne (pc := 17) (tgt := 35) C h dX12_isAloneBy_17 (by decide) (fun hc17 h => ?_) (fun hc17 h => ?_)
    · obtain ⟨v3_35, hv3_35, h⟩ := lt_inv h
      refine r_iincN (pc := 35) (y := v3_35) (lv' := [(3, vI v3_35), (0, vR b 0), (1, vI v1), (2, vI v2)]) C 3 rfl hv3_35 dX12_isAloneBy_35 (by decide) rfl ?_
      refine r_goto (pc := 38) (tgt := 2) C dX12_isAloneBy_38 (by decide) ?_
      refine r_sub (lv' := [(0, vR b 0), (1, vI v1), (2, vI v2), (3, vI v3_35)]) [1, 2, 3, 0] rfl ?_
      exact hrec _ h
    · refine r_aload_n (pc := 20) C 0 rfl rfl dX12_isAloneBy_20 ?_
      refine r_getR (pc := 21) C fl_RX12_168 m_s0 (by decide) m_k51 m_r51 dX12_isAloneBy_21 ?_
      refine r_bipush (pc := 24) (j := 12) C (by decide +kernel) dX12_isAloneBy_24 ?_
      refine r_iload_n (pc := 26) C 3 rfl rfl dX12_isAloneBy_26 ?_
      refine r_iadd (pc := 27) C dX12_isAloneBy_27 ?_
      obtain ⟨hi28, h⟩ := chk_inv h
      refine r_iald (pc := 28) C m_s32 (by decide) (by decide) hi28 rfl dX12_isAloneBy_28 ?_
      refine r_iload_n (pc := 29) C 2 rfl rfl dX12_isAloneBy_29 ?_
      refine r_icmp_ne (pc := 30) (tgt := 35) C h dX12_isAloneBy_30 (by decide) (fun hc30 h => ?_) (fun hc30 h => ?_)
      · obtain ⟨v3_35, hv3_35, h⟩ := lt_inv h
        refine r_iincN (pc := 35) (y := v3_35) (lv' := [(3, vI v3_35), (0, vR b 0), (1, vI v1), (2, vI v2)]) C 3 rfl hv3_35 dX12_isAloneBy_35 (by decide) rfl ?_
        refine r_goto (pc := 38) (tgt := 2) C dX12_isAloneBy_38 (by decide) ?_
        refine r_sub (lv' := [(0, vR b 0), (1, vI v1), (2, vI v2), (3, vI v3_35)]) [1, 2, 3, 0] rfl ?_
        exact hrec _ h
      · refine r_iconst (pc := 33) C dX12_isAloneBy_33 ?_
        have e := hret _ (Option.some.inj h).symm
        exact r_zret (pc := 34) C hr (Or.inl rfl) (congrArg (fun z => some (vB z)) e.symm) rfl dX12_isAloneBy_34
set_option maxHeartbeats 4000000 in
theorem w_m_isAloneBy_L2 (C : mCX p s m args meth c cX12_isAloneBy 4 RX12 D E b) (hr : meth.sig.returnType = (some .boolean)) {r0 : Bool} {v1 : Int} {v2 : Int} {M : Mem} {q : (Bool) ⊕ (Int)} (hret : ∀ r, q = .inl r → r = r0) (hfol : ∀ (v3 : Int), q = .inr v3 → mWX p l e 1 12 s m args below meth c 4 D E b (some (vB r0)) M M 41 [] []) : ∀ (n : Nat) (v3 : Int), itr1 (m_isAloneBy_L2 v1 v2 M) n v3 = some q →
    mWX p l e 1 12 s m args below meth c 4 D E b (some (vB r0)) M M 2 [(0, vR b 0), (1, vI v1), (2, vI v2), (3, vI v3)] [] := by
  intro n
  induction n with
  | zero => exact fun _ h => itr_z h
  | succ n ih => exact fun _ h => w_m_isAloneBy_L2_s C hr ih hret hfol h
set_option maxHeartbeats 4000000 in
set_option maxRecDepth 20000 in
theorem c_m_isAloneBy (l : Launch) {x1 : Int} {x2 : Int} {M : Mem} {r0 : Bool} (h : m_isAloneBy x1 x2 M = some r0) : Ct l yX12_isAloneBy cX12_isAloneBy 4 (some .boolean) 1 12 vwCl mSh mN mRf mExt (fun b => [vR b 0, vI x1, vI x2]) M (fun b => (some (vB r0))) M := by
  refine Ct_of mExtOK (by decide) (fun b => Nat.le_of_ble_eq_true rfl) ?_
  intro p e s m args below meth c D E b C hr
  unfold m_isAloneBy at h
  refine (show mWX p l e 1 12 s m args below meth c 4 D E b (some (vB r0)) M M 0 [(0, vR b 0), (1, vI x1), (2, vI x2)] [] from ?_)
  refine r_iconst (pc := 0) C dX12_isAloneBy_0 ?_
  refine r_istore_n (pc := 1) (lv' := [(3, vI 0), (0, vR b 0), (1, vI x1), (2, vI x2)]) C rfl dX12_isAloneBy_1 (by decide) rfl ?_
  refine r_sub (lv' := [(0, vR b 0), (1, vI x1), (2, vI x2), (3, vI 0)]) [1, 2, 3, 0] rfl ?_
  obtain ⟨q1, hl1, h⟩ := bnd_inv h
  refine w_m_isAloneBy_L2 C hr (fun r hq => ?_) (fun v3_1 hq => ?_) FUEL _ hl1
  · have hq := hq.symm
    subst hq
    exact Option.some.inj h
  · have hq := hq.symm
    subst hq
    refine r_iconst (pc := 41) C dX12_isAloneBy_41 ?_
    have e := Option.some.inj h
    exact r_zret (pc := 42) C hr (Or.inr rfl) (congrArg (fun z => some (vB z)) e.symm) rfl dX12_isAloneBy_42
set_option maxHeartbeats 4000000 in
set_option maxRecDepth 20000 in
theorem w_m_sayingOn_B287 (C : mCX p s m args meth c cX12_sayingOn 6 RX12 D E b) (hr : meth.sig.returnType = (some .boolean)) {r0 : Bool} {M0 : Mem} {M : Mem} {v5 : Int} (h : m_sayingOn_B287 v5 M = some (r0, M0)) :
    mWX p l e 2 35 s m args below meth c 6 D E b (some (vB r0)) M0 M 287 [(0, vR b 0), (5, vI v5)] [] := by
  unfold m_sayingOn_B287 at h
  refine r_aload_n (pc := 287) C 0 rfl rfl dX12_sayingOn_287 ?_
  refine r_iload (pc := 288) C 1 rfl dX12_sayingOn_288 ?_
  obtain ⟨r1, hq1, h⟩ := bnd_inv h
  refine r_callV (pc := 290) (rest := []) (st1 := [vB r1]) C (mExtOK b) [vI v5] (c_m_isVoice l hq1) cl_RX12_462 m_s0 (by decide) rfl rfl rfl rfl ⟨Nat.le_of_ble_eq_true rfl, Nat.le_of_ble_eq_true rfl⟩ (Nat.le_of_ble_eq_true rfl) rfl rfl dX12_sayingOn_290 ?_
  refine r_goto (pc := 293) (tgt := 321) C dX12_sayingOn_293 (by decide) ?_
  have e := Option.some.inj h
  exact r_zret (pc := 321) C hr (b2i01 _) (congrArg (fun z => some (vB z)) (Prod.mk.inj e).1.symm) (Prod.mk.inj e).2.symm dX12_sayingOn_321
set_option maxHeartbeats 4000000 in
set_option maxRecDepth 20000 in
theorem w_m_sayingOn_B192 (C : mCX p s m args meth c cX12_sayingOn 6 RX12 D E b) (hr : meth.sig.returnType = (some .boolean)) {r0 : Bool} {M0 : Mem} {M : Mem} {v1 : Int} {v2 : Int} {v3 : Int} {v4 : Int} {v5 : Int} (h : m_sayingOn_B192 v1 v2 v3 v4 v5 M = some (r0, M0)) :
    mWX p l e 2 35 s m args below meth c 6 D E b (some (vB r0)) M0 M 192 [(0, vR b 0), (1, vI v1), (2, vI v2), (3, vI v3), (4, vI v4), (5, vI v5)] [] := by
  unfold m_sayingOn_B192 at h
  refine r_iload (pc := 192) C 4 rfl dX12_sayingOn_192 ?_
  refine r_iconst (pc := 194) C dX12_sayingOn_194 ?_
  refine r_icmp_ne (pc := 195) (tgt := 264) C h dX12_sayingOn_195 (by decide) (fun hc195 h => ?_) (fun hc195 h => ?_)
  · refine r_aload_n (pc := 264) C 0 rfl rfl dX12_sayingOn_264 ?_
    refine r_getR (pc := 265) C fl_RX12_171 m_s0 (by decide) m_k52 m_r52 dX12_sayingOn_265 ?_
    refine r_iload_n (pc := 268) C 3 rfl rfl dX12_sayingOn_268 ?_
    obtain ⟨hi269, h⟩ := chk_inv h
    refine r_iald (pc := 269) C m_s33 (by decide) (by decide) hi269 rfl dX12_sayingOn_269 ?_
    refine r_if_eq (pc := 270) (tgt := 275) C h dX12_sayingOn_270 (by decide) (fun hc270 h => ?_) (fun hc270 h => ?_)
    · refine r_iload (pc := 275) C 4 rfl dX12_sayingOn_275 ?_
      refine r_iconst (pc := 277) C dX12_sayingOn_277 ?_
      refine r_icmp_eq (pc := 278) (tgt := 287) C h dX12_sayingOn_278 (by decide) (fun hc278 h => ?_) (fun hc278 h => ?_)
      · refine r_sub (lv' := [(0, vR b 0), (5, vI v5)]) [0, 5] rfl ?_
        exact w_m_sayingOn_B287 C hr h
      · refine r_iload (pc := 281) C 4 rfl dX12_sayingOn_281 ?_
        refine r_iconst (pc := 283) C dX12_sayingOn_283 ?_
        refine r_icmp_ne (pc := 284) (tgt := 296) C h dX12_sayingOn_284 (by decide) (fun hc284 h => ?_) (fun hc284 h => ?_)
        · refine r_iload (pc := 296) C 5 rfl dX12_sayingOn_296 ?_
          refine r_sipush (pc := 298) (j := 255) C (by decide +kernel) dX12_sayingOn_298 ?_
          refine r_icmp_ne (pc := 301) (tgt := 320) C h dX12_sayingOn_301 (by decide) (fun hc301 h => ?_) (fun hc301 h => ?_)
          · refine r_iconst (pc := 320) C dX12_sayingOn_320 ?_
            have e := Option.some.inj h
            exact r_zret (pc := 321) C hr (Or.inl rfl) (congrArg (fun z => some (vB z)) (Prod.mk.inj e).1.symm) (Prod.mk.inj e).2.symm dX12_sayingOn_321
          · refine r_aload_n (pc := 304) C 0 rfl rfl dX12_sayingOn_304 ?_
            refine r_getR (pc := 305) C fl_RX12_7 m_s0 (by decide) m_k0 m_r0 dX12_sayingOn_305 ?_
            refine r_iload_n (pc := 308) C 2 rfl rfl dX12_sayingOn_308 ?_
            refine r_bipush (pc := 309) (j := 6) C (by decide +kernel) dX12_sayingOn_309 ?_
            refine r_iadd (pc := 311) C dX12_sayingOn_311 ?_
            obtain ⟨hi312, h⟩ := chk_inv h
            refine r_iald (pc := 312) C m_s1 (by decide) (by decide) hi312 rfl dX12_sayingOn_312 ?_
            refine r_if_ne (pc := 313) (tgt := 320) C h dX12_sayingOn_313 (by decide) (fun hc313 h => ?_) (fun hc313 h => ?_)
            · refine r_iconst (pc := 320) C dX12_sayingOn_320 ?_
              have e := Option.some.inj h
              exact r_zret (pc := 321) C hr (Or.inl rfl) (congrArg (fun z => some (vB z)) (Prod.mk.inj e).1.symm) (Prod.mk.inj e).2.symm dX12_sayingOn_321
            · refine r_iconst (pc := 316) C dX12_sayingOn_316 ?_
              refine r_goto (pc := 317) (tgt := 321) C dX12_sayingOn_317 (by decide) ?_
              have e := Option.some.inj h
              exact r_zret (pc := 321) C hr (Or.inr rfl) (congrArg (fun z => some (vB z)) (Prod.mk.inj e).1.symm) (Prod.mk.inj e).2.symm dX12_sayingOn_321
        · refine r_sub (lv' := [(0, vR b 0), (5, vI v5)]) [0, 5] rfl ?_
          exact w_m_sayingOn_B287 C hr h
    · refine r_iconst (pc := 273) C dX12_sayingOn_273 ?_
      have e := Option.some.inj h
      exact r_zret (pc := 274) C hr (Or.inl rfl) (congrArg (fun z => some (vB z)) (Prod.mk.inj e).1.symm) (Prod.mk.inj e).2.symm dX12_sayingOn_274
  · refine r_aload_n (pc := 198) C 0 rfl rfl dX12_sayingOn_198 ?_
    refine r_iload (pc := 199) C 5 rfl dX12_sayingOn_199 ?_
    obtain ⟨r2, hq2, h⟩ := bnd_inv h
    refine r_callV (pc := 201) (rest := []) (st1 := [vB r2]) C (mExtOK b) [vI v5] (c_m_isVoice l hq2) cl_RX12_462 m_s0 (by decide) rfl rfl rfl rfl ⟨Nat.le_of_ble_eq_true rfl, Nat.le_of_ble_eq_true rfl⟩ (Nat.le_of_ble_eq_true rfl) rfl rfl dX12_sayingOn_201 ?_
    refine r_if_eqB (pc := 204) (tgt := 262) C h dX12_sayingOn_204 (by decide) (fun hc204 h => ?_) (fun hc204 h => ?_)
    · refine r_aload_n (pc := 207) C 0 rfl rfl dX12_sayingOn_207 ?_
      refine r_getR (pc := 208) C fl_RX12_156 m_s0 (by decide) m_k47 m_r47 dX12_sayingOn_208 ?_
      refine r_iconst (pc := 211) C dX12_sayingOn_211 ?_
      refine r_iald (pc := 212) C m_s28 (by decide) (by decide) (by decide) rfl dX12_sayingOn_212 ?_
      refine r_iload (pc := 213) C 5 rfl dX12_sayingOn_213 ?_
      obtain ⟨r3, hq3, h⟩ := bnd_inv h
      refine r_callS (pc := 215) (rest := []) (st1 := [vB r3]) C (mExtOK b) [vI (M 28 1), vI v5] (c_m_has2 l hq3) cl_RX12_428 rfl rfl ⟨Nat.le_of_ble_eq_true rfl, Nat.le_of_ble_eq_true rfl⟩ (Nat.le_of_ble_eq_true rfl) rfl rfl dX12_sayingOn_215 ?_
      refine r_if_neB (pc := 218) (tgt := 262) C h dX12_sayingOn_218 (by decide) (fun hc218 h => ?_) (fun hc218 h => ?_)
      · refine r_iconst (pc := 262) C dX12_sayingOn_262 ?_
        have e := Option.some.inj h
        exact r_zret (pc := 263) C hr (Or.inl rfl) (congrArg (fun z => some (vB z)) (Prod.mk.inj e).1.symm) (Prod.mk.inj e).2.symm dX12_sayingOn_263
      · refine r_aload_n (pc := 221) C 0 rfl rfl dX12_sayingOn_221 ?_
        refine r_iload_n (pc := 222) C 1 rfl rfl dX12_sayingOn_222 ?_
        refine r_iload (pc := 223) C 5 rfl dX12_sayingOn_223 ?_
        obtain ⟨r4, hq4, h⟩ := bnd_inv h
        refine r_callV (pc := 225) (rest := []) (st1 := [vB r4]) C (mExtOK b) [vI v1, vI v5] (c_m_isAloneBy l hq4) cl_RX12_523 m_s0 (by decide) rfl rfl rfl rfl ⟨Nat.le_of_ble_eq_true rfl, Nat.le_of_ble_eq_true rfl⟩ (Nat.le_of_ble_eq_true rfl) rfl rfl dX12_sayingOn_225 ?_
        refine r_if_eqB (pc := 228) (tgt := 262) C h dX12_sayingOn_228 (by decide) (fun hc228 h => ?_) (fun hc228 h => ?_)
        · refine r_aload_n (pc := 231) C 0 rfl rfl dX12_sayingOn_231 ?_
          refine r_getR (pc := 232) C fl_RX12_171 m_s0 (by decide) m_k52 m_r52 dX12_sayingOn_232 ?_
          refine r_iload_n (pc := 235) C 3 rfl rfl dX12_sayingOn_235 ?_
          obtain ⟨hi236, h⟩ := chk_inv h
          refine r_iald (pc := 236) C m_s33 (by decide) (by decide) hi236 rfl dX12_sayingOn_236 ?_
          refine r_iconst (pc := 237) C dX12_sayingOn_237 ?_
          refine r_aload_n (pc := 238) C 0 rfl rfl dX12_sayingOn_238 ?_
          refine r_getR (pc := 239) C fl_RX12_78 m_s0 (by decide) m_k22 m_r22 dX12_sayingOn_239 ?_
          refine r_bipush (pc := 242) (j := 12) C (by decide +kernel) dX12_sayingOn_242 ?_
          refine r_aload_n (pc := 244) C 0 rfl rfl dX12_sayingOn_244 ?_
          refine r_getI (pc := 245) C fl_RX12_51 m_s0 (by decide) m_k13 dX12_sayingOn_245 ?_
          refine r_imul (pc := 248) C dX12_sayingOn_248 ?_
          refine r_iload_n (pc := 249) C 1 rfl rfl dX12_sayingOn_249 ?_
          refine r_iadd (pc := 250) C dX12_sayingOn_250 ?_
          obtain ⟨hi251, h⟩ := chk_inv h
          refine r_iald (pc := 251) C m_s10 (by decide) (by decide) hi251 rfl dX12_sayingOn_251 ?_
          obtain ⟨r5, hq5, h⟩ := bnd_inv h
          refine r_callS (pc := 252) (rest := []) (st1 := [vB r5]) C (mExtOK b) [vI (M 33 v3.toNat), vI 1, vI (M 10 ((12 * (M 0 13)) + v1).toNat)] (c_m_is l hq5) cl_RX12_303 rfl rfl ⟨Nat.le_of_ble_eq_true rfl, Nat.le_of_ble_eq_true rfl⟩ (Nat.le_of_ble_eq_true rfl) rfl rfl dX12_sayingOn_252 ?_
          refine r_if_eqB (pc := 255) (tgt := 262) C h dX12_sayingOn_255 (by decide) (fun hc255 h => ?_) (fun hc255 h => ?_)
          · refine r_iconst (pc := 258) C dX12_sayingOn_258 ?_
            refine r_goto (pc := 259) (tgt := 263) C dX12_sayingOn_259 (by decide) ?_
            have e := Option.some.inj h
            exact r_zret (pc := 263) C hr (Or.inr rfl) (congrArg (fun z => some (vB z)) (Prod.mk.inj e).1.symm) (Prod.mk.inj e).2.symm dX12_sayingOn_263
          · refine r_iconst (pc := 262) C dX12_sayingOn_262 ?_
            have e := Option.some.inj h
            exact r_zret (pc := 263) C hr (Or.inl rfl) (congrArg (fun z => some (vB z)) (Prod.mk.inj e).1.symm) (Prod.mk.inj e).2.symm dX12_sayingOn_263
        · refine r_iconst (pc := 262) C dX12_sayingOn_262 ?_
          have e := Option.some.inj h
          exact r_zret (pc := 263) C hr (Or.inl rfl) (congrArg (fun z => some (vB z)) (Prod.mk.inj e).1.symm) (Prod.mk.inj e).2.symm dX12_sayingOn_263
    · refine r_iconst (pc := 262) C dX12_sayingOn_262 ?_
      have e := Option.some.inj h
      exact r_zret (pc := 263) C hr (Or.inl rfl) (congrArg (fun z => some (vB z)) (Prod.mk.inj e).1.symm) (Prod.mk.inj e).2.symm dX12_sayingOn_263
set_option maxHeartbeats 4000000 in
set_option maxRecDepth 20000 in
theorem w_m_sayingOn_B132 (C : mCX p s m args meth c cX12_sayingOn 6 RX12 D E b) (hr : meth.sig.returnType = (some .boolean)) {r0 : Bool} {M0 : Mem} {M : Mem} {v1 : Int} {v2 : Int} {v3 : Int} {v4 : Int} {v5 : Int} {s1 : Int} {s2 : Int} {s3 : Int} (h : m_sayingOn_B132 v1 v2 v3 v4 v5 s1 s2 s3 M = some (r0, M0)) :
    mWX p l e 2 35 s m args below meth c 6 D E b (some (vB r0)) M0 M 132 [(0, vR b 0), (1, vI v1), (2, vI v2), (3, vI v3), (4, vI v4), (5, vI v5)] [vI s3, vI s2, vI s1, vR b 34] := by
  unfold m_sayingOn_B132 at h
  refine r_ior (pc := 132) C dX12_sayingOn_132 ?_
  obtain ⟨hi133, h⟩ := chk_inv h
  obtain ⟨M_133, hM_133, h⟩ := lt_inv h
  refine r_iast (pc := 133) C m_s34 (by decide) (by decide) hi133 rfl hM_133 dX12_sayingOn_133 ?_
  refine r_iload (pc := 134) C 4 rfl dX12_sayingOn_134 ?_
  refine r_iconst (pc := 136) C dX12_sayingOn_136 ?_
  refine r_icmp_gt (pc := 137) (tgt := 190) C h dX12_sayingOn_137 (by decide) (fun hc137 h => ?_) (fun hc137 h => ?_)
  · refine r_iconst (pc := 190) C dX12_sayingOn_190 ?_
    have e := Option.some.inj h
    exact r_zret (pc := 191) C hr (Or.inl rfl) (congrArg (fun z => some (vB z)) (Prod.mk.inj e).1.symm) (Prod.mk.inj e).2.symm dX12_sayingOn_191
  · refine r_aload_n (pc := 140) C 0 rfl rfl dX12_sayingOn_140 ?_
    refine r_getR (pc := 141) C fl_RX12_162 m_s0 (by decide) m_k49 m_r49 dX12_sayingOn_141 ?_
    refine r_iload_n (pc := 144) C 3 rfl rfl dX12_sayingOn_144 ?_
    obtain ⟨hi145, h⟩ := chk_inv h
    refine r_iald (pc := 145) C m_s30 (by decide) (by decide) hi145 rfl dX12_sayingOn_145 ?_
    refine r_sipush (pc := 146) (j := 999) C (by decide +kernel) dX12_sayingOn_146 ?_
    refine r_icmp_gt (pc := 149) (tgt := 190) C h dX12_sayingOn_149 (by decide) (fun hc149 h => ?_) (fun hc149 h => ?_)
    · refine r_iconst (pc := 190) C dX12_sayingOn_190 ?_
      have e := Option.some.inj h
      exact r_zret (pc := 191) C hr (Or.inl rfl) (congrArg (fun z => some (vB z)) (Prod.mk.inj e).1.symm) (Prod.mk.inj e).2.symm dX12_sayingOn_191
    · refine r_aload_n (pc := 152) C 0 rfl rfl dX12_sayingOn_152 ?_
      refine r_getR (pc := 153) C fl_RX12_165 m_s0 (by decide) m_k50 m_r50 dX12_sayingOn_153 ?_
      refine r_iload_n (pc := 156) C 3 rfl rfl dX12_sayingOn_156 ?_
      obtain ⟨hi157, h⟩ := chk_inv h
      refine r_iald (pc := 157) C m_s31 (by decide) (by decide) hi157 rfl dX12_sayingOn_157 ?_
      refine r_bipush (pc := 158) (j := 99) C (by decide +kernel) dX12_sayingOn_158 ?_
      refine r_icmp_gt (pc := 160) (tgt := 190) C h dX12_sayingOn_160 (by decide) (fun hc160 h => ?_) (fun hc160 h => ?_)
      · refine r_iconst (pc := 190) C dX12_sayingOn_190 ?_
        have e := Option.some.inj h
        exact r_zret (pc := 191) C hr (Or.inl rfl) (congrArg (fun z => some (vB z)) (Prod.mk.inj e).1.symm) (Prod.mk.inj e).2.symm dX12_sayingOn_191
      · refine r_aload_n (pc := 163) C 0 rfl rfl dX12_sayingOn_163 ?_
        refine r_getR (pc := 164) C fl_RX12_7 m_s0 (by decide) m_k0 m_r0 dX12_sayingOn_164 ?_
        refine r_iload_n (pc := 167) C 2 rfl rfl dX12_sayingOn_167 ?_
        refine r_bipush (pc := 168) (j := 6) C (by decide +kernel) dX12_sayingOn_168 ?_
        refine r_iadd (pc := 170) C dX12_sayingOn_170 ?_
        obtain ⟨hi171, h⟩ := chk_inv h
        refine r_iald (pc := 171) C m_s1 (by decide) (by decide) hi171 rfl dX12_sayingOn_171 ?_
        refine r_iconst (pc := 172) C dX12_sayingOn_172 ?_
        refine r_icmp_gt (pc := 173) (tgt := 190) C h dX12_sayingOn_173 (by decide) (fun hc173 h => ?_) (fun hc173 h => ?_)
        · refine r_iconst (pc := 190) C dX12_sayingOn_190 ?_
          have e := Option.some.inj h
          exact r_zret (pc := 191) C hr (Or.inl rfl) (congrArg (fun z => some (vB z)) (Prod.mk.inj e).1.symm) (Prod.mk.inj e).2.symm dX12_sayingOn_191
        · refine r_iload (pc := 176) C 4 rfl dX12_sayingOn_176 ?_
          refine r_if_ne (pc := 178) (tgt := 192) C h dX12_sayingOn_178 (by decide) (fun hc178 h => ?_) (fun hc178 h => ?_)
          · refine r_sub (lv' := [(0, vR b 0), (1, vI v1), (2, vI v2), (3, vI v3), (4, vI v4), (5, vI v5)]) [0, 1, 2, 3, 4, 5] rfl ?_
            exact w_m_sayingOn_B192 C hr h
          · refine r_aload_n (pc := 181) C 0 rfl rfl dX12_sayingOn_181 ?_
            refine r_getR (pc := 182) C fl_RX12_165 m_s0 (by decide) m_k50 m_r50 dX12_sayingOn_182 ?_
            refine r_iload_n (pc := 185) C 3 rfl rfl dX12_sayingOn_185 ?_
            obtain ⟨hi186, h⟩ := chk_inv h
            refine r_iald (pc := 186) C m_s31 (by decide) (by decide) hi186 rfl dX12_sayingOn_186 ?_
            refine r_if_le (pc := 187) (tgt := 192) C h dX12_sayingOn_187 (by decide) (fun hc187 h => ?_) (fun hc187 h => ?_)
            · refine r_sub (lv' := [(0, vR b 0), (1, vI v1), (2, vI v2), (3, vI v3), (4, vI v4), (5, vI v5)]) [0, 1, 2, 3, 4, 5] rfl ?_
              exact w_m_sayingOn_B192 C hr h
            · refine r_iconst (pc := 190) C dX12_sayingOn_190 ?_
              have e := Option.some.inj h
              exact r_zret (pc := 191) C hr (Or.inl rfl) (congrArg (fun z => some (vB z)) (Prod.mk.inj e).1.symm) (Prod.mk.inj e).2.symm dX12_sayingOn_191
set_option maxHeartbeats 4000000 in
set_option maxRecDepth 20000 in
theorem w_m_sayingOn_B90 (C : mCX p s m args meth c cX12_sayingOn 6 RX12 D E b) (hr : meth.sig.returnType = (some .boolean)) {r0 : Bool} {M0 : Mem} {M : Mem} {v1 : Int} {v2 : Int} {v3 : Int} {v4 : Int} {v5 : Int} {s1 : Int} {s2 : Int} (h : m_sayingOn_B90 v1 v2 v3 v4 v5 s1 s2 M = some (r0, M0)) :
    mWX p l e 2 35 s m args below meth c 6 D E b (some (vB r0)) M0 M 90 [(0, vR b 0), (1, vI v1), (2, vI v2), (3, vI v3), (4, vI v4), (5, vI v5)] [vI s2, vI s1, vR b 32] := by
  unfold m_sayingOn_B90 at h
  obtain ⟨hi90, h⟩ := chk_inv h
  obtain ⟨M_90, hM_90, h⟩ := lt_inv h
  refine r_iast (pc := 90) C m_s32 (by decide) (by decide) hi90 rfl hM_90 dX12_sayingOn_90 ?_
  refine r_aload_n (pc := 91) C 0 rfl rfl dX12_sayingOn_91 ?_
  refine r_getR (pc := 92) C fl_RX12_171 m_s0 (by decide) m_k52 m_r52 dX12_sayingOn_92 ?_
  refine r_iload_n (pc := 95) C 3 rfl rfl dX12_sayingOn_95 ?_
  refine r_aload_n (pc := 96) C 0 rfl rfl dX12_sayingOn_96 ?_
  refine r_getR (pc := 97) C fl_RX12_7 m_s0 (by decide) m_k0 m_r0 dX12_sayingOn_97 ?_
  refine r_iload_n (pc := 100) C 2 rfl rfl dX12_sayingOn_100 ?_
  refine r_iconst (pc := 101) C dX12_sayingOn_101 ?_
  refine r_iadd (pc := 102) C dX12_sayingOn_102 ?_
  obtain ⟨hi103, h⟩ := chk_inv h
  refine r_iald (pc := 103) C m_s1 (by decide) (by decide) hi103 rfl dX12_sayingOn_103 ?_
  obtain ⟨hi104, h⟩ := chk_inv h
  obtain ⟨M_104, hM_104, h⟩ := lt_inv h
  refine r_iast (pc := 104) C m_s33 (by decide) (by decide) hi104 rfl hM_104 dX12_sayingOn_104 ?_
  refine r_aload_n (pc := 105) C 0 rfl rfl dX12_sayingOn_105 ?_
  refine r_getR (pc := 106) C fl_RX12_174 m_s0 (by decide) m_k53 m_r53 dX12_sayingOn_106 ?_
  refine r_iconst (pc := 109) C dX12_sayingOn_109 ?_
  refine r_dup2 (pc := 110) C rfl rfl dX12_sayingOn_110 ?_
  refine r_iald (pc := 111) C m_s34 (by decide) (by decide) (by decide) rfl dX12_sayingOn_111 ?_
  refine r_aload_n (pc := 112) C 0 rfl rfl dX12_sayingOn_112 ?_
  refine r_getR (pc := 113) C fl_RX12_7 m_s0 (by decide) m_k0 m_r0 dX12_sayingOn_113 ?_
  refine r_iload_n (pc := 116) C 2 rfl rfl dX12_sayingOn_116 ?_
  refine r_bipush (pc := 117) (j := 6) C (by decide +kernel) dX12_sayingOn_117 ?_
  refine r_iadd (pc := 119) C dX12_sayingOn_119 ?_
  obtain ⟨hi120, h⟩ := chk_inv h
  refine r_iald (pc := 120) C m_s1 (by decide) (by decide) hi120 rfl dX12_sayingOn_120 ?_
  refine r_iconst (pc := 121) C dX12_sayingOn_121 ?_
  refine r_icmp_ne (pc := 122) (tgt := 131) C h dX12_sayingOn_122 (by decide) (fun hc122 h => ?_) (fun hc122 h => ?_)
  · refine r_iconst (pc := 131) C dX12_sayingOn_131 ?_
    refine r_sub (lv' := [(0, vR b 0), (1, vI v1), (2, vI v2), (3, vI v3), (4, vI v4), (5, vI v5)]) [0, 1, 2, 3, 4, 5] rfl ?_
    exact w_m_sayingOn_B132 C hr h
  · refine r_iconst (pc := 125) C dX12_sayingOn_125 ?_
    refine r_iload_n (pc := 126) C 1 rfl rfl dX12_sayingOn_126 ?_
    refine r_ishl (pc := 127) C dX12_sayingOn_127 ?_
    refine r_goto (pc := 128) (tgt := 132) C dX12_sayingOn_128 (by decide) ?_
    refine r_sub (lv' := [(0, vR b 0), (1, vI v1), (2, vI v2), (3, vI v3), (4, vI v4), (5, vI v5)]) [0, 1, 2, 3, 4, 5] rfl ?_
    exact w_m_sayingOn_B132 C hr h
set_option maxHeartbeats 4000000 in
set_option maxRecDepth 20000 in
theorem c_m_sayingOn (l : Launch) {x1 : Int} {x2 : Int} {M : Mem} {r0 : Bool} {M0 : Mem} (h : m_sayingOn x1 x2 M = some (r0, M0)) : Ct l yX12_sayingOn cX12_sayingOn 6 (some .boolean) 2 35 vwCl mSh mN mRf mExt (fun b => [vR b 0, vI x1, vI x2]) M (fun b => (some (vB r0))) M0 := by
  refine Ct_of mExtOK (by decide) (fun b => Nat.le_of_ble_eq_true rfl) ?_
  intro p e s m args below meth c D E b C hr
  unfold m_sayingOn at h
  refine (show mWX p l e 2 35 s m args below meth c 6 D E b (some (vB r0)) M0 M 0 [(0, vR b 0), (1, vI x1), (2, vI x2)] [] from ?_)
  refine r_bipush (pc := 0) (j := 12) C (by decide +kernel) dX12_sayingOn_0 ?_
  refine r_iload_n (pc := 2) C 1 rfl rfl dX12_sayingOn_2 ?_
  refine r_iadd (pc := 3) C dX12_sayingOn_3 ?_
  obtain ⟨v3_4, hv3_4, h⟩ := lt_inv h
  refine r_topI hv3_4 ?_
  refine r_istore_n (pc := 4) (lv' := [(3, vI v3_4), (0, vR b 0), (1, vI x1), (2, vI x2)]) C rfl dX12_sayingOn_4 (by decide) rfl ?_
  refine r_aload_n (pc := 5) C 1 rfl rfl dX12_sayingOn_5 ?_
  refine r_getR (pc := 6) C fl_RX12_7 m_s0 (by decide) m_k0 m_r0 dX12_sayingOn_6 ?_
  refine r_iload_n (pc := 9) C 3 rfl rfl dX12_sayingOn_9 ?_
  obtain ⟨hi10, h⟩ := chk_inv h
  refine r_iald (pc := 10) C m_s1 (by decide) (by decide) hi10 rfl dX12_sayingOn_10 ?_
  obtain ⟨v4_11, hv4_11, h⟩ := lt_inv h
  refine r_topI hv4_11 ?_
  refine r_istore (pc := 11) (lv' := [(4, vI v4_11), (3, vI v3_4), (0, vR b 0), (1, vI x1), (2, vI x2)]) C dX12_sayingOn_11 (by decide) rfl ?_
  refine r_aload_n (pc := 13) C 2 rfl rfl dX12_sayingOn_13 ?_
  refine r_getR (pc := 14) C fl_RX12_7 m_s0 (by decide) m_k0 m_r0 dX12_sayingOn_14 ?_
  refine r_iload_n (pc := 17) C 4 rfl rfl dX12_sayingOn_17 ?_
  refine r_iconst (pc := 18) C dX12_sayingOn_18 ?_
  refine r_iadd (pc := 19) C dX12_sayingOn_19 ?_
  obtain ⟨hi20, h⟩ := chk_inv h
  refine r_iald (pc := 20) C m_s1 (by decide) (by decide) hi20 rfl dX12_sayingOn_20 ?_
  obtain ⟨v5_21, hv5_21, h⟩ := lt_inv h
  refine r_topI hv5_21 ?_
  refine r_istore (pc := 21) (lv' := [(5, vI v5_21), (4, vI v4_11), (3, vI v3_4), (0, vR b 0), (1, vI x1), (2, vI x2)]) C dX12_sayingOn_21 (by decide) rfl ?_
  refine r_aload_n (pc := 23) C 3 rfl rfl dX12_sayingOn_23 ?_
  refine r_getR (pc := 24) C fl_RX12_159 m_s0 (by decide) m_k48 m_r48 dX12_sayingOn_24 ?_
  refine r_iload_n (pc := 27) C 2 rfl rfl dX12_sayingOn_27 ?_
  refine r_iload (pc := 28) C 1 rfl dX12_sayingOn_28 ?_
  obtain ⟨hi30, h⟩ := chk_inv h
  obtain ⟨M_30, hM_30, h⟩ := lt_inv h
  refine r_iast (pc := 30) C m_s29 (by decide) (by decide) hi30 rfl hM_30 dX12_sayingOn_30 ?_
  refine r_aload_n (pc := 31) C 3 rfl rfl dX12_sayingOn_31 ?_
  refine r_getR (pc := 32) C fl_RX12_162 m_s0 (by decide) m_k49 m_r49 dX12_sayingOn_32 ?_
  refine r_iload_n (pc := 35) C 2 rfl rfl dX12_sayingOn_35 ?_
  refine r_aload_n (pc := 36) C 3 rfl rfl dX12_sayingOn_36 ?_
  refine r_getR (pc := 37) C fl_RX12_7 m_s0 (by decide) m_k0 m_r0 dX12_sayingOn_37 ?_
  refine r_iload_n (pc := 40) C 5 rfl rfl dX12_sayingOn_40 ?_
  refine r_iconst (pc := 41) C dX12_sayingOn_41 ?_
  refine r_iadd (pc := 42) C dX12_sayingOn_42 ?_
  obtain ⟨hi43, h⟩ := chk_inv h
  refine r_iald (pc := 43) C m_s1 (by decide) (by decide) hi43 rfl dX12_sayingOn_43 ?_
  refine r_bipush (pc := 44) (j := 8) C (by decide +kernel) dX12_sayingOn_44 ?_
  refine r_ishl (pc := 46) C dX12_sayingOn_46 ?_
  refine r_aload_n (pc := 47) C 3 rfl rfl dX12_sayingOn_47 ?_
  refine r_getR (pc := 48) C fl_RX12_7 m_s0 (by decide) m_k0 m_r0 dX12_sayingOn_48 ?_
  refine r_iload_n (pc := 51) C 5 rfl rfl dX12_sayingOn_51 ?_
  refine r_iconst (pc := 52) C dX12_sayingOn_52 ?_
  refine r_iadd (pc := 53) C dX12_sayingOn_53 ?_
  obtain ⟨hi54, h⟩ := chk_inv h
  refine r_iald (pc := 54) C m_s1 (by decide) (by decide) hi54 rfl dX12_sayingOn_54 ?_
  refine r_ior (pc := 55) C dX12_sayingOn_55 ?_
  obtain ⟨hi56, h⟩ := chk_inv h
  obtain ⟨M_56, hM_56, h⟩ := lt_inv h
  refine r_iast (pc := 56) C m_s30 (by decide) (by decide) hi56 rfl hM_56 dX12_sayingOn_56 ?_
  refine r_aload_n (pc := 57) C 3 rfl rfl dX12_sayingOn_57 ?_
  refine r_getR (pc := 58) C fl_RX12_165 m_s0 (by decide) m_k50 m_r50 dX12_sayingOn_58 ?_
  refine r_iload_n (pc := 61) C 2 rfl rfl dX12_sayingOn_61 ?_
  refine r_aload_n (pc := 62) C 3 rfl rfl dX12_sayingOn_62 ?_
  refine r_getR (pc := 63) C fl_RX12_7 m_s0 (by decide) m_k0 m_r0 dX12_sayingOn_63 ?_
  refine r_iload_n (pc := 66) C 5 rfl rfl dX12_sayingOn_66 ?_
  refine r_iconst (pc := 67) C dX12_sayingOn_67 ?_
  refine r_iadd (pc := 68) C dX12_sayingOn_68 ?_
  obtain ⟨hi69, h⟩ := chk_inv h
  refine r_iald (pc := 69) C m_s1 (by decide) (by decide) hi69 rfl dX12_sayingOn_69 ?_
  obtain ⟨hi70, h⟩ := chk_inv h
  obtain ⟨M_70, hM_70, h⟩ := lt_inv h
  refine r_iast (pc := 70) C m_s31 (by decide) (by decide) hi70 rfl hM_70 dX12_sayingOn_70 ?_
  refine r_aload_n (pc := 71) C 3 rfl rfl dX12_sayingOn_71 ?_
  refine r_getR (pc := 72) C fl_RX12_168 m_s0 (by decide) m_k51 m_r51 dX12_sayingOn_72 ?_
  refine r_iload_n (pc := 75) C 2 rfl rfl dX12_sayingOn_75 ?_
  refine r_iload (pc := 76) C 0 rfl dX12_sayingOn_76 ?_
  refine r_sipush (pc := 78) (j := 255) C (by decide +kernel) dX12_sayingOn_78 ?_
  refine r_icmp_ne (pc := 81) (tgt := 88) C h dX12_sayingOn_81 (by decide) (fun hc81 h => ?_) (fun hc81 h => ?_)
  · refine r_iload (pc := 88) C 0 rfl dX12_sayingOn_88 ?_
    refine r_sub (lv' := [(0, vR b 0), (1, vI x1), (2, vI x2), (3, vI v3_4), (4, vI v4_11), (5, vI v5_21)]) [3, 4, 5, 2, 1, 0] rfl ?_
    exact w_m_sayingOn_B90 C hr h
  · refine r_iconst (pc := 84) C dX12_sayingOn_84 ?_
    refine r_goto (pc := 85) (tgt := 90) C dX12_sayingOn_85 (by decide) ?_
    refine r_sub (lv' := [(0, vR b 0), (1, vI x1), (2, vI x2), (3, vI v3_4), (4, vI v4_11), (5, vI v5_21)]) [3, 4, 5, 2, 1, 0] rfl ?_
    exact w_m_sayingOn_B90 C hr h
set_option maxHeartbeats 4000000 in
set_option maxRecDepth 20000 in
theorem w_m_comesOn_L65_s (C : mCX p s m args meth c cX12_comesOn 5 RX12 D E b) (hr : meth.sig.returnType = (some .boolean)) {r0 : Bool} {M0 : Mem} {v1 : Int} {v2 : Int} {M : Mem} {v3 : Int} {v4 : Int} {q : Int × Int} {rec : Int → Int → Option (Int × Int)} (hrec : ∀ (v3 : Int) (v4 : Int), rec v3 v4 = some q → mWX p l e 3 60 s m args below meth c 5 D E b (some (vB r0)) M0 M 65 [(0, vR b 0), (1, vI v1), (2, vI v2), (3, vI v3), (4, vI v4)] []) (hfol : ∀ (v3 : Int) (v4 : Int), q = (v3, v4) → mWX p l e 3 60 s m args below meth c 5 D E b (some (vB r0)) M0 M 95 [(0, vR b 0), (1, vI v1), (2, vI v2), (3, vI v3)] []) (h : m_comesOn_L65 v1 v2 M rec v3 v4 = some q) :
    mWX p l e 3 60 s m args below meth c 5 D E b (some (vB r0)) M0 M 65 [(0, vR b 0), (1, vI v1), (2, vI v2), (3, vI v3), (4, vI v4)] [] := by
  unfold m_comesOn_L65 at h
  refine r_iload (pc := 65) C 4 rfl dX12_comesOn_65 ?_
  refine r_iload_n (pc := 67) C 1 rfl rfl dX12_comesOn_67 ?_
  refine r_iconst (pc := 68) C dX12_comesOn_68 ?_
  refine r_isub (pc := 69) C dX12_comesOn_69 ?_
  refine r_icmp_ge (pc := 70) (tgt := 95) C h dX12_comesOn_70 (by decide) (fun hc70 h => ?_) (fun hc70 h => ?_)
  · refine r_sub (lv' := [(0, vR b 0), (1, vI v1), (2, vI v2), (3, vI v3)]) [0, 1, 2, 3] rfl ?_
    exact hfol _ _ (Option.some.inj h).symm
  · refine r_iconst (pc := 73) C dX12_comesOn_73 ?_
    refine r_iload_n (pc := 74) C 3 rfl rfl dX12_comesOn_74 ?_
    refine r_imul (pc := 75) C dX12_comesOn_75 ?_
    refine r_aload_n (pc := 76) C 0 rfl rfl dX12_comesOn_76 ?_
    refine r_getR (pc := 77) C fl_RX12_7 m_s0 (by decide) m_k0 m_r0 dX12_comesOn_77 ?_
    refine r_iload (pc := 80) C 4 rfl dX12_comesOn_80 ?_
    obtain ⟨hi82, h⟩ := chk_inv h
    refine r_iald (pc := 82) C m_s1 (by decide) (by decide) hi82 rfl dX12_comesOn_82 ?_
    refine r_iadd (pc := 83) C dX12_comesOn_83 ?_
    refine r_sipush (pc := 84) (j := 251) C (by decide +kernel) dX12_comesOn_84 ?_
    obtain ⟨hz87, h⟩ := chk_inv h
    refine r_irem (pc := 87) C hz87 dX12_comesOn_87 ?_
    obtain ⟨v3_88, hv3_88, h⟩ := lt_inv h
    refine r_topI hv3_88 ?_
    refine r_istore_n (pc := 88) (lv' := [(3, vI v3_88), (0, vR b 0), (1, vI v1), (2, vI v2), (4, vI v4)]) C rfl dX12_comesOn_88 (by decide) rfl ?_
    obtain ⟨v4_89, hv4_89, h⟩ := lt_inv h
    refine r_iincN (pc := 89) (y := v4_89) (lv' := [(4, vI v4_89), (3, vI v3_88), (0, vR b 0), (1, vI v1), (2, vI v2)]) C 4 rfl hv4_89 dX12_comesOn_89 (by decide) rfl ?_
    refine r_goto (pc := 92) (tgt := 65) C dX12_comesOn_92 (by decide) ?_
    refine r_sub (lv' := [(0, vR b 0), (1, vI v1), (2, vI v2), (3, vI v3_88), (4, vI v4_89)]) [2, 3, 4, 1, 0] rfl ?_
    exact hrec _ _ h
set_option maxHeartbeats 4000000 in
theorem w_m_comesOn_L65 (C : mCX p s m args meth c cX12_comesOn 5 RX12 D E b) (hr : meth.sig.returnType = (some .boolean)) {r0 : Bool} {M0 : Mem} {v1 : Int} {v2 : Int} {M : Mem} {q : Int × Int} (hfol : ∀ (v3 : Int) (v4 : Int), q = (v3, v4) → mWX p l e 3 60 s m args below meth c 5 D E b (some (vB r0)) M0 M 95 [(0, vR b 0), (1, vI v1), (2, vI v2), (3, vI v3)] []) : ∀ (n : Nat) (v3 : Int) (v4 : Int), itr2 (m_comesOn_L65 v1 v2 M) n v3 v4 = some q →
    mWX p l e 3 60 s m args below meth c 5 D E b (some (vB r0)) M0 M 65 [(0, vR b 0), (1, vI v1), (2, vI v2), (3, vI v3), (4, vI v4)] [] := by
  intro n
  induction n with
  | zero => exact fun _ _ h => itr_z h
  | succ n ih => exact fun _ _ h => w_m_comesOn_L65_s C hr ih hfol h
set_option maxHeartbeats 4000000 in
set_option maxRecDepth 20000 in
theorem w_m_comesOn_L161_s (C : mCX p s m args meth c cX12_comesOn 5 RX12 D E b) (hr : meth.sig.returnType = (some .boolean)) {r0 : Bool} {M0 : Mem} {v2 : Int} {v4 : Int} {M : Mem} {q : (Bool × Mem) ⊕ (Int × Mem)} {rec : Int → Mem → Option ((Bool × Mem) ⊕ (Int × Mem))} (hrec : ∀ (v4 : Int) (M : Mem), rec v4 M = some q → mWX p l e 3 60 s m args below meth c 5 D E b (some (vB r0)) M0 M 161 [(0, vR b 0), (2, vI v2), (4, vI v4)] []) (hret : ∀ r, q = .inl r → r = (r0, M0)) (hfol : ∀ (v4 : Int) (M : Mem), q = .inr (v4, M) → mWX p l e 3 60 s m args below meth c 5 D E b (some (vB r0)) M0 M 198 [(0, vR b 0), (2, vI v2)] []) (h : m_comesOn_L161 v2 rec v4 M = some q) :
    mWX p l e 3 60 s m args below meth c 5 D E b (some (vB r0)) M0 M 161 [(0, vR b 0), (2, vI v2), (4, vI v4)] [] := by
  unfold m_comesOn_L161 at h
  refine r_iload (pc := 161) C 2 rfl dX12_comesOn_161 ?_
  refine r_aload_n (pc := 163) C 0 rfl rfl dX12_comesOn_163 ?_
  refine r_getR (pc := 164) C fl_RX12_54 m_s0 (by decide) m_k14 m_r14 dX12_comesOn_164 ?_
  refine r_aload_n (pc := 167) C 0 rfl rfl dX12_comesOn_167 ?_
  refine r_getI (pc := 168) C fl_RX12_51 m_s0 (by decide) m_k13 dX12_comesOn_168 ?_
  obtain ⟨hi171, h⟩ := chk_inv h
  refine r_iald (pc := 171) C m_s2 (by decide) (by decide) hi171 rfl dX12_comesOn_171 ?_
  refine r_icmp_ge (pc := 172) (tgt := 198) C h dX12_comesOn_172 (by decide) (fun hc172 h => ?_) (fun hc172 h => ?_)
  · refine r_sub (lv' := [(0, vR b 0), (2, vI v2)]) [0, 1] rfl ?_
    exact hfol _ _ (Option.some.inj h).symm
  · refine r_aload_n (pc := 175) C 0 rfl rfl dX12_comesOn_175 ?_
    refine r_iload (pc := 176) C 2 rfl dX12_comesOn_176 ?_
    refine r_iconst (pc := 178) C dX12_comesOn_178 ?_
    refine r_iconst (pc := 179) C dX12_comesOn_179 ?_
    refine r_iload (pc := 180) C 2 rfl dX12_comesOn_180 ?_
    refine r_imul (pc := 182) C dX12_comesOn_182 ?_
    refine r_iadd (pc := 183) C dX12_comesOn_183 ?_
    obtain ⟨r3, M3, hq3, h⟩ := bnd2_inv h
    refine r_callV (pc := 184) (rest := []) (st1 := [vB r3]) C (mExtOK b) [vI v4, vI (2 + (3 * v4))] (c_m_voiceOn l hq3) cl_RX12_526 m_s0 (by decide) rfl rfl rfl rfl ⟨Nat.le_of_ble_eq_true rfl, Nat.le_of_ble_eq_true rfl⟩ (Nat.le_of_ble_eq_true rfl) rfl rfl dX12_comesOn_184 ?_
    refine r_if_neB (pc := 187) (tgt := 192) C h dX12_comesOn_187 (by decide) (fun hc187 h => ?_) (fun hc187 h => ?_)
    · obtain ⟨v4_192, hv4_192, h⟩ := lt_inv h
      refine r_iincN (pc := 192) (y := v4_192) (lv' := [(4, vI v4_192), (0, vR b 0), (2, vI v2)]) C 2 rfl hv4_192 dX12_comesOn_192 (by decide) rfl ?_
      refine r_goto (pc := 195) (tgt := 161) C dX12_comesOn_195 (by decide) ?_
      refine r_sub (lv' := [(0, vR b 0), (2, vI v2), (4, vI v4_192)]) [1, 2, 0] rfl ?_
      exact hrec _ _ h
    · refine r_iconst (pc := 190) C dX12_comesOn_190 ?_
      have e := hret _ (Option.some.inj h).symm
      exact r_zret (pc := 191) C hr (Or.inl rfl) (congrArg (fun z => some (vB z)) (Prod.mk.inj e).1.symm) (Prod.mk.inj e).2.symm dX12_comesOn_191
set_option maxHeartbeats 4000000 in
theorem w_m_comesOn_L161 (C : mCX p s m args meth c cX12_comesOn 5 RX12 D E b) (hr : meth.sig.returnType = (some .boolean)) {r0 : Bool} {M0 : Mem} {v2 : Int} {q : (Bool × Mem) ⊕ (Int × Mem)} (hret : ∀ r, q = .inl r → r = (r0, M0)) (hfol : ∀ (v4 : Int) (M : Mem), q = .inr (v4, M) → mWX p l e 3 60 s m args below meth c 5 D E b (some (vB r0)) M0 M 198 [(0, vR b 0), (2, vI v2)] []) : ∀ (n : Nat) (v4 : Int) (M : Mem), itr2 (m_comesOn_L161 v2) n v4 M = some q →
    mWX p l e 3 60 s m args below meth c 5 D E b (some (vB r0)) M0 M 161 [(0, vR b 0), (2, vI v2), (4, vI v4)] [] := by
  intro n
  induction n with
  | zero => exact fun _ _ h => itr_z h
  | succ n ih => exact fun _ _ h => w_m_comesOn_L161_s C hr ih hret hfol h
set_option maxHeartbeats 4000000 in
set_option maxRecDepth 20000 in
theorem w_m_comesOn_L201_s (C : mCX p s m args meth c cX12_comesOn 5 RX12 D E b) (hr : meth.sig.returnType = (some .boolean)) {r0 : Bool} {M0 : Mem} {v2 : Int} {v4 : Int} {M : Mem} {q : (Bool × Mem) ⊕ (Int × Mem)} {rec : Int → Mem → Option ((Bool × Mem) ⊕ (Int × Mem))} (hrec : ∀ (v4 : Int) (M : Mem), rec v4 M = some q → mWX p l e 3 60 s m args below meth c 5 D E b (some (vB r0)) M0 M 201 [(0, vR b 0), (2, vI v2), (4, vI v4)] []) (hret : ∀ r, q = .inl r → r = (r0, M0)) (hfol : ∀ (v4 : Int) (M : Mem), q = .inr (v4, M) → mWX p l e 3 60 s m args below meth c 5 D E b (some (vB r0)) M0 M 239 [] []) (h : m_comesOn_L201 v2 rec v4 M = some q) :
    mWX p l e 3 60 s m args below meth c 5 D E b (some (vB r0)) M0 M 201 [(0, vR b 0), (2, vI v2), (4, vI v4)] [] := by
  unfold m_comesOn_L201 at h
  refine r_iload (pc := 201) C 2 rfl dX12_comesOn_201 ?_
  refine r_aload_n (pc := 203) C 0 rfl rfl dX12_comesOn_203 ?_
  refine r_getR (pc := 204) C fl_RX12_69 m_s0 (by decide) m_k19 m_r19 dX12_comesOn_204 ?_
  refine r_aload_n (pc := 207) C 0 rfl rfl dX12_comesOn_207 ?_
  refine r_getI (pc := 208) C fl_RX12_51 m_s0 (by decide) m_k13 dX12_comesOn_208 ?_
  obtain ⟨hi211, h⟩ := chk_inv h
  refine r_iald (pc := 211) C m_s7 (by decide) (by decide) hi211 rfl dX12_comesOn_211 ?_
  refine r_icmp_ge (pc := 212) (tgt := 239) C h dX12_comesOn_212 (by decide) (fun hc212 h => ?_) (fun hc212 h => ?_)
  · refine r_sub (lv' := []) [] rfl ?_
    exact hfol _ _ (Option.some.inj h).symm
  · refine r_aload_n (pc := 215) C 0 rfl rfl dX12_comesOn_215 ?_
    refine r_iload (pc := 216) C 2 rfl dX12_comesOn_216 ?_
    refine r_iload_n (pc := 218) C 1 rfl rfl dX12_comesOn_218 ?_
    refine r_bipush (pc := 219) (j := 7) C (by decide +kernel) dX12_comesOn_219 ?_
    refine r_iload (pc := 221) C 2 rfl dX12_comesOn_221 ?_
    refine r_imul (pc := 223) C dX12_comesOn_223 ?_
    refine r_iadd (pc := 224) C dX12_comesOn_224 ?_
    obtain ⟨r5, M5, hq5, h⟩ := bnd2_inv h
    refine r_callV (pc := 225) (rest := []) (st1 := [vB r5]) C (mExtOK b) [vI v4, vI (v2 + (7 * v4))] (c_m_sayingOn l hq5) cl_RX12_529 m_s0 (by decide) rfl rfl rfl rfl ⟨Nat.le_of_ble_eq_true rfl, Nat.le_of_ble_eq_true rfl⟩ (Nat.le_of_ble_eq_true rfl) rfl rfl dX12_comesOn_225 ?_
    refine r_if_neB (pc := 228) (tgt := 233) C h dX12_comesOn_228 (by decide) (fun hc228 h => ?_) (fun hc228 h => ?_)
    · obtain ⟨v4_233, hv4_233, h⟩ := lt_inv h
      refine r_iincN (pc := 233) (y := v4_233) (lv' := [(4, vI v4_233), (0, vR b 0), (2, vI v2)]) C 2 rfl hv4_233 dX12_comesOn_233 (by decide) rfl ?_
      refine r_goto (pc := 236) (tgt := 201) C dX12_comesOn_236 (by decide) ?_
      refine r_sub (lv' := [(0, vR b 0), (2, vI v2), (4, vI v4_233)]) [1, 2, 0] rfl ?_
      exact hrec _ _ h
    · refine r_iconst (pc := 231) C dX12_comesOn_231 ?_
      have e := hret _ (Option.some.inj h).symm
      exact r_zret (pc := 232) C hr (Or.inl rfl) (congrArg (fun z => some (vB z)) (Prod.mk.inj e).1.symm) (Prod.mk.inj e).2.symm dX12_comesOn_232
set_option maxHeartbeats 4000000 in
theorem w_m_comesOn_L201 (C : mCX p s m args meth c cX12_comesOn 5 RX12 D E b) (hr : meth.sig.returnType = (some .boolean)) {r0 : Bool} {M0 : Mem} {v2 : Int} {q : (Bool × Mem) ⊕ (Int × Mem)} (hret : ∀ r, q = .inl r → r = (r0, M0)) (hfol : ∀ (v4 : Int) (M : Mem), q = .inr (v4, M) → mWX p l e 3 60 s m args below meth c 5 D E b (some (vB r0)) M0 M 239 [] []) : ∀ (n : Nat) (v4 : Int) (M : Mem), itr2 (m_comesOn_L201 v2) n v4 M = some q →
    mWX p l e 3 60 s m args below meth c 5 D E b (some (vB r0)) M0 M 201 [(0, vR b 0), (2, vI v2), (4, vI v4)] [] := by
  intro n
  induction n with
  | zero => exact fun _ _ h => itr_z h
  | succ n ih => exact fun _ _ h => w_m_comesOn_L201_s C hr ih hret hfol h
set_option maxHeartbeats 4000000 in
set_option maxRecDepth 20000 in
theorem c_m_comesOn (l : Launch) {x1 : Int} {M : Mem} {r0 : Bool} {M0 : Mem} (h : m_comesOn x1 M = some (r0, M0)) : Ct l yX12_comesOn cX12_comesOn 5 (some .boolean) 3 60 vwCl mSh mN mRf mExt (fun b => [vR b 0, vI x1]) M (fun b => (some (vB r0))) M0 := by
  refine Ct_of mExtOK (by decide) (fun b => Nat.le_of_ble_eq_true rfl) ?_
  intro p e s m args below meth c D E b C hr
  unfold m_comesOn at h
  refine (show mWX p l e 3 60 s m args below meth c 5 D E b (some (vB r0)) M0 M 0 [(0, vR b 0), (1, vI x1)] [] from ?_)
  refine r_iconst (pc := 0) C dX12_comesOn_0 ?_
  refine r_iconst (pc := 1) C dX12_comesOn_1 ?_
  refine r_aload_n (pc := 2) C 0 rfl rfl dX12_comesOn_2 ?_
  refine r_getR (pc := 3) C fl_RX12_54 m_s0 (by decide) m_k14 m_r14 dX12_comesOn_3 ?_
  refine r_aload_n (pc := 6) C 0 rfl rfl dX12_comesOn_6 ?_
  refine r_getI (pc := 7) C fl_RX12_51 m_s0 (by decide) m_k13 dX12_comesOn_7 ?_
  obtain ⟨hi10, h⟩ := chk_inv h
  refine r_iald (pc := 10) C m_s2 (by decide) (by decide) hi10 rfl dX12_comesOn_10 ?_
  refine r_imul (pc := 11) C dX12_comesOn_11 ?_
  refine r_iadd (pc := 12) C dX12_comesOn_12 ?_
  obtain ⟨v2_13, hv2_13, h⟩ := lt_inv h
  refine r_topI hv2_13 ?_
  refine r_istore_n (pc := 13) (lv' := [(2, vI v2_13), (0, vR b 0), (1, vI x1)]) C rfl dX12_comesOn_13 (by decide) rfl ?_
  refine r_iload_n (pc := 14) C 2 rfl rfl dX12_comesOn_14 ?_
  refine r_iload_n (pc := 15) C 0 rfl rfl dX12_comesOn_15 ?_
  refine r_bipush (pc := 16) (j := 7) C (by decide +kernel) dX12_comesOn_16 ?_
  refine r_aload_n (pc := 18) C 1 rfl rfl dX12_comesOn_18 ?_
  refine r_getR (pc := 19) C fl_RX12_69 m_s0 (by decide) m_k19 m_r19 dX12_comesOn_19 ?_
  refine r_aload_n (pc := 22) C 1 rfl rfl dX12_comesOn_22 ?_
  refine r_getI (pc := 23) C fl_RX12_51 m_s0 (by decide) m_k13 dX12_comesOn_23 ?_
  obtain ⟨hi26, h⟩ := chk_inv h
  refine r_iald (pc := 26) C m_s7 (by decide) (by decide) hi26 rfl dX12_comesOn_26 ?_
  refine r_imul (pc := 27) C dX12_comesOn_27 ?_
  refine r_iadd (pc := 28) C dX12_comesOn_28 ?_
  refine r_iconst (pc := 29) C dX12_comesOn_29 ?_
  refine r_iadd (pc := 30) C dX12_comesOn_30 ?_
  refine r_icmp_ne (pc := 31) (tgt := 56) C h dX12_comesOn_31 (by decide) (fun hc31 h => ?_) (fun hc31 h => ?_)
  · refine r_iconst (pc := 56) C dX12_comesOn_56 ?_
    have e := Option.some.inj h
    exact r_zret (pc := 57) C hr (Or.inl rfl) (congrArg (fun z => some (vB z)) (Prod.mk.inj e).1.symm) (Prod.mk.inj e).2.symm dX12_comesOn_57
  · refine r_aload_n (pc := 34) C 1 rfl rfl dX12_comesOn_34 ?_
    refine r_getR (pc := 35) C fl_RX12_7 m_s0 (by decide) m_k0 m_r0 dX12_comesOn_35 ?_
    refine r_iconst (pc := 38) C dX12_comesOn_38 ?_
    refine r_iald (pc := 39) C m_s1 (by decide) (by decide) (by decide) rfl dX12_comesOn_39 ?_
    refine r_bipush (pc := 40) (j := 8) C (by decide +kernel) dX12_comesOn_40 ?_
    refine r_ishl (pc := 42) C dX12_comesOn_42 ?_
    refine r_aload_n (pc := 43) C 1 rfl rfl dX12_comesOn_43 ?_
    refine r_getR (pc := 44) C fl_RX12_7 m_s0 (by decide) m_k0 m_r0 dX12_comesOn_44 ?_
    refine r_iconst (pc := 47) C dX12_comesOn_47 ?_
    refine r_iald (pc := 48) C m_s1 (by decide) (by decide) (by decide) rfl dX12_comesOn_48 ?_
    refine r_ior (pc := 49) C dX12_comesOn_49 ?_
    refine r_sipush (pc := 50) (j := 999) C (by decide +kernel) dX12_comesOn_50 ?_
    refine r_icmp_le (pc := 53) (tgt := 58) C h dX12_comesOn_53 (by decide) (fun hc53 h => ?_) (fun hc53 h => ?_)
    · refine r_sipush (pc := 58) (j := 199) C (by decide +kernel) dX12_comesOn_58 ?_
      refine r_istore_n (pc := 61) (lv' := [(3, vI 199), (2, vI v2_13), (0, vR b 0), (1, vI x1)]) C rfl dX12_comesOn_61 (by decide) rfl ?_
      refine r_iconst (pc := 62) C dX12_comesOn_62 ?_
      refine r_istore (pc := 63) (lv' := [(4, vI 0), (3, vI 199), (2, vI v2_13), (0, vR b 0), (1, vI x1)]) C dX12_comesOn_63 (by decide) rfl ?_
      refine r_sub (lv' := [(0, vR b 0), (1, vI x1), (2, vI v2_13), (3, vI 199), (4, vI 0)]) [3, 4, 2, 1, 0] rfl ?_
      obtain ⟨q1, hl1, h⟩ := bnd_inv h
      refine w_m_comesOn_L65 C hr (fun v3_1 v4_1 hq => ?_) FUEL _ _ hl1
      have hq := hq.symm
      subst hq
      refine r_aload_n (pc := 95) C 0 rfl rfl dX12_comesOn_95 ?_
      refine r_getR (pc := 96) C fl_RX12_7 m_s0 (by decide) m_k0 m_r0 dX12_comesOn_96 ?_
      refine r_iload_n (pc := 99) C 1 rfl rfl dX12_comesOn_99 ?_
      refine r_iconst (pc := 100) C dX12_comesOn_100 ?_
      refine r_isub (pc := 101) C dX12_comesOn_101 ?_
      obtain ⟨hi102, h⟩ := chk_inv h
      refine r_iald (pc := 102) C m_s1 (by decide) (by decide) hi102 rfl dX12_comesOn_102 ?_
      refine r_iload_n (pc := 103) C 3 rfl rfl dX12_comesOn_103 ?_
      refine r_icmp_eq (pc := 104) (tgt := 109) C h dX12_comesOn_104 (by decide) (fun hc104 h => ?_) (fun hc104 h => ?_)
      · refine r_aload_n (pc := 109) C 0 rfl rfl dX12_comesOn_109 ?_
        refine r_iconst (pc := 110) C dX12_comesOn_110 ?_
        refine r_iconst (pc := 111) C dX12_comesOn_111 ?_
        obtain ⟨M2, hq2, h⟩ := bnd_inv h
        refine r_callV (pc := 112) (rest := []) (st1 := []) C (mExtOK b) [vI 1, vI 0] (c_m_copies l hq2) cl_RX12_396 m_s0 (by decide) rfl rfl rfl rfl ⟨Nat.le_of_ble_eq_true rfl, Nat.le_of_ble_eq_true rfl⟩ (Nat.le_of_ble_eq_true rfl) rfl rfl dX12_comesOn_112 ?_
        refine r_aload_n (pc := 115) C 0 rfl rfl dX12_comesOn_115 ?_
        refine r_getR (pc := 116) C fl_RX12_147 m_s0 (by decide) m_k44 m_r44 dX12_comesOn_116 ?_
        refine r_iconst (pc := 119) C dX12_comesOn_119 ?_
        refine r_aload_n (pc := 120) C 0 rfl rfl dX12_comesOn_120 ?_
        refine r_getR (pc := 121) C fl_RX12_7 m_s0 (by decide) m_k0 m_r0 dX12_comesOn_121 ?_
        refine r_iconst (pc := 124) C dX12_comesOn_124 ?_
        refine r_iald (pc := 125) C m_s1 (by decide) (by decide) (by decide) rfl dX12_comesOn_125 ?_
        refine r_bipush (pc := 126) (j := 8) C (by decide +kernel) dX12_comesOn_126 ?_
        refine r_ishl (pc := 128) C dX12_comesOn_128 ?_
        refine r_aload_n (pc := 129) C 0 rfl rfl dX12_comesOn_129 ?_
        refine r_getR (pc := 130) C fl_RX12_7 m_s0 (by decide) m_k0 m_r0 dX12_comesOn_130 ?_
        refine r_iconst (pc := 133) C dX12_comesOn_133 ?_
        refine r_iald (pc := 134) C m_s1 (by decide) (by decide) (by decide) rfl dX12_comesOn_134 ?_
        refine r_ior (pc := 135) C dX12_comesOn_135 ?_
        obtain ⟨M_136, hM_136, h⟩ := lt_inv h
        refine r_iast (pc := 136) C m_s25 (by decide) (by decide) (by decide) rfl hM_136 dX12_comesOn_136 ?_
        refine r_aload_n (pc := 137) C 0 rfl rfl dX12_comesOn_137 ?_
        refine r_getR (pc := 138) C fl_RX12_156 m_s0 (by decide) m_k47 m_r47 dX12_comesOn_138 ?_
        refine r_iconst (pc := 141) C dX12_comesOn_141 ?_
        refine r_iconst (pc := 142) C dX12_comesOn_142 ?_
        obtain ⟨M_143, hM_143, h⟩ := lt_inv h
        refine r_iast (pc := 143) C m_s28 (by decide) (by decide) (by decide) rfl hM_143 dX12_comesOn_143 ?_
        refine r_aload_n (pc := 144) C 0 rfl rfl dX12_comesOn_144 ?_
        refine r_getR (pc := 145) C fl_RX12_174 m_s0 (by decide) m_k53 m_r53 dX12_comesOn_145 ?_
        refine r_iconst (pc := 148) C dX12_comesOn_148 ?_
        refine r_iconst (pc := 149) C dX12_comesOn_149 ?_
        obtain ⟨M_150, hM_150, h⟩ := lt_inv h
        refine r_iast (pc := 150) C m_s34 (by decide) (by decide) (by decide) rfl hM_150 dX12_comesOn_150 ?_
        refine r_aload_n (pc := 151) C 0 rfl rfl dX12_comesOn_151 ?_
        refine r_getR (pc := 152) C fl_RX12_177 m_s0 (by decide) m_k54 m_r54 dX12_comesOn_152 ?_
        refine r_iconst (pc := 155) C dX12_comesOn_155 ?_
        refine r_iconst (pc := 156) C dX12_comesOn_156 ?_
        obtain ⟨M_157, hM_157, h⟩ := lt_inv h
        refine r_iast (pc := 157) C m_s35 (by decide) (by decide) (by decide) rfl hM_157 dX12_comesOn_157 ?_
        refine r_iconst (pc := 158) C dX12_comesOn_158 ?_
        refine r_istore (pc := 159) (lv' := [(4, vI 0), (0, vR b 0), (1, vI x1), (2, vI v2_13), (3, vI v3_1)]) C dX12_comesOn_159 (by decide) rfl ?_
        refine r_sub (lv' := [(0, vR b 0), (2, vI v2_13), (4, vI 0)]) [1, 3, 0] rfl ?_
        obtain ⟨q4, hl4, h⟩ := bnd_inv h
        refine w_m_comesOn_L161 C hr (fun r hq => ?_) (fun v4_4 M_4 hq => ?_) FUEL _ _ hl4
        · have hq := hq.symm
          subst hq
          exact Option.some.inj h
        · have hq := hq.symm
          subst hq
          refine r_iconst (pc := 198) C dX12_comesOn_198 ?_
          refine r_istore (pc := 199) (lv' := [(4, vI 0), (0, vR b 0), (2, vI v2_13)]) C dX12_comesOn_199 (by decide) rfl ?_
          refine r_sub (lv' := [(0, vR b 0), (2, vI v2_13), (4, vI 0)]) [1, 2, 0] rfl ?_
          obtain ⟨q6, hl6, h⟩ := bnd_inv h
          refine w_m_comesOn_L201 C hr (fun r hq => ?_) (fun v4_6 M_6 hq => ?_) FUEL _ _ hl6
          · have hq := hq.symm
            subst hq
            exact Option.some.inj h
          · have hq := hq.symm
            subst hq
            refine r_iconst (pc := 239) C dX12_comesOn_239 ?_
            have e := Option.some.inj h
            exact r_zret (pc := 240) C hr (Or.inr rfl) (congrArg (fun z => some (vB z)) (Prod.mk.inj e).1.symm) (Prod.mk.inj e).2.symm dX12_comesOn_240
      · refine r_iconst (pc := 107) C dX12_comesOn_107 ?_
        have e := Option.some.inj h
        exact r_zret (pc := 108) C hr (Or.inl rfl) (congrArg (fun z => some (vB z)) (Prod.mk.inj e).1.symm) (Prod.mk.inj e).2.symm dX12_comesOn_108
    · refine r_iconst (pc := 56) C dX12_comesOn_56 ?_
      have e := Option.some.inj h
      exact r_zret (pc := 57) C hr (Or.inl rfl) (congrArg (fun z => some (vB z)) (Prod.mk.inj e).1.symm) (Prod.mk.inj e).2.symm dX12_comesOn_57
set_option maxHeartbeats 4000000 in
set_option maxRecDepth 20000 in
theorem c_m_on (l : Launch) {M : Mem} {r0 : Bool} {M0 : Mem} (h : m_on M = some (r0, M0)) : Ct l yX12_on cX12_on 2 (some .boolean) 4 84 vwCl mSh mN mRf mExt (fun b => [vR b 0]) M (fun b => (some (vB r0))) M0 := by
  refine Ct_of mExtOK (by decide) (fun b => Nat.le_of_ble_eq_true rfl) ?_
  intro p e s m args below meth c D E b C hr
  unfold m_on at h
  refine (show mWX p l e 4 84 s m args below meth c 2 D E b (some (vB r0)) M0 M 0 [(0, vR b 0)] [] from ?_)
  refine r_aload_n (pc := 0) C 0 rfl rfl dX12_on_0 ?_
  refine r_getI (pc := 1) C fl_RX12_13 m_s0 (by decide) m_k1 dX12_on_1 ?_
  obtain ⟨v1_4, hv1_4, h⟩ := lt_inv h
  refine r_topI hv1_4 ?_
  refine r_istore_n (pc := 4) (lv' := [(1, vI v1_4), (0, vR b 0)]) C rfl dX12_on_4 (by decide) rfl ?_
  refine r_aload_n (pc := 5) C 1 rfl rfl dX12_on_5 ?_
  refine r_iconst (pc := 6) C dX12_on_6 ?_
  obtain ⟨M_7, hM_7, h⟩ := lt_inv h
  refine r_putI (pc := 7) C fl_RX12_13 mw_ft m_w1 m_s0 (by decide) m_k1 hM_7 dX12_on_7 ?_
  refine r_aload_n (pc := 10) C 1 rfl rfl dX12_on_10 ?_
  refine r_iload_n (pc := 11) C 0 rfl rfl dX12_on_11 ?_
  obtain ⟨r1, M1, hq1, h⟩ := bnd2_inv h
  refine r_callV (pc := 12) (rest := []) (st1 := [vB r1]) C (mExtOK b) [vI v1_4] (c_m_comesOn l hq1) cl_RX12_532 m_s0 (by decide) rfl rfl rfl rfl ⟨Nat.le_of_ble_eq_true rfl, Nat.le_of_ble_eq_true rfl⟩ (Nat.le_of_ble_eq_true rfl) rfl rfl dX12_on_12 ?_
  refine r_if_neB (pc := 15) (tgt := 32) C h dX12_on_15 (by decide) (fun hc15 h => ?_) (fun hc15 h => ?_)
  · refine r_aload_n (pc := 32) C 1 rfl rfl dX12_on_32 ?_
    refine r_iconst (pc := 33) C dX12_on_33 ?_
    refine r_iconst (pc := 34) C dX12_on_34 ?_
    obtain ⟨M2, hq2, h⟩ := bnd_inv h
    refine r_callV (pc := 35) (rest := []) (st1 := []) C (mExtOK b) [vI 0, vI 1] (c_m_copies l hq2) cl_RX12_396 m_s0 (by decide) rfl rfl rfl rfl ⟨Nat.le_of_ble_eq_true rfl, Nat.le_of_ble_eq_true rfl⟩ (Nat.le_of_ble_eq_true rfl) rfl rfl dX12_on_35 ?_
    refine r_aload_n (pc := 38) C 1 rfl rfl dX12_on_38 ?_
    refine r_iconst (pc := 39) C dX12_on_39 ?_
    obtain ⟨M_40, hM_40, h⟩ := lt_inv h
    refine r_putI (pc := 40) C fl_RX12_186 mw_ft m_w57 m_s0 (by decide) m_k57 hM_40 dX12_on_40 ?_
    refine r_iconst (pc := 43) C dX12_on_43 ?_
    have e := Option.some.inj h
    exact r_zret (pc := 44) C hr (Or.inr rfl) (congrArg (fun z => some (vB z)) (Prod.mk.inj e).1.symm) (Prod.mk.inj e).2.symm dX12_on_44
  · refine r_aload_n (pc := 18) C 1 rfl rfl dX12_on_18 ?_
    refine r_iconst (pc := 19) C dX12_on_19 ?_
    obtain ⟨r3, M3, hq3, h⟩ := bnd2_inv h
    refine r_callV (pc := 20) (rest := []) (st1 := [vI r3]) C (mExtOK b) [vI 5] (c_m_refuses l hq3) cl_RX12_225 m_s0 (by decide) rfl rfl rfl rfl ⟨Nat.le_of_ble_eq_true rfl, Nat.le_of_ble_eq_true rfl⟩ (Nat.le_of_ble_eq_true rfl) rfl rfl dX12_on_20 ?_
    refine r_if_lt (pc := 23) (tgt := 30) C h dX12_on_23 (by decide) (fun hc23 h => ?_) (fun hc23 h => ?_)
    · refine r_iconst (pc := 30) C dX12_on_30 ?_
      have e := Option.some.inj h
      exact r_zret (pc := 31) C hr (Or.inl rfl) (congrArg (fun z => some (vB z)) (Prod.mk.inj e).1.symm) (Prod.mk.inj e).2.symm dX12_on_31
    · refine r_iconst (pc := 26) C dX12_on_26 ?_
      refine r_goto (pc := 27) (tgt := 31) C dX12_on_27 (by decide) ?_
      have e := Option.some.inj h
      exact r_zret (pc := 31) C hr (Or.inr rfl) (congrArg (fun z => some (vB z)) (Prod.mk.inj e).1.symm) (Prod.mk.inj e).2.symm dX12_on_31
end
