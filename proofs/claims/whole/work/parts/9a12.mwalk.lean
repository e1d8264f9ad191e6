theorem dX12_status_0 : decode cX12_status 0 = .ok (.iload_n 1, 1) := by decide +kernel
theorem dX12_status_1 : decode cX12_status 1 = .ok (.iconst 0, 1) := by decide +kernel
theorem dX12_status_2 : decode cX12_status 2 = .ok (.iconst 5, 1) := by decide +kernel
theorem dX12_status_3 : decode cX12_status 3 = .ok (.invokestatic 303, 3) := by decide +kernel
theorem dX12_status_6 : decode cX12_status 6 = .ok (.ifCond .eq 12, 3) := by decide +kernel
theorem dX12_status_9 : decode cX12_status 9 = .ok (.aload_n 0, 1) := by decide +kernel
theorem dX12_status_10 : decode cX12_status 10 = .ok (.getfield 144, 3) := by decide +kernel
theorem dX12_status_13 : decode cX12_status 13 = .ok (.iload_n 1, 1) := by decide +kernel
theorem dX12_status_14 : decode cX12_status 14 = .ok (.iaload, 1) := by decide +kernel
theorem dX12_status_15 : decode cX12_status 15 = .ok (.goto 4, 3) := by decide +kernel
theorem dX12_status_18 : decode cX12_status 18 = .ok (.iconst (-1), 1) := by decide +kernel
theorem dX12_status_19 : decode cX12_status 19 = .ok (.ireturn, 1) := by decide +kernel
theorem dX12_copies_0 : decode cX12_copies 0 = .ok (.aload_n 0, 1) := by decide +kernel
theorem dX12_copies_1 : decode cX12_copies 1 = .ok (.getfield 147, 3) := by decide +kernel
theorem dX12_copies_4 : decode cX12_copies 4 = .ok (.iload_n 1, 1) := by decide +kernel
theorem dX12_copies_5 : decode cX12_copies 5 = .ok (.aload_n 0, 1) := by decide +kernel
theorem dX12_copies_6 : decode cX12_copies 6 = .ok (.getfield 147, 3) := by decide +kernel
theorem dX12_copies_9 : decode cX12_copies 9 = .ok (.iload_n 2, 1) := by decide +kernel
theorem dX12_copies_10 : decode cX12_copies 10 = .ok (.iaload, 1) := by decide +kernel
theorem dX12_copies_11 : decode cX12_copies 11 = .ok (.iastore, 1) := by decide +kernel
theorem dX12_copies_12 : decode cX12_copies 12 = .ok (.aload_n 0, 1) := by decide +kernel
theorem dX12_copies_13 : decode cX12_copies 13 = .ok (.getfield 156, 3) := by decide +kernel
theorem dX12_copies_16 : decode cX12_copies 16 = .ok (.iload_n 1, 1) := by decide +kernel
theorem dX12_copies_17 : decode cX12_copies 17 = .ok (.aload_n 0, 1) := by decide +kernel
theorem dX12_copies_18 : decode cX12_copies 18 = .ok (.getfield 156, 3) := by decide +kernel
theorem dX12_copies_21 : decode cX12_copies 21 = .ok (.iload_n 2, 1) := by decide +kernel
theorem dX12_copies_22 : decode cX12_copies 22 = .ok (.iaload, 1) := by decide +kernel
theorem dX12_copies_23 : decode cX12_copies 23 = .ok (.iastore, 1) := by decide +kernel
theorem dX12_copies_24 : decode cX12_copies 24 = .ok (.aload_n 0, 1) := by decide +kernel
theorem dX12_copies_25 : decode cX12_copies 25 = .ok (.getfield 174, 3) := by decide +kernel
theorem dX12_copies_28 : decode cX12_copies 28 = .ok (.iload_n 1, 1) := by decide +kernel
theorem dX12_copies_29 : decode cX12_copies 29 = .ok (.aload_n 0, 1) := by decide +kernel
theorem dX12_copies_30 : decode cX12_copies 30 = .ok (.getfield 174, 3) := by decide +kernel
theorem dX12_copies_33 : decode cX12_copies 33 = .ok (.iload_n 2, 1) := by decide +kernel
theorem dX12_copies_34 : decode cX12_copies 34 = .ok (.iaload, 1) := by decide +kernel
theorem dX12_copies_35 : decode cX12_copies 35 = .ok (.iastore, 1) := by decide +kernel
theorem dX12_copies_36 : decode cX12_copies 36 = .ok (.iconst 0, 1) := by decide +kernel
theorem dX12_copies_37 : decode cX12_copies 37 = .ok (.istore_n 3, 1) := by decide +kernel
theorem dX12_copies_38 : decode cX12_copies 38 = .ok (.iload_n 3, 1) := by decide +kernel
theorem dX12_copies_39 : decode cX12_copies 39 = .ok (.bipush 7, 2) := by decide +kernel
theorem dX12_copies_41 : decode cX12_copies 41 = .ok (.if_icmp .ge 53, 3) := by decide +kernel
theorem dX12_copies_44 : decode cX12_copies 44 = .ok (.aload_n 0, 1) := by decide +kernel
theorem dX12_copies_45 : decode cX12_copies 45 = .ok (.getfield 150, 3) := by decide +kernel
theorem dX12_copies_48 : decode cX12_copies 48 = .ok (.bipush 7, 2) := by decide +kernel
theorem dX12_copies_50 : decode cX12_copies 50 = .ok (.iload_n 1, 1) := by decide +kernel
theorem dX12_copies_51 : decode cX12_copies 51 = .ok (.imul, 1) := by decide +kernel
theorem dX12_copies_52 : decode cX12_copies 52 = .ok (.iload_n 3, 1) := by decide +kernel
theorem dX12_copies_53 : decode cX12_copies 53 = .ok (.iadd, 1) := by decide +kernel
theorem dX12_copies_54 : decode cX12_copies 54 = .ok (.aload_n 0, 1) := by decide +kernel
theorem dX12_copies_55 : decode cX12_copies 55 = .ok (.getfield 150, 3) := by decide +kernel
theorem dX12_copies_58 : decode cX12_copies 58 = .ok (.bipush 7, 2) := by decide +kernel
theorem dX12_copies_60 : decode cX12_copies 60 = .ok (.iload_n 2, 1) := by decide +kernel
theorem dX12_copies_61 : decode cX12_copies 61 = .ok (.imul, 1) := by decide +kernel
theorem dX12_copies_62 : decode cX12_copies 62 = .ok (.iload_n 3, 1) := by decide +kernel
theorem dX12_copies_63 : decode cX12_copies 63 = .ok (.iadd, 1) := by decide +kernel
theorem dX12_copies_64 : decode cX12_copies 64 = .ok (.iaload, 1) := by decide +kernel
theorem dX12_copies_65 : decode cX12_copies 65 = .ok (.iastore, 1) := by decide +kernel
theorem dX12_copies_66 : decode cX12_copies 66 = .ok (.aload_n 0, 1) := by decide +kernel
theorem dX12_copies_67 : decode cX12_copies 67 = .ok (.getfield 153, 3) := by decide +kernel
theorem dX12_copies_70 : decode cX12_copies 70 = .ok (.bipush 7, 2) := by decide +kernel
theorem dX12_copies_72 : decode cX12_copies 72 = .ok (.iload_n 1, 1) := by decide +kernel
theorem dX12_copies_73 : decode cX12_copies 73 = .ok (.imul, 1) := by decide +kernel
theorem dX12_copies_74 : decode cX12_copies 74 = .ok (.iload_n 3, 1) := by decide +kernel
theorem dX12_copies_75 : decode cX12_copies 75 = .ok (.iadd, 1) := by decide +kernel
theorem dX12_copies_76 : decode cX12_copies 76 = .ok (.aload_n 0, 1) := by decide +kernel
theorem dX12_copies_77 : decode cX12_copies 77 = .ok (.getfield 153, 3) := by decide +kernel
theorem dX12_copies_80 : decode cX12_copies 80 = .ok (.bipush 7, 2) := by decide +kernel
theorem dX12_copies_82 : decode cX12_copies 82 = .ok (.iload_n 2, 1) := by decide +kernel
theorem dX12_copies_83 : decode cX12_copies 83 = .ok (.imul, 1) := by decide +kernel
theorem dX12_copies_84 : decode cX12_copies 84 = .ok (.iload_n 3, 1) := by decide +kernel
theorem dX12_copies_85 : decode cX12_copies 85 = .ok (.iadd, 1) := by decide +kernel
theorem dX12_copies_86 : decode cX12_copies 86 = .ok (.iaload, 1) := by decide +kernel
theorem dX12_copies_87 : decode cX12_copies 87 = .ok (.iastore, 1) := by decide +kernel
theorem dX12_copies_88 : decode cX12_copies 88 = .ok (.iinc 3 1, 3) := by decide +kernel
theorem dX12_copies_91 : decode cX12_copies 91 = .ok (.goto (-53), 3) := by decide +kernel
theorem dX12_copies_94 : decode cX12_copies 94 = .ok (.iconst 0, 1) := by decide +kernel
theorem dX12_copies_95 : decode cX12_copies 95 = .ok (.istore_n 3, 1) := by decide +kernel
theorem dX12_copies_96 : decode cX12_copies 96 = .ok (.iload_n 3, 1) := by decide +kernel
theorem dX12_copies_97 : decode cX12_copies 97 = .ok (.bipush 12, 2) := by decide +kernel
theorem dX12_copies_99 : decode cX12_copies 99 = .ok (.if_icmp .ge 95, 3) := by decide +kernel
theorem dX12_copies_102 : decode cX12_copies 102 = .ok (.bipush 12, 2) := by decide +kernel
theorem dX12_copies_104 : decode cX12_copies 104 = .ok (.iload_n 1, 1) := by decide +kernel
theorem dX12_copies_105 : decode cX12_copies 105 = .ok (.imul, 1) := by decide +kernel
theorem dX12_copies_106 : decode cX12_copies 106 = .ok (.iload_n 3, 1) := by decide +kernel
theorem dX12_copies_107 : decode cX12_copies 107 = .ok (.iadd, 1) := by decide +kernel
theorem dX12_copies_108 : decode cX12_copies 108 = .ok (.istore 4, 2) := by decide +kernel
theorem dX12_copies_110 : decode cX12_copies 110 = .ok (.bipush 12, 2) := by decide +kernel
theorem dX12_copies_112 : decode cX12_copies 112 = .ok (.iload_n 2, 1) := by decide +kernel
theorem dX12_copies_113 : decode cX12_copies 113 = .ok (.imul, 1) := by decide +kernel
theorem dX12_copies_114 : decode cX12_copies 114 = .ok (.iload_n 3, 1) := by decide +kernel
theorem dX12_copies_115 : decode cX12_copies 115 = .ok (.iadd, 1) := by decide +kernel
theorem dX12_copies_116 : decode cX12_copies 116 = .ok (.istore 5, 2) := by decide +kernel
theorem dX12_copies_118 : decode cX12_copies 118 = .ok (.aload_n 0, 1) := by decide +kernel
theorem dX12_copies_119 : decode cX12_copies 119 = .ok (.getfield 159, 3) := by decide +kernel
theorem dX12_copies_122 : decode cX12_copies 122 = .ok (.iload 4, 2) := by decide +kernel
theorem dX12_copies_124 : decode cX12_copies 124 = .ok (.aload_n 0, 1) := by decide +kernel
theorem dX12_copies_125 : decode cX12_copies 125 = .ok (.getfield 159, 3) := by decide +kernel
theorem dX12_copies_128 : decode cX12_copies 128 = .ok (.iload 5, 2) := by decide +kernel
theorem dX12_copies_130 : decode cX12_copies 130 = .ok (.iaload, 1) := by decide +kernel
theorem dX12_copies_131 : decode cX12_copies 131 = .ok (.iastore, 1) := by decide +kernel
theorem dX12_copies_132 : decode cX12_copies 132 = .ok (.aload_n 0, 1) := by decide +kernel
theorem dX12_copies_133 : decode cX12_copies 133 = .ok (.getfield 162, 3) := by decide +kernel
theorem dX12_copies_136 : decode cX12_copies 136 = .ok (.iload 4, 2) := by decide +kernel
theorem dX12_copies_138 : decode cX12_copies 138 = .ok (.aload_n 0, 1) := by decide +kernel
theorem dX12_copies_139 : decode cX12_copies 139 = .ok (.getfield 162, 3) := by decide +kernel
theorem dX12_copies_142 : decode cX12_copies 142 = .ok (.iload 5, 2) := by decide +kernel
theorem dX12_copies_144 : decode cX12_copies 144 = .ok (.iaload, 1) := by decide +kernel
theorem dX12_copies_145 : decode cX12_copies 145 = .ok (.iastore, 1) := by decide +kernel
theorem dX12_copies_146 : decode cX12_copies 146 = .ok (.aload_n 0, 1) := by decide +kernel
theorem dX12_copies_147 : decode cX12_copies 147 = .ok (.getfield 165, 3) := by decide +kernel
theorem dX12_copies_150 : decode cX12_copies 150 = .ok (.iload 4, 2) := by decide +kernel
theorem dX12_copies_152 : decode cX12_copies 152 = .ok (.aload_n 0, 1) := by decide +kernel
theorem dX12_copies_153 : decode cX12_copies 153 = .ok (.getfield 165, 3) := by decide +kernel
theorem dX12_copies_156 : decode cX12_copies 156 = .ok (.iload 5, 2) := by decide +kernel
theorem dX12_copies_158 : decode cX12_copies 158 = .ok (.iaload, 1) := by decide +kernel
theorem dX12_copies_159 : decode cX12_copies 159 = .ok (.iastore, 1) := by decide +kernel
theorem dX12_copies_160 : decode cX12_copies 160 = .ok (.aload_n 0, 1) := by decide +kernel
theorem dX12_copies_161 : decode cX12_copies 161 = .ok (.getfield 168, 3) := by decide +kernel
theorem dX12_copies_164 : decode cX12_copies 164 = .ok (.iload 4, 2) := by decide +kernel
theorem dX12_copies_166 : decode cX12_copies 166 = .ok (.aload_n 0, 1) := by decide +kernel
theorem dX12_copies_167 : decode cX12_copies 167 = .ok (.getfield 168, 3) := by decide +kernel
theorem dX12_copies_170 : decode cX12_copies 170 = .ok (.iload 5, 2) := by decide +kernel
theorem dX12_copies_172 : decode cX12_copies 172 = .ok (.iaload, 1) := by decide +kernel
theorem dX12_copies_173 : decode cX12_copies 173 = .ok (.iastore, 1) := by decide +kernel
theorem dX12_copies_174 : decode cX12_copies 174 = .ok (.aload_n 0, 1) := by decide +kernel
theorem dX12_copies_175 : decode cX12_copies 175 = .ok (.getfield 171, 3) := by decide +kernel
theorem dX12_copies_178 : decode cX12_copies 178 = .ok (.iload 4, 2) := by decide +kernel
theorem dX12_copies_180 : decode cX12_copies 180 = .ok (.aload_n 0, 1) := by decide +kernel
theorem dX12_copies_181 : decode cX12_copies 181 = .ok (.getfield 171, 3) := by decide +kernel
theorem dX12_copies_184 : decode cX12_copies 184 = .ok (.iload 5, 2) := by decide +kernel
theorem dX12_copies_186 : decode cX12_copies 186 = .ok (.iaload, 1) := by decide +kernel
theorem dX12_copies_187 : decode cX12_copies 187 = .ok (.iastore, 1) := by decide +kernel
theorem dX12_copies_188 : decode cX12_copies 188 = .ok (.iinc 3 1, 3) := by decide +kernel
theorem dX12_copies_191 : decode cX12_copies 191 = .ok (.goto (-95), 3) := by decide +kernel
theorem dX12_copies_194 : decode cX12_copies 194 = .ok (.aload_n 0, 1) := by decide +kernel
theorem dX12_copies_195 : decode cX12_copies 195 = .ok (.getfield 177, 3) := by decide +kernel
theorem dX12_copies_198 : decode cX12_copies 198 = .ok (.iload_n 1, 1) := by decide +kernel
theorem dX12_copies_199 : decode cX12_copies 199 = .ok (.aload_n 0, 1) := by decide +kernel
theorem dX12_copies_200 : decode cX12_copies 200 = .ok (.getfield 177, 3) := by decide +kernel
theorem dX12_copies_203 : decode cX12_copies 203 = .ok (.iload_n 2, 1) := by decide +kernel
theorem dX12_copies_204 : decode cX12_copies 204 = .ok (.iaload, 1) := by decide +kernel
theorem dX12_copies_205 : decode cX12_copies 205 = .ok (.iastore, 1) := by decide +kernel
theorem dX12_copies_206 : decode cX12_copies 206 = .ok (.iconst 0, 1) := by decide +kernel
theorem dX12_copies_207 : decode cX12_copies 207 = .ok (.istore_n 3, 1) := by decide +kernel
theorem dX12_copies_208 : decode cX12_copies 208 = .ok (.iload_n 3, 1) := by decide +kernel
theorem dX12_copies_209 : decode cX12_copies 209 = .ok (.iconst 3, 1) := by decide +kernel
theorem dX12_copies_210 : decode cX12_copies 210 = .ok (.aload_n 0, 1) := by decide +kernel
theorem dX12_copies_211 : decode cX12_copies 211 = .ok (.getfield 177, 3) := by decide +kernel
theorem dX12_copies_214 : decode cX12_copies 214 = .ok (.iload_n 2, 1) := by decide +kernel
theorem dX12_copies_215 : decode cX12_copies 215 = .ok (.iaload, 1) := by decide +kernel
theorem dX12_copies_216 : decode cX12_copies 216 = .ok (.imul, 1) := by decide +kernel
theorem dX12_copies_217 : decode cX12_copies 217 = .ok (.if_icmp .ge 31, 3) := by decide +kernel
theorem dX12_copies_220 : decode cX12_copies 220 = .ok (.aload_n 0, 1) := by decide +kernel
theorem dX12_copies_221 : decode cX12_copies 221 = .ok (.getfield 180, 3) := by decide +kernel
theorem dX12_copies_224 : decode cX12_copies 224 = .ok (.bipush 120, 2) := by decide +kernel
theorem dX12_copies_226 : decode cX12_copies 226 = .ok (.iload_n 1, 1) := by decide +kernel
theorem dX12_copies_227 : decode cX12_copies 227 = .ok (.imul, 1) := by decide +kernel
theorem dX12_copies_228 : decode cX12_copies 228 = .ok (.iload_n 3, 1) := by decide +kernel
theorem dX12_copies_229 : decode cX12_copies 229 = .ok (.iadd, 1) := by decide +kernel
theorem dX12_copies_230 : decode cX12_copies 230 = .ok (.aload_n 0, 1) := by decide +kernel
theorem dX12_copies_231 : decode cX12_copies 231 = .ok (.getfield 180, 3) := by decide +kernel
theorem dX12_copies_234 : decode cX12_copies 234 = .ok (.bipush 120, 2) := by decide +kernel
theorem dX12_copies_236 : decode cX12_copies 236 = .ok (.iload_n 2, 1) := by decide +kernel
theorem dX12_copies_237 : decode cX12_copies 237 = .ok (.imul, 1) := by decide +kernel
theorem dX12_copies_238 : decode cX12_copies 238 = .ok (.iload_n 3, 1) := by decide +kernel
theorem dX12_copies_239 : decode cX12_copies 239 = .ok (.iadd, 1) := by decide +kernel
theorem dX12_copies_240 : decode cX12_copies 240 = .ok (.iaload, 1) := by decide +kernel
theorem dX12_copies_241 : decode cX12_copies 241 = .ok (.iastore, 1) := by decide +kernel
theorem dX12_copies_242 : decode cX12_copies 242 = .ok (.iinc 3 1, 3) := by decide +kernel
theorem dX12_copies_245 : decode cX12_copies 245 = .ok (.goto (-37), 3) := by decide +kernel
theorem dX12_copies_248 : decode cX12_copies 248 = .ok (.return_, 1) := by decide +kernel
theorem dX12_slot_0 : decode cX12_slot 0 = .ok (.iconst 2, 1) := by decide +kernel
theorem dX12_slot_1 : decode cX12_slot 1 = .ok (.aload_n 0, 1) := by decide +kernel
theorem dX12_slot_2 : decode cX12_slot 2 = .ok (.getfield 183, 3) := by decide +kernel
theorem dX12_slot_5 : decode cX12_slot 5 = .ok (.iload_n 1, 1) := by decide +kernel
theorem dX12_slot_6 : decode cX12_slot 6 = .ok (.iadd, 1) := by decide +kernel
theorem dX12_slot_7 : decode cX12_slot 7 = .ok (.bipush 20, 2) := by decide +kernel
theorem dX12_slot_9 : decode cX12_slot 9 = .ok (.irem, 1) := by decide +kernel
theorem dX12_slot_10 : decode cX12_slot 10 = .ok (.iadd, 1) := by decide +kernel
theorem dX12_slot_11 : decode cX12_slot 11 = .ok (.ireturn, 1) := by decide +kernel
theorem dX12_keeps_0 : decode cX12_keeps 0 = .ok (.aload_n 0, 1) := by decide +kernel
theorem dX12_keeps_1 : decode cX12_keeps 1 = .ok (.getfield 186, 3) := by decide +kernel
theorem dX12_keeps_4 : decode cX12_keeps 4 = .ok (.bipush 20, 2) := by decide +kernel
theorem dX12_keeps_6 : decode cX12_keeps 6 = .ok (.if_icmp .ne 26, 3) := by decide +kernel
theorem dX12_keeps_9 : decode cX12_keeps 9 = .ok (.aload_n 0, 1) := by decide +kernel
theorem dX12_keeps_10 : decode cX12_keeps 10 = .ok (.aload_n 0, 1) := by decide +kernel
theorem dX12_keeps_11 : decode cX12_keeps 11 = .ok (.getfield 183, 3) := by decide +kernel
theorem dX12_keeps_14 : decode cX12_keeps 14 = .ok (.iconst 1, 1) := by decide +kernel
theorem dX12_keeps_15 : decode cX12_keeps 15 = .ok (.iadd, 1) := by decide +kernel
theorem dX12_keeps_16 : decode cX12_keeps 16 = .ok (.bipush 20, 2) := by decide +kernel
theorem dX12_keeps_18 : decode cX12_keeps 18 = .ok (.irem, 1) := by decide +kernel
theorem dX12_keeps_19 : decode cX12_keeps 19 = .ok (.putfield 183, 3) := by decide +kernel
theorem dX12_keeps_22 : decode cX12_keeps 22 = .ok (.aload_n 0, 1) := by decide +kernel
theorem dX12_keeps_23 : decode cX12_keeps 23 = .ok (.dup, 1) := by decide +kernel
theorem dX12_keeps_24 : decode cX12_keeps 24 = .ok (.getfield 186, 3) := by decide +kernel
theorem dX12_keeps_27 : decode cX12_keeps 27 = .ok (.iconst 1, 1) := by decide +kernel
theorem dX12_keeps_28 : decode cX12_keeps 28 = .ok (.isub, 1) := by decide +kernel
theorem dX12_keeps_29 : decode cX12_keeps 29 = .ok (.putfield 186, 3) := by decide +kernel
theorem dX12_keeps_32 : decode cX12_keeps 32 = .ok (.aload_n 0, 1) := by decide +kernel
theorem dX12_keeps_33 : decode cX12_keeps 33 = .ok (.aload_n 0, 1) := by decide +kernel
theorem dX12_keeps_34 : decode cX12_keeps 34 = .ok (.aload_n 0, 1) := by decide +kernel
theorem dX12_keeps_35 : decode cX12_keeps 35 = .ok (.getfield 186, 3) := by decide +kernel
theorem dX12_keeps_38 : decode cX12_keeps 38 = .ok (.invokevirtual 393, 3) := by decide +kernel
theorem dX12_keeps_41 : decode cX12_keeps 41 = .ok (.iconst 0, 1) := by decide +kernel
theorem dX12_keeps_42 : decode cX12_keeps 42 = .ok (.invokevirtual 396, 3) := by decide +kernel
theorem dX12_keeps_45 : decode cX12_keeps 45 = .ok (.aload_n 0, 1) := by decide +kernel
theorem dX12_keeps_46 : decode cX12_keeps 46 = .ok (.dup, 1) := by decide +kernel
theorem dX12_keeps_47 : decode cX12_keeps 47 = .ok (.getfield 186, 3) := by decide +kernel
theorem dX12_keeps_50 : decode cX12_keeps 50 = .ok (.iconst 1, 1) := by decide +kernel
theorem dX12_keeps_51 : decode cX12_keeps 51 = .ok (.iadd, 1) := by decide +kernel
theorem dX12_keeps_52 : decode cX12_keeps 52 = .ok (.putfield 186, 3) := by decide +kernel
theorem dX12_keeps_55 : decode cX12_keeps 55 = .ok (.return_, 1) := by decide +kernel
theorem dX12_undo_0 : decode cX12_undo 0 = .ok (.aload_n 0, 1) := by decide +kernel
theorem dX12_undo_1 : decode cX12_undo 1 = .ok (.getfield 186, 3) := by decide +kernel
theorem dX12_undo_4 : decode cX12_undo 4 = .ok (.ifCond .ne 17, 3) := by decide +kernel
theorem dX12_undo_7 : decode cX12_undo 7 = .ok (.aload_n 0, 1) := by decide +kernel
theorem dX12_undo_8 : decode cX12_undo 8 = .ok (.iconst 4, 1) := by decide +kernel
theorem dX12_undo_9 : decode cX12_undo 9 = .ok (.invokevirtual 225, 3) := by decide +kernel
theorem dX12_undo_12 : decode cX12_undo 12 = .ok (.ifCond .lt 7, 3) := by decide +kernel
theorem dX12_undo_15 : decode cX12_undo 15 = .ok (.iconst 1, 1) := by decide +kernel
theorem dX12_undo_16 : decode cX12_undo 16 = .ok (.goto 4, 3) := by decide +kernel
theorem dX12_undo_19 : decode cX12_undo 19 = .ok (.iconst 0, 1) := by decide +kernel
theorem dX12_undo_20 : decode cX12_undo 20 = .ok (.ireturn, 1) := by decide +kernel
theorem dX12_undo_21 : decode cX12_undo 21 = .ok (.aload_n 0, 1) := by decide +kernel
theorem dX12_undo_22 : decode cX12_undo 22 = .ok (.dup, 1) := by decide +kernel
theorem dX12_undo_23 : decode cX12_undo 23 = .ok (.getfield 186, 3) := by decide +kernel
theorem dX12_undo_26 : decode cX12_undo 26 = .ok (.iconst 1, 1) := by decide +kernel
theorem dX12_undo_27 : decode cX12_undo 27 = .ok (.isub, 1) := by decide +kernel
theorem dX12_undo_28 : decode cX12_undo 28 = .ok (.putfield 186, 3) := by decide +kernel
theorem dX12_undo_31 : decode cX12_undo 31 = .ok (.aload_n 0, 1) := by decide +kernel
theorem dX12_undo_32 : decode cX12_undo 32 = .ok (.iconst 0, 1) := by decide +kernel
theorem dX12_undo_33 : decode cX12_undo 33 = .ok (.aload_n 0, 1) := by decide +kernel
theorem dX12_undo_34 : decode cX12_undo 34 = .ok (.aload_n 0, 1) := by decide +kernel
theorem dX12_undo_35 : decode cX12_undo 35 = .ok (.getfield 186, 3) := by decide +kernel
theorem dX12_undo_38 : decode cX12_undo 38 = .ok (.invokevirtual 393, 3) := by decide +kernel
theorem dX12_undo_41 : decode cX12_undo 41 = .ok (.invokevirtual 396, 3) := by decide +kernel
theorem dX12_undo_44 : decode cX12_undo 44 = .ok (.iconst 1, 1) := by decide +kernel
theorem dX12_undo_45 : decode cX12_undo 45 = .ok (.ireturn, 1) := by decide +kernel
theorem dX12_within_0 : decode cX12_within 0 = .ok (.lload_n 0, 1) := by decide +kernel
theorem dX12_within_1 : decode cX12_within 1 = .ok (.ldc2_w 399, 3) := by decide +kernel
theorem dX12_within_4 : decode cX12_within 4 = .ok (.lcmp, 1) := by decide +kernel
theorem dX12_within_5 : decode cX12_within 5 = .ok (.ifCond .le 9, 3) := by decide +kernel
theorem dX12_within_8 : decode cX12_within 8 = .ok (.ldc2_w 399, 3) := by decide +kernel
theorem dX12_within_11 : decode cX12_within 11 = .ok (.goto 18, 3) := by decide +kernel
theorem dX12_within_14 : decode cX12_within 14 = .ok (.lload_n 0, 1) := by decide +kernel
theorem dX12_within_15 : decode cX12_within 15 = .ok (.ldc2_w 401, 3) := by decide +kernel
theorem dX12_within_18 : decode cX12_within 18 = .ok (.lcmp, 1) := by decide +kernel
theorem dX12_within_19 : decode cX12_within 19 = .ok (.ifCond .ge 9, 3) := by decide +kernel
theorem dX12_within_22 : decode cX12_within 22 = .ok (.ldc2_w 401, 3) := by decide +kernel
theorem dX12_within_25 : decode cX12_within 25 = .ok (.goto 4, 3) := by decide +kernel
theorem dX12_within_28 : decode cX12_within 28 = .ok (.lload_n 0, 1) := by decide +kernel
theorem dX12_within_29 : decode cX12_within 29 = .ok (.lreturn, 1) := by decide +kernel
theorem dX12_floor_0 : decode cX12_floor 0 = .ok (.lload_n 2, 1) := by decide +kernel
theorem dX12_floor_1 : decode cX12_floor 1 = .ok (.lconst 0, 1) := by decide +kernel
theorem dX12_floor_2 : decode cX12_floor 2 = .ok (.lcmp, 1) := by decide +kernel
theorem dX12_floor_3 : decode cX12_floor 3 = .ok (.ifCond .ne 5, 3) := by decide +kernel
theorem dX12_floor_6 : decode cX12_floor 6 = .ok (.lconst 0, 1) := by decide +kernel
theorem dX12_floor_7 : decode cX12_floor 7 = .ok (.lreturn, 1) := by decide +kernel
theorem dX12_floor_8 : decode cX12_floor 8 = .ok (.lload_n 0, 1) := by decide +kernel
theorem dX12_floor_9 : decode cX12_floor 9 = .ok (.lload_n 2, 1) := by decide +kernel
theorem dX12_floor_10 : decode cX12_floor 10 = .ok (.ldiv, 1) := by decide +kernel
theorem dX12_floor_11 : decode cX12_floor 11 = .ok (.lstore 4, 2) := by decide +kernel
theorem dX12_floor_13 : decode cX12_floor 13 = .ok (.lload_n 0, 1) := by decide +kernel
theorem dX12_floor_14 : decode cX12_floor 14 = .ok (.lload_n 2, 1) := by decide +kernel
theorem dX12_floor_15 : decode cX12_floor 15 = .ok (.lrem, 1) := by decide +kernel
theorem dX12_floor_16 : decode cX12_floor 16 = .ok (.lconst 0, 1) := by decide +kernel
theorem dX12_floor_17 : decode cX12_floor 17 = .ok (.lcmp, 1) := by decide +kernel
theorem dX12_floor_18 : decode cX12_floor 18 = .ok (.ifCond .eq 35, 3) := by decide +kernel
theorem dX12_floor_21 : decode cX12_floor 21 = .ok (.lload_n 0, 1) := by decide +kernel
theorem dX12_floor_22 : decode cX12_floor 22 = .ok (.lconst 0, 1) := by decide +kernel
theorem dX12_floor_23 : decode cX12_floor 23 = .ok (.lcmp, 1) := by decide +kernel
theorem dX12_floor_24 : decode cX12_floor 24 = .ok (.ifCond .ge 7, 3) := by decide +kernel
theorem dX12_floor_27 : decode cX12_floor 27 = .ok (.iconst 1, 1) := by decide +kernel
theorem dX12_floor_28 : decode cX12_floor 28 = .ok (.goto 4, 3) := by decide +kernel
theorem dX12_floor_31 : decode cX12_floor 31 = .ok (.iconst 0, 1) := by decide +kernel
theorem dX12_floor_32 : decode cX12_floor 32 = .ok (.lload_n 2, 1) := by decide +kernel
theorem dX12_floor_33 : decode cX12_floor 33 = .ok (.lconst 0, 1) := by decide +kernel
theorem dX12_floor_34 : decode cX12_floor 34 = .ok (.lcmp, 1) := by decide +kernel
theorem dX12_floor_35 : decode cX12_floor 35 = .ok (.ifCond .ge 7, 3) := by decide +kernel
theorem dX12_floor_38 : decode cX12_floor 38 = .ok (.iconst 1, 1) := by decide +kernel
theorem dX12_floor_39 : decode cX12_floor 39 = .ok (.goto 4, 3) := by decide +kernel
theorem dX12_floor_42 : decode cX12_floor 42 = .ok (.iconst 0, 1) := by decide +kernel
theorem dX12_floor_43 : decode cX12_floor 43 = .ok (.if_icmp .eq 10, 3) := by decide +kernel
theorem dX12_floor_46 : decode cX12_floor 46 = .ok (.lload 4, 2) := by decide +kernel
theorem dX12_floor_48 : decode cX12_floor 48 = .ok (.lconst 1, 1) := by decide +kernel
theorem dX12_floor_49 : decode cX12_floor 49 = .ok (.lsub, 1) := by decide +kernel
theorem dX12_floor_50 : decode cX12_floor 50 = .ok (.goto 5, 3) := by decide +kernel
theorem dX12_floor_53 : decode cX12_floor 53 = .ok (.lload 4, 2) := by decide +kernel
theorem dX12_floor_55 : decode cX12_floor 55 = .ok (.lreturn, 1) := by decide +kernel
theorem dX12_two_0 : decode cX12_two 0 = .ok (.iload_n 0, 1) := by decide +kernel
theorem dX12_two_1 : decode cX12_two 1 = .ok (.tableswitch 176 31 41 #[59, 66, 73, 80, 89, 112, 124, 136, 148, 160, 172], 59) := by decide +kernel
theorem dX12_two_60 : decode cX12_two 60 = .ok (.lload_n 1, 1) := by decide +kernel
theorem dX12_two_61 : decode cX12_two 61 = .ok (.lload_n 3, 1) := by decide +kernel
theorem dX12_two_62 : decode cX12_two 62 = .ok (.ladd, 1) := by decide +kernel
theorem dX12_two_63 : decode cX12_two 63 = .ok (.invokestatic 403, 3) := by decide +kernel
theorem dX12_two_66 : decode cX12_two 66 = .ok (.lreturn, 1) := by decide +kernel
theorem dX12_two_67 : decode cX12_two 67 = .ok (.lload_n 1, 1) := by decide +kernel
theorem dX12_two_68 : decode cX12_two 68 = .ok (.lload_n 3, 1) := by decide +kernel
theorem dX12_two_69 : decode cX12_two 69 = .ok (.lsub, 1) := by decide +kernel
theorem dX12_two_70 : decode cX12_two 70 = .ok (.invokestatic 403, 3) := by decide +kernel
theorem dX12_two_73 : decode cX12_two 73 = .ok (.lreturn, 1) := by decide +kernel
theorem dX12_two_74 : decode cX12_two 74 = .ok (.lload_n 1, 1) := by decide +kernel
theorem dX12_two_75 : decode cX12_two 75 = .ok (.lload_n 3, 1) := by decide +kernel
theorem dX12_two_76 : decode cX12_two 76 = .ok (.lmul, 1) := by decide +kernel
theorem dX12_two_77 : decode cX12_two 77 = .ok (.invokestatic 403, 3) := by decide +kernel
theorem dX12_two_80 : decode cX12_two 80 = .ok (.lreturn, 1) := by decide +kernel
theorem dX12_two_81 : decode cX12_two 81 = .ok (.lload_n 1, 1) := by decide +kernel
theorem dX12_two_82 : decode cX12_two 82 = .ok (.lload_n 3, 1) := by decide +kernel
theorem dX12_two_83 : decode cX12_two 83 = .ok (.invokestatic 407, 3) := by decide +kernel
theorem dX12_two_86 : decode cX12_two 86 = .ok (.invokestatic 403, 3) := by decide +kernel
theorem dX12_two_89 : decode cX12_two 89 = .ok (.lreturn, 1) := by decide +kernel
theorem dX12_two_90 : decode cX12_two 90 = .ok (.lload_n 3, 1) := by decide +kernel
theorem dX12_two_91 : decode cX12_two 91 = .ok (.lconst 0, 1) := by decide +kernel
theorem dX12_two_92 : decode cX12_two 92 = .ok (.lcmp, 1) := by decide +kernel
theorem dX12_two_93 : decode cX12_two 93 = .ok (.ifCond .ne 7, 3) := by decide +kernel
theorem dX12_two_96 : decode cX12_two 96 = .ok (.lconst 0, 1) := by decide +kernel
theorem dX12_two_97 : decode cX12_two 97 = .ok (.goto 15, 3) := by decide +kernel
theorem dX12_two_100 : decode cX12_two 100 = .ok (.lload_n 1, 1) := by decide +kernel
theorem dX12_two_101 : decode cX12_two 101 = .ok (.lload_n 3, 1) := by decide +kernel
theorem dX12_two_102 : decode cX12_two 102 = .ok (.lload_n 1, 1) := by decide +kernel
theorem dX12_two_103 : decode cX12_two 103 = .ok (.lload_n 3, 1) := by decide +kernel
theorem dX12_two_104 : decode cX12_two 104 = .ok (.invokestatic 407, 3) := by decide +kernel
theorem dX12_two_107 : decode cX12_two 107 = .ok (.lmul, 1) := by decide +kernel
theorem dX12_two_108 : decode cX12_two 108 = .ok (.lsub, 1) := by decide +kernel
theorem dX12_two_109 : decode cX12_two 109 = .ok (.invokestatic 403, 3) := by decide +kernel
theorem dX12_two_112 : decode cX12_two 112 = .ok (.lreturn, 1) := by decide +kernel
theorem dX12_two_113 : decode cX12_two 113 = .ok (.lload_n 1, 1) := by decide +kernel
theorem dX12_two_114 : decode cX12_two 114 = .ok (.lload_n 3, 1) := by decide +kernel
theorem dX12_two_115 : decode cX12_two 115 = .ok (.lcmp, 1) := by decide +kernel
theorem dX12_two_116 : decode cX12_two 116 = .ok (.ifCond .ge 7, 3) := by decide +kernel
theorem dX12_two_119 : decode cX12_two 119 = .ok (.lload_n 1, 1) := by decide +kernel
theorem dX12_two_120 : decode cX12_two 120 = .ok (.goto 4, 3) := by decide +kernel
theorem dX12_two_123 : decode cX12_two 123 = .ok (.lload_n 3, 1) := by decide +kernel
theorem dX12_two_124 : decode cX12_two 124 = .ok (.lreturn, 1) := by decide +kernel
theorem dX12_two_125 : decode cX12_two 125 = .ok (.lload_n 1, 1) := by decide +kernel
theorem dX12_two_126 : decode cX12_two 126 = .ok (.lload_n 3, 1) := by decide +kernel
theorem dX12_two_127 : decode cX12_two 127 = .ok (.lcmp, 1) := by decide +kernel
theorem dX12_two_128 : decode cX12_two 128 = .ok (.ifCond .le 7, 3) := by decide +kernel
theorem dX12_two_131 : decode cX12_two 131 = .ok (.lload_n 1, 1) := by decide +kernel
theorem dX12_two_132 : decode cX12_two 132 = .ok (.goto 4, 3) := by decide +kernel
theorem dX12_two_135 : decode cX12_two 135 = .ok (.lload_n 3, 1) := by decide +kernel
theorem dX12_two_136 : decode cX12_two 136 = .ok (.lreturn, 1) := by decide +kernel
theorem dX12_two_137 : decode cX12_two 137 = .ok (.lload_n 1, 1) := by decide +kernel
theorem dX12_two_138 : decode cX12_two 138 = .ok (.lload_n 3, 1) := by decide +kernel
theorem dX12_two_139 : decode cX12_two 139 = .ok (.lcmp, 1) := by decide +kernel
theorem dX12_two_140 : decode cX12_two 140 = .ok (.ifCond .ge 7, 3) := by decide +kernel
theorem dX12_two_143 : decode cX12_two 143 = .ok (.lconst 1, 1) := by decide +kernel
theorem dX12_two_144 : decode cX12_two 144 = .ok (.goto 4, 3) := by decide +kernel
theorem dX12_two_147 : decode cX12_two 147 = .ok (.lconst 0, 1) := by decide +kernel
theorem dX12_two_148 : decode cX12_two 148 = .ok (.lreturn, 1) := by decide +kernel
theorem dX12_two_149 : decode cX12_two 149 = .ok (.lload_n 1, 1) := by decide +kernel
theorem dX12_two_150 : decode cX12_two 150 = .ok (.lload_n 3, 1) := by decide +kernel
theorem dX12_two_151 : decode cX12_two 151 = .ok (.lcmp, 1) := by decide +kernel
theorem dX12_two_152 : decode cX12_two 152 = .ok (.ifCond .le 7, 3) := by decide +kernel
theorem dX12_two_155 : decode cX12_two 155 = .ok (.lconst 1, 1) := by decide +kernel
theorem dX12_two_156 : decode cX12_two 156 = .ok (.goto 4, 3) := by decide +kernel
theorem dX12_two_159 : decode cX12_two 159 = .ok (.lconst 0, 1) := by decide +kernel
theorem dX12_two_160 : decode cX12_two 160 = .ok (.lreturn, 1) := by decide +kernel
theorem dX12_two_161 : decode cX12_two 161 = .ok (.lload_n 1, 1) := by decide +kernel
theorem dX12_two_162 : decode cX12_two 162 = .ok (.lload_n 3, 1) := by decide +kernel
theorem dX12_two_163 : decode cX12_two 163 = .ok (.lcmp, 1) := by decide +kernel
theorem dX12_two_164 : decode cX12_two 164 = .ok (.ifCond .ne 7, 3) := by decide +kernel
theorem dX12_two_167 : decode cX12_two 167 = .ok (.lconst 1, 1) := by decide +kernel
theorem dX12_two_168 : decode cX12_two 168 = .ok (.goto 4, 3) := by decide +kernel
theorem dX12_two_171 : decode cX12_two 171 = .ok (.lconst 0, 1) := by decide +kernel
theorem dX12_two_172 : decode cX12_two 172 = .ok (.lreturn, 1) := by decide +kernel
theorem dX12_two_173 : decode cX12_two 173 = .ok (.lload_n 1, 1) := by decide +kernel
theorem dX12_two_174 : decode cX12_two 174 = .ok (.lload_n 3, 1) := by decide +kernel
theorem dX12_two_175 : decode cX12_two 175 = .ok (.land, 1) := by decide +kernel
theorem dX12_two_176 : decode cX12_two 176 = .ok (.lreturn, 1) := by decide +kernel
theorem dX12_two_177 : decode cX12_two 177 = .ok (.lload_n 1, 1) := by decide +kernel
theorem dX12_two_178 : decode cX12_two 178 = .ok (.lload_n 3, 1) := by decide +kernel
theorem dX12_two_179 : decode cX12_two 179 = .ok (.lor, 1) := by decide +kernel
theorem dX12_two_180 : decode cX12_two 180 = .ok (.lreturn, 1) := by decide +kernel
theorem dX12_reckons_0 : decode cX12_reckons 0 = .ok (.iconst 0, 1) := by decide +kernel
theorem dX12_reckons_1 : decode cX12_reckons 1 = .ok (.istore_n 2, 1) := by decide +kernel
theorem dX12_reckons_2 : decode cX12_reckons 2 = .ok (.sipush 1600, 3) := by decide +kernel
theorem dX12_reckons_5 : decode cX12_reckons 5 = .ok (.aload_n 0, 1) := by decide +kernel
theorem dX12_reckons_6 : decode cX12_reckons 6 = .ok (.getfield 51, 3) := by decide +kernel
theorem dX12_reckons_9 : decode cX12_reckons 9 = .ok (.imul, 1) := by decide +kernel
theorem dX12_reckons_10 : decode cX12_reckons 10 = .ok (.aload_n 0, 1) := by decide +kernel
theorem dX12_reckons_11 : decode cX12_reckons 11 = .ok (.getfield 84, 3) := by decide +kernel
theorem dX12_reckons_14 : decode cX12_reckons 14 = .ok (.iconst 3, 1) := by decide +kernel
theorem dX12_reckons_15 : decode cX12_reckons 15 = .ok (.aload_n 0, 1) := by decide +kernel
theorem dX12_reckons_16 : decode cX12_reckons 16 = .ok (.getfield 51, 3) := by decide +kernel
theorem dX12_reckons_19 : decode cX12_reckons 19 = .ok (.imul, 1) := by decide +kernel
theorem dX12_reckons_20 : decode cX12_reckons 20 = .ok (.iload_n 1, 1) := by decide +kernel
theorem dX12_reckons_21 : decode cX12_reckons 21 = .ok (.iadd, 1) := by decide +kernel
theorem dX12_reckons_22 : decode cX12_reckons 22 = .ok (.iaload, 1) := by decide +kernel
theorem dX12_reckons_23 : decode cX12_reckons 23 = .ok (.iadd, 1) := by decide +kernel
theorem dX12_reckons_24 : decode cX12_reckons 24 = .ok (.istore_n 3, 1) := by decide +kernel
theorem dX12_reckons_25 : decode cX12_reckons 25 = .ok (.iload_n 3, 1) := by decide +kernel
theorem dX12_reckons_26 : decode cX12_reckons 26 = .ok (.sipush 1600, 3) := by decide +kernel
theorem dX12_reckons_29 : decode cX12_reckons 29 = .ok (.aload_n 0, 1) := by decide +kernel
theorem dX12_reckons_30 : decode cX12_reckons 30 = .ok (.getfield 51, 3) := by decide +kernel
theorem dX12_reckons_33 : decode cX12_reckons 33 = .ok (.imul, 1) := by decide +kernel
theorem dX12_reckons_34 : decode cX12_reckons 34 = .ok (.aload_n 0, 1) := by decide +kernel
theorem dX12_reckons_35 : decode cX12_reckons 35 = .ok (.getfield 87, 3) := by decide +kernel
theorem dX12_reckons_38 : decode cX12_reckons 38 = .ok (.iconst 3, 1) := by decide +kernel
theorem dX12_reckons_39 : decode cX12_reckons 39 = .ok (.aload_n 0, 1) := by decide +kernel
theorem dX12_reckons_40 : decode cX12_reckons 40 = .ok (.getfield 51, 3) := by decide +kernel
theorem dX12_reckons_43 : decode cX12_reckons 43 = .ok (.imul, 1) := by decide +kernel
theorem dX12_reckons_44 : decode cX12_reckons 44 = .ok (.iload_n 1, 1) := by decide +kernel
theorem dX12_reckons_45 : decode cX12_reckons 45 = .ok (.iadd, 1) := by decide +kernel
theorem dX12_reckons_46 : decode cX12_reckons 46 = .ok (.iaload, 1) := by decide +kernel
theorem dX12_reckons_47 : decode cX12_reckons 47 = .ok (.iadd, 1) := by decide +kernel
theorem dX12_reckons_48 : decode cX12_reckons 48 = .ok (.if_icmp .ge 179, 3) := by decide +kernel
theorem dX12_reckons_51 : decode cX12_reckons 51 = .ok (.aload_n 0, 1) := by decide +kernel
theorem dX12_reckons_52 : decode cX12_reckons 52 = .ok (.getfield 90, 3) := by decide +kernel
theorem dX12_reckons_55 : decode cX12_reckons 55 = .ok (.iload_n 3, 1) := by decide +kernel
theorem dX12_reckons_56 : decode cX12_reckons 56 = .ok (.iaload, 1) := by decide +kernel
theorem dX12_reckons_57 : decode cX12_reckons 57 = .ok (.istore 4, 2) := by decide +kernel
theorem dX12_reckons_59 : decode cX12_reckons 59 = .ok (.iload 4, 2) := by decide +kernel
theorem dX12_reckons_61 : decode cX12_reckons 61 = .ok (.bipush 30, 2) := by decide +kernel
theorem dX12_reckons_63 : decode cX12_reckons 63 = .ok (.if_icmp .gt 49, 3) := by decide +kernel
theorem dX12_reckons_66 : decode cX12_reckons 66 = .ok (.aload_n 0, 1) := by decide +kernel
theorem dX12_reckons_67 : decode cX12_reckons 67 = .ok (.getfield 192, 3) := by decide +kernel
theorem dX12_reckons_70 : decode cX12_reckons 70 = .ok (.iload_n 2, 1) := by decide +kernel
theorem dX12_reckons_71 : decode cX12_reckons 71 = .ok (.iload 4, 2) := by decide +kernel
theorem dX12_reckons_73 : decode cX12_reckons 73 = .ok (.ifCond .ne 13, 3) := by decide +kernel
theorem dX12_reckons_76 : decode cX12_reckons 76 = .ok (.aload_n 0, 1) := by decide +kernel
theorem dX12_reckons_77 : decode cX12_reckons 77 = .ok (.getfield 93, 3) := by decide +kernel
theorem dX12_reckons_80 : decode cX12_reckons 80 = .ok (.iload_n 3, 1) := by decide +kernel
theorem dX12_reckons_81 : decode cX12_reckons 81 = .ok (.iaload, 1) := by decide +kernel
theorem dX12_reckons_82 : decode cX12_reckons 82 = .ok (.i2l, 1) := by decide +kernel
theorem dX12_reckons_83 : decode cX12_reckons 83 = .ok (.goto 22, 3) := by decide +kernel
theorem dX12_reckons_86 : decode cX12_reckons 86 = .ok (.iload 4, 2) := by decide +kernel
theorem dX12_reckons_88 : decode cX12_reckons 88 = .ok (.bipush 30, 2) := by decide +kernel
theorem dX12_reckons_90 : decode cX12_reckons 90 = .ok (.if_icmp .ne 7, 3) := by decide +kernel
theorem dX12_reckons_93 : decode cX12_reckons 93 = .ok (.lconst 1, 1) := by decide +kernel
theorem dX12_reckons_94 : decode cX12_reckons 94 = .ok (.goto 11, 3) := by decide +kernel
theorem dX12_reckons_97 : decode cX12_reckons 97 = .ok (.aload_n 0, 1) := by decide +kernel
theorem dX12_reckons_98 : decode cX12_reckons 98 = .ok (.getfield 195, 3) := by decide +kernel
theorem dX12_reckons_101 : decode cX12_reckons 101 = .ok (.iload 4, 2) := by decide +kernel
theorem dX12_reckons_103 : decode cX12_reckons 103 = .ok (.iaload, 1) := by decide +kernel
theorem dX12_reckons_104 : decode cX12_reckons 104 = .ok (.i2l, 1) := by decide +kernel
theorem dX12_reckons_105 : decode cX12_reckons 105 = .ok (.lastore, 1) := by decide +kernel
theorem dX12_reckons_106 : decode cX12_reckons 106 = .ok (.iinc 2 1, 3) := by decide +kernel
theorem dX12_reckons_109 : decode cX12_reckons 109 = .ok (.goto 112, 3) := by decide +kernel
theorem dX12_reckons_112 : decode cX12_reckons 112 = .ok (.iload 4, 2) := by decide +kernel
theorem dX12_reckons_114 : decode cX12_reckons 114 = .ok (.bipush 43, 2) := by decide +kernel
theorem dX12_reckons_116 : decode cX12_reckons 116 = .ok (.if_icmp .ne 24, 3) := by decide +kernel
theorem dX12_reckons_119 : decode cX12_reckons 119 = .ok (.aload_n 0, 1) := by decide +kernel
theorem dX12_reckons_120 : decode cX12_reckons 120 = .ok (.getfield 192, 3) := by decide +kernel
theorem dX12_reckons_123 : decode cX12_reckons 123 = .ok (.iload_n 2, 1) := by decide +kernel
theorem dX12_reckons_124 : decode cX12_reckons 124 = .ok (.iconst 1, 1) := by decide +kernel
theorem dX12_reckons_125 : decode cX12_reckons 125 = .ok (.isub, 1) := by decide +kernel
theorem dX12_reckons_126 : decode cX12_reckons 126 = .ok (.lconst 1, 1) := by decide +kernel
theorem dX12_reckons_127 : decode cX12_reckons 127 = .ok (.aload_n 0, 1) := by decide +kernel
theorem dX12_reckons_128 : decode cX12_reckons 128 = .ok (.getfield 192, 3) := by decide +kernel
theorem dX12_reckons_131 : decode cX12_reckons 131 = .ok (.iload_n 2, 1) := by decide +kernel
theorem dX12_reckons_132 : decode cX12_reckons 132 = .ok (.iconst 1, 1) := by decide +kernel
theorem dX12_reckons_133 : decode cX12_reckons 133 = .ok (.isub, 1) := by decide +kernel
theorem dX12_reckons_134 : decode cX12_reckons 134 = .ok (.laload, 1) := by decide +kernel
theorem dX12_reckons_135 : decode cX12_reckons 135 = .ok (.lsub, 1) := by decide +kernel
theorem dX12_reckons_136 : decode cX12_reckons 136 = .ok (.lastore, 1) := by decide +kernel
theorem dX12_reckons_137 : decode cX12_reckons 137 = .ok (.goto 84, 3) := by decide +kernel
theorem dX12_reckons_140 : decode cX12_reckons 140 = .ok (.iload 4, 2) := by decide +kernel
theorem dX12_reckons_142 : decode cX12_reckons 142 = .ok (.bipush 44, 2) := by decide +kernel
theorem dX12_reckons_144 : decode cX12_reckons 144 = .ok (.if_icmp .ne 47, 3) := by decide +kernel
theorem dX12_reckons_147 : decode cX12_reckons 147 = .ok (.iinc 2 (-2), 3) := by decide +kernel
theorem dX12_reckons_150 : decode cX12_reckons 150 = .ok (.aload_n 0, 1) := by decide +kernel
theorem dX12_reckons_151 : decode cX12_reckons 151 = .ok (.getfield 192, 3) := by decide +kernel
theorem dX12_reckons_154 : decode cX12_reckons 154 = .ok (.iload_n 2, 1) := by decide +kernel
theorem dX12_reckons_155 : decode cX12_reckons 155 = .ok (.iconst 1, 1) := by decide +kernel
theorem dX12_reckons_156 : decode cX12_reckons 156 = .ok (.isub, 1) := by decide +kernel
theorem dX12_reckons_157 : decode cX12_reckons 157 = .ok (.aload_n 0, 1) := by decide +kernel
theorem dX12_reckons_158 : decode cX12_reckons 158 = .ok (.getfield 192, 3) := by decide +kernel
theorem dX12_reckons_161 : decode cX12_reckons 161 = .ok (.iload_n 2, 1) := by decide +kernel
theorem dX12_reckons_162 : decode cX12_reckons 162 = .ok (.iconst 1, 1) := by decide +kernel
theorem dX12_reckons_163 : decode cX12_reckons 163 = .ok (.isub, 1) := by decide +kernel
theorem dX12_reckons_164 : decode cX12_reckons 164 = .ok (.laload, 1) := by decide +kernel
theorem dX12_reckons_165 : decode cX12_reckons 165 = .ok (.lconst 1, 1) := by decide +kernel
theorem dX12_reckons_166 : decode cX12_reckons 166 = .ok (.lcmp, 1) := by decide +kernel
theorem dX12_reckons_167 : decode cX12_reckons 167 = .ok (.ifCond .ne 12, 3) := by decide +kernel
theorem dX12_reckons_170 : decode cX12_reckons 170 = .ok (.aload_n 0, 1) := by decide +kernel
theorem dX12_reckons_171 : decode cX12_reckons 171 = .ok (.getfield 192, 3) := by decide +kernel
theorem dX12_reckons_174 : decode cX12_reckons 174 = .ok (.iload_n 2, 1) := by decide +kernel
theorem dX12_reckons_175 : decode cX12_reckons 175 = .ok (.laload, 1) := by decide +kernel
theorem dX12_reckons_176 : decode cX12_reckons 176 = .ok (.goto 11, 3) := by decide +kernel
theorem dX12_reckons_179 : decode cX12_reckons 179 = .ok (.aload_n 0, 1) := by decide +kernel
theorem dX12_reckons_180 : decode cX12_reckons 180 = .ok (.getfield 192, 3) := by decide +kernel
theorem dX12_reckons_183 : decode cX12_reckons 183 = .ok (.iload_n 2, 1) := by decide +kernel
theorem dX12_reckons_184 : decode cX12_reckons 184 = .ok (.iconst 1, 1) := by decide +kernel
theorem dX12_reckons_185 : decode cX12_reckons 185 = .ok (.iadd, 1) := by decide +kernel
theorem dX12_reckons_186 : decode cX12_reckons 186 = .ok (.laload, 1) := by decide +kernel
theorem dX12_reckons_187 : decode cX12_reckons 187 = .ok (.lastore, 1) := by decide +kernel
theorem dX12_reckons_188 : decode cX12_reckons 188 = .ok (.goto 33, 3) := by decide +kernel
theorem dX12_reckons_191 : decode cX12_reckons 191 = .ok (.iinc 2 (-1), 3) := by decide +kernel
theorem dX12_reckons_194 : decode cX12_reckons 194 = .ok (.aload_n 0, 1) := by decide +kernel
theorem dX12_reckons_195 : decode cX12_reckons 195 = .ok (.getfield 192, 3) := by decide +kernel
theorem dX12_reckons_198 : decode cX12_reckons 198 = .ok (.iload_n 2, 1) := by decide +kernel
theorem dX12_reckons_199 : decode cX12_reckons 199 = .ok (.iconst 1, 1) := by decide +kernel
theorem dX12_reckons_200 : decode cX12_reckons 200 = .ok (.isub, 1) := by decide +kernel
theorem dX12_reckons_201 : decode cX12_reckons 201 = .ok (.iload 4, 2) := by decide +kernel
theorem dX12_reckons_203 : decode cX12_reckons 203 = .ok (.aload_n 0, 1) := by decide +kernel
theorem dX12_reckons_204 : decode cX12_reckons 204 = .ok (.getfield 192, 3) := by decide +kernel
theorem dX12_reckons_207 : decode cX12_reckons 207 = .ok (.iload_n 2, 1) := by decide +kernel
theorem dX12_reckons_208 : decode cX12_reckons 208 = .ok (.iconst 1, 1) := by decide +kernel
theorem dX12_reckons_209 : decode cX12_reckons 209 = .ok (.isub, 1) := by decide +kernel
theorem dX12_reckons_210 : decode cX12_reckons 210 = .ok (.laload, 1) := by decide +kernel
theorem dX12_reckons_211 : decode cX12_reckons 211 = .ok (.aload_n 0, 1) := by decide +kernel
theorem dX12_reckons_212 : decode cX12_reckons 212 = .ok (.getfield 192, 3) := by decide +kernel
theorem dX12_reckons_215 : decode cX12_reckons 215 = .ok (.iload_n 2, 1) := by decide +kernel
theorem dX12_reckons_216 : decode cX12_reckons 216 = .ok (.laload, 1) := by decide +kernel
theorem dX12_reckons_217 : decode cX12_reckons 217 = .ok (.invokestatic 411, 3) := by decide +kernel
theorem dX12_reckons_220 : decode cX12_reckons 220 = .ok (.lastore, 1) := by decide +kernel
theorem dX12_reckons_221 : decode cX12_reckons 221 = .ok (.iinc 3 1, 3) := by decide +kernel
theorem dX12_reckons_224 : decode cX12_reckons 224 = .ok (.goto (-199), 3) := by decide +kernel
theorem dX12_reckons_227 : decode cX12_reckons 227 = .ok (.aload_n 0, 1) := by decide +kernel
theorem dX12_reckons_228 : decode cX12_reckons 228 = .ok (.getfield 192, 3) := by decide +kernel
theorem dX12_reckons_231 : decode cX12_reckons 231 = .ok (.iconst 0, 1) := by decide +kernel
theorem dX12_reckons_232 : decode cX12_reckons 232 = .ok (.laload, 1) := by decide +kernel
theorem dX12_reckons_233 : decode cX12_reckons 233 = .ok (.lreturn, 1) := by decide +kernel
theorem dX12_isTold_0 : decode cX12_isTold 0 = .ok (.aload_n 0, 1) := by decide +kernel
theorem dX12_isTold_1 : decode cX12_isTold 1 = .ok (.getfield 84, 3) := by decide +kernel
theorem dX12_isTold_4 : decode cX12_isTold 4 = .ok (.iconst 3, 1) := by decide +kernel
theorem dX12_isTold_5 : decode cX12_isTold 5 = .ok (.aload_n 0, 1) := by decide +kernel
theorem dX12_isTold_6 : decode cX12_isTold 6 = .ok (.getfield 51, 3) := by decide +kernel
theorem dX12_isTold_9 : decode cX12_isTold 9 = .ok (.imul, 1) := by decide +kernel
theorem dX12_isTold_10 : decode cX12_isTold 10 = .ok (.iload_n 1, 1) := by decide +kernel
theorem dX12_isTold_11 : decode cX12_isTold 11 = .ok (.iadd, 1) := by decide +kernel
theorem dX12_isTold_12 : decode cX12_isTold 12 = .ok (.iaload, 1) := by decide +kernel
theorem dX12_isTold_13 : decode cX12_isTold 13 = .ok (.iconst (-1), 1) := by decide +kernel
theorem dX12_isTold_14 : decode cX12_isTold 14 = .ok (.if_icmp .eq 7, 3) := by decide +kernel
theorem dX12_isTold_17 : decode cX12_isTold 17 = .ok (.iconst 1, 1) := by decide +kernel
theorem dX12_isTold_18 : decode cX12_isTold 18 = .ok (.goto 4, 3) := by decide +kernel
theorem dX12_isTold_21 : decode cX12_isTold 21 = .ok (.iconst 0, 1) := by decide +kernel
theorem dX12_isTold_22 : decode cX12_isTold 22 = .ok (.ireturn, 1) := by decide +kernel
theorem dX12_lays_0 : decode cX12_lays 0 = .ok (.aload_n 0, 1) := by decide +kernel
theorem dX12_lays_1 : decode cX12_lays 1 = .ok (.getfield 195, 3) := by decide +kernel
theorem dX12_lays_4 : decode cX12_lays 4 = .ok (.iconst 1, 1) := by decide +kernel
theorem dX12_lays_5 : decode cX12_lays 5 = .ok (.aload_n 0, 1) := by decide +kernel
theorem dX12_lays_6 : decode cX12_lays 6 = .ok (.getfield 63, 3) := by decide +kernel
theorem dX12_lays_9 : decode cX12_lays 9 = .ok (.bipush 8, 2) := by decide +kernel
theorem dX12_lays_11 : decode cX12_lays 11 = .ok (.aload_n 0, 1) := by decide +kernel
theorem dX12_lays_12 : decode cX12_lays 12 = .ok (.getfield 51, 3) := by decide +kernel
theorem dX12_lays_15 : decode cX12_lays 15 = .ok (.imul, 1) := by decide +kernel
theorem dX12_lays_16 : decode cX12_lays 16 = .ok (.aload_n 0, 1) := by decide +kernel
theorem dX12_lays_17 : decode cX12_lays 17 = .ok (.getfield 72, 3) := by decide +kernel
theorem dX12_lays_20 : decode cX12_lays 20 = .ok (.bipush 12, 2) := by decide +kernel
theorem dX12_lays_22 : decode cX12_lays 22 = .ok (.aload_n 0, 1) := by decide +kernel
theorem dX12_lays_23 : decode cX12_lays 23 = .ok (.getfield 51, 3) := by decide +kernel
theorem dX12_lays_26 : decode cX12_lays 26 = .ok (.imul, 1) := by decide +kernel
theorem dX12_lays_27 : decode cX12_lays 27 = .ok (.iload_n 2, 1) := by decide +kernel
theorem dX12_lays_28 : decode cX12_lays 28 = .ok (.iadd, 1) := by decide +kernel
theorem dX12_lays_29 : decode cX12_lays 29 = .ok (.iaload, 1) := by decide +kernel
theorem dX12_lays_30 : decode cX12_lays 30 = .ok (.iadd, 1) := by decide +kernel
theorem dX12_lays_31 : decode cX12_lays 31 = .ok (.iaload, 1) := by decide +kernel
theorem dX12_lays_32 : decode cX12_lays 32 = .ok (.iastore, 1) := by decide +kernel
theorem dX12_lays_33 : decode cX12_lays 33 = .ok (.aload_n 0, 1) := by decide +kernel
theorem dX12_lays_34 : decode cX12_lays 34 = .ok (.getfield 195, 3) := by decide +kernel
theorem dX12_lays_37 : decode cX12_lays 37 = .ok (.iconst 2, 1) := by decide +kernel
theorem dX12_lays_38 : decode cX12_lays 38 = .ok (.aload_n 0, 1) := by decide +kernel
theorem dX12_lays_39 : decode cX12_lays 39 = .ok (.getfield 165, 3) := by decide +kernel
theorem dX12_lays_42 : decode cX12_lays 42 = .ok (.bipush 12, 2) := by decide +kernel
theorem dX12_lays_44 : decode cX12_lays 44 = .ok (.iload_n 1, 1) := by decide +kernel
theorem dX12_lays_45 : decode cX12_lays 45 = .ok (.imul, 1) := by decide +kernel
theorem dX12_lays_46 : decode cX12_lays 46 = .ok (.iload_n 2, 1) := by decide +kernel
theorem dX12_lays_47 : decode cX12_lays 47 = .ok (.iadd, 1) := by decide +kernel
theorem dX12_lays_48 : decode cX12_lays 48 = .ok (.iaload, 1) := by decide +kernel
theorem dX12_lays_49 : decode cX12_lays 49 = .ok (.iastore, 1) := by decide +kernel
theorem dX12_lays_50 : decode cX12_lays 50 = .ok (.aload_n 0, 1) := by decide +kernel
theorem dX12_lays_51 : decode cX12_lays 51 = .ok (.getfield 195, 3) := by decide +kernel
theorem dX12_lays_54 : decode cX12_lays 54 = .ok (.iconst 3, 1) := by decide +kernel
theorem dX12_lays_55 : decode cX12_lays 55 = .ok (.aload_n 0, 1) := by decide +kernel
theorem dX12_lays_56 : decode cX12_lays 56 = .ok (.getfield 147, 3) := by decide +kernel
theorem dX12_lays_59 : decode cX12_lays 59 = .ok (.iload_n 1, 1) := by decide +kernel
theorem dX12_lays_60 : decode cX12_lays 60 = .ok (.iaload, 1) := by decide +kernel
theorem dX12_lays_61 : decode cX12_lays 61 = .ok (.iastore, 1) := by decide +kernel
theorem dX12_lays_62 : decode cX12_lays 62 = .ok (.aload_n 0, 1) := by decide +kernel
theorem dX12_lays_63 : decode cX12_lays 63 = .ok (.getfield 195, 3) := by decide +kernel
theorem dX12_lays_66 : decode cX12_lays 66 = .ok (.iconst 4, 1) := by decide +kernel
theorem dX12_lays_67 : decode cX12_lays 67 = .ok (.aload_n 0, 1) := by decide +kernel
theorem dX12_lays_68 : decode cX12_lays 68 = .ok (.getfield 78, 3) := by decide +kernel
theorem dX12_lays_71 : decode cX12_lays 71 = .ok (.bipush 12, 2) := by decide +kernel
theorem dX12_lays_73 : decode cX12_lays 73 = .ok (.aload_n 0, 1) := by decide +kernel
theorem dX12_lays_74 : decode cX12_lays 74 = .ok (.getfield 51, 3) := by decide +kernel
theorem dX12_lays_77 : decode cX12_lays 77 = .ok (.imul, 1) := by decide +kernel
theorem dX12_lays_78 : decode cX12_lays 78 = .ok (.iload_n 2, 1) := by decide +kernel
theorem dX12_lays_79 : decode cX12_lays 79 = .ok (.iadd, 1) := by decide +kernel
theorem dX12_lays_80 : decode cX12_lays 80 = .ok (.iaload, 1) := by decide +kernel
theorem dX12_lays_81 : decode cX12_lays 81 = .ok (.iastore, 1) := by decide +kernel
theorem dX12_lays_82 : decode cX12_lays 82 = .ok (.aload_n 0, 1) := by decide +kernel
theorem dX12_lays_83 : decode cX12_lays 83 = .ok (.getfield 195, 3) := by decide +kernel
theorem dX12_lays_86 : decode cX12_lays 86 = .ok (.bipush 8, 2) := by decide +kernel
theorem dX12_lays_88 : decode cX12_lays 88 = .ok (.aload_n 0, 1) := by decide +kernel
theorem dX12_lays_89 : decode cX12_lays 89 = .ok (.getfield 66, 3) := by decide +kernel
theorem dX12_lays_92 : decode cX12_lays 92 = .ok (.bipush 8, 2) := by decide +kernel
theorem dX12_lays_94 : decode cX12_lays 94 = .ok (.aload_n 0, 1) := by decide +kernel
theorem dX12_lays_95 : decode cX12_lays 95 = .ok (.getfield 51, 3) := by decide +kernel
theorem dX12_lays_98 : decode cX12_lays 98 = .ok (.imul, 1) := by decide +kernel
theorem dX12_lays_99 : decode cX12_lays 99 = .ok (.aload_n 0, 1) := by decide +kernel
theorem dX12_lays_100 : decode cX12_lays 100 = .ok (.getfield 72, 3) := by decide +kernel
theorem dX12_lays_103 : decode cX12_lays 103 = .ok (.bipush 12, 2) := by decide +kernel
theorem dX12_lays_105 : decode cX12_lays 105 = .ok (.aload_n 0, 1) := by decide +kernel
theorem dX12_lays_106 : decode cX12_lays 106 = .ok (.getfield 51, 3) := by decide +kernel
theorem dX12_lays_109 : decode cX12_lays 109 = .ok (.imul, 1) := by decide +kernel
theorem dX12_lays_110 : decode cX12_lays 110 = .ok (.iload_n 2, 1) := by decide +kernel
theorem dX12_lays_111 : decode cX12_lays 111 = .ok (.iadd, 1) := by decide +kernel
theorem dX12_lays_112 : decode cX12_lays 112 = .ok (.iaload, 1) := by decide +kernel
theorem dX12_lays_113 : decode cX12_lays 113 = .ok (.iadd, 1) := by decide +kernel
theorem dX12_lays_114 : decode cX12_lays 114 = .ok (.iaload, 1) := by decide +kernel
theorem dX12_lays_115 : decode cX12_lays 115 = .ok (.iastore, 1) := by decide +kernel
theorem dX12_lays_116 : decode cX12_lays 116 = .ok (.return_, 1) := by decide +kernel
theorem dX12_pickOf_0 : decode cX12_pickOf 0 = .ok (.aload_n 0, 1) := by decide +kernel
theorem dX12_pickOf_1 : decode cX12_pickOf 1 = .ok (.iload_n 1, 1) := by decide +kernel
theorem dX12_pickOf_2 : decode cX12_pickOf 2 = .ok (.iload_n 2, 1) := by decide +kernel
theorem dX12_pickOf_3 : decode cX12_pickOf 3 = .ok (.invokevirtual 415, 3) := by decide +kernel
theorem dX12_pickOf_6 : decode cX12_pickOf 6 = .ok (.aload_n 0, 1) := by decide +kernel
theorem dX12_pickOf_7 : decode cX12_pickOf 7 = .ok (.getfield 150, 3) := by decide +kernel
theorem dX12_pickOf_10 : decode cX12_pickOf 10 = .ok (.bipush 7, 2) := by decide +kernel
theorem dX12_pickOf_12 : decode cX12_pickOf 12 = .ok (.iload_n 1, 1) := by decide +kernel
theorem dX12_pickOf_13 : decode cX12_pickOf 13 = .ok (.imul, 1) := by decide +kernel
theorem dX12_pickOf_14 : decode cX12_pickOf 14 = .ok (.iload_n 3, 1) := by decide +kernel
theorem dX12_pickOf_15 : decode cX12_pickOf 15 = .ok (.iadd, 1) := by decide +kernel
theorem dX12_pickOf_16 : decode cX12_pickOf 16 = .ok (.iaload, 1) := by decide +kernel
theorem dX12_pickOf_17 : decode cX12_pickOf 17 = .ok (.istore 4, 2) := by decide +kernel
theorem dX12_pickOf_19 : decode cX12_pickOf 19 = .ok (.aload_n 0, 1) := by decide +kernel
theorem dX12_pickOf_20 : decode cX12_pickOf 20 = .ok (.iconst 0, 1) := by decide +kernel
theorem dX12_pickOf_21 : decode cX12_pickOf 21 = .ok (.invokevirtual 418, 3) := by decide +kernel
theorem dX12_pickOf_24 : decode cX12_pickOf 24 = .ok (.ifCond .ne 40, 3) := by decide +kernel
theorem dX12_pickOf_27 : decode cX12_pickOf 27 = .ok (.bipush 9, 2) := by decide +kernel
theorem dX12_pickOf_29 : decode cX12_pickOf 29 = .ok (.iload 4, 2) := by decide +kernel
theorem dX12_pickOf_31 : decode cX12_pickOf 31 = .ok (.aload_n 0, 1) := by decide +kernel
theorem dX12_pickOf_32 : decode cX12_pickOf 32 = .ok (.getfield 195, 3) := by decide +kernel
theorem dX12_pickOf_35 : decode cX12_pickOf 35 = .ok (.iconst 1, 1) := by decide +kernel
theorem dX12_pickOf_36 : decode cX12_pickOf 36 = .ok (.iaload, 1) := by decide +kernel
theorem dX12_pickOf_37 : decode cX12_pickOf 37 = .ok (.if_icmp .le 15, 3) := by decide +kernel
theorem dX12_pickOf_40 : decode cX12_pickOf 40 = .ok (.iload 4, 2) := by decide +kernel
theorem dX12_pickOf_42 : decode cX12_pickOf 42 = .ok (.aload_n 0, 1) := by decide +kernel
theorem dX12_pickOf_43 : decode cX12_pickOf 43 = .ok (.getfield 195, 3) := by decide +kernel
theorem dX12_pickOf_46 : decode cX12_pickOf 46 = .ok (.iconst 1, 1) := by decide +kernel
theorem dX12_pickOf_47 : decode cX12_pickOf 47 = .ok (.iaload, 1) := by decide +kernel
theorem dX12_pickOf_48 : decode cX12_pickOf 48 = .ok (.isub, 1) := by decide +kernel
theorem dX12_pickOf_49 : decode cX12_pickOf 49 = .ok (.goto 12, 3) := by decide +kernel
theorem dX12_pickOf_52 : decode cX12_pickOf 52 = .ok (.aload_n 0, 1) := by decide +kernel
theorem dX12_pickOf_53 : decode cX12_pickOf 53 = .ok (.getfield 195, 3) := by decide +kernel
theorem dX12_pickOf_56 : decode cX12_pickOf 56 = .ok (.iconst 1, 1) := by decide +kernel
theorem dX12_pickOf_57 : decode cX12_pickOf 57 = .ok (.iaload, 1) := by decide +kernel
theorem dX12_pickOf_58 : decode cX12_pickOf 58 = .ok (.iload 4, 2) := by decide +kernel
theorem dX12_pickOf_60 : decode cX12_pickOf 60 = .ok (.isub, 1) := by decide +kernel
theorem dX12_pickOf_61 : decode cX12_pickOf 61 = .ok (.isub, 1) := by decide +kernel
theorem dX12_pickOf_62 : decode cX12_pickOf 62 = .ok (.i2l, 1) := by decide +kernel
theorem dX12_pickOf_63 : decode cX12_pickOf 63 = .ok (.lreturn, 1) := by decide +kernel
theorem dX12_pickOf_64 : decode cX12_pickOf 64 = .ok (.aload_n 0, 1) := by decide +kernel
theorem dX12_pickOf_65 : decode cX12_pickOf 65 = .ok (.getfield 195, 3) := by decide +kernel
theorem dX12_pickOf_68 : decode cX12_pickOf 68 = .ok (.iconst 5, 1) := by decide +kernel
theorem dX12_pickOf_69 : decode cX12_pickOf 69 = .ok (.iload 4, 2) := by decide +kernel
theorem dX12_pickOf_71 : decode cX12_pickOf 71 = .ok (.iastore, 1) := by decide +kernel
theorem dX12_pickOf_72 : decode cX12_pickOf 72 = .ok (.aload_n 0, 1) := by decide +kernel
theorem dX12_pickOf_73 : decode cX12_pickOf 73 = .ok (.getfield 195, 3) := by decide +kernel
theorem dX12_pickOf_76 : decode cX12_pickOf 76 = .ok (.bipush 6, 2) := by decide +kernel
theorem dX12_pickOf_78 : decode cX12_pickOf 78 = .ok (.aload_n 0, 1) := by decide +kernel
theorem dX12_pickOf_79 : decode cX12_pickOf 79 = .ok (.getfield 153, 3) := by decide +kernel
theorem dX12_pickOf_82 : decode cX12_pickOf 82 = .ok (.bipush 7, 2) := by decide +kernel
theorem dX12_pickOf_84 : decode cX12_pickOf 84 = .ok (.iload_n 1, 1) := by decide +kernel
theorem dX12_pickOf_85 : decode cX12_pickOf 85 = .ok (.imul, 1) := by decide +kernel
theorem dX12_pickOf_86 : decode cX12_pickOf 86 = .ok (.iload_n 3, 1) := by decide +kernel
theorem dX12_pickOf_87 : decode cX12_pickOf 87 = .ok (.iadd, 1) := by decide +kernel
theorem dX12_pickOf_88 : decode cX12_pickOf 88 = .ok (.iaload, 1) := by decide +kernel
theorem dX12_pickOf_89 : decode cX12_pickOf 89 = .ok (.iastore, 1) := by decide +kernel
theorem dX12_pickOf_90 : decode cX12_pickOf 90 = .ok (.aload_n 0, 1) := by decide +kernel
theorem dX12_pickOf_91 : decode cX12_pickOf 91 = .ok (.iconst 0, 1) := by decide +kernel
theorem dX12_pickOf_92 : decode cX12_pickOf 92 = .ok (.invokevirtual 421, 3) := by decide +kernel
theorem dX12_pickOf_95 : decode cX12_pickOf 95 = .ok (.lreturn, 1) := by decide +kernel
theorem dX12_soundingBy_0 : decode cX12_soundingBy 0 = .ok (.iconst 0, 1) := by decide +kernel
theorem dX12_soundingBy_1 : decode cX12_soundingBy 1 = .ok (.istore_n 3, 1) := by decide +kernel
theorem dX12_soundingBy_2 : decode cX12_soundingBy 2 = .ok (.iload_n 3, 1) := by decide +kernel
theorem dX12_soundingBy_3 : decode cX12_soundingBy 3 = .ok (.aload_n 0, 1) := by decide +kernel
theorem dX12_soundingBy_4 : decode cX12_soundingBy 4 = .ok (.getfield 69, 3) := by decide +kernel
theorem dX12_soundingBy_7 : decode cX12_soundingBy 7 = .ok (.aload_n 0, 1) := by decide +kernel
theorem dX12_soundingBy_8 : decode cX12_soundingBy 8 = .ok (.getfield 51, 3) := by decide +kernel
theorem dX12_soundingBy_11 : decode cX12_soundingBy 11 = .ok (.iaload, 1) := by decide +kernel
theorem dX12_soundingBy_12 : decode cX12_soundingBy 12 = .ok (.if_icmp .ge 41, 3) := by decide +kernel
theorem dX12_soundingBy_15 : decode cX12_soundingBy 15 = .ok (.aload_n 0, 1) := by decide +kernel
theorem dX12_soundingBy_16 : decode cX12_soundingBy 16 = .ok (.getfield 159, 3) := by decide +kernel
theorem dX12_soundingBy_19 : decode cX12_soundingBy 19 = .ok (.bipush 12, 2) := by decide +kernel
theorem dX12_soundingBy_21 : decode cX12_soundingBy 21 = .ok (.iload_n 1, 1) := by decide +kernel
theorem dX12_soundingBy_22 : decode cX12_soundingBy 22 = .ok (.imul, 1) := by decide +kernel
theorem dX12_soundingBy_23 : decode cX12_soundingBy 23 = .ok (.iload_n 3, 1) := by decide +kernel
theorem dX12_soundingBy_24 : decode cX12_soundingBy 24 = .ok (.iadd, 1) := by decide +kernel
theorem dX12_soundingBy_25 : decode cX12_soundingBy 25 = .ok (.iaload, 1) := by decide +kernel
theorem dX12_soundingBy_26 : decode cX12_soundingBy 26 = .ok (.iconst 2, 1) := by decide +kernel
theorem dX12_soundingBy_27 : decode cX12_soundingBy 27 = .ok (.if_icmp .ne 20, 3) := by decide +kernel
theorem dX12_soundingBy_30 : decode cX12_soundingBy 30 = .ok (.aload_n 0, 1) := by decide +kernel
theorem dX12_soundingBy_31 : decode cX12_soundingBy 31 = .ok (.getfield 168, 3) := by decide +kernel
theorem dX12_soundingBy_34 : decode cX12_soundingBy 34 = .ok (.bipush 12, 2) := by decide +kernel
theorem dX12_soundingBy_36 : decode cX12_soundingBy 36 = .ok (.iload_n 1, 1) := by decide +kernel
theorem dX12_soundingBy_37 : decode cX12_soundingBy 37 = .ok (.imul, 1) := by decide +kernel
theorem dX12_soundingBy_38 : decode cX12_soundingBy 38 = .ok (.iload_n 3, 1) := by decide +kernel
theorem dX12_soundingBy_39 : decode cX12_soundingBy 39 = .ok (.iadd, 1) := by decide +kernel
theorem dX12_soundingBy_40 : decode cX12_soundingBy 40 = .ok (.iaload, 1) := by decide +kernel
theorem dX12_soundingBy_41 : decode cX12_soundingBy 41 = .ok (.iload_n 2, 1) := by decide +kernel
theorem dX12_soundingBy_42 : decode cX12_soundingBy 42 = .ok (.if_icmp .ne 5, 3) := by decide +kernel
theorem dX12_soundingBy_45 : decode cX12_soundingBy 45 = .ok (.iload_n 3, 1) := by decide +kernel
theorem dX12_soundingBy_46 : decode cX12_soundingBy 46 = .ok (.ireturn, 1) := by decide +kernel
theorem dX12_soundingBy_47 : decode cX12_soundingBy 47 = .ok (.iinc 3 1, 3) := by decide +kernel
theorem dX12_soundingBy_50 : decode cX12_soundingBy 50 = .ok (.goto (-48), 3) := by decide +kernel
theorem dX12_soundingBy_53 : decode cX12_soundingBy 53 = .ok (.iconst (-1), 1) := by decide +kernel
theorem dX12_soundingBy_54 : decode cX12_soundingBy 54 = .ok (.ireturn, 1) := by decide +kernel
theorem dX12_busyMany_0 : decode cX12_busyMany 0 = .ok (.iconst 0, 1) := by decide +kernel
theorem dX12_busyMany_1 : decode cX12_busyMany 1 = .ok (.istore_n 2, 1) := by decide +kernel
theorem dX12_busyMany_2 : decode cX12_busyMany 2 = .ok (.iconst 0, 1) := by decide +kernel
theorem dX12_busyMany_3 : decode cX12_busyMany 3 = .ok (.istore_n 3, 1) := by decide +kernel
theorem dX12_busyMany_4 : decode cX12_busyMany 4 = .ok (.iload_n 3, 1) := by decide +kernel
theorem dX12_busyMany_5 : decode cX12_busyMany 5 = .ok (.aload_n 0, 1) := by decide +kernel
theorem dX12_busyMany_6 : decode cX12_busyMany 6 = .ok (.getfield 54, 3) := by decide +kernel
theorem dX12_busyMany_9 : decode cX12_busyMany 9 = .ok (.aload_n 0, 1) := by decide +kernel
theorem dX12_busyMany_10 : decode cX12_busyMany 10 = .ok (.getfield 51, 3) := by decide +kernel
theorem dX12_busyMany_13 : decode cX12_busyMany 13 = .ok (.iaload, 1) := by decide +kernel
theorem dX12_busyMany_14 : decode cX12_busyMany 14 = .ok (.if_icmp .ge 27, 3) := by decide +kernel
theorem dX12_busyMany_17 : decode cX12_busyMany 17 = .ok (.iload_n 2, 1) := by decide +kernel
theorem dX12_busyMany_18 : decode cX12_busyMany 18 = .ok (.aload_n 0, 1) := by decide +kernel
theorem dX12_busyMany_19 : decode cX12_busyMany 19 = .ok (.iload_n 1, 1) := by decide +kernel
theorem dX12_busyMany_20 : decode cX12_busyMany 20 = .ok (.iload_n 3, 1) := by decide +kernel
theorem dX12_busyMany_21 : decode cX12_busyMany 21 = .ok (.invokevirtual 425, 3) := by decide +kernel
theorem dX12_busyMany_24 : decode cX12_busyMany 24 = .ok (.iconst (-1), 1) := by decide +kernel
theorem dX12_busyMany_25 : decode cX12_busyMany 25 = .ok (.if_icmp .ne 7, 3) := by decide +kernel
theorem dX12_busyMany_28 : decode cX12_busyMany 28 = .ok (.iconst 0, 1) := by decide +kernel
theorem dX12_busyMany_29 : decode cX12_busyMany 29 = .ok (.goto 4, 3) := by decide +kernel
theorem dX12_busyMany_32 : decode cX12_busyMany 32 = .ok (.iconst 1, 1) := by decide +kernel
theorem dX12_busyMany_33 : decode cX12_busyMany 33 = .ok (.iadd, 1) := by decide +kernel
theorem dX12_busyMany_34 : decode cX12_busyMany 34 = .ok (.istore_n 2, 1) := by decide +kernel
theorem dX12_busyMany_35 : decode cX12_busyMany 35 = .ok (.iinc 3 1, 3) := by decide +kernel
theorem dX12_busyMany_38 : decode cX12_busyMany 38 = .ok (.goto (-34), 3) := by decide +kernel
theorem dX12_busyMany_41 : decode cX12_busyMany 41 = .ok (.iload_n 2, 1) := by decide +kernel
theorem dX12_busyMany_42 : decode cX12_busyMany 42 = .ok (.ireturn, 1) := by decide +kernel
theorem dX12_isFree_0 : decode cX12_isFree 0 = .ok (.aload_n 0, 1) := by decide +kernel
theorem dX12_isFree_1 : decode cX12_isFree 1 = .ok (.getfield 156, 3) := by decide +kernel
theorem dX12_isFree_4 : decode cX12_isFree 4 = .ok (.iload_n 1, 1) := by decide +kernel
theorem dX12_isFree_5 : decode cX12_isFree 5 = .ok (.iaload, 1) := by decide +kernel
theorem dX12_isFree_6 : decode cX12_isFree 6 = .ok (.iload_n 2, 1) := by decide +kernel
theorem dX12_isFree_7 : decode cX12_isFree 7 = .ok (.invokestatic 428, 3) := by decide +kernel
theorem dX12_isFree_10 : decode cX12_isFree 10 = .ok (.ifCond .ne 17, 3) := by decide +kernel
theorem dX12_isFree_13 : decode cX12_isFree 13 = .ok (.aload_n 0, 1) := by decide +kernel
theorem dX12_isFree_14 : decode cX12_isFree 14 = .ok (.iload_n 1, 1) := by decide +kernel
theorem dX12_isFree_15 : decode cX12_isFree 15 = .ok (.iload_n 2, 1) := by decide +kernel
theorem dX12_isFree_16 : decode cX12_isFree 16 = .ok (.invokevirtual 425, 3) := by decide +kernel
theorem dX12_isFree_19 : decode cX12_isFree 19 = .ok (.iconst (-1), 1) := by decide +kernel
theorem dX12_isFree_20 : decode cX12_isFree 20 = .ok (.if_icmp .ne 7, 3) := by decide +kernel
theorem dX12_isFree_23 : decode cX12_isFree 23 = .ok (.iconst 1, 1) := by decide +kernel
theorem dX12_isFree_24 : decode cX12_isFree 24 = .ok (.goto 4, 3) := by decide +kernel
theorem dX12_isFree_27 : decode cX12_isFree 27 = .ok (.iconst 0, 1) := by decide +kernel
theorem dX12_isFree_28 : decode cX12_isFree 28 = .ok (.ireturn, 1) := by decide +kernel
theorem dX12_writesDown_0 : decode cX12_writesDown 0 = .ok (.aload_n 0, 1) := by decide +kernel
theorem dX12_writesDown_1 : decode cX12_writesDown 1 = .ok (.getfield 159, 3) := by decide +kernel
theorem dX12_writesDown_4 : decode cX12_writesDown 4 = .ok (.bipush 12, 2) := by decide +kernel
theorem dX12_writesDown_6 : decode cX12_writesDown 6 = .ok (.iload_n 1, 1) := by decide +kernel
theorem dX12_writesDown_7 : decode cX12_writesDown 7 = .ok (.imul, 1) := by decide +kernel
theorem dX12_writesDown_8 : decode cX12_writesDown 8 = .ok (.iload_n 2, 1) := by decide +kernel
theorem dX12_writesDown_9 : decode cX12_writesDown 9 = .ok (.iadd, 1) := by decide +kernel
theorem dX12_writesDown_10 : decode cX12_writesDown 10 = .ok (.iload_n 3, 1) := by decide +kernel
theorem dX12_writesDown_11 : decode cX12_writesDown 11 = .ok (.iastore, 1) := by decide +kernel
theorem dX12_writesDown_12 : decode cX12_writesDown 12 = .ok (.aload_n 0, 1) := by decide +kernel
theorem dX12_writesDown_13 : decode cX12_writesDown 13 = .ok (.getfield 171, 3) := by decide +kernel
theorem dX12_writesDown_16 : decode cX12_writesDown 16 = .ok (.bipush 12, 2) := by decide +kernel
theorem dX12_writesDown_18 : decode cX12_writesDown 18 = .ok (.iload_n 1, 1) := by decide +kernel
theorem dX12_writesDown_19 : decode cX12_writesDown 19 = .ok (.imul, 1) := by decide +kernel
theorem dX12_writesDown_20 : decode cX12_writesDown 20 = .ok (.iload_n 2, 1) := by decide +kernel
theorem dX12_writesDown_21 : decode cX12_writesDown 21 = .ok (.iadd, 1) := by decide +kernel
theorem dX12_writesDown_22 : decode cX12_writesDown 22 = .ok (.iconst 0, 1) := by decide +kernel
theorem dX12_writesDown_23 : decode cX12_writesDown 23 = .ok (.iastore, 1) := by decide +kernel
theorem dX12_writesDown_24 : decode cX12_writesDown 24 = .ok (.aload_n 0, 1) := by decide +kernel
theorem dX12_writesDown_25 : decode cX12_writesDown 25 = .ok (.getfield 177, 3) := by decide +kernel
theorem dX12_writesDown_28 : decode cX12_writesDown 28 = .ok (.iload_n 1, 1) := by decide +kernel
theorem dX12_writesDown_29 : decode cX12_writesDown 29 = .ok (.iaload, 1) := by decide +kernel
theorem dX12_writesDown_30 : decode cX12_writesDown 30 = .ok (.bipush 40, 2) := by decide +kernel
theorem dX12_writesDown_32 : decode cX12_writesDown 32 = .ok (.if_icmp .ne 55, 3) := by decide +kernel
theorem dX12_writesDown_35 : decode cX12_writesDown 35 = .ok (.bipush 120, 2) := by decide +kernel
theorem dX12_writesDown_37 : decode cX12_writesDown 37 = .ok (.iload_n 1, 1) := by decide +kernel
theorem dX12_writesDown_38 : decode cX12_writesDown 38 = .ok (.imul, 1) := by decide +kernel
theorem dX12_writesDown_39 : decode cX12_writesDown 39 = .ok (.istore 4, 2) := by decide +kernel
theorem dX12_writesDown_41 : decode cX12_writesDown 41 = .ok (.iload 4, 2) := by decide +kernel
theorem dX12_writesDown_43 : decode cX12_writesDown 43 = .ok (.bipush 120, 2) := by decide +kernel
theorem dX12_writesDown_45 : decode cX12_writesDown 45 = .ok (.iload_n 1, 1) := by decide +kernel
theorem dX12_writesDown_46 : decode cX12_writesDown 46 = .ok (.imul, 1) := by decide +kernel
theorem dX12_writesDown_47 : decode cX12_writesDown 47 = .ok (.bipush 120, 2) := by decide +kernel
theorem dX12_writesDown_49 : decode cX12_writesDown 49 = .ok (.iadd, 1) := by decide +kernel
theorem dX12_writesDown_50 : decode cX12_writesDown 50 = .ok (.iconst 3, 1) := by decide +kernel
theorem dX12_writesDown_51 : decode cX12_writesDown 51 = .ok (.isub, 1) := by decide +kernel
theorem dX12_writesDown_52 : decode cX12_writesDown 52 = .ok (.if_icmp .ge 25, 3) := by decide +kernel
theorem dX12_writesDown_55 : decode cX12_writesDown 55 = .ok (.aload_n 0, 1) := by decide +kernel
theorem dX12_writesDown_56 : decode cX12_writesDown 56 = .ok (.getfield 180, 3) := by decide +kernel
theorem dX12_writesDown_59 : decode cX12_writesDown 59 = .ok (.iload 4, 2) := by decide +kernel
theorem dX12_writesDown_61 : decode cX12_writesDown 61 = .ok (.aload_n 0, 1) := by decide +kernel
theorem dX12_writesDown_62 : decode cX12_writesDown 62 = .ok (.getfield 180, 3) := by decide +kernel
theorem dX12_writesDown_65 : decode cX12_writesDown 65 = .ok (.iload 4, 2) := by decide +kernel
theorem dX12_writesDown_67 : decode cX12_writesDown 67 = .ok (.iconst 3, 1) := by decide +kernel
theorem dX12_writesDown_68 : decode cX12_writesDown 68 = .ok (.iadd, 1) := by decide +kernel
theorem dX12_writesDown_69 : decode cX12_writesDown 69 = .ok (.iaload, 1) := by decide +kernel
theorem dX12_writesDown_70 : decode cX12_writesDown 70 = .ok (.iastore, 1) := by decide +kernel
theorem dX12_writesDown_71 : decode cX12_writesDown 71 = .ok (.iinc 4 1, 3) := by decide +kernel
theorem dX12_writesDown_74 : decode cX12_writesDown 74 = .ok (.goto (-33), 3) := by decide +kernel
theorem dX12_writesDown_77 : decode cX12_writesDown 77 = .ok (.aload_n 0, 1) := by decide +kernel
theorem dX12_writesDown_78 : decode cX12_writesDown 78 = .ok (.getfield 177, 3) := by decide +kernel
theorem dX12_writesDown_81 : decode cX12_writesDown 81 = .ok (.iload_n 1, 1) := by decide +kernel
theorem dX12_writesDown_82 : decode cX12_writesDown 82 = .ok (.dup2, 1) := by decide +kernel
theorem dX12_writesDown_83 : decode cX12_writesDown 83 = .ok (.iaload, 1) := by decide +kernel
theorem dX12_writesDown_84 : decode cX12_writesDown 84 = .ok (.iconst 1, 1) := by decide +kernel
theorem dX12_writesDown_85 : decode cX12_writesDown 85 = .ok (.isub, 1) := by decide +kernel
theorem dX12_writesDown_86 : decode cX12_writesDown 86 = .ok (.iastore, 1) := by decide +kernel
theorem dX12_writesDown_87 : decode cX12_writesDown 87 = .ok (.iconst 3, 1) := by decide +kernel
theorem dX12_writesDown_88 : decode cX12_writesDown 88 = .ok (.bipush 40, 2) := by decide +kernel
theorem dX12_writesDown_90 : decode cX12_writesDown 90 = .ok (.iload_n 1, 1) := by decide +kernel
theorem dX12_writesDown_91 : decode cX12_writesDown 91 = .ok (.imul, 1) := by decide +kernel
theorem dX12_writesDown_92 : decode cX12_writesDown 92 = .ok (.aload_n 0, 1) := by decide +kernel
theorem dX12_writesDown_93 : decode cX12_writesDown 93 = .ok (.getfield 177, 3) := by decide +kernel
theorem dX12_writesDown_96 : decode cX12_writesDown 96 = .ok (.iload_n 1, 1) := by decide +kernel
theorem dX12_writesDown_97 : decode cX12_writesDown 97 = .ok (.iaload, 1) := by decide +kernel
theorem dX12_writesDown_98 : decode cX12_writesDown 98 = .ok (.iadd, 1) := by decide +kernel
theorem dX12_writesDown_99 : decode cX12_writesDown 99 = .ok (.imul, 1) := by decide +kernel
theorem dX12_writesDown_100 : decode cX12_writesDown 100 = .ok (.istore 4, 2) := by decide +kernel
theorem dX12_writesDown_102 : decode cX12_writesDown 102 = .ok (.aload_n 0, 1) := by decide +kernel
theorem dX12_writesDown_103 : decode cX12_writesDown 103 = .ok (.getfield 180, 3) := by decide +kernel
theorem dX12_writesDown_106 : decode cX12_writesDown 106 = .ok (.iload 4, 2) := by decide +kernel
theorem dX12_writesDown_108 : decode cX12_writesDown 108 = .ok (.aload_n 0, 1) := by decide +kernel
theorem dX12_writesDown_109 : decode cX12_writesDown 109 = .ok (.getfield 147, 3) := by decide +kernel
theorem dX12_writesDown_112 : decode cX12_writesDown 112 = .ok (.iload_n 1, 1) := by decide +kernel
theorem dX12_writesDown_113 : decode cX12_writesDown 113 = .ok (.iaload, 1) := by decide +kernel
theorem dX12_writesDown_114 : decode cX12_writesDown 114 = .ok (.iastore, 1) := by decide +kernel
theorem dX12_writesDown_115 : decode cX12_writesDown 115 = .ok (.aload_n 0, 1) := by decide +kernel
theorem dX12_writesDown_116 : decode cX12_writesDown 116 = .ok (.getfield 180, 3) := by decide +kernel
theorem dX12_writesDown_119 : decode cX12_writesDown 119 = .ok (.iload 4, 2) := by decide +kernel
theorem dX12_writesDown_121 : decode cX12_writesDown 121 = .ok (.iconst 1, 1) := by decide +kernel
theorem dX12_writesDown_122 : decode cX12_writesDown 122 = .ok (.iadd, 1) := by decide +kernel
theorem dX12_writesDown_123 : decode cX12_writesDown 123 = .ok (.iload_n 2, 1) := by decide +kernel
theorem dX12_writesDown_124 : decode cX12_writesDown 124 = .ok (.iastore, 1) := by decide +kernel
theorem dX12_writesDown_125 : decode cX12_writesDown 125 = .ok (.aload_n 0, 1) := by decide +kernel
theorem dX12_writesDown_126 : decode cX12_writesDown 126 = .ok (.getfield 180, 3) := by decide +kernel
theorem dX12_writesDown_129 : decode cX12_writesDown 129 = .ok (.iload 4, 2) := by decide +kernel
theorem dX12_writesDown_131 : decode cX12_writesDown 131 = .ok (.iconst 2, 1) := by decide +kernel
theorem dX12_writesDown_132 : decode cX12_writesDown 132 = .ok (.iadd, 1) := by decide +kernel
theorem dX12_writesDown_133 : decode cX12_writesDown 133 = .ok (.iload_n 3, 1) := by decide +kernel
theorem dX12_writesDown_134 : decode cX12_writesDown 134 = .ok (.iastore, 1) := by decide +kernel
theorem dX12_writesDown_135 : decode cX12_writesDown 135 = .ok (.aload_n 0, 1) := by decide +kernel
theorem dX12_writesDown_136 : decode cX12_writesDown 136 = .ok (.getfield 177, 3) := by decide +kernel
theorem dX12_writesDown_139 : decode cX12_writesDown 139 = .ok (.iload_n 1, 1) := by decide +kernel
theorem dX12_writesDown_140 : decode cX12_writesDown 140 = .ok (.dup2, 1) := by decide +kernel
theorem dX12_writesDown_141 : decode cX12_writesDown 141 = .ok (.iaload, 1) := by decide +kernel
theorem dX12_writesDown_142 : decode cX12_writesDown 142 = .ok (.iconst 1, 1) := by decide +kernel
theorem dX12_writesDown_143 : decode cX12_writesDown 143 = .ok (.iadd, 1) := by decide +kernel
theorem dX12_writesDown_144 : decode cX12_writesDown 144 = .ok (.iastore, 1) := by decide +kernel
theorem dX12_writesDown_145 : decode cX12_writesDown 145 = .ok (.return_, 1) := by decide +kernel
theorem dX12_strikes_0 : decode cX12_strikes 0 = .ok (.aload_n 0, 1) := by decide +kernel
theorem dX12_strikes_1 : decode cX12_strikes 1 = .ok (.getfield 156, 3) := by decide +kernel
theorem dX12_strikes_4 : decode cX12_strikes 4 = .ok (.iload_n 1, 1) := by decide +kernel
theorem dX12_strikes_5 : decode cX12_strikes 5 = .ok (.dup2, 1) := by decide +kernel
theorem dX12_strikes_6 : decode cX12_strikes 6 = .ok (.iaload, 1) := by decide +kernel
theorem dX12_strikes_7 : decode cX12_strikes 7 = .ok (.iconst 1, 1) := by decide +kernel
theorem dX12_strikes_8 : decode cX12_strikes 8 = .ok (.iload_n 2, 1) := by decide +kernel
theorem dX12_strikes_9 : decode cX12_strikes 9 = .ok (.ishl, 1) := by decide +kernel
theorem dX12_strikes_10 : decode cX12_strikes 10 = .ok (.ior, 1) := by decide +kernel
theorem dX12_strikes_11 : decode cX12_strikes 11 = .ok (.iastore, 1) := by decide +kernel
theorem dX12_strikes_12 : decode cX12_strikes 12 = .ok (.aload_n 0, 1) := by decide +kernel
theorem dX12_strikes_13 : decode cX12_strikes 13 = .ok (.iload_n 1, 1) := by decide +kernel
theorem dX12_strikes_14 : decode cX12_strikes 14 = .ok (.iload_n 2, 1) := by decide +kernel
theorem dX12_strikes_15 : decode cX12_strikes 15 = .ok (.invokevirtual 425, 3) := by decide +kernel
theorem dX12_strikes_18 : decode cX12_strikes 18 = .ok (.istore_n 3, 1) := by decide +kernel
theorem dX12_strikes_19 : decode cX12_strikes 19 = .ok (.iload_n 3, 1) := by decide +kernel
theorem dX12_strikes_20 : decode cX12_strikes 20 = .ok (.iconst (-1), 1) := by decide +kernel
theorem dX12_strikes_21 : decode cX12_strikes 21 = .ok (.if_icmp .eq 10, 3) := by decide +kernel
theorem dX12_strikes_24 : decode cX12_strikes 24 = .ok (.aload_n 0, 1) := by decide +kernel
theorem dX12_strikes_25 : decode cX12_strikes 25 = .ok (.iload_n 1, 1) := by decide +kernel
theorem dX12_strikes_26 : decode cX12_strikes 26 = .ok (.iload_n 3, 1) := by decide +kernel
theorem dX12_strikes_27 : decode cX12_strikes 27 = .ok (.iconst 5, 1) := by decide +kernel
theorem dX12_strikes_28 : decode cX12_strikes 28 = .ok (.invokevirtual 432, 3) := by decide +kernel
theorem dX12_strikes_31 : decode cX12_strikes 31 = .ok (.return_, 1) := by decide +kernel
theorem dX12_isGiven_0 : decode cX12_isGiven 0 = .ok (.bipush 12, 2) := by decide +kernel
theorem dX12_isGiven_2 : decode cX12_isGiven 2 = .ok (.iload_n 1, 1) := by decide +kernel
theorem dX12_isGiven_3 : decode cX12_isGiven 3 = .ok (.imul, 1) := by decide +kernel
theorem dX12_isGiven_4 : decode cX12_isGiven 4 = .ok (.iload_n 2, 1) := by decide +kernel
theorem dX12_isGiven_5 : decode cX12_isGiven 5 = .ok (.iadd, 1) := by decide +kernel
theorem dX12_isGiven_6 : decode cX12_isGiven 6 = .ok (.istore 4, 2) := by decide +kernel
theorem dX12_isGiven_8 : decode cX12_isGiven 8 = .ok (.aload_n 0, 1) := by decide +kernel
theorem dX12_isGiven_9 : decode cX12_isGiven 9 = .ok (.getfield 159, 3) := by decide +kernel
theorem dX12_isGiven_12 : decode cX12_isGiven 12 = .ok (.iload 4, 2) := by decide +kernel
theorem dX12_isGiven_14 : decode cX12_isGiven 14 = .ok (.iconst 2, 1) := by decide +kernel
theorem dX12_isGiven_15 : decode cX12_isGiven 15 = .ok (.iastore, 1) := by decide +kernel
theorem dX12_isGiven_16 : decode cX12_isGiven 16 = .ok (.aload_n 0, 1) := by decide +kernel
theorem dX12_isGiven_17 : decode cX12_isGiven 17 = .ok (.getfield 168, 3) := by decide +kernel
theorem dX12_isGiven_20 : decode cX12_isGiven 20 = .ok (.iload 4, 2) := by decide +kernel
theorem dX12_isGiven_22 : decode cX12_isGiven 22 = .ok (.iload_n 3, 1) := by decide +kernel
theorem dX12_isGiven_23 : decode cX12_isGiven 23 = .ok (.iastore, 1) := by decide +kernel
theorem dX12_isGiven_24 : decode cX12_isGiven 24 = .ok (.aload_n 0, 1) := by decide +kernel
theorem dX12_isGiven_25 : decode cX12_isGiven 25 = .ok (.getfield 171, 3) := by decide +kernel
theorem dX12_isGiven_28 : decode cX12_isGiven 28 = .ok (.iload 4, 2) := by decide +kernel
theorem dX12_isGiven_30 : decode cX12_isGiven 30 = .ok (.aload_n 0, 1) := by decide +kernel
theorem dX12_isGiven_31 : decode cX12_isGiven 31 = .ok (.getfield 78, 3) := by decide +kernel
theorem dX12_isGiven_34 : decode cX12_isGiven 34 = .ok (.bipush 12, 2) := by decide +kernel
theorem dX12_isGiven_36 : decode cX12_isGiven 36 = .ok (.aload_n 0, 1) := by decide +kernel
theorem dX12_isGiven_37 : decode cX12_isGiven 37 = .ok (.getfield 51, 3) := by decide +kernel
theorem dX12_isGiven_40 : decode cX12_isGiven 40 = .ok (.imul, 1) := by decide +kernel
theorem dX12_isGiven_41 : decode cX12_isGiven 41 = .ok (.iload_n 2, 1) := by decide +kernel
theorem dX12_isGiven_42 : decode cX12_isGiven 42 = .ok (.iadd, 1) := by decide +kernel
theorem dX12_isGiven_43 : decode cX12_isGiven 43 = .ok (.iaload, 1) := by decide +kernel
theorem dX12_isGiven_44 : decode cX12_isGiven 44 = .ok (.iastore, 1) := by decide +kernel
theorem dX12_isGiven_45 : decode cX12_isGiven 45 = .ok (.aload_n 0, 1) := by decide +kernel
theorem dX12_isGiven_46 : decode cX12_isGiven 46 = .ok (.getfield 153, 3) := by decide +kernel
theorem dX12_isGiven_49 : decode cX12_isGiven 49 = .ok (.bipush 7, 2) := by decide +kernel
theorem dX12_isGiven_51 : decode cX12_isGiven 51 = .ok (.iload_n 1, 1) := by decide +kernel
theorem dX12_isGiven_52 : decode cX12_isGiven 52 = .ok (.imul, 1) := by decide +kernel
theorem dX12_isGiven_53 : decode cX12_isGiven 53 = .ok (.iload_n 3, 1) := by decide +kernel
theorem dX12_isGiven_54 : decode cX12_isGiven 54 = .ok (.iadd, 1) := by decide +kernel
theorem dX12_isGiven_55 : decode cX12_isGiven 55 = .ok (.iaload, 1) := by decide +kernel
theorem dX12_isGiven_56 : decode cX12_isGiven 56 = .ok (.bipush 99, 2) := by decide +kernel
theorem dX12_isGiven_58 : decode cX12_isGiven 58 = .ok (.if_icmp .ge 18, 3) := by decide +kernel
theorem dX12_isGiven_61 : decode cX12_isGiven 61 = .ok (.aload_n 0, 1) := by decide +kernel
theorem dX12_isGiven_62 : decode cX12_isGiven 62 = .ok (.getfield 153, 3) := by decide +kernel
theorem dX12_isGiven_65 : decode cX12_isGiven 65 = .ok (.bipush 7, 2) := by decide +kernel
theorem dX12_isGiven_67 : decode cX12_isGiven 67 = .ok (.iload_n 1, 1) := by decide +kernel
theorem dX12_isGiven_68 : decode cX12_isGiven 68 = .ok (.imul, 1) := by decide +kernel
theorem dX12_isGiven_69 : decode cX12_isGiven 69 = .ok (.iload_n 3, 1) := by decide +kernel
theorem dX12_isGiven_70 : decode cX12_isGiven 70 = .ok (.iadd, 1) := by decide +kernel
theorem dX12_isGiven_71 : decode cX12_isGiven 71 = .ok (.dup2, 1) := by decide +kernel
theorem dX12_isGiven_72 : decode cX12_isGiven 72 = .ok (.iaload, 1) := by decide +kernel
theorem dX12_isGiven_73 : decode cX12_isGiven 73 = .ok (.iconst 1, 1) := by decide +kernel
theorem dX12_isGiven_74 : decode cX12_isGiven 74 = .ok (.iadd, 1) := by decide +kernel
theorem dX12_isGiven_75 : decode cX12_isGiven 75 = .ok (.iastore, 1) := by decide +kernel
theorem dX12_isGiven_76 : decode cX12_isGiven 76 = .ok (.aload_n 0, 1) := by decide +kernel
theorem dX12_isGiven_77 : decode cX12_isGiven 77 = .ok (.iload_n 1, 1) := by decide +kernel
theorem dX12_isGiven_78 : decode cX12_isGiven 78 = .ok (.iload_n 2, 1) := by decide +kernel
theorem dX12_isGiven_79 : decode cX12_isGiven 79 = .ok (.invokevirtual 415, 3) := by decide +kernel
theorem dX12_isGiven_82 : decode cX12_isGiven 82 = .ok (.aload_n 0, 1) := by decide +kernel
theorem dX12_isGiven_83 : decode cX12_isGiven 83 = .ok (.getfield 195, 3) := by decide +kernel
theorem dX12_isGiven_86 : decode cX12_isGiven 86 = .ok (.iconst 5, 1) := by decide +kernel
theorem dX12_isGiven_87 : decode cX12_isGiven 87 = .ok (.aload_n 0, 1) := by decide +kernel
theorem dX12_isGiven_88 : decode cX12_isGiven 88 = .ok (.getfield 150, 3) := by decide +kernel
theorem dX12_isGiven_91 : decode cX12_isGiven 91 = .ok (.bipush 7, 2) := by decide +kernel
theorem dX12_isGiven_93 : decode cX12_isGiven 93 = .ok (.iload_n 1, 1) := by decide +kernel
theorem dX12_isGiven_94 : decode cX12_isGiven 94 = .ok (.imul, 1) := by decide +kernel
theorem dX12_isGiven_95 : decode cX12_isGiven 95 = .ok (.iload_n 3, 1) := by decide +kernel
theorem dX12_isGiven_96 : decode cX12_isGiven 96 = .ok (.iadd, 1) := by decide +kernel
theorem dX12_isGiven_97 : decode cX12_isGiven 97 = .ok (.iaload, 1) := by decide +kernel
theorem dX12_isGiven_98 : decode cX12_isGiven 98 = .ok (.iastore, 1) := by decide +kernel
theorem dX12_isGiven_99 : decode cX12_isGiven 99 = .ok (.aload_n 0, 1) := by decide +kernel
theorem dX12_isGiven_100 : decode cX12_isGiven 100 = .ok (.getfield 195, 3) := by decide +kernel
theorem dX12_isGiven_103 : decode cX12_isGiven 103 = .ok (.bipush 7, 2) := by decide +kernel
theorem dX12_isGiven_105 : decode cX12_isGiven 105 = .ok (.aload_n 0, 1) := by decide +kernel
theorem dX12_isGiven_106 : decode cX12_isGiven 106 = .ok (.iload_n 1, 1) := by decide +kernel
theorem dX12_isGiven_107 : decode cX12_isGiven 107 = .ok (.invokevirtual 436, 3) := by decide +kernel
theorem dX12_isGiven_110 : decode cX12_isGiven 110 = .ok (.iastore, 1) := by decide +kernel
theorem dX12_isGiven_111 : decode cX12_isGiven 111 = .ok (.aload_n 0, 1) := by decide +kernel
theorem dX12_isGiven_112 : decode cX12_isGiven 112 = .ok (.iconst 1, 1) := by decide +kernel
theorem dX12_isGiven_113 : decode cX12_isGiven 113 = .ok (.invokevirtual 418, 3) := by decide +kernel
theorem dX12_isGiven_116 : decode cX12_isGiven 116 = .ok (.ifCond .eq 25, 3) := by decide +kernel
theorem dX12_isGiven_119 : decode cX12_isGiven 119 = .ok (.aload_n 0, 1) := by decide +kernel
theorem dX12_isGiven_120 : decode cX12_isGiven 120 = .ok (.iconst 1, 1) := by decide +kernel
theorem dX12_isGiven_121 : decode cX12_isGiven 121 = .ok (.invokevirtual 421, 3) := by decide +kernel
theorem dX12_isGiven_124 : decode cX12_isGiven 124 = .ok (.lconst 1, 1) := by decide +kernel
theorem dX12_isGiven_125 : decode cX12_isGiven 125 = .ok (.lcmp, 1) := by decide +kernel
theorem dX12_isGiven_126 : decode cX12_isGiven 126 = .ok (.ifCond .ne 15, 3) := by decide +kernel
theorem dX12_isGiven_129 : decode cX12_isGiven 129 = .ok (.aload_n 0, 1) := by decide +kernel
theorem dX12_isGiven_130 : decode cX12_isGiven 130 = .ok (.getfield 174, 3) := by decide +kernel
theorem dX12_isGiven_133 : decode cX12_isGiven 133 = .ok (.iload_n 1, 1) := by decide +kernel
theorem dX12_isGiven_134 : decode cX12_isGiven 134 = .ok (.dup2, 1) := by decide +kernel
theorem dX12_isGiven_135 : decode cX12_isGiven 135 = .ok (.iaload, 1) := by decide +kernel
theorem dX12_isGiven_136 : decode cX12_isGiven 136 = .ok (.iconst 1, 1) := by decide +kernel
theorem dX12_isGiven_137 : decode cX12_isGiven 137 = .ok (.iload_n 2, 1) := by decide +kernel
theorem dX12_isGiven_138 : decode cX12_isGiven 138 = .ok (.ishl, 1) := by decide +kernel
theorem dX12_isGiven_139 : decode cX12_isGiven 139 = .ok (.ior, 1) := by decide +kernel
theorem dX12_isGiven_140 : decode cX12_isGiven 140 = .ok (.iastore, 1) := by decide +kernel
theorem dX12_isGiven_141 : decode cX12_isGiven 141 = .ok (.return_, 1) := by decide +kernel
theorem dX12_finds_0 : decode cX12_finds 0 = .ok (.iconst (-1), 1) := by decide +kernel
theorem dX12_finds_1 : decode cX12_finds 1 = .ok (.istore 4, 2) := by decide +kernel
theorem dX12_finds_3 : decode cX12_finds 3 = .ok (.lconst 0, 1) := by decide +kernel
theorem dX12_finds_4 : decode cX12_finds 4 = .ok (.lstore 5, 2) := by decide +kernel
theorem dX12_finds_6 : decode cX12_finds 6 = .ok (.iconst 0, 1) := by decide +kernel
theorem dX12_finds_7 : decode cX12_finds 7 = .ok (.istore 7, 2) := by decide +kernel
theorem dX12_finds_9 : decode cX12_finds 9 = .ok (.iload 7, 2) := by decide +kernel
theorem dX12_finds_11 : decode cX12_finds 11 = .ok (.aload_n 0, 1) := by decide +kernel
theorem dX12_finds_12 : decode cX12_finds 12 = .ok (.getfield 54, 3) := by decide +kernel
theorem dX12_finds_15 : decode cX12_finds 15 = .ok (.aload_n 0, 1) := by decide +kernel
theorem dX12_finds_16 : decode cX12_finds 16 = .ok (.getfield 51, 3) := by decide +kernel
theorem dX12_finds_19 : decode cX12_finds 19 = .ok (.iaload, 1) := by decide +kernel
theorem dX12_finds_20 : decode cX12_finds 20 = .ok (.if_icmp .ge 60, 3) := by decide +kernel
theorem dX12_finds_23 : decode cX12_finds 23 = .ok (.iload_n 3, 1) := by decide +kernel
theorem dX12_finds_24 : decode cX12_finds 24 = .ok (.iload 7, 2) := by decide +kernel
theorem dX12_finds_26 : decode cX12_finds 26 = .ok (.invokestatic 428, 3) := by decide +kernel
theorem dX12_finds_29 : decode cX12_finds 29 = .ok (.ifCond .eq 45, 3) := by decide +kernel
theorem dX12_finds_32 : decode cX12_finds 32 = .ok (.aload_n 0, 1) := by decide +kernel
theorem dX12_finds_33 : decode cX12_finds 33 = .ok (.iload_n 1, 1) := by decide +kernel
theorem dX12_finds_34 : decode cX12_finds 34 = .ok (.iload 7, 2) := by decide +kernel
theorem dX12_finds_36 : decode cX12_finds 36 = .ok (.invokevirtual 439, 3) := by decide +kernel
theorem dX12_finds_39 : decode cX12_finds 39 = .ok (.ifCond .ne 6, 3) := by decide +kernel
theorem dX12_finds_42 : decode cX12_finds 42 = .ok (.goto 32, 3) := by decide +kernel
theorem dX12_finds_45 : decode cX12_finds 45 = .ok (.aload_n 0, 1) := by decide +kernel
theorem dX12_finds_46 : decode cX12_finds 46 = .ok (.iload_n 1, 1) := by decide +kernel
theorem dX12_finds_47 : decode cX12_finds 47 = .ok (.iload_n 2, 1) := by decide +kernel
theorem dX12_finds_48 : decode cX12_finds 48 = .ok (.iload 7, 2) := by decide +kernel
theorem dX12_finds_50 : decode cX12_finds 50 = .ok (.invokevirtual 442, 3) := by decide +kernel
theorem dX12_finds_53 : decode cX12_finds 53 = .ok (.lstore 8, 2) := by decide +kernel
theorem dX12_finds_55 : decode cX12_finds 55 = .ok (.lload 8, 2) := by decide +kernel
theorem dX12_finds_57 : decode cX12_finds 57 = .ok (.lload 5, 2) := by decide +kernel
theorem dX12_finds_59 : decode cX12_finds 59 = .ok (.lcmp, 1) := by decide +kernel
theorem dX12_finds_60 : decode cX12_finds 60 = .ok (.ifCond .gt 6, 3) := by decide +kernel
theorem dX12_finds_63 : decode cX12_finds 63 = .ok (.goto 11, 3) := by decide +kernel
theorem dX12_finds_66 : decode cX12_finds 66 = .ok (.lload 8, 2) := by decide +kernel
theorem dX12_finds_68 : decode cX12_finds 68 = .ok (.lstore 5, 2) := by decide +kernel
theorem dX12_finds_70 : decode cX12_finds 70 = .ok (.iload 7, 2) := by decide +kernel
theorem dX12_finds_72 : decode cX12_finds 72 = .ok (.istore 4, 2) := by decide +kernel
theorem dX12_finds_74 : decode cX12_finds 74 = .ok (.iinc 7 1, 3) := by decide +kernel
theorem dX12_finds_77 : decode cX12_finds 77 = .ok (.goto (-68), 3) := by decide +kernel
theorem dX12_finds_80 : decode cX12_finds 80 = .ok (.iload 4, 2) := by decide +kernel
theorem dX12_finds_82 : decode cX12_finds 82 = .ok (.iconst (-1), 1) := by decide +kernel
theorem dX12_finds_83 : decode cX12_finds 83 = .ok (.if_icmp .eq 11, 3) := by decide +kernel
theorem dX12_finds_86 : decode cX12_finds 86 = .ok (.aload_n 0, 1) := by decide +kernel
theorem dX12_finds_87 : decode cX12_finds 87 = .ok (.iload_n 1, 1) := by decide +kernel
theorem dX12_finds_88 : decode cX12_finds 88 = .ok (.iload_n 2, 1) := by decide +kernel
theorem dX12_finds_89 : decode cX12_finds 89 = .ok (.iload 4, 2) := by decide +kernel
theorem dX12_finds_91 : decode cX12_finds 91 = .ok (.invokevirtual 446, 3) := by decide +kernel
theorem dX12_finds_94 : decode cX12_finds 94 = .ok (.return_, 1) := by decide +kernel
theorem dX12_isHushed_0 : decode cX12_isHushed 0 = .ok (.aload_n 0, 1) := by decide +kernel
theorem dX12_isHushed_1 : decode cX12_isHushed 1 = .ok (.iload_n 1, 1) := by decide +kernel
theorem dX12_isHushed_2 : decode cX12_isHushed 2 = .ok (.iload_n 2, 1) := by decide +kernel
theorem dX12_isHushed_3 : decode cX12_isHushed 3 = .ok (.invokevirtual 415, 3) := by decide +kernel
theorem dX12_isHushed_6 : decode cX12_isHushed 6 = .ok (.aload_n 0, 1) := by decide +kernel
theorem dX12_isHushed_7 : decode cX12_isHushed 7 = .ok (.iconst 2, 1) := by decide +kernel
theorem dX12_isHushed_8 : decode cX12_isHushed 8 = .ok (.invokevirtual 418, 3) := by decide +kernel
theorem dX12_isHushed_11 : decode cX12_isHushed 11 = .ok (.ifCond .eq 21, 3) := by decide +kernel
theorem dX12_isHushed_14 : decode cX12_isHushed 14 = .ok (.aload_n 0, 1) := by decide +kernel
theorem dX12_isHushed_15 : decode cX12_isHushed 15 = .ok (.iconst 2, 1) := by decide +kernel
theorem dX12_isHushed_16 : decode cX12_isHushed 16 = .ok (.invokevirtual 421, 3) := by decide +kernel
theorem dX12_isHushed_19 : decode cX12_isHushed 19 = .ok (.lconst 1, 1) := by decide +kernel
theorem dX12_isHushed_20 : decode cX12_isHushed 20 = .ok (.lcmp, 1) := by decide +kernel
theorem dX12_isHushed_21 : decode cX12_isHushed 21 = .ok (.ifCond .ne 7, 3) := by decide +kernel
theorem dX12_isHushed_24 : decode cX12_isHushed 24 = .ok (.iconst 1, 1) := by decide +kernel
theorem dX12_isHushed_25 : decode cX12_isHushed 25 = .ok (.goto 28, 3) := by decide +kernel
theorem dX12_isHushed_28 : decode cX12_isHushed 28 = .ok (.iconst 0, 1) := by decide +kernel
theorem dX12_isHushed_29 : decode cX12_isHushed 29 = .ok (.goto 24, 3) := by decide +kernel
theorem dX12_isHushed_32 : decode cX12_isHushed 32 = .ok (.aload_n 0, 1) := by decide +kernel
theorem dX12_isHushed_33 : decode cX12_isHushed 33 = .ok (.getfield 195, 3) := by decide +kernel
theorem dX12_isHushed_36 : decode cX12_isHushed 36 = .ok (.iconst 2, 1) := by decide +kernel
theorem dX12_isHushed_37 : decode cX12_isHushed 37 = .ok (.iaload, 1) := by decide +kernel
theorem dX12_isHushed_38 : decode cX12_isHushed 38 = .ok (.aload_n 0, 1) := by decide +kernel
theorem dX12_isHushed_39 : decode cX12_isHushed 39 = .ok (.getfield 195, 3) := by decide +kernel
theorem dX12_isHushed_42 : decode cX12_isHushed 42 = .ok (.bipush 8, 2) := by decide +kernel
theorem dX12_isHushed_44 : decode cX12_isHushed 44 = .ok (.iaload, 1) := by decide +kernel
theorem dX12_isHushed_45 : decode cX12_isHushed 45 = .ok (.if_icmp .le 7, 3) := by decide +kernel
theorem dX12_isHushed_48 : decode cX12_isHushed 48 = .ok (.iconst 1, 1) := by decide +kernel
theorem dX12_isHushed_49 : decode cX12_isHushed 49 = .ok (.goto 4, 3) := by decide +kernel
theorem dX12_isHushed_52 : decode cX12_isHushed 52 = .ok (.iconst 0, 1) := by decide +kernel
theorem dX12_isHushed_53 : decode cX12_isHushed 53 = .ok (.ireturn, 1) := by decide +kernel
section
variable {p : Program} {l : Launch} {e : Env} {s : State} {m : MethodId} {args : Array Value} {below : List Frame} {meth : Method} {c : Code} {D : va_G} {E : Nat → ClassId} {b : Nat}
set_option maxHeartbeats 4000000 in
set_option maxRecDepth 20000 in
theorem c_m_status (l : Launch) {x1 : Int} {M : Mem} {r0 : Int} (h : m_status x1 M = some r0) : Ct l yX12_status cX12_status 2 (some .int) 2 34 vwCl mSh mN mRf mExt (fun b => [vR b 0, vI x1]) M (fun b => (some (vI r0))) M := by
  refine Ct_of mExtOK (by decide) (fun b => Nat.le_of_ble_eq_true rfl) ?_
  intro p e s m args below meth c D E b C hr
  unfold m_status at h
  refine (show mWX p l e 2 34 s m args below meth c 2 D E b (some (vI r0)) M M 0 [(0, vR b 0), (1, vI x1)] [] from ?_)
  refine r_iload_n (pc := 0) C 1 rfl rfl dX12_status_0 ?_
  refine r_iconst (pc := 1) C dX12_status_1 ?_
  refine r_iconst (pc := 2) C dX12_status_2 ?_
  obtain ⟨r1, hq1, h⟩ := bnd_inv h
  refine r_callS (pc := 3) (rest := []) (st1 := [vB r1]) C (mExtOK b) [vI x1, vI 0, vI 5] (c_m_is l hq1) cl_RX12_303 rfl rfl ⟨Nat.le_of_ble_eq_true rfl, Nat.le_of_ble_eq_true rfl⟩ (Nat.le_of_ble_eq_true rfl) rfl rfl dX12_status_3 ?_
  refine r_if_eqB (pc := 6) (tgt := 18) C h dX12_status_6 (by decide) (fun hc6 h => ?_) (fun hc6 h => ?_)
  · refine r_aload_n (pc := 9) C 0 rfl rfl dX12_status_9 ?_
    refine r_getR (pc := 10) C fl_RX12_144 m_s0 (by decide) m_k43 m_r43 dX12_status_10 ?_
    refine r_iload_n (pc := 13) C 1 rfl rfl dX12_status_13 ?_
    obtain ⟨hi14, h⟩ := chk_inv h
    refine r_iald (pc := 14) C m_s24 (by decide) (by decide) hi14 rfl dX12_status_14 ?_
    refine r_goto (pc := 15) (tgt := 19) C dX12_status_15 (by decide) ?_
    have e := Option.some.inj h
    exact r_iret (pc := 19) C hr (congrArg (fun z => some (vI z)) e.symm) rfl dX12_status_19
  · refine r_iconst (pc := 18) C dX12_status_18 ?_
    have e := Option.some.inj h
    exact r_iret (pc := 19) C hr (congrArg (fun z => some (vI z)) e.symm) rfl dX12_status_19
set_option maxHeartbeats 4000000 in
set_option maxRecDepth 20000 in
theorem w_m_copies_L38_s (C : mCX p s m args meth c cX12_copies 6 RX12 D E b) (hr : meth.sig.returnType = none) {M0 : Mem} {v1 : Int} {v2 : Int} {v3 : Int} {M : Mem} {q : Int × Mem} {rec : Int → Mem → Option (Int × Mem)} (hrec : ∀ (v3 : Int) (M : Mem), rec v3 M = some q → mWX p l e 1 12 s m args below meth c 6 D E b none M0 M 38 [(0, vR b 0), (1, vI v1), (2, vI v2), (3, vI v3)] []) (hfol : ∀ (v3 : Int) (M : Mem), q = (v3, M) → mWX p l e 1 12 s m args below meth c 6 D E b none M0 M 94 [(0, vR b 0), (1, vI v1), (2, vI v2)] []) (h : m_copies_L38 v1 v2 rec v3 M = some q) :
    mWX p l e 1 12 s m args below meth c 6 D E b none M0 M 38 [(0, vR b 0), (1, vI v1), (2, vI v2), (3, vI v3)] [] := by
  unfold m_copies_L38 at h
  refine r_iload_n (pc := 38) C 3 rfl rfl dX12_copies_38 ?_
  refine r_bipush (pc := 39) (j := 7) C (by decide +kernel) dX12_copies_39 ?_
  refine r_icmp_ge (pc := 41) (tgt := 94) C h dX12_copies_41 (by decide) (fun hc41 h => ?_) (fun hc41 h => ?_)
  · refine r_sub (lv' := [(0, vR b 0), (1, vI v1), (2, vI v2)]) [0, 1, 2] rfl ?_
    exact hfol _ _ (Option.some.inj h).symm
  · refine r_aload_n (pc := 44) C 0 rfl rfl dX12_copies_44 ?_
    refine r_getR (pc := 45) C fl_RX12_150 m_s0 (by decide) m_k45 m_r45 dX12_copies_45 ?_
    refine r_bipush (pc := 48) (j := 7) C (by decide +kernel) dX12_copies_48 ?_
    refine r_iload_n (pc := 50) C 1 rfl rfl dX12_copies_50 ?_
    refine r_imul (pc := 51) C dX12_copies_51 ?_
    refine r_iload_n (pc := 52) C 3 rfl rfl dX12_copies_52 ?_
    refine r_iadd (pc := 53) C dX12_copies_53 ?_
    refine r_aload_n (pc := 54) C 0 rfl rfl dX12_copies_54 ?_
    refine r_getR (pc := 55) C fl_RX12_150 m_s0 (by decide) m_k45 m_r45 dX12_copies_55 ?_
    refine r_bipush (pc := 58) (j := 7) C (by decide +kernel) dX12_copies_58 ?_
    refine r_iload_n (pc := 60) C 2 rfl rfl dX12_copies_60 ?_
    refine r_imul (pc := 61) C dX12_copies_61 ?_
    refine r_iload_n (pc := 62) C 3 rfl rfl dX12_copies_62 ?_
    refine r_iadd (pc := 63) C dX12_copies_63 ?_
    obtain ⟨hi64, h⟩ := chk_inv h
    refine r_iald (pc := 64) C m_s26 (by decide) (by decide) hi64 rfl dX12_copies_64 ?_
    obtain ⟨hi65, h⟩ := chk_inv h
    obtain ⟨M_65, hM_65, h⟩ := lt_inv h
    refine r_iast (pc := 65) C m_s26 (by decide) (by decide) hi65 rfl hM_65 dX12_copies_65 ?_
    refine r_aload_n (pc := 66) C 0 rfl rfl dX12_copies_66 ?_
    refine r_getR (pc := 67) C fl_RX12_153 m_s0 (by decide) m_k46 m_r46 dX12_copies_67 ?_
    refine r_bipush (pc := 70) (j := 7) C (by decide +kernel) dX12_copies_70 ?_
    refine r_iload_n (pc := 72) C 1 rfl rfl dX12_copies_72 ?_
    refine r_imul (pc := 73) C dX12_copies_73 ?_
    refine r_iload_n (pc := 74) C 3 rfl rfl dX12_copies_74 ?_
    refine r_iadd (pc := 75) C dX12_copies_75 ?_
    refine r_aload_n (pc := 76) C 0 rfl rfl dX12_copies_76 ?_
    refine r_getR (pc := 77) C fl_RX12_153 m_s0 (by decide) m_k46 m_r46 dX12_copies_77 ?_
    refine r_bipush (pc := 80) (j := 7) C (by decide +kernel) dX12_copies_80 ?_
    refine r_iload_n (pc := 82) C 2 rfl rfl dX12_copies_82 ?_
    refine r_imul (pc := 83) C dX12_copies_83 ?_
    refine r_iload_n (pc := 84) C 3 rfl rfl dX12_copies_84 ?_
    refine r_iadd (pc := 85) C dX12_copies_85 ?_
    obtain ⟨hi86, h⟩ := chk_inv h
    refine r_iald (pc := 86) C m_s27 (by decide) (by decide) hi86 rfl dX12_copies_86 ?_
    obtain ⟨hi87, h⟩ := chk_inv h
    obtain ⟨M_87, hM_87, h⟩ := lt_inv h
    refine r_iast (pc := 87) C m_s27 (by decide) (by decide) hi87 rfl hM_87 dX12_copies_87 ?_
    obtain ⟨v3_88, hv3_88, h⟩ := lt_inv h
    refine r_iincN (pc := 88) (y := v3_88) (lv' := [(3, vI v3_88), (0, vR b 0), (1, vI v1), (2, vI v2)]) C 3 rfl hv3_88 dX12_copies_88 (by decide) rfl ?_
    refine r_goto (pc := 91) (tgt := 38) C dX12_copies_91 (by decide) ?_
    refine r_sub (lv' := [(0, vR b 0), (1, vI v1), (2, vI v2), (3, vI v3_88)]) [1, 2, 3, 0] rfl ?_
    exact hrec _ _ h
set_option maxHeartbeats 4000000 in
theorem w_m_copies_L38 (C : mCX p s m args meth c cX12_copies 6 RX12 D E b) (hr : meth.sig.returnType = none) {M0 : Mem} {v1 : Int} {v2 : Int} {q : Int × Mem} (hfol : ∀ (v3 : Int) (M : Mem), q = (v3, M) → mWX p l e 1 12 s m args below meth c 6 D E b none M0 M 94 [(0, vR b 0), (1, vI v1), (2, vI v2)] []) : ∀ (n : Nat) (v3 : Int) (M : Mem), itr2 (m_copies_L38 v1 v2) n v3 M = some q →
    mWX p l e 1 12 s m args below meth c 6 D E b none M0 M 38 [(0, vR b 0), (1, vI v1), (2, vI v2), (3, vI v3)] [] := by
  intro n
  induction n with
  | zero => exact fun _ _ h => itr_z h
  | succ n ih => exact fun _ _ h => w_m_copies_L38_s C hr ih hfol h
set_option maxHeartbeats 4000000 in
set_option maxRecDepth 20000 in
theorem w_m_copies_L96_s (C : mCX p s m args meth c cX12_copies 6 RX12 D E b) (hr : meth.sig.returnType = none) {M0 : Mem} {v1 : Int} {v2 : Int} {v3 : Int} {M : Mem} {q : Int × Mem} {rec : Int → Mem → Option (Int × Mem)} (hrec : ∀ (v3 : Int) (M : Mem), rec v3 M = some q → mWX p l e 1 12 s m args below meth c 6 D E b none M0 M 96 [(0, vR b 0), (1, vI v1), (2, vI v2), (3, vI v3)] []) (hfol : ∀ (v3 : Int) (M : Mem), q = (v3, M) → mWX p l e 1 12 s m args below meth c 6 D E b none M0 M 194 [(0, vR b 0), (1, vI v1), (2, vI v2)] []) (h : m_copies_L96 v1 v2 rec v3 M = some q) :
    mWX p l e 1 12 s m args below meth c 6 D E b none M0 M 96 [(0, vR b 0), (1, vI v1), (2, vI v2), (3, vI v3)] [] := by
  unfold m_copies_L96 at h
  refine r_iload_n (pc := 96) C 3 rfl rfl dX12_copies_96 ?_
  refine r_bipush (pc := 97) (j := 12) C (by decide +kernel) dX12_copies_97 ?_
  refine r_icmp_ge (pc := 99) (tgt := 194) C h dX12_copies_99 (by decide) (fun hc99 h => ?_) (fun hc99 h => ?_)
  · refine r_sub (lv' := [(0, vR b 0), (1, vI v1), (2, vI v2)]) [0, 1, 2] rfl ?_
    exact hfol _ _ (Option.some.inj h).symm
  · refine r_bipush (pc := 102) (j := 12) C (by decide +kernel) dX12_copies_102 ?_
    refine r_iload_n (pc := 104) C 1 rfl rfl dX12_copies_104 ?_
    refine r_imul (pc := 105) C dX12_copies_105 ?_
    refine r_iload_n (pc := 106) C 3 rfl rfl dX12_copies_106 ?_
    refine r_iadd (pc := 107) C dX12_copies_107 ?_
    obtain ⟨v4_108, hv4_108, h⟩ := lt_inv h
    refine r_topI hv4_108 ?_
    refine r_istore (pc := 108) (lv' := [(4, vI v4_108), (0, vR b 0), (1, vI v1), (2, vI v2), (3, vI v3)]) C dX12_copies_108 (by decide) rfl ?_
    refine r_bipush (pc := 110) (j := 12) C (by decide +kernel) dX12_copies_110 ?_
    refine r_iload_n (pc := 112) C 3 rfl rfl dX12_copies_112 ?_
    refine r_imul (pc := 113) C dX12_copies_113 ?_
    refine r_iload_n (pc := 114) C 4 rfl rfl dX12_copies_114 ?_
    refine r_iadd (pc := 115) C dX12_copies_115 ?_
    obtain ⟨v5_116, hv5_116, h⟩ := lt_inv h
    refine r_topI hv5_116 ?_
    refine r_istore (pc := 116) (lv' := [(5, vI v5_116), (4, vI v4_108), (0, vR b 0), (1, vI v1), (2, vI v2), (3, vI v3)]) C dX12_copies_116 (by decide) rfl ?_
    refine r_aload_n (pc := 118) C 2 rfl rfl dX12_copies_118 ?_
    refine r_getR (pc := 119) C fl_RX12_159 m_s0 (by decide) m_k48 m_r48 dX12_copies_119 ?_
    refine r_iload (pc := 122) C 1 rfl dX12_copies_122 ?_
    refine r_aload_n (pc := 124) C 2 rfl rfl dX12_copies_124 ?_
    refine r_getR (pc := 125) C fl_RX12_159 m_s0 (by decide) m_k48 m_r48 dX12_copies_125 ?_
    refine r_iload (pc := 128) C 0 rfl dX12_copies_128 ?_
    obtain ⟨hi130, h⟩ := chk_inv h
    refine r_iald (pc := 130) C m_s29 (by decide) (by decide) hi130 rfl dX12_copies_130 ?_
    obtain ⟨hi131, h⟩ := chk_inv h
    obtain ⟨M_131, hM_131, h⟩ := lt_inv h
    refine r_iast (pc := 131) C m_s29 (by decide) (by decide) hi131 rfl hM_131 dX12_copies_131 ?_
    refine r_aload_n (pc := 132) C 2 rfl rfl dX12_copies_132 ?_
    refine r_getR (pc := 133) C fl_RX12_162 m_s0 (by decide) m_k49 m_r49 dX12_copies_133 ?_
    refine r_iload (pc := 136) C 1 rfl dX12_copies_136 ?_
    refine r_aload_n (pc := 138) C 2 rfl rfl dX12_copies_138 ?_
    refine r_getR (pc := 139) C fl_RX12_162 m_s0 (by decide) m_k49 m_r49 dX12_copies_139 ?_
    refine r_iload (pc := 142) C 0 rfl dX12_copies_142 ?_
    obtain ⟨hi144, h⟩ := chk_inv h
    refine r_iald (pc := 144) C m_s30 (by decide) (by decide) hi144 rfl dX12_copies_144 ?_
    obtain ⟨hi145, h⟩ := chk_inv h
    obtain ⟨M_145, hM_145, h⟩ := lt_inv h
    refine r_iast (pc := 145) C m_s30 (by decide) (by decide) hi145 rfl hM_145 dX12_copies_145 ?_
    refine r_aload_n (pc := 146) C 2 rfl rfl dX12_copies_146 ?_
    refine r_getR (pc := 147) C fl_RX12_165 m_s0 (by decide) m_k50 m_r50 dX12_copies_147 ?_
    refine r_iload (pc := 150) C 1 rfl dX12_copies_150 ?_
    refine r_aload_n (pc := 152) C 2 rfl rfl dX12_copies_152 ?_
    refine r_getR (pc := 153) C fl_RX12_165 m_s0 (by decide) m_k50 m_r50 dX12_copies_153 ?_
    refine r_iload (pc := 156) C 0 rfl dX12_copies_156 ?_
    obtain ⟨hi158, h⟩ := chk_inv h
    refine r_iald (pc := 158) C m_s31 (by decide) (by decide) hi158 rfl dX12_copies_158 ?_
    obtain ⟨hi159, h⟩ := chk_inv h
    obtain ⟨M_159, hM_159, h⟩ := lt_inv h
    refine r_iast (pc := 159) C m_s31 (by decide) (by decide) hi159 rfl hM_159 dX12_copies_159 ?_
    refine r_aload_n (pc := 160) C 2 rfl rfl dX12_copies_160 ?_
    refine r_getR (pc := 161) C fl_RX12_168 m_s0 (by decide) m_k51 m_r51 dX12_copies_161 ?_
    refine r_iload (pc := 164) C 1 rfl dX12_copies_164 ?_
    refine r_aload_n (pc := 166) C 2 rfl rfl dX12_copies_166 ?_
    refine r_getR (pc := 167) C fl_RX12_168 m_s0 (by decide) m_k51 m_r51 dX12_copies_167 ?_
    refine r_iload (pc := 170) C 0 rfl dX12_copies_170 ?_
    obtain ⟨hi172, h⟩ := chk_inv h
    refine r_iald (pc := 172) C m_s32 (by decide) (by decide) hi172 rfl dX12_copies_172 ?_
    obtain ⟨hi173, h⟩ := chk_inv h
    obtain ⟨M_173, hM_173, h⟩ := lt_inv h
    refine r_iast (pc := 173) C m_s32 (by decide) (by decide) hi173 rfl hM_173 dX12_copies_173 ?_
    refine r_aload_n (pc := 174) C 2 rfl rfl dX12_copies_174 ?_
    refine r_getR (pc := 175) C fl_RX12_171 m_s0 (by decide) m_k52 m_r52 dX12_copies_175 ?_
    refine r_iload (pc := 178) C 1 rfl dX12_copies_178 ?_
    refine r_aload_n (pc := 180) C 2 rfl rfl dX12_copies_180 ?_
    refine r_getR (pc := 181) C fl_RX12_171 m_s0 (by decide) m_k52 m_r52 dX12_copies_181 ?_
    refine r_iload (pc := 184) C 0 rfl dX12_copies_184 ?_
    obtain ⟨hi186, h⟩ := chk_inv h
    refine r_iald (pc := 186) C m_s33 (by decide) (by decide) hi186 rfl dX12_copies_186 ?_
    obtain ⟨hi187, h⟩ := chk_inv h
    obtain ⟨M_187, hM_187, h⟩ := lt_inv h
    refine r_iast (pc := 187) C m_s33 (by decide) (by decide) hi187 rfl hM_187 dX12_copies_187 ?_
    obtain ⟨v3_188, hv3_188, h⟩ := lt_inv h
    refine r_iincN (pc := 188) (y := v3_188) (lv' := [(3, vI v3_188), (5, vI v5_116), (4, vI v4_108), (0, vR b 0), (1, vI v1), (2, vI v2)]) C 5 rfl hv3_188 dX12_copies_188 (by decide) rfl ?_
    refine r_goto (pc := 191) (tgt := 96) C dX12_copies_191 (by decide) ?_
    refine r_sub (lv' := [(0, vR b 0), (1, vI v1), (2, vI v2), (3, vI v3_188)]) [3, 4, 5, 0] rfl ?_
    exact hrec _ _ h
set_option maxHeartbeats 4000000 in
theorem w_m_copies_L96 (C : mCX p s m args meth c cX12_copies 6 RX12 D E b) (hr : meth.sig.returnType = none) {M0 : Mem} {v1 : Int} {v2 : Int} {q : Int × Mem} (hfol : ∀ (v3 : Int) (M : Mem), q = (v3, M) → mWX p l e 1 12 s m args below meth c 6 D E b none M0 M 194 [(0, vR b 0), (1, vI v1), (2, vI v2)] []) : ∀ (n : Nat) (v3 : Int) (M : Mem), itr2 (m_copies_L96 v1 v2) n v3 M = some q →
    mWX p l e 1 12 s m args below meth c 6 D E b none M0 M 96 [(0, vR b 0), (1, vI v1), (2, vI v2), (3, vI v3)] [] := by
  intro n
  induction n with
  | zero => exact fun _ _ h => itr_z h
  | succ n ih => exact fun _ _ h => w_m_copies_L96_s C hr ih hfol h
set_option maxHeartbeats 4000000 in
set_option maxRecDepth 20000 in
theorem w_m_copies_L208_s (C : mCX p s m args meth c cX12_copies 6 RX12 D E b) (hr : meth.sig.returnType = none) {M0 : Mem} {v1 : Int} {v2 : Int} {v3 : Int} {M : Mem} {q : Int × Mem} {rec : Int → Mem → Option (Int × Mem)} (hrec : ∀ (v3 : Int) (M : Mem), rec v3 M = some q → mWX p l e 1 12 s m args below meth c 6 D E b none M0 M 208 [(0, vR b 0), (1, vI v1), (2, vI v2), (3, vI v3)] []) (hfol : ∀ (v3 : Int) (M : Mem), q = (v3, M) → mWX p l e 1 12 s m args below meth c 6 D E b none M0 M 248 [] []) (h : m_copies_L208 v1 v2 rec v3 M = some q) :
    mWX p l e 1 12 s m args below meth c 6 D E b none M0 M 208 [(0, vR b 0), (1, vI v1), (2, vI v2), (3, vI v3)] [] := by
  unfold m_copies_L208 at h
  refine r_iload_n (pc := 208) C 3 rfl rfl dX12_copies_208 ?_
  refine r_iconst (pc := 209) C dX12_copies_209 ?_
  refine r_aload_n (pc := 210) C 0 rfl rfl dX12_copies_210 ?_
  refine r_getR (pc := 211) C fl_RX12_177 m_s0 (by decide) m_k54 m_r54 dX12_copies_211 ?_
  refine r_iload_n (pc := 214) C 2 rfl rfl dX12_copies_214 ?_
  obtain ⟨hi215, h⟩ := chk_inv h
  refine r_iald (pc := 215) C m_s35 (by decide) (by decide) hi215 rfl dX12_copies_215 ?_
  refine r_imul (pc := 216) C dX12_copies_216 ?_
  refine r_icmp_ge (pc := 217) (tgt := 248) C h dX12_copies_217 (by decide) (fun hc217 h => ?_) (fun hc217 h => ?_)
  · refine r_sub (lv' := []) [] rfl ?_
    exact hfol _ _ (Option.some.inj h).symm
  · refine r_aload_n (pc := 220) C 0 rfl rfl dX12_copies_220 ?_
    refine r_getR (pc := 221) C fl_RX12_180 m_s0 (by decide) m_k55 m_r55 dX12_copies_221 ?_
    refine r_bipush (pc := 224) (j := 120) C (by decide +kernel) dX12_copies_224 ?_
    refine r_iload_n (pc := 226) C 1 rfl rfl dX12_copies_226 ?_
    refine r_imul (pc := 227) C dX12_copies_227 ?_
    refine r_iload_n (pc := 228) C 3 rfl rfl dX12_copies_228 ?_
    refine r_iadd (pc := 229) C dX12_copies_229 ?_
    refine r_aload_n (pc := 230) C 0 rfl rfl dX12_copies_230 ?_
    refine r_getR (pc := 231) C fl_RX12_180 m_s0 (by decide) m_k55 m_r55 dX12_copies_231 ?_
    refine r_bipush (pc := 234) (j := 120) C (by decide +kernel) dX12_copies_234 ?_
    refine r_iload_n (pc := 236) C 2 rfl rfl dX12_copies_236 ?_
    refine r_imul (pc := 237) C dX12_copies_237 ?_
    refine r_iload_n (pc := 238) C 3 rfl rfl dX12_copies_238 ?_
    refine r_iadd (pc := 239) C dX12_copies_239 ?_
    obtain ⟨hi240, h⟩ := chk_inv h
    refine r_iald (pc := 240) C m_s36 (by decide) (by decide) hi240 rfl dX12_copies_240 ?_
    obtain ⟨hi241, h⟩ := chk_inv h
    obtain ⟨M_241, hM_241, h⟩ := lt_inv h
    refine r_iast (pc := 241) C m_s36 (by decide) (by decide) hi241 rfl hM_241 dX12_copies_241 ?_
    obtain ⟨v3_242, hv3_242, h⟩ := lt_inv h
    refine r_iincN (pc := 242) (y := v3_242) (lv' := [(3, vI v3_242), (0, vR b 0), (1, vI v1), (2, vI v2)]) C 3 rfl hv3_242 dX12_copies_242 (by decide) rfl ?_
    refine r_goto (pc := 245) (tgt := 208) C dX12_copies_245 (by decide) ?_
    refine r_sub (lv' := [(0, vR b 0), (1, vI v1), (2, vI v2), (3, vI v3_242)]) [1, 2, 3, 0] rfl ?_
    exact hrec _ _ h
set_option maxHeartbeats 4000000 in
theorem w_m_copies_L208 (C : mCX p s m args meth c cX12_copies 6 RX12 D E b) (hr : meth.sig.returnType = none) {M0 : Mem} {v1 : Int} {v2 : Int} {q : Int × Mem} (hfol : ∀ (v3 : Int) (M : Mem), q = (v3, M) → mWX p l e 1 12 s m args below meth c 6 D E b none M0 M 248 [] []) : ∀ (n : Nat) (v3 : Int) (M : Mem), itr2 (m_copies_L208 v1 v2) n v3 M = some q →
    mWX p l e 1 12 s m args below meth c 6 D E b none M0 M 208 [(0, vR b 0), (1, vI v1), (2, vI v2), (3, vI v3)] [] := by
  intro n
  induction n with
  | zero => exact fun _ _ h => itr_z h
  | succ n ih => exact fun _ _ h => w_m_copies_L208_s C hr ih hfol h
set_option maxHeartbeats 4000000 in
set_option maxRecDepth 20000 in
theorem c_m_copies (l : Launch) {x1 : Int} {x2 : Int} {M : Mem} {M0 : Mem} (h : m_copies x1 x2 M = some M0) : Ct l yX12_copies cX12_copies 6 none 1 12 vwCl mSh mN mRf mExt (fun b => [vR b 0, vI x1, vI x2]) M (fun b => none) M0 := by
  refine Ct_of mExtOK (by decide) (fun b => Nat.le_of_ble_eq_true rfl) ?_
  intro p e s m args below meth c D E b C hr
  unfold m_copies at h
  refine (show mWX p l e 1 12 s m args below meth c 6 D E b none M0 M 0 [(0, vR b 0), (1, vI x1), (2, vI x2)] [] from ?_)
  refine r_aload_n (pc := 0) C 0 rfl rfl dX12_copies_0 ?_
  refine r_getR (pc := 1) C fl_RX12_147 m_s0 (by decide) m_k44 m_r44 dX12_copies_1 ?_
  refine r_iload_n (pc := 4) C 1 rfl rfl dX12_copies_4 ?_
  refine r_aload_n (pc := 5) C 0 rfl rfl dX12_copies_5 ?_
  refine r_getR (pc := 6) C fl_RX12_147 m_s0 (by decide) m_k44 m_r44 dX12_copies_6 ?_
  refine r_iload_n (pc := 9) C 2 rfl rfl dX12_copies_9 ?_
  obtain ⟨hi10, h⟩ := chk_inv h
  refine r_iald (pc := 10) C m_s25 (by decide) (by decide) hi10 rfl dX12_copies_10 ?_
  obtain ⟨hi11, h⟩ := chk_inv h
  obtain ⟨M_11, hM_11, h⟩ := lt_inv h
  refine r_iast (pc := 11) C m_s25 (by decide) (by decide) hi11 rfl hM_11 dX12_copies_11 ?_
  refine r_aload_n (pc := 12) C 0 rfl rfl dX12_copies_12 ?_
  refine r_getR (pc := 13) C fl_RX12_156 m_s0 (by decide) m_k47 m_r47 dX12_copies_13 ?_
  refine r_iload_n (pc := 16) C 1 rfl rfl dX12_copies_16 ?_
  refine r_aload_n (pc := 17) C 0 rfl rfl dX12_copies_17 ?_
  refine r_getR (pc := 18) C fl_RX12_156 m_s0 (by decide) m_k47 m_r47 dX12_copies_18 ?_
  refine r_iload_n (pc := 21) C 2 rfl rfl dX12_copies_21 ?_
  obtain ⟨hi22, h⟩ := chk_inv h
  refine r_iald (pc := 22) C m_s28 (by decide) (by decide) hi22 rfl dX12_copies_22 ?_
  obtain ⟨hi23, h⟩ := chk_inv h
  obtain ⟨M_23, hM_23, h⟩ := lt_inv h
  refine r_iast (pc := 23) C m_s28 (by decide) (by decide) hi23 rfl hM_23 dX12_copies_23 ?_
  refine r_aload_n (pc := 24) C 0 rfl rfl dX12_copies_24 ?_
  refine r_getR (pc := 25) C fl_RX12_174 m_s0 (by decide) m_k53 m_r53 dX12_copies_25 ?_
  refine r_iload_n (pc := 28) C 1 rfl rfl dX12_copies_28 ?_
  refine r_aload_n (pc := 29) C 0 rfl rfl dX12_copies_29 ?_
  refine r_getR (pc := 30) C fl_RX12_174 m_s0 (by decide) m_k53 m_r53 dX12_copies_30 ?_
  refine r_iload_n (pc := 33) C 2 rfl rfl dX12_copies_33 ?_
  obtain ⟨hi34, h⟩ := chk_inv h
  refine r_iald (pc := 34) C m_s34 (by decide) (by decide) hi34 rfl dX12_copies_34 ?_
  obtain ⟨hi35, h⟩ := chk_inv h
  obtain ⟨M_35, hM_35, h⟩ := lt_inv h
  refine r_iast (pc := 35) C m_s34 (by decide) (by decide) hi35 rfl hM_35 dX12_copies_35 ?_
  refine r_iconst (pc := 36) C dX12_copies_36 ?_
  refine r_istore_n (pc := 37) (lv' := [(3, vI 0), (0, vR b 0), (1, vI x1), (2, vI x2)]) C rfl dX12_copies_37 (by decide) rfl ?_
  refine r_sub (lv' := [(0, vR b 0), (1, vI x1), (2, vI x2), (3, vI 0)]) [1, 2, 3, 0] rfl ?_
  obtain ⟨q1, hl1, h⟩ := bnd_inv h
  refine w_m_copies_L38 C hr (fun v3_1 M_1 hq => ?_) FUEL _ _ hl1
  have hq := hq.symm
  subst hq
  refine r_iconst (pc := 94) C dX12_copies_94 ?_
  refine r_istore_n (pc := 95) (lv' := [(3, vI 0), (0, vR b 0), (1, vI x1), (2, vI x2)]) C rfl dX12_copies_95 (by decide) rfl ?_
  refine r_sub (lv' := [(0, vR b 0), (1, vI x1), (2, vI x2), (3, vI 0)]) [1, 2, 3, 0] rfl ?_
  obtain ⟨q2, hl2, h⟩ := bnd_inv h
  refine w_m_copies_L96 C hr (fun v3_2 M_2 hq => ?_) FUEL _ _ hl2
  have hq := hq.symm
  subst hq
  refine r_aload_n (pc := 194) C 0 rfl rfl dX12_copies_194 ?_
  refine r_getR (pc := 195) C fl_RX12_177 m_s0 (by decide) m_k54 m_r54 dX12_copies_195 ?_
  refine r_iload_n (pc := 198) C 1 rfl rfl dX12_copies_198 ?_
  refine r_aload_n (pc := 199) C 0 rfl rfl dX12_copies_199 ?_
  refine r_getR (pc := 200) C fl_RX12_177 m_s0 (by decide) m_k54 m_r54 dX12_copies_200 ?_
  refine r_iload_n (pc := 203) C 2 rfl rfl dX12_copies_203 ?_
  obtain ⟨hi204, h⟩ := chk_inv h
  refine r_iald (pc := 204) C m_s35 (by decide) (by decide) hi204 rfl dX12_copies_204 ?_
  obtain ⟨hi205, h⟩ := chk_inv h
  obtain ⟨M_205, hM_205, h⟩ := lt_inv h
  refine r_iast (pc := 205) C m_s35 (by decide) (by decide) hi205 rfl hM_205 dX12_copies_205 ?_
  refine r_iconst (pc := 206) C dX12_copies_206 ?_
  refine r_istore_n (pc := 207) (lv' := [(3, vI 0), (0, vR b 0), (1, vI x1), (2, vI x2)]) C rfl dX12_copies_207 (by decide) rfl ?_
  refine r_sub (lv' := [(0, vR b 0), (1, vI x1), (2, vI x2), (3, vI 0)]) [1, 2, 3, 0] rfl ?_
  obtain ⟨q3, hl3, h⟩ := bnd_inv h
  refine w_m_copies_L208 C hr (fun v3_3 M_3 hq => ?_) FUEL _ _ hl3
  have hq := hq.symm
  subst hq
  have e := Option.some.inj h
  exact r_vret (pc := 248) C hr rfl e.symm dX12_copies_248
set_option maxHeartbeats 4000000 in
set_option maxRecDepth 20000 in
theorem c_m_slot (l : Launch) {x1 : Int} {M : Mem} {r0 : Int} (h : m_slot x1 M = some r0) : Ct l yX12_slot cX12_slot 2 (some .int) 1 12 vwCl mSh mN mRf mExt (fun b => [vR b 0, vI x1]) M (fun b => (some (vI r0))) M := by
  refine Ct_of mExtOK (by decide) (fun b => Nat.le_of_ble_eq_true rfl) ?_
  intro p e s m args below meth c D E b C hr
  unfold m_slot at h
  refine (show mWX p l e 1 12 s m args below meth c 2 D E b (some (vI r0)) M M 0 [(0, vR b 0), (1, vI x1)] [] from ?_)
  refine r_iconst (pc := 0) C dX12_slot_0 ?_
  refine r_aload_n (pc := 1) C 0 rfl rfl dX12_slot_1 ?_
  refine r_getI (pc := 2) C fl_RX12_183 m_s0 (by decide) m_k56 dX12_slot_2 ?_
  refine r_iload_n (pc := 5) C 1 rfl rfl dX12_slot_5 ?_
  refine r_iadd (pc := 6) C dX12_slot_6 ?_
  refine r_bipush (pc := 7) (j := 20) C (by decide +kernel) dX12_slot_7 ?_
  obtain ⟨hz9, h⟩ := chk_inv h
  refine r_irem (pc := 9) C hz9 dX12_slot_9 ?_
  refine r_iadd (pc := 10) C dX12_slot_10 ?_
  have e := Option.some.inj h
  exact r_iret (pc := 11) C hr (congrArg (fun z => some (vI z)) e.symm) rfl dX12_slot_11
set_option maxHeartbeats 4000000 in
set_option maxRecDepth 20000 in
theorem w_m_keeps_B32 (C : mCX p s m args meth c cX12_keeps 1 RX12 D E b) (hr : meth.sig.returnType = none) {M0 : Mem} {M : Mem} (h : m_keeps_B32 M = some M0) :
    mWX p l e 2 37 s m args below meth c 1 D E b none M0 M 32 [(0, vR b 0)] [] := by
  unfold m_keeps_B32 at h
  refine r_aload_n (pc := 32) C 0 rfl rfl dX12_keeps_32 ?_
  refine r_aload_n (pc := 33) C 0 rfl rfl dX12_keeps_33 ?_
  refine r_aload_n (pc := 34) C 0 rfl rfl dX12_keeps_34 ?_
  refine r_getI (pc := 35) C fl_RX12_186 m_s0 (by decide) m_k57 dX12_keeps_35 ?_
  obtain ⟨r1, hq1, h⟩ := bnd_inv h
  refine r_callV (pc := 38) (rest := [vR b 0]) (st1 := [vI r1, vR b 0]) C (mExtOK b) [vI (M 0 57)] (c_m_slot l hq1) cl_RX12_393 m_s0 (by decide) rfl rfl rfl rfl ⟨Nat.le_of_ble_eq_true rfl, Nat.le_of_ble_eq_true rfl⟩ (Nat.le_of_ble_eq_true rfl) rfl rfl dX12_keeps_38 ?_
  refine r_iconst (pc := 41) C dX12_keeps_41 ?_
  obtain ⟨M2, hq2, h⟩ := bnd_inv h
  refine r_callV (pc := 42) (rest := []) (st1 := []) C (mExtOK b) [vI r1, vI 0] (c_m_copies l hq2) cl_RX12_396 m_s0 (by decide) rfl rfl rfl rfl ⟨Nat.le_of_ble_eq_true rfl, Nat.le_of_ble_eq_true rfl⟩ (Nat.le_of_ble_eq_true rfl) rfl rfl dX12_keeps_42 ?_
  refine r_aload_n (pc := 45) C 0 rfl rfl dX12_keeps_45 ?_
  refine r_dup (pc := 46) C rfl dX12_keeps_46 ?_
  refine r_getI (pc := 47) C fl_RX12_186 m_s0 (by decide) m_k57 dX12_keeps_47 ?_
  refine r_iconst (pc := 50) C dX12_keeps_50 ?_
  refine r_iadd (pc := 51) C dX12_keeps_51 ?_
  obtain ⟨M_52, hM_52, h⟩ := lt_inv h
  refine r_putI (pc := 52) C fl_RX12_186 mw_ft m_w57 m_s0 (by decide) m_k57 hM_52 dX12_keeps_52 ?_
  have e := Option.some.inj h
  exact r_vret (pc := 55) C hr rfl e.symm dX12_keeps_55
set_option maxHeartbeats 4000000 in
set_option maxRecDepth 20000 in
theorem c_m_keeps (l : Launch) {M : Mem} {M0 : Mem} (h : m_keeps M = some M0) : Ct l yX12_keeps cX12_keeps 1 none 2 37 vwCl mSh mN mRf mExt (fun b => [vR b 0]) M (fun b => none) M0 := by
  refine Ct_of mExtOK (by decide) (fun b => Nat.le_of_ble_eq_true rfl) ?_
  intro p e s m args below meth c D E b C hr
  unfold m_keeps at h
  refine (show mWX p l e 2 37 s m args below meth c 1 D E b none M0 M 0 [(0, vR b 0)] [] from ?_)
  refine r_aload_n (pc := 0) C 0 rfl rfl dX12_keeps_0 ?_
  refine r_getI (pc := 1) C fl_RX12_186 m_s0 (by decide) m_k57 dX12_keeps_1 ?_
  refine r_bipush (pc := 4) (j := 20) C (by decide +kernel) dX12_keeps_4 ?_
  refine r_icmp_ne (pc := 6) (tgt := 32) C h dX12_keeps_6 (by decide) (fun hc6 h => ?_) (fun hc6 h => ?_)
  · refine r_sub (lv' := [(0, vR b 0)]) [0] rfl ?_
    exact w_m_keeps_B32 C hr h
  · refine r_aload_n (pc := 9) C 0 rfl rfl dX12_keeps_9 ?_
    refine r_aload_n (pc := 10) C 0 rfl rfl dX12_keeps_10 ?_
    refine r_getI (pc := 11) C fl_RX12_183 m_s0 (by decide) m_k56 dX12_keeps_11 ?_
    refine r_iconst (pc := 14) C dX12_keeps_14 ?_
    refine r_iadd (pc := 15) C dX12_keeps_15 ?_
    refine r_bipush (pc := 16) (j := 20) C (by decide +kernel) dX12_keeps_16 ?_
    obtain ⟨hz18, h⟩ := chk_inv h
    refine r_irem (pc := 18) C hz18 dX12_keeps_18 ?_
    obtain ⟨M_19, hM_19, h⟩ := lt_inv h
    refine r_putI (pc := 19) C fl_RX12_183 mw_ft m_w56 m_s0 (by decide) m_k56 hM_19 dX12_keeps_19 ?_
    refine r_aload_n (pc := 22) C 0 rfl rfl dX12_keeps_22 ?_
    refine r_dup (pc := 23) C rfl dX12_keeps_23 ?_
    refine r_getI (pc := 24) C fl_RX12_186 m_s0 (by decide) m_k57 dX12_keeps_24 ?_
    refine r_iconst (pc := 27) C dX12_keeps_27 ?_
    refine r_isub (pc := 28) C dX12_keeps_28 ?_
    obtain ⟨M_29, hM_29, h⟩ := lt_inv h
    refine r_putI (pc := 29) C fl_RX12_186 mw_ft m_w57 m_s0 (by decide) m_k57 hM_29 dX12_keeps_29 ?_
    refine r_sub (lv' := [(0, vR b 0)]) [0] rfl ?_
    exact w_m_keeps_B32 C hr h
set_option maxHeartbeats 4000000 in
set_option maxRecDepth 20000 in
theorem c_m_undo (l : Launch) {M : Mem} {r0 : Bool} {M0 : Mem} (h : m_undo M = some (r0, M0)) : Ct l yX12_undo cX12_undo 1 (some .boolean) 2 37 vwCl mSh mN mRf mExt (fun b => [vR b 0]) M (fun b => (some (vB r0))) M0 := by
  refine Ct_of mExtOK (by decide) (fun b => Nat.le_of_ble_eq_true rfl) ?_
  intro p e s m args below meth c D E b C hr
  unfold m_undo at h
  refine (show mWX p l e 2 37 s m args below meth c 1 D E b (some (vB r0)) M0 M 0 [(0, vR b 0)] [] from ?_)
  refine r_aload_n (pc := 0) C 0 rfl rfl dX12_undo_0 ?_
  refine r_getI (pc := 1) C fl_RX12_186 m_s0 (by decide) m_k57 dX12_undo_1 ?_
  refine r_if_ne (pc := 4) (tgt := 21) C h dX12_undo_4 (by decide) (fun hc4 h => ?_) (fun hc4 h => ?_)
  · refine r_aload_n (pc := 21) C 0 rfl rfl dX12_undo_21 ?_
    refine r_dup (pc := 22) C rfl dX12_undo_22 ?_
    refine r_getI (pc := 23) C fl_RX12_186 m_s0 (by decide) m_k57 dX12_undo_23 ?_
    refine r_iconst (pc := 26) C dX12_undo_26 ?_
    refine r_isub (pc := 27) C dX12_undo_27 ?_
    obtain ⟨M_28, hM_28, h⟩ := lt_inv h
    refine r_putI (pc := 28) C fl_RX12_186 mw_ft m_w57 m_s0 (by decide) m_k57 hM_28 dX12_undo_28 ?_
    refine r_aload_n (pc := 31) C 0 rfl rfl dX12_undo_31 ?_
    refine r_iconst (pc := 32) C dX12_undo_32 ?_
    refine r_aload_n (pc := 33) C 0 rfl rfl dX12_undo_33 ?_
    refine r_aload_n (pc := 34) C 0 rfl rfl dX12_undo_34 ?_
    refine r_getI (pc := 35) C fl_RX12_186 m_s0 (by decide) m_k57 dX12_undo_35 ?_
    obtain ⟨r1, hq1, h⟩ := bnd_inv h
    refine r_callV (pc := 38) (rest := [vI 0, vR b 0]) (st1 := [vI r1, vI 0, vR b 0]) C (mExtOK b) [vI (M_28 0 57)] (c_m_slot l hq1) cl_RX12_393 m_s0 (by decide) rfl rfl rfl rfl ⟨Nat.le_of_ble_eq_true rfl, Nat.le_of_ble_eq_true rfl⟩ (Nat.le_of_ble_eq_true rfl) rfl rfl dX12_undo_38 ?_
    obtain ⟨M2, hq2, h⟩ := bnd_inv h
    refine r_callV (pc := 41) (rest := []) (st1 := []) C (mExtOK b) [vI 0, vI r1] (c_m_copies l hq2) cl_RX12_396 m_s0 (by decide) rfl rfl rfl rfl ⟨Nat.le_of_ble_eq_true rfl, Nat.le_of_ble_eq_true rfl⟩ (Nat.le_of_ble_eq_true rfl) rfl rfl dX12_undo_41 ?_
    refine r_iconst (pc := 44) C dX12_undo_44 ?_
    have e := Option.some.inj h
    exact r_zret (pc := 45) C hr (Or.inr rfl) (congrArg (fun z => some (vB z)) (Prod.mk.inj e).1.symm) (Prod.mk.inj e).2.symm dX12_undo_45
  · refine r_aload_n (pc := 7) C 0 rfl rfl dX12_undo_7 ?_
    refine r_iconst (pc := 8) C dX12_undo_8 ?_
    obtain ⟨r3, M3, hq3, h⟩ := bnd2_inv h
    refine r_callV (pc := 9) (rest := []) (st1 := [vI r3]) C (mExtOK b) [vI 4] (c_m_refuses l hq3) cl_RX12_225 m_s0 (by decide) rfl rfl rfl rfl ⟨Nat.le_of_ble_eq_true rfl, Nat.le_of_ble_eq_true rfl⟩ (Nat.le_of_ble_eq_true rfl) rfl rfl dX12_undo_9 ?_
    refine r_if_lt (pc := 12) (tgt := 19) C h dX12_undo_12 (by decide) (fun hc12 h => ?_) (fun hc12 h => ?_)
    · refine r_iconst (pc := 19) C dX12_undo_19 ?_
      have e := Option.some.inj h
      exact r_zret (pc := 20) C hr (Or.inl rfl) (congrArg (fun z => some (vB z)) (Prod.mk.inj e).1.symm) (Prod.mk.inj e).2.symm dX12_undo_20
    · refine r_iconst (pc := 15) C dX12_undo_15 ?_
      refine r_goto (pc := 16) (tgt := 20) C dX12_undo_16 (by decide) ?_
      have e := Option.some.inj h
      exact r_zret (pc := 20) C hr (Or.inr rfl) (congrArg (fun z => some (vB z)) (Prod.mk.inj e).1.symm) (Prod.mk.inj e).2.symm dX12_undo_20
set_option maxHeartbeats 4000000 in
set_option maxRecDepth 20000 in
theorem c_m_within (l : Launch) {x0 : Int} {M : Mem} {r0 : Int} (h : m_within x0 = some r0) : Ct l yX12_within cX12_within 2 (some .long) 1 12 vwCl mSh mN mRf mExt (fun b => [vL x0]) M (fun b => (some (vL r0))) M := by
  refine Ct_of mExtOK (by decide) (fun b => Nat.le_of_ble_eq_true rfl) ?_
  intro p e s m args below meth c D E b C hr
  unfold m_within at h
  refine (show mWX p l e 1 12 s m args below meth c 2 D E b (some (vL r0)) M M 0 [(0, vL x0)] [] from ?_)
  refine r_lload_n (pc := 0) C 0 rfl rfl dX12_within_0 ?_
  refine r_ldc2 (pc := 1) (j := 1000000) C (by decide +kernel) gk_RX12_399 dX12_within_1 ?_
  refine r_lcmp (pc := 4) C dX12_within_4 ?_
  refine r_if_le (pc := 5) (tgt := 14) C h dX12_within_5 (by decide) (fun hc5 h => ?_) (fun hc5 h => ?_)
  · refine r_lload_n (pc := 14) C 0 rfl rfl dX12_within_14 ?_
    refine r_ldc2 (pc := 15) (j := (-1000000)) C (by decide +kernel) gk_RX12_401 dX12_within_15 ?_
    refine r_lcmp (pc := 18) C dX12_within_18 ?_
    refine r_if_ge (pc := 19) (tgt := 28) C h dX12_within_19 (by decide) (fun hc19 h => ?_) (fun hc19 h => ?_)
    · refine r_lload_n (pc := 28) C 0 rfl rfl dX12_within_28 ?_
      have e := Option.some.inj h
      exact r_lret (pc := 29) C hr (congrArg (fun z => some (vL z)) e.symm) rfl dX12_within_29
    · refine r_ldc2 (pc := 22) (j := (-1000000)) C (by decide +kernel) gk_RX12_401 dX12_within_22 ?_
      refine r_goto (pc := 25) (tgt := 29) C dX12_within_25 (by decide) ?_
      have e := Option.some.inj h
      exact r_lret (pc := 29) C hr (congrArg (fun z => some (vL z)) e.symm) rfl dX12_within_29
  · refine r_ldc2 (pc := 8) (j := 1000000) C (by decide +kernel) gk_RX12_399 dX12_within_8 ?_
    refine r_goto (pc := 11) (tgt := 29) C dX12_within_11 (by decide) ?_
    have e := Option.some.inj h
    exact r_lret (pc := 29) C hr (congrArg (fun z => some (vL z)) e.symm) rfl dX12_within_29
set_option maxHeartbeats 4000000 in
set_option maxRecDepth 20000 in
theorem w_m_floor_B43 (C : mCX p s m args meth c cX12_floor 6 RX12 D E b) (hr : meth.sig.returnType = (some .long)) {r0 : Int} {M : Mem} {v4 : Int} {s0 : Int} {s1 : Int} (h : m_floor_B43 v4 s0 s1 M = some r0) :
    mWX p l e 1 12 s m args below meth c 6 D E b (some (vL r0)) M M 43 [(4, vL v4)] [vI s1, vI s0] := by
  unfold m_floor_B43 at h
  refine r_icmp_eq (pc := 43) (tgt := 53) C h dX12_floor_43 (by decide) (fun hc43 h => ?_) (fun hc43 h => ?_)
  · refine r_lload (pc := 53) C 0 rfl dX12_floor_53 ?_
    have e := Option.some.inj h
    exact r_lret (pc := 55) C hr (congrArg (fun z => some (vL z)) e.symm) rfl dX12_floor_55
  · refine r_lload (pc := 46) C 0 rfl dX12_floor_46 ?_
    refine r_lconst (pc := 48) (j := 1) C rfl dX12_floor_48 ?_
    refine r_lsub (pc := 49) C dX12_floor_49 ?_
    refine r_goto (pc := 50) (tgt := 55) C dX12_floor_50 (by decide) ?_
    have e := Option.some.inj h
    exact r_lret (pc := 55) C hr (congrArg (fun z => some (vL z)) e.symm) rfl dX12_floor_55
set_option maxHeartbeats 4000000 in
set_option maxRecDepth 20000 in
theorem w_m_floor_B32 (C : mCX p s m args meth c cX12_floor 6 RX12 D E b) (hr : meth.sig.returnType = (some .long)) {r0 : Int} {M : Mem} {v2 : Int} {v4 : Int} {s0 : Int} (h : m_floor_B32 v2 v4 s0 M = some r0) :
    mWX p l e 1 12 s m args below meth c 6 D E b (some (vL r0)) M M 32 [(2, vL v2), (4, vL v4)] [vI s0] := by
  unfold m_floor_B32 at h
  refine r_lload_n (pc := 32) C 0 rfl rfl dX12_floor_32 ?_
  refine r_lconst (pc := 33) (j := 0) C rfl dX12_floor_33 ?_
  refine r_lcmp (pc := 34) C dX12_floor_34 ?_
  refine r_if_ge (pc := 35) (tgt := 42) C h dX12_floor_35 (by decide) (fun hc35 h => ?_) (fun hc35 h => ?_)
  · refine r_iconst (pc := 42) C dX12_floor_42 ?_
    refine r_sub (lv' := [(4, vL v4)]) [1] rfl ?_
    exact w_m_floor_B43 C hr h
  · refine r_iconst (pc := 38) C dX12_floor_38 ?_
    refine r_goto (pc := 39) (tgt := 43) C dX12_floor_39 (by decide) ?_
    refine r_sub (lv' := [(4, vL v4)]) [1] rfl ?_
    exact w_m_floor_B43 C hr h
set_option maxHeartbeats 4000000 in
set_option maxRecDepth 20000 in
theorem c_m_floor (l : Launch) {x0 : Int} {x2 : Int} {M : Mem} {r0 : Int} (h : m_floor x0 x2 M = some r0) : Ct l yX12_floor cX12_floor 6 (some .long) 1 12 vwCl mSh mN mRf mExt (fun b => [vL x0, vL x2]) M (fun b => (some (vL r0))) M := by
  refine Ct_of mExtOK (by decide) (fun b => Nat.le_of_ble_eq_true rfl) ?_
  intro p e s m args below meth c D E b C hr
  unfold m_floor at h
  refine (show mWX p l e 1 12 s m args below meth c 6 D E b (some (vL r0)) M M 0 [(0, vL x0), (2, vL x2)] [] from ?_)
  refine r_lload_n (pc := 0) C 1 rfl rfl dX12_floor_0 ?_
  refine r_lconst (pc := 1) (j := 0) C rfl dX12_floor_1 ?_
  refine r_lcmp (pc := 2) C dX12_floor_2 ?_
  refine r_if_ne (pc := 3) (tgt := 8) C h dX12_floor_3 (by decide) (fun hc3 h => ?_) (fun hc3 h => ?_)
  · refine r_lload_n (pc := 8) C 0 rfl rfl dX12_floor_8 ?_
    refine r_lload_n (pc := 9) C 1 rfl rfl dX12_floor_9 ?_
    obtain ⟨hz10, h⟩ := chk_inv h
    refine r_ldiv (pc := 10) C hz10 dX12_floor_10 ?_
    obtain ⟨v4_11, hv4_11, h⟩ := lt_inv h
    refine r_topL hv4_11 ?_
    refine r_lstore (pc := 11) (lv' := [(4, vL v4_11), (0, vL x0), (2, vL x2)]) C dX12_floor_11 (by decide) rfl ?_
    refine r_lload_n (pc := 13) C 1 rfl rfl dX12_floor_13 ?_
    refine r_lload_n (pc := 14) C 2 rfl rfl dX12_floor_14 ?_
    obtain ⟨hz15, h⟩ := chk_inv h
    refine r_lrem (pc := 15) C hz15 dX12_floor_15 ?_
    refine r_lconst (pc := 16) (j := 0) C rfl dX12_floor_16 ?_
    refine r_lcmp (pc := 17) C dX12_floor_17 ?_
    refine r_if_eq (pc := 18) (tgt := 53) C h dX12_floor_18 (by decide) (fun hc18 h => ?_) (fun hc18 h => ?_)
    · refine r_lload (pc := 53) C 0 rfl dX12_floor_53 ?_
      have e := Option.some.inj h
      exact r_lret (pc := 55) C hr (congrArg (fun z => some (vL z)) e.symm) rfl dX12_floor_55
    · refine r_lload_n (pc := 21) C 1 rfl rfl dX12_floor_21 ?_
      refine r_lconst (pc := 22) (j := 0) C rfl dX12_floor_22 ?_
      refine r_lcmp (pc := 23) C dX12_floor_23 ?_
      refine r_if_ge (pc := 24) (tgt := 31) C h dX12_floor_24 (by decide) (fun hc24 h => ?_) (fun hc24 h => ?_)
      · refine r_iconst (pc := 31) C dX12_floor_31 ?_
        refine r_sub (lv' := [(2, vL x2), (4, vL v4_11)]) [2, 0] rfl ?_
        exact w_m_floor_B32 C hr h
      · refine r_iconst (pc := 27) C dX12_floor_27 ?_
        refine r_goto (pc := 28) (tgt := 32) C dX12_floor_28 (by decide) ?_
        refine r_sub (lv' := [(2, vL x2), (4, vL v4_11)]) [2, 0] rfl ?_
        exact w_m_floor_B32 C hr h
  · refine r_lconst (pc := 6) (j := 0) C rfl dX12_floor_6 ?_
    have e := Option.some.inj h
    exact r_lret (pc := 7) C hr (congrArg (fun z => some (vL z)) e.symm) rfl dX12_floor_7
set_option maxHeartbeats 4000000 in
set_option maxRecDepth 20000 in
theorem c_m_two (l : Launch) {x0 : Int} {x1 : Int} {x3 : Int} {M : Mem} {r0 : Int} (h : m_two x0 x1 x3 M = some r0) : Ct l yX12_two cX12_two 5 (some .long) 2 37 vwCl mSh mN mRf mExt (fun b => [vI x0, vL x1, vL x3]) M (fun b => (some (vL r0))) M := by
  refine Ct_of mExtOK (by decide) (fun b => Nat.le_of_ble_eq_true rfl) ?_
  intro p e s m args below meth c D E b C hr
  unfold m_two at h
  refine (show mWX p l e 2 37 s m args below meth c 5 D E b (some (vL r0)) M M 0 [(0, vI x0), (1, vL x1), (3, vL x3)] [] from ?_)
  refine r_iload_n (pc := 0) C 0 rfl rfl dX12_two_0 ?_
  refine ite_split h (fun hc1_31 h => ?_) (fun hn1_31 h => ?_)
  · refine r_tabI (pc := 1) (tgt := 60) C hc1_31 (by decide) (by decide) rfl dX12_two_1 (by decide) ?_
    refine r_lload_n (pc := 60) C 1 rfl rfl dX12_two_60 ?_
    refine r_lload_n (pc := 61) C 2 rfl rfl dX12_two_61 ?_
    refine r_ladd (pc := 62) C dX12_two_62 ?_
    obtain ⟨r1, hq1, h⟩ := bnd_inv h
    refine r_callS (pc := 63) (rest := []) (st1 := [vL r1]) C (mExtOK b) [vL (x1 + x3)] (c_m_within l hq1) cl_RX12_403 rfl rfl ⟨Nat.le_of_ble_eq_true rfl, Nat.le_of_ble_eq_true rfl⟩ (Nat.le_of_ble_eq_true rfl) rfl rfl dX12_two_63 ?_
    have e := Option.some.inj h
    exact r_lret (pc := 66) C hr (congrArg (fun z => some (vL z)) e.symm) rfl dX12_two_66
  refine ite_split h (fun hc1_32 h => ?_) (fun hn1_32 h => ?_)
  · refine r_tabI (pc := 1) (tgt := 67) C hc1_32 (by decide) (by decide) rfl dX12_two_1 (by decide) ?_
    refine r_lload_n (pc := 67) C 1 rfl rfl dX12_two_67 ?_
    refine r_lload_n (pc := 68) C 2 rfl rfl dX12_two_68 ?_
    refine r_lsub (pc := 69) C dX12_two_69 ?_
    obtain ⟨r2, hq2, h⟩ := bnd_inv h
    refine r_callS (pc := 70) (rest := []) (st1 := [vL r2]) C (mExtOK b) [vL (x1 - x3)] (c_m_within l hq2) cl_RX12_403 rfl rfl ⟨Nat.le_of_ble_eq_true rfl, Nat.le_of_ble_eq_true rfl⟩ (Nat.le_of_ble_eq_true rfl) rfl rfl dX12_two_70 ?_
    have e := Option.some.inj h
    exact r_lret (pc := 73) C hr (congrArg (fun z => some (vL z)) e.symm) rfl dX12_two_73
  refine ite_split h (fun hc1_33 h => ?_) (fun hn1_33 h => ?_)
  · refine r_tabI (pc := 1) (tgt := 74) C hc1_33 (by decide) (by decide) rfl dX12_two_1 (by decide) ?_
    refine r_lload_n (pc := 74) C 1 rfl rfl dX12_two_74 ?_
    refine r_lload_n (pc := 75) C 2 rfl rfl dX12_two_75 ?_
    refine r_lmul (pc := 76) C dX12_two_76 ?_
    obtain ⟨r3, hq3, h⟩ := bnd_inv h
    refine r_callS (pc := 77) (rest := []) (st1 := [vL r3]) C (mExtOK b) [vL (x1 * x3)] (c_m_within l hq3) cl_RX12_403 rfl rfl ⟨Nat.le_of_ble_eq_true rfl, Nat.le_of_ble_eq_true rfl⟩ (Nat.le_of_ble_eq_true rfl) rfl rfl dX12_two_77 ?_
    have e := Option.some.inj h
    exact r_lret (pc := 80) C hr (congrArg (fun z => some (vL z)) e.symm) rfl dX12_two_80
  refine ite_split h (fun hc1_34 h => ?_) (fun hn1_34 h => ?_)
  · refine r_tabI (pc := 1) (tgt := 81) C hc1_34 (by decide) (by decide) rfl dX12_two_1 (by decide) ?_
    refine r_lload_n (pc := 81) C 1 rfl rfl dX12_two_81 ?_
    refine r_lload_n (pc := 82) C 2 rfl rfl dX12_two_82 ?_
    obtain ⟨r4, hq4, h⟩ := bnd_inv h
    refine r_callS (pc := 83) (rest := []) (st1 := [vL r4]) C (mExtOK b) [vL x1, vL x3] (c_m_floor l hq4) cl_RX12_407 rfl rfl ⟨Nat.le_of_ble_eq_true rfl, Nat.le_of_ble_eq_true rfl⟩ (Nat.le_of_ble_eq_true rfl) rfl rfl dX12_two_83 ?_
    obtain ⟨r5, hq5, h⟩ := bnd_inv h
    refine r_callS (pc := 86) (rest := []) (st1 := [vL r5]) C (mExtOK b) [vL r4] (c_m_within l hq5) cl_RX12_403 rfl rfl ⟨Nat.le_of_ble_eq_true rfl, Nat.le_of_ble_eq_true rfl⟩ (Nat.le_of_ble_eq_true rfl) rfl rfl dX12_two_86 ?_
    have e := Option.some.inj h
    exact r_lret (pc := 89) C hr (congrArg (fun z => some (vL z)) e.symm) rfl dX12_two_89
  refine ite_split h (fun hc1_35 h => ?_) (fun hn1_35 h => ?_)
  · refine r_tabI (pc := 1) (tgt := 90) C hc1_35 (by decide) (by decide) rfl dX12_two_1 (by decide) ?_
    refine r_lload_n (pc := 90) C 2 rfl rfl dX12_two_90 ?_
    refine r_lconst (pc := 91) (j := 0) C rfl dX12_two_91 ?_
    refine r_lcmp (pc := 92) C dX12_two_92 ?_
    refine r_if_ne (pc := 93) (tgt := 100) C h dX12_two_93 (by decide) (fun hc93 h => ?_) (fun hc93 h => ?_)
    · refine r_lload_n (pc := 100) C 1 rfl rfl dX12_two_100 ?_
      refine r_lload_n (pc := 101) C 2 rfl rfl dX12_two_101 ?_
      refine r_lload_n (pc := 102) C 1 rfl rfl dX12_two_102 ?_
      refine r_lload_n (pc := 103) C 2 rfl rfl dX12_two_103 ?_
      obtain ⟨r6, hq6, h⟩ := bnd_inv h
      refine r_callS (pc := 104) (rest := [vL x3, vL x1]) (st1 := [vL r6, vL x3, vL x1]) C (mExtOK b) [vL x1, vL x3] (c_m_floor l hq6) cl_RX12_407 rfl rfl ⟨Nat.le_of_ble_eq_true rfl, Nat.le_of_ble_eq_true rfl⟩ (Nat.le_of_ble_eq_true rfl) rfl rfl dX12_two_104 ?_
      refine r_lmul (pc := 107) C dX12_two_107 ?_
      refine r_lsub (pc := 108) C dX12_two_108 ?_
      obtain ⟨r7, hq7, h⟩ := bnd_inv h
      refine r_callS (pc := 109) (rest := []) (st1 := [vL r7]) C (mExtOK b) [vL (x1 - (x3 * r6))] (c_m_within l hq7) cl_RX12_403 rfl rfl ⟨Nat.le_of_ble_eq_true rfl, Nat.le_of_ble_eq_true rfl⟩ (Nat.le_of_ble_eq_true rfl) rfl rfl dX12_two_109 ?_
      have e := Option.some.inj h
      exact r_lret (pc := 112) C hr (congrArg (fun z => some (vL z)) e.symm) rfl dX12_two_112
    · refine r_lconst (pc := 96) (j := 0) C rfl dX12_two_96 ?_
      refine r_goto (pc := 97) (tgt := 112) C dX12_two_97 (by decide) ?_
      have e := Option.some.inj h
      exact r_lret (pc := 112) C hr (congrArg (fun z => some (vL z)) e.symm) rfl dX12_two_112
  refine ite_split h (fun hc1_36 h => ?_) (fun hn1_36 h => ?_)
  · refine r_tabI (pc := 1) (tgt := 113) C hc1_36 (by decide) (by decide) rfl dX12_two_1 (by decide) ?_
    refine r_lload_n (pc := 113) C 1 rfl rfl dX12_two_113 ?_
    refine r_lload_n (pc := 114) C 2 rfl rfl dX12_two_114 ?_
    refine r_lcmp (pc := 115) C dX12_two_115 ?_
    refine r_if_ge (pc := 116) (tgt := 123) C h dX12_two_116 (by decide) (fun hc116 h => ?_) (fun hc116 h => ?_)
    · refine r_lload_n (pc := 123) C 2 rfl rfl dX12_two_123 ?_
      have e := Option.some.inj h
      exact r_lret (pc := 124) C hr (congrArg (fun z => some (vL z)) e.symm) rfl dX12_two_124
    · refine r_lload_n (pc := 119) C 1 rfl rfl dX12_two_119 ?_
      refine r_goto (pc := 120) (tgt := 124) C dX12_two_120 (by decide) ?_
      have e := Option.some.inj h
      exact r_lret (pc := 124) C hr (congrArg (fun z => some (vL z)) e.symm) rfl dX12_two_124
  refine ite_split h (fun hc1_37 h => ?_) (fun hn1_37 h => ?_)
  · refine r_tabI (pc := 1) (tgt := 125) C hc1_37 (by decide) (by decide) rfl dX12_two_1 (by decide) ?_
    refine r_lload_n (pc := 125) C 1 rfl rfl dX12_two_125 ?_
    refine r_lload_n (pc := 126) C 2 rfl rfl dX12_two_126 ?_
    refine r_lcmp (pc := 127) C dX12_two_127 ?_
    refine r_if_le (pc := 128) (tgt := 135) C h dX12_two_128 (by decide) (fun hc128 h => ?_) (fun hc128 h => ?_)
    · refine r_lload_n (pc := 135) C 2 rfl rfl dX12_two_135 ?_
      have e := Option.some.inj h
      exact r_lret (pc := 136) C hr (congrArg (fun z => some (vL z)) e.symm) rfl dX12_two_136
    · refine r_lload_n (pc := 131) C 1 rfl rfl dX12_two_131 ?_
      refine r_goto (pc := 132) (tgt := 136) C dX12_two_132 (by decide) ?_
      have e := Option.some.inj h
      exact r_lret (pc := 136) C hr (congrArg (fun z => some (vL z)) e.symm) rfl dX12_two_136
  refine ite_split h (fun hc1_38 h => ?_) (fun hn1_38 h => ?_)
  · refine r_tabI (pc := 1) (tgt := 137) C hc1_38 (by decide) (by decide) rfl dX12_two_1 (by decide) ?_
    refine r_lload_n (pc := 137) C 1 rfl rfl dX12_two_137 ?_
    refine r_lload_n (pc := 138) C 2 rfl rfl dX12_two_138 ?_
    refine r_lcmp (pc := 139) C dX12_two_139 ?_
    refine r_if_ge (pc := 140) (tgt := 147) C h dX12_two_140 (by decide) (fun hc140 h => ?_) (fun hc140 h => ?_)
    · refine r_lconst (pc := 147) (j := 0) C rfl dX12_two_147 ?_
      have e := Option.some.inj h
      exact r_lret (pc := 148) C hr (congrArg (fun z => some (vL z)) e.symm) rfl dX12_two_148
    · refine r_lconst (pc := 143) (j := 1) C rfl dX12_two_143 ?_
      refine r_goto (pc := 144) (tgt := 148) C dX12_two_144 (by decide) ?_
      have e := Option.some.inj h
      exact r_lret (pc := 148) C hr (congrArg (fun z => some (vL z)) e.symm) rfl dX12_two_148
  refine ite_split h (fun hc1_39 h => ?_) (fun hn1_39 h => ?_)
  · refine r_tabI (pc := 1) (tgt := 149) C hc1_39 (by decide) (by decide) rfl dX12_two_1 (by decide) ?_
    refine r_lload_n (pc := 149) C 1 rfl rfl dX12_two_149 ?_
    refine r_lload_n (pc := 150) C 2 rfl rfl dX12_two_150 ?_
    refine r_lcmp (pc := 151) C dX12_two_151 ?_
    refine r_if_le (pc := 152) (tgt := 159) C h dX12_two_152 (by decide) (fun hc152 h => ?_) (fun hc152 h => ?_)
    · refine r_lconst (pc := 159) (j := 0) C rfl dX12_two_159 ?_
      have e := Option.some.inj h
      exact r_lret (pc := 160) C hr (congrArg (fun z => some (vL z)) e.symm) rfl dX12_two_160
    · refine r_lconst (pc := 155) (j := 1) C rfl dX12_two_155 ?_
      refine r_goto (pc := 156) (tgt := 160) C dX12_two_156 (by decide) ?_
      have e := Option.some.inj h
      exact r_lret (pc := 160) C hr (congrArg (fun z => some (vL z)) e.symm) rfl dX12_two_160
  refine ite_split h (fun hc1_40 h => ?_) (fun hn1_40 h => ?_)
  · refine r_tabI (pc := 1) (tgt := 161) C hc1_40 (by decide) (by decide) rfl dX12_two_1 (by decide) ?_
    refine r_lload_n (pc := 161) C 1 rfl rfl dX12_two_161 ?_
    refine r_lload_n (pc := 162) C 2 rfl rfl dX12_two_162 ?_
    refine r_lcmp (pc := 163) C dX12_two_163 ?_
    refine r_if_ne (pc := 164) (tgt := 171) C h dX12_two_164 (by decide) (fun hc164 h => ?_) (fun hc164 h => ?_)
    · refine r_lconst (pc := 171) (j := 0) C rfl dX12_two_171 ?_
      have e := Option.some.inj h
      exact r_lret (pc := 172) C hr (congrArg (fun z => some (vL z)) e.symm) rfl dX12_two_172
    · refine r_lconst (pc := 167) (j := 1) C rfl dX12_two_167 ?_
      refine r_goto (pc := 168) (tgt := 172) C dX12_two_168 (by decide) ?_
      have e := Option.some.inj h
      exact r_lret (pc := 172) C hr (congrArg (fun z => some (vL z)) e.symm) rfl dX12_two_172
  refine ite_split h (fun hc1_41 h => ?_) (fun hn1_41 h => ?_)
  · refine r_tabI (pc := 1) (tgt := 173) C hc1_41 (by decide) (by decide) rfl dX12_two_1 (by decide) ?_
    refine r_lload_n (pc := 173) C 1 rfl rfl dX12_two_173 ?_
    refine r_lload_n (pc := 174) C 2 rfl rfl dX12_two_174 ?_
    refine r_land (pc := 175) C dX12_two_175 ?_
    have e := Option.some.inj h
    exact r_lret (pc := 176) C hr (congrArg (fun z => some (vL z)) e.symm) rfl dX12_two_176
  refine r_tabO (pc := 1) (tgt := 177) C (by have hx := w32_rng x0; omega) dX12_two_1 (by decide) ?_
  refine r_lload_n (pc := 177) C 1 rfl rfl dX12_two_177 ?_
  refine r_lload_n (pc := 178) C 2 rfl rfl dX12_two_178 ?_
  refine r_lor (pc := 179) C dX12_two_179 ?_
  have e := Option.some.inj h
  exact r_lret (pc := 180) C hr (congrArg (fun z => some (vL z)) e.symm) rfl dX12_two_180
set_option maxHeartbeats 4000000 in
set_option maxRecDepth 20000 in
theorem w_m_reckons_L25_s (C : mCX p s m args meth c cX12_reckons 5 RX12 D E b) (hr : meth.sig.returnType = (some .long)) {r0 : Int} {M0 : Mem} {v1 : Int} {v2 : Int} {v3 : Int} {M : Mem} {q : Int × Int × Mem} {rec : Int → Int → Mem → Option (Int × Int × Mem)} (hrec : ∀ (v2 : Int) (v3 : Int) (M : Mem), rec v2 v3 M = some q → mWX p l e 3 61 s m args below meth c 5 D E b (some (vL r0)) M0 M 25 [(0, vR b 0), (1, vI v1), (2, vI v2), (3, vI v3)] []) (hfol : ∀ (v2 : Int) (v3 : Int) (M : Mem), q = (v2, v3, M) → mWX p l e 3 61 s m args below meth c 5 D E b (some (vL r0)) M0 M 227 [(0, vR b 0)] []) (h : m_reckons_L25 v1 rec v2 v3 M = some q) :
    mWX p l e 3 61 s m args below meth c 5 D E b (some (vL r0)) M0 M 25 [(0, vR b 0), (1, vI v1), (2, vI v2), (3, vI v3)] [] := by
  unfold m_reckons_L25 at h
  refine r_iload_n (pc := 25) C 3 rfl rfl dX12_reckons_25 ?_
  refine r_sipush (pc := 26) (j := 1600) C (by decide +kernel) dX12_reckons_26 ?_
  refine r_aload_n (pc := 29) C 0 rfl rfl dX12_reckons_29 ?_
  refine r_getI (pc := 30) C fl_RX12_51 m_s0 (by decide) m_k13 dX12_reckons_30 ?_
  refine r_imul (pc := 33) C dX12_reckons_33 ?_
  refine r_aload_n (pc := 34) C 0 rfl rfl dX12_reckons_34 ?_
  refine r_getR (pc := 35) C fl_RX12_87 m_s0 (by decide) m_k25 m_r25 dX12_reckons_35 ?_
  refine r_iconst (pc := 38) C dX12_reckons_38 ?_
  refine r_aload_n (pc := 39) C 0 rfl rfl dX12_reckons_39 ?_
  refine r_getI (pc := 40) C fl_RX12_51 m_s0 (by decide) m_k13 dX12_reckons_40 ?_
  refine r_imul (pc := 43) C dX12_reckons_43 ?_
  refine r_iload_n (pc := 44) C 1 rfl rfl dX12_reckons_44 ?_
  refine r_iadd (pc := 45) C dX12_reckons_45 ?_
  obtain ⟨hi46, h⟩ := chk_inv h
  refine r_iald (pc := 46) C m_s13 (by decide) (by decide) hi46 rfl dX12_reckons_46 ?_
  refine r_iadd (pc := 47) C dX12_reckons_47 ?_
  refine r_icmp_ge (pc := 48) (tgt := 227) C h dX12_reckons_48 (by decide) (fun hc48 h => ?_) (fun hc48 h => ?_)
  · refine r_sub (lv' := [(0, vR b 0)]) [0] rfl ?_
    exact hfol _ _ _ (Option.some.inj h).symm
  · refine r_aload_n (pc := 51) C 0 rfl rfl dX12_reckons_51 ?_
    refine r_getR (pc := 52) C fl_RX12_90 m_s0 (by decide) m_k26 m_r26 dX12_reckons_52 ?_
    refine r_iload_n (pc := 55) C 3 rfl rfl dX12_reckons_55 ?_
    obtain ⟨hi56, h⟩ := chk_inv h
    refine r_iald (pc := 56) C m_s14 (by decide) (by decide) hi56 rfl dX12_reckons_56 ?_
    obtain ⟨v4_57, hv4_57, h⟩ := lt_inv h
    refine r_topI hv4_57 ?_
    refine r_istore (pc := 57) (lv' := [(4, vI v4_57), (0, vR b 0), (1, vI v1), (2, vI v2), (3, vI v3)]) C dX12_reckons_57 (by decide) rfl ?_
    refine r_iload (pc := 59) C 0 rfl dX12_reckons_59 ?_
    refine r_bipush (pc := 61) (j := 30) C (by decide +kernel) dX12_reckons_61 ?_
    refine r_icmp_gt (pc := 63) (tgt := 112) C h dX12_reckons_63 (by decide) (fun hc63 h => ?_) (fun hc63 h => ?_)
    · refine r_iload (pc := 112) C 0 rfl dX12_reckons_112 ?_
      refine r_bipush (pc := 114) (j := 43) C (by decide +kernel) dX12_reckons_114 ?_
      refine r_icmp_ne (pc := 116) (tgt := 140) C h dX12_reckons_116 (by decide) (fun hc116 h => ?_) (fun hc116 h => ?_)
      · refine r_iload (pc := 140) C 0 rfl dX12_reckons_140 ?_
        refine r_bipush (pc := 142) (j := 44) C (by decide +kernel) dX12_reckons_142 ?_
        refine r_icmp_ne (pc := 144) (tgt := 191) C h dX12_reckons_144 (by decide) (fun hc144 h => ?_) (fun hc144 h => ?_)
        · obtain ⟨v2_191, hv2_191, h⟩ := lt_inv h
          refine r_iincN (pc := 191) (y := v2_191) (lv' := [(2, vI v2_191), (4, vI v4_57), (0, vR b 0), (1, vI v1), (3, vI v3)]) C 3 rfl hv2_191 dX12_reckons_191 (by decide) rfl ?_
          refine r_aload_n (pc := 194) C 2 rfl rfl dX12_reckons_194 ?_
          refine r_getR (pc := 195) C fl_RX12_192 m_s0 (by decide) m_k59 m_r59 dX12_reckons_195 ?_
          refine r_iload_n (pc := 198) C 0 rfl rfl dX12_reckons_198 ?_
          refine r_iconst (pc := 199) C dX12_reckons_199 ?_
          refine r_isub (pc := 200) C dX12_reckons_200 ?_
          refine r_iload (pc := 201) C 1 rfl dX12_reckons_201 ?_
          refine r_aload_n (pc := 203) C 2 rfl rfl dX12_reckons_203 ?_
          refine r_getR (pc := 204) C fl_RX12_192 m_s0 (by decide) m_k59 m_r59 dX12_reckons_204 ?_
          refine r_iload_n (pc := 207) C 0 rfl rfl dX12_reckons_207 ?_
          refine r_iconst (pc := 208) C dX12_reckons_208 ?_
          refine r_isub (pc := 209) C dX12_reckons_209 ?_
          obtain ⟨hi210, h⟩ := chk_inv h
          refine r_lald (pc := 210) C m_s37 (by decide) (by decide) hi210 rfl dX12_reckons_210 ?_
          refine r_aload_n (pc := 211) C 2 rfl rfl dX12_reckons_211 ?_
          refine r_getR (pc := 212) C fl_RX12_192 m_s0 (by decide) m_k59 m_r59 dX12_reckons_212 ?_
          refine r_iload_n (pc := 215) C 0 rfl rfl dX12_reckons_215 ?_
          obtain ⟨hi216, h⟩ := chk_inv h
          refine r_lald (pc := 216) C m_s37 (by decide) (by decide) hi216 rfl dX12_reckons_216 ?_
          obtain ⟨r1, hq1, h⟩ := bnd_inv h
          refine r_callS (pc := 217) (rest := [vI (v2_191 - 1), vR b 37]) (st1 := [vL r1, vI (v2_191 - 1), vR b 37]) C (mExtOK b) [vI v4_57, vL (M 37 (v2_191 - 1).toNat), vL (M 37 v2_191.toNat)] (c_m_two l hq1) cl_RX12_411 rfl rfl ⟨Nat.le_of_ble_eq_true rfl, Nat.le_of_ble_eq_true rfl⟩ (Nat.le_of_ble_eq_true rfl) rfl rfl dX12_reckons_217 ?_
          obtain ⟨hi220, h⟩ := chk_inv h
          obtain ⟨M_220, hM_220, h⟩ := lt_inv h
          refine r_last (pc := 220) C m_s37 (by decide) (by decide) hi220 rfl hM_220 dX12_reckons_220 ?_
          obtain ⟨v3_221, hv3_221, h⟩ := lt_inv h
          refine r_iincN (pc := 221) (y := v3_221) (lv' := [(3, vI v3_221), (2, vI v2_191), (4, vI v4_57), (0, vR b 0), (1, vI v1)]) C 4 rfl hv3_221 dX12_reckons_221 (by decide) rfl ?_
          refine r_goto (pc := 224) (tgt := 25) C dX12_reckons_224 (by decide) ?_
          refine r_sub (lv' := [(0, vR b 0), (1, vI v1), (2, vI v2_191), (3, vI v3_221)]) [3, 4, 1, 0] rfl ?_
          exact hrec _ _ _ h
        · obtain ⟨v2_147, hv2_147, h⟩ := lt_inv h
          refine r_iincN (pc := 147) (y := v2_147) (lv' := [(2, vI v2_147), (4, vI v4_57), (0, vR b 0), (1, vI v1), (3, vI v3)]) C 3 rfl hv2_147 dX12_reckons_147 (by decide) rfl ?_
          refine r_aload_n (pc := 150) C 2 rfl rfl dX12_reckons_150 ?_
          refine r_getR (pc := 151) C fl_RX12_192 m_s0 (by decide) m_k59 m_r59 dX12_reckons_151 ?_
          refine r_iload_n (pc := 154) C 0 rfl rfl dX12_reckons_154 ?_
          refine r_iconst (pc := 155) C dX12_reckons_155 ?_
          refine r_isub (pc := 156) C dX12_reckons_156 ?_
          refine r_aload_n (pc := 157) C 2 rfl rfl dX12_reckons_157 ?_
          refine r_getR (pc := 158) C fl_RX12_192 m_s0 (by decide) m_k59 m_r59 dX12_reckons_158 ?_
          refine r_iload_n (pc := 161) C 0 rfl rfl dX12_reckons_161 ?_
          refine r_iconst (pc := 162) C dX12_reckons_162 ?_
          refine r_isub (pc := 163) C dX12_reckons_163 ?_
          obtain ⟨hi164, h⟩ := chk_inv h
          refine r_lald (pc := 164) C m_s37 (by decide) (by decide) hi164 rfl dX12_reckons_164 ?_
          refine r_lconst (pc := 165) (j := 1) C rfl dX12_reckons_165 ?_
          refine r_lcmp (pc := 166) C dX12_reckons_166 ?_
          refine r_if_ne (pc := 167) (tgt := 179) C h dX12_reckons_167 (by decide) (fun hc167 h => ?_) (fun hc167 h => ?_)
          · refine r_aload_n (pc := 179) C 2 rfl rfl dX12_reckons_179 ?_
            refine r_getR (pc := 180) C fl_RX12_192 m_s0 (by decide) m_k59 m_r59 dX12_reckons_180 ?_
            refine r_iload_n (pc := 183) C 0 rfl rfl dX12_reckons_183 ?_
            refine r_iconst (pc := 184) C dX12_reckons_184 ?_
            refine r_iadd (pc := 185) C dX12_reckons_185 ?_
            obtain ⟨hi186, h⟩ := chk_inv h
            refine r_lald (pc := 186) C m_s37 (by decide) (by decide) hi186 rfl dX12_reckons_186 ?_
            obtain ⟨hi187, h⟩ := chk_inv h
            obtain ⟨M_187, hM_187, h⟩ := lt_inv h
            refine r_last (pc := 187) C m_s37 (by decide) (by decide) hi187 rfl hM_187 dX12_reckons_187 ?_
            refine r_goto (pc := 188) (tgt := 221) C dX12_reckons_188 (by decide) ?_
            obtain ⟨v3_221, hv3_221, h⟩ := lt_inv h
            refine r_iincN (pc := 221) (y := v3_221) (lv' := [(3, vI v3_221), (2, vI v2_147), (4, vI v4_57), (0, vR b 0), (1, vI v1)]) C 4 rfl hv3_221 dX12_reckons_221 (by decide) rfl ?_
            refine r_goto (pc := 224) (tgt := 25) C dX12_reckons_224 (by decide) ?_
            refine r_sub (lv' := [(0, vR b 0), (1, vI v1), (2, vI v2_147), (3, vI v3_221)]) [3, 4, 1, 0] rfl ?_
            exact hrec _ _ _ h
          · refine r_aload_n (pc := 170) C 2 rfl rfl dX12_reckons_170 ?_
            refine r_getR (pc := 171) C fl_RX12_192 m_s0 (by decide) m_k59 m_r59 dX12_reckons_171 ?_
            refine r_iload_n (pc := 174) C 0 rfl rfl dX12_reckons_174 ?_
            obtain ⟨hi175, h⟩ := chk_inv h
            refine r_lald (pc := 175) C m_s37 (by decide) (by decide) hi175 rfl dX12_reckons_175 ?_
            refine r_goto (pc := 176) (tgt := 187) C dX12_reckons_176 (by decide) ?_
            obtain ⟨hi187, h⟩ := chk_inv h
            obtain ⟨M_187, hM_187, h⟩ := lt_inv h
            refine r_last (pc := 187) C m_s37 (by decide) (by decide) hi187 rfl hM_187 dX12_reckons_187 ?_
            refine r_goto (pc := 188) (tgt := 221) C dX12_reckons_188 (by decide) ?_
            obtain ⟨v3_221, hv3_221, h⟩ := lt_inv h
            refine r_iincN (pc := 221) (y := v3_221) (lv' := [(3, vI v3_221), (2, vI v2_147), (4, vI v4_57), (0, vR b 0), (1, vI v1)]) C 4 rfl hv3_221 dX12_reckons_221 (by decide) rfl ?_
            refine r_goto (pc := 224) (tgt := 25) C dX12_reckons_224 (by decide) ?_
            refine r_sub (lv' := [(0, vR b 0), (1, vI v1), (2, vI v2_147), (3, vI v3_221)]) [3, 4, 1, 0] rfl ?_
            exact hrec _ _ _ h
      · refine r_aload_n (pc := 119) C 1 rfl rfl dX12_reckons_119 ?_
        refine r_getR (pc := 120) C fl_RX12_192 m_s0 (by decide) m_k59 m_r59 dX12_reckons_120 ?_
        refine r_iload_n (pc := 123) C 3 rfl rfl dX12_reckons_123 ?_
        refine r_iconst (pc := 124) C dX12_reckons_124 ?_
        refine r_isub (pc := 125) C dX12_reckons_125 ?_
        refine r_lconst (pc := 126) (j := 1) C rfl dX12_reckons_126 ?_
        refine r_aload_n (pc := 127) C 1 rfl rfl dX12_reckons_127 ?_
        refine r_getR (pc := 128) C fl_RX12_192 m_s0 (by decide) m_k59 m_r59 dX12_reckons_128 ?_
        refine r_iload_n (pc := 131) C 3 rfl rfl dX12_reckons_131 ?_
        refine r_iconst (pc := 132) C dX12_reckons_132 ?_
        refine r_isub (pc := 133) C dX12_reckons_133 ?_
        obtain ⟨hi134, h⟩ := chk_inv h
        refine r_lald (pc := 134) C m_s37 (by decide) (by decide) hi134 rfl dX12_reckons_134 ?_
        refine r_lsub (pc := 135) C dX12_reckons_135 ?_
        obtain ⟨hi136, h⟩ := chk_inv h
        obtain ⟨M_136, hM_136, h⟩ := lt_inv h
        refine r_last (pc := 136) C m_s37 (by decide) (by decide) hi136 rfl hM_136 dX12_reckons_136 ?_
        refine r_goto (pc := 137) (tgt := 221) C dX12_reckons_137 (by decide) ?_
        obtain ⟨v3_221, hv3_221, h⟩ := lt_inv h
        refine r_iincN (pc := 221) (y := v3_221) (lv' := [(3, vI v3_221), (4, vI v4_57), (0, vR b 0), (1, vI v1), (2, vI v2)]) C 4 rfl hv3_221 dX12_reckons_221 (by decide) rfl ?_
        refine r_goto (pc := 224) (tgt := 25) C dX12_reckons_224 (by decide) ?_
        refine r_sub (lv' := [(0, vR b 0), (1, vI v1), (2, vI v2), (3, vI v3_221)]) [2, 3, 4, 0] rfl ?_
        exact hrec _ _ _ h
    · refine r_aload_n (pc := 66) C 1 rfl rfl dX12_reckons_66 ?_
      refine r_getR (pc := 67) C fl_RX12_192 m_s0 (by decide) m_k59 m_r59 dX12_reckons_67 ?_
      refine r_iload_n (pc := 70) C 3 rfl rfl dX12_reckons_70 ?_
      refine r_iload (pc := 71) C 0 rfl dX12_reckons_71 ?_
      refine r_if_ne (pc := 73) (tgt := 86) C h dX12_reckons_73 (by decide) (fun hc73 h => ?_) (fun hc73 h => ?_)
      · refine r_iload (pc := 86) C 0 rfl dX12_reckons_86 ?_
        refine r_bipush (pc := 88) (j := 30) C (by decide +kernel) dX12_reckons_88 ?_
        refine r_icmp_ne (pc := 90) (tgt := 97) C h dX12_reckons_90 (by decide) (fun hc90 h => ?_) (fun hc90 h => ?_)
        · refine r_aload_n (pc := 97) C 1 rfl rfl dX12_reckons_97 ?_
          refine r_getR (pc := 98) C fl_RX12_195 m_s0 (by decide) m_k60 m_r60 dX12_reckons_98 ?_
          refine r_iload (pc := 101) C 0 rfl dX12_reckons_101 ?_
          obtain ⟨hi103, h⟩ := chk_inv h
          refine r_iald (pc := 103) C m_s38 (by decide) (by decide) hi103 rfl dX12_reckons_103 ?_
          refine r_i2l (pc := 104) C dX12_reckons_104 ?_
          obtain ⟨hi105, h⟩ := chk_inv h
          obtain ⟨M_105, hM_105, h⟩ := lt_inv h
          refine r_last (pc := 105) C m_s37 (by decide) (by decide) hi105 rfl hM_105 dX12_reckons_105 ?_
          obtain ⟨v2_106, hv2_106, h⟩ := lt_inv h
          refine r_iincN (pc := 106) (y := v2_106) (lv' := [(2, vI v2_106), (4, vI v4_57), (0, vR b 0), (1, vI v1), (3, vI v3)]) C 3 rfl hv2_106 dX12_reckons_106 (by decide) rfl ?_
          refine r_goto (pc := 109) (tgt := 221) C dX12_reckons_109 (by decide) ?_
          obtain ⟨v3_221, hv3_221, h⟩ := lt_inv h
          refine r_iincN (pc := 221) (y := v3_221) (lv' := [(3, vI v3_221), (2, vI v2_106), (4, vI v4_57), (0, vR b 0), (1, vI v1)]) C 4 rfl hv3_221 dX12_reckons_221 (by decide) rfl ?_
          refine r_goto (pc := 224) (tgt := 25) C dX12_reckons_224 (by decide) ?_
          refine r_sub (lv' := [(0, vR b 0), (1, vI v1), (2, vI v2_106), (3, vI v3_221)]) [3, 4, 1, 0] rfl ?_
          exact hrec _ _ _ h
        · refine r_lconst (pc := 93) (j := 1) C rfl dX12_reckons_93 ?_
          refine r_goto (pc := 94) (tgt := 105) C dX12_reckons_94 (by decide) ?_
          obtain ⟨hi105, h⟩ := chk_inv h
          obtain ⟨M_105, hM_105, h⟩ := lt_inv h
          refine r_last (pc := 105) C m_s37 (by decide) (by decide) hi105 rfl hM_105 dX12_reckons_105 ?_
          obtain ⟨v2_106, hv2_106, h⟩ := lt_inv h
          refine r_iincN (pc := 106) (y := v2_106) (lv' := [(2, vI v2_106), (4, vI v4_57), (0, vR b 0), (1, vI v1), (3, vI v3)]) C 3 rfl hv2_106 dX12_reckons_106 (by decide) rfl ?_
          refine r_goto (pc := 109) (tgt := 221) C dX12_reckons_109 (by decide) ?_
          obtain ⟨v3_221, hv3_221, h⟩ := lt_inv h
          refine r_iincN (pc := 221) (y := v3_221) (lv' := [(3, vI v3_221), (2, vI v2_106), (4, vI v4_57), (0, vR b 0), (1, vI v1)]) C 4 rfl hv3_221 dX12_reckons_221 (by decide) rfl ?_
          refine r_goto (pc := 224) (tgt := 25) C dX12_reckons_224 (by decide) ?_
          refine r_sub (lv' := [(0, vR b 0), (1, vI v1), (2, vI v2_106), (3, vI v3_221)]) [3, 4, 1, 0] rfl ?_
          exact hrec _ _ _ h
      · refine r_aload_n (pc := 76) C 1 rfl rfl dX12_reckons_76 ?_
        refine r_getR (pc := 77) C fl_RX12_93 m_s0 (by decide) m_k27 m_r27 dX12_reckons_77 ?_
        refine r_iload_n (pc := 80) C 4 rfl rfl dX12_reckons_80 ?_
        obtain ⟨hi81, h⟩ := chk_inv h
        refine r_iald (pc := 81) C m_s15 (by decide) (by decide) hi81 rfl dX12_reckons_81 ?_
        refine r_i2l (pc := 82) C dX12_reckons_82 ?_
        refine r_goto (pc := 83) (tgt := 105) C dX12_reckons_83 (by decide) ?_
        obtain ⟨hi105, h⟩ := chk_inv h
        obtain ⟨M_105, hM_105, h⟩ := lt_inv h
        refine r_last (pc := 105) C m_s37 (by decide) (by decide) hi105 rfl hM_105 dX12_reckons_105 ?_
        obtain ⟨v2_106, hv2_106, h⟩ := lt_inv h
        refine r_iincN (pc := 106) (y := v2_106) (lv' := [(2, vI v2_106), (4, vI v4_57), (0, vR b 0), (1, vI v1), (3, vI v3)]) C 3 rfl hv2_106 dX12_reckons_106 (by decide) rfl ?_
        refine r_goto (pc := 109) (tgt := 221) C dX12_reckons_109 (by decide) ?_
        obtain ⟨v3_221, hv3_221, h⟩ := lt_inv h
        refine r_iincN (pc := 221) (y := v3_221) (lv' := [(3, vI v3_221), (2, vI v2_106), (4, vI v4_57), (0, vR b 0), (1, vI v1)]) C 4 rfl hv3_221 dX12_reckons_221 (by decide) rfl ?_
        refine r_goto (pc := 224) (tgt := 25) C dX12_reckons_224 (by decide) ?_
        refine r_sub (lv' := [(0, vR b 0), (1, vI v1), (2, vI v2_106), (3, vI v3_221)]) [3, 4, 1, 0] rfl ?_
        exact hrec _ _ _ h
set_option maxHeartbeats 4000000 in
theorem w_m_reckons_L25 (C : mCX p s m args meth c cX12_reckons 5 RX12 D E b) (hr : meth.sig.returnType = (some .long)) {r0 : Int} {M0 : Mem} {v1 : Int} {q : Int × Int × Mem} (hfol : ∀ (v2 : Int) (v3 : Int) (M : Mem), q = (v2, v3, M) → mWX p l e 3 61 s m args below meth c 5 D E b (some (vL r0)) M0 M 227 [(0, vR b 0)] []) : ∀ (n : Nat) (v2 : Int) (v3 : Int) (M : Mem), itr3 (m_reckons_L25 v1) n v2 v3 M = some q →
    mWX p l e 3 61 s m args below meth c 5 D E b (some (vL r0)) M0 M 25 [(0, vR b 0), (1, vI v1), (2, vI v2), (3, vI v3)] [] := by
  intro n
  induction n with
  | zero => exact fun _ _ _ h => itr_z h
  | succ n ih => exact fun _ _ _ h => w_m_reckons_L25_s C hr ih hfol h
set_option maxHeartbeats 4000000 in
set_option maxRecDepth 20000 in
theorem c_m_reckons (l : Launch) {x1 : Int} {M : Mem} {r0 : Int} {M0 : Mem} (h : m_reckons x1 M = some (r0, M0)) : Ct l yX12_reckons cX12_reckons 5 (some .long) 3 61 vwCl mSh mN mRf mExt (fun b => [vR b 0, vI x1]) M (fun b => (some (vL r0))) M0 := by
  refine Ct_of mExtOK (by decide) (fun b => Nat.le_of_ble_eq_true rfl) ?_
  intro p e s m args below meth c D E b C hr
  unfold m_reckons at h
  refine (show mWX p l e 3 61 s m args below meth c 5 D E b (some (vL r0)) M0 M 0 [(0, vR b 0), (1, vI x1)] [] from ?_)
  refine r_iconst (pc := 0) C dX12_reckons_0 ?_
  refine r_istore_n (pc := 1) (lv' := [(2, vI 0), (0, vR b 0), (1, vI x1)]) C rfl dX12_reckons_1 (by decide) rfl ?_
  refine r_sipush (pc := 2) (j := 1600) C (by decide +kernel) dX12_reckons_2 ?_
  refine r_aload_n (pc := 5) C 1 rfl rfl dX12_reckons_5 ?_
  refine r_getI (pc := 6) C fl_RX12_51 m_s0 (by decide) m_k13 dX12_reckons_6 ?_
  refine r_imul (pc := 9) C dX12_reckons_9 ?_
  refine r_aload_n (pc := 10) C 1 rfl rfl dX12_reckons_10 ?_
  refine r_getR (pc := 11) C fl_RX12_84 m_s0 (by decide) m_k24 m_r24 dX12_reckons_11 ?_
  refine r_iconst (pc := 14) C dX12_reckons_14 ?_
  refine r_aload_n (pc := 15) C 1 rfl rfl dX12_reckons_15 ?_
  refine r_getI (pc := 16) C fl_RX12_51 m_s0 (by decide) m_k13 dX12_reckons_16 ?_
  refine r_imul (pc := 19) C dX12_reckons_19 ?_
  refine r_iload_n (pc := 20) C 2 rfl rfl dX12_reckons_20 ?_
  refine r_iadd (pc := 21) C dX12_reckons_21 ?_
  obtain ⟨hi22, h⟩ := chk_inv h
  refine r_iald (pc := 22) C m_s12 (by decide) (by decide) hi22 rfl dX12_reckons_22 ?_
  refine r_iadd (pc := 23) C dX12_reckons_23 ?_
  obtain ⟨v3_24, hv3_24, h⟩ := lt_inv h
  refine r_topI hv3_24 ?_
  refine r_istore_n (pc := 24) (lv' := [(3, vI v3_24), (2, vI 0), (0, vR b 0), (1, vI x1)]) C rfl dX12_reckons_24 (by decide) rfl ?_
  refine r_sub (lv' := [(0, vR b 0), (1, vI x1), (2, vI 0), (3, vI v3_24)]) [2, 3, 1, 0] rfl ?_
  obtain ⟨q2, hl2, h⟩ := bnd_inv h
  refine w_m_reckons_L25 C hr (fun v2_2 v3_2 M_2 hq => ?_) FUEL _ _ _ hl2
  have hq := hq.symm
  subst hq
  refine r_aload_n (pc := 227) C 0 rfl rfl dX12_reckons_227 ?_
  refine r_getR (pc := 228) C fl_RX12_192 m_s0 (by decide) m_k59 m_r59 dX12_reckons_228 ?_
  refine r_iconst (pc := 231) C dX12_reckons_231 ?_
  refine r_lald (pc := 232) C m_s37 (by decide) (by decide) (by decide) rfl dX12_reckons_232 ?_
  have e := Option.some.inj h
  exact r_lret (pc := 233) C hr (congrArg (fun z => some (vL z)) (Prod.mk.inj e).1.symm) (Prod.mk.inj e).2.symm dX12_reckons_233
set_option maxHeartbeats 4000000 in
set_option maxRecDepth 20000 in
theorem c_m_isTold (l : Launch) {x1 : Int} {M : Mem} {r0 : Bool} (h : m_isTold x1 M = some r0) : Ct l yX12_isTold cX12_isTold 2 (some .boolean) 1 12 vwCl mSh mN mRf mExt (fun b => [vR b 0, vI x1]) M (fun b => (some (vB r0))) M := by
  refine Ct_of mExtOK (by decide) (fun b => Nat.le_of_ble_eq_true rfl) ?_
  intro p e s m args below meth c D E b C hr
  unfold m_isTold at h
  refine (show mWX p l e 1 12 s m args below meth c 2 D E b (some (vB r0)) M M 0 [(0, vR b 0), (1, vI x1)] [] from ?_)
  refine r_aload_n (pc := 0) C 0 rfl rfl dX12_isTold_0 ?_
  refine r_getR (pc := 1) C fl_RX12_84 m_s0 (by decide) m_k24 m_r24 dX12_isTold_1 ?_
  refine r_iconst (pc := 4) C dX12_isTold_4 ?_
  refine r_aload_n (pc := 5) C 0 rfl rfl dX12_isTold_5 ?_
  refine r_getI (pc := 6) C fl_RX12_51 m_s0 (by decide) m_k13 dX12_isTold_6 ?_
  refine r_imul (pc := 9) C dX12_isTold_9 ?_
  refine r_iload_n (pc := 10) C 1 rfl rfl dX12_isTold_10 ?_
  refine r_iadd (pc := 11) C dX12_isTold_11 ?_
  obtain ⟨hi12, h⟩ := chk_inv h
  refine r_iald (pc := 12) C m_s12 (by decide) (by decide) hi12 rfl dX12_isTold_12 ?_
  refine r_iconst (pc := 13) C dX12_isTold_13 ?_
  refine r_icmp_eq (pc := 14) (tgt := 21) C h dX12_isTold_14 (by decide) (fun hc14 h => ?_) (fun hc14 h => ?_)
  · refine r_iconst (pc := 21) C dX12_isTold_21 ?_
    have e := Option.some.inj h
    exact r_zret (pc := 22) C hr (Or.inl rfl) (congrArg (fun z => some (vB z)) e.symm) rfl dX12_isTold_22
  · refine r_iconst (pc := 17) C dX12_isTold_17 ?_
    refine r_goto (pc := 18) (tgt := 22) C dX12_isTold_18 (by decide) ?_
    have e := Option.some.inj h
    exact r_zret (pc := 22) C hr (Or.inr rfl) (congrArg (fun z => some (vB z)) e.symm) rfl dX12_isTold_22
set_option maxHeartbeats 4000000 in
set_option maxRecDepth 20000 in
theorem c_m_lays (l : Launch) {x1 : Int} {x2 : Int} {M : Mem} {M0 : Mem} (h : m_lays x1 x2 M = some M0) : Ct l yX12_lays cX12_lays 3 none 1 12 vwCl mSh mN mRf mExt (fun b => [vR b 0, vI x1, vI x2]) M (fun b => none) M0 := by
  refine Ct_of mExtOK (by decide) (fun b => Nat.le_of_ble_eq_true rfl) ?_
  intro p e s m args below meth c D E b C hr
  unfold m_lays at h
  refine (show mWX p l e 1 12 s m args below meth c 3 D E b none M0 M 0 [(0, vR b 0), (1, vI x1), (2, vI x2)] [] from ?_)
  refine r_aload_n (pc := 0) C 0 rfl rfl dX12_lays_0 ?_
  refine r_getR (pc := 1) C fl_RX12_195 m_s0 (by decide) m_k60 m_r60 dX12_lays_1 ?_
  refine r_iconst (pc := 4) C dX12_lays_4 ?_
  refine r_aload_n (pc := 5) C 0 rfl rfl dX12_lays_5 ?_
  refine r_getR (pc := 6) C fl_RX12_63 m_s0 (by decide) m_k17 m_r17 dX12_lays_6 ?_
  refine r_bipush (pc := 9) (j := 8) C (by decide +kernel) dX12_lays_9 ?_
  refine r_aload_n (pc := 11) C 0 rfl rfl dX12_lays_11 ?_
  refine r_getI (pc := 12) C fl_RX12_51 m_s0 (by decide) m_k13 dX12_lays_12 ?_
  refine r_imul (pc := 15) C dX12_lays_15 ?_
  refine r_aload_n (pc := 16) C 0 rfl rfl dX12_lays_16 ?_
  refine r_getR (pc := 17) C fl_RX12_72 m_s0 (by decide) m_k20 m_r20 dX12_lays_17 ?_
  refine r_bipush (pc := 20) (j := 12) C (by decide +kernel) dX12_lays_20 ?_
  refine r_aload_n (pc := 22) C 0 rfl rfl dX12_lays_22 ?_
  refine r_getI (pc := 23) C fl_RX12_51 m_s0 (by decide) m_k13 dX12_lays_23 ?_
  refine r_imul (pc := 26) C dX12_lays_26 ?_
  refine r_iload_n (pc := 27) C 2 rfl rfl dX12_lays_27 ?_
  refine r_iadd (pc := 28) C dX12_lays_28 ?_
  obtain ⟨hi29, h⟩ := chk_inv h
  refine r_iald (pc := 29) C m_s8 (by decide) (by decide) hi29 rfl dX12_lays_29 ?_
  refine r_iadd (pc := 30) C dX12_lays_30 ?_
  obtain ⟨hi31, h⟩ := chk_inv h
  refine r_iald (pc := 31) C m_s5 (by decide) (by decide) hi31 rfl dX12_lays_31 ?_
  obtain ⟨M_32, hM_32, h⟩ := lt_inv h
  refine r_iast (pc := 32) C m_s38 (by decide) (by decide) (by decide) rfl hM_32 dX12_lays_32 ?_
  refine r_aload_n (pc := 33) C 0 rfl rfl dX12_lays_33 ?_
  refine r_getR (pc := 34) C fl_RX12_195 m_s0 (by decide) m_k60 m_r60 dX12_lays_34 ?_
  refine r_iconst (pc := 37) C dX12_lays_37 ?_
  refine r_aload_n (pc := 38) C 0 rfl rfl dX12_lays_38 ?_
  refine r_getR (pc := 39) C fl_RX12_165 m_s0 (by decide) m_k50 m_r50 dX12_lays_39 ?_
  refine r_bipush (pc := 42) (j := 12) C (by decide +kernel) dX12_lays_42 ?_
  refine r_iload_n (pc := 44) C 1 rfl rfl dX12_lays_44 ?_
  refine r_imul (pc := 45) C dX12_lays_45 ?_
  refine r_iload_n (pc := 46) C 2 rfl rfl dX12_lays_46 ?_
  refine r_iadd (pc := 47) C dX12_lays_47 ?_
  obtain ⟨hi48, h⟩ := chk_inv h
  refine r_iald (pc := 48) C m_s31 (by decide) (by decide) hi48 rfl dX12_lays_48 ?_
  obtain ⟨M_49, hM_49, h⟩ := lt_inv h
  refine r_iast (pc := 49) C m_s38 (by decide) (by decide) (by decide) rfl hM_49 dX12_lays_49 ?_
  refine r_aload_n (pc := 50) C 0 rfl rfl dX12_lays_50 ?_
  refine r_getR (pc := 51) C fl_RX12_195 m_s0 (by decide) m_k60 m_r60 dX12_lays_51 ?_
  refine r_iconst (pc := 54) C dX12_lays_54 ?_
  refine r_aload_n (pc := 55) C 0 rfl rfl dX12_lays_55 ?_
  refine r_getR (pc := 56) C fl_RX12_147 m_s0 (by decide) m_k44 m_r44 dX12_lays_56 ?_
  refine r_iload_n (pc := 59) C 1 rfl rfl dX12_lays_59 ?_
  obtain ⟨hi60, h⟩ := chk_inv h
  refine r_iald (pc := 60) C m_s25 (by decide) (by decide) hi60 rfl dX12_lays_60 ?_
  obtain ⟨M_61, hM_61, h⟩ := lt_inv h
  refine r_iast (pc := 61) C m_s38 (by decide) (by decide) (by decide) rfl hM_61 dX12_lays_61 ?_
  refine r_aload_n (pc := 62) C 0 rfl rfl dX12_lays_62 ?_
  refine r_getR (pc := 63) C fl_RX12_195 m_s0 (by decide) m_k60 m_r60 dX12_lays_63 ?_
  refine r_iconst (pc := 66) C dX12_lays_66 ?_
  refine r_aload_n (pc := 67) C 0 rfl rfl dX12_lays_67 ?_
  refine r_getR (pc := 68) C fl_RX12_78 m_s0 (by decide) m_k22 m_r22 dX12_lays_68 ?_
  refine r_bipush (pc := 71) (j := 12) C (by decide +kernel) dX12_lays_71 ?_
  refine r_aload_n (pc := 73) C 0 rfl rfl dX12_lays_73 ?_
  refine r_getI (pc := 74) C fl_RX12_51 m_s0 (by decide) m_k13 dX12_lays_74 ?_
  refine r_imul (pc := 77) C dX12_lays_77 ?_
  refine r_iload_n (pc := 78) C 2 rfl rfl dX12_lays_78 ?_
  refine r_iadd (pc := 79) C dX12_lays_79 ?_
  obtain ⟨hi80, h⟩ := chk_inv h
  refine r_iald (pc := 80) C m_s10 (by decide) (by decide) hi80 rfl dX12_lays_80 ?_
  obtain ⟨M_81, hM_81, h⟩ := lt_inv h
  refine r_iast (pc := 81) C m_s38 (by decide) (by decide) (by decide) rfl hM_81 dX12_lays_81 ?_
  refine r_aload_n (pc := 82) C 0 rfl rfl dX12_lays_82 ?_
  refine r_getR (pc := 83) C fl_RX12_195 m_s0 (by decide) m_k60 m_r60 dX12_lays_83 ?_
  refine r_bipush (pc := 86) (j := 8) C (by decide +kernel) dX12_lays_86 ?_
  refine r_aload_n (pc := 88) C 0 rfl rfl dX12_lays_88 ?_
  refine r_getR (pc := 89) C fl_RX12_66 m_s0 (by decide) m_k18 m_r18 dX12_lays_89 ?_
  refine r_bipush (pc := 92) (j := 8) C (by decide +kernel) dX12_lays_92 ?_
  refine r_aload_n (pc := 94) C 0 rfl rfl dX12_lays_94 ?_
  refine r_getI (pc := 95) C fl_RX12_51 m_s0 (by decide) m_k13 dX12_lays_95 ?_
  refine r_imul (pc := 98) C dX12_lays_98 ?_
  refine r_aload_n (pc := 99) C 0 rfl rfl dX12_lays_99 ?_
  refine r_getR (pc := 100) C fl_RX12_72 m_s0 (by decide) m_k20 m_r20 dX12_lays_100 ?_
  refine r_bipush (pc := 103) (j := 12) C (by decide +kernel) dX12_lays_103 ?_
  refine r_aload_n (pc := 105) C 0 rfl rfl dX12_lays_105 ?_
  refine r_getI (pc := 106) C fl_RX12_51 m_s0 (by decide) m_k13 dX12_lays_106 ?_
  refine r_imul (pc := 109) C dX12_lays_109 ?_
  refine r_iload_n (pc := 110) C 2 rfl rfl dX12_lays_110 ?_
  refine r_iadd (pc := 111) C dX12_lays_111 ?_
  obtain ⟨hi112, h⟩ := chk_inv h
  refine r_iald (pc := 112) C m_s8 (by decide) (by decide) hi112 rfl dX12_lays_112 ?_
  refine r_iadd (pc := 113) C dX12_lays_113 ?_
  obtain ⟨hi114, h⟩ := chk_inv h
  refine r_iald (pc := 114) C m_s6 (by decide) (by decide) hi114 rfl dX12_lays_114 ?_
  obtain ⟨M_115, hM_115, h⟩ := lt_inv h
  refine r_iast (pc := 115) C m_s38 (by decide) (by decide) (by decide) rfl hM_115 dX12_lays_115 ?_
  have e := Option.some.inj h
  exact r_vret (pc := 116) C hr rfl e.symm dX12_lays_116
set_option maxHeartbeats 4000000 in
set_option maxRecDepth 20000 in
theorem c_m_pickOf (l : Launch) {x1 : Int} {x2 : Int} {x3 : Int} {M : Mem} {r0 : Int} {M0 : Mem} (h : m_pickOf x1 x2 x3 M = some (r0, M0)) : Ct l yX12_pickOf cX12_pickOf 5 (some .long) 4 85 vwCl mSh mN mRf mExt (fun b => [vR b 0, vI x1, vI x2, vI x3]) M (fun b => (some (vL r0))) M0 := by
  refine Ct_of mExtOK (by decide) (fun b => Nat.le_of_ble_eq_true rfl) ?_
  intro p e s m args below meth c D E b C hr
  unfold m_pickOf at h
  refine (show mWX p l e 4 85 s m args below meth c 5 D E b (some (vL r0)) M0 M 0 [(0, vR b 0), (1, vI x1), (2, vI x2), (3, vI x3)] [] from ?_)
  refine r_aload_n (pc := 0) C 0 rfl rfl dX12_pickOf_0 ?_
  refine r_iload_n (pc := 1) C 1 rfl rfl dX12_pickOf_1 ?_
  refine r_iload_n (pc := 2) C 2 rfl rfl dX12_pickOf_2 ?_
  obtain ⟨M1, hq1, h⟩ := bnd_inv h
  refine r_callV (pc := 3) (rest := []) (st1 := []) C (mExtOK b) [vI x1, vI x2] (c_m_lays l hq1) cl_RX12_415 m_s0 (by decide) rfl rfl rfl rfl ⟨Nat.le_of_ble_eq_true rfl, Nat.le_of_ble_eq_true rfl⟩ (Nat.le_of_ble_eq_true rfl) rfl rfl dX12_pickOf_3 ?_
  refine r_aload_n (pc := 6) C 0 rfl rfl dX12_pickOf_6 ?_
  refine r_getR (pc := 7) C fl_RX12_150 m_s0 (by decide) m_k45 m_r45 dX12_pickOf_7 ?_
  refine r_bipush (pc := 10) (j := 7) C (by decide +kernel) dX12_pickOf_10 ?_
  refine r_iload_n (pc := 12) C 1 rfl rfl dX12_pickOf_12 ?_
  refine r_imul (pc := 13) C dX12_pickOf_13 ?_
  refine r_iload_n (pc := 14) C 3 rfl rfl dX12_pickOf_14 ?_
  refine r_iadd (pc := 15) C dX12_pickOf_15 ?_
  obtain ⟨hi16, h⟩ := chk_inv h
  refine r_iald (pc := 16) C m_s26 (by decide) (by decide) hi16 rfl dX12_pickOf_16 ?_
  obtain ⟨v4_17, hv4_17, h⟩ := lt_inv h
  refine r_topI hv4_17 ?_
  refine r_istore (pc := 17) (lv' := [(4, vI v4_17), (0, vR b 0), (1, vI x1), (2, vI x2), (3, vI x3)]) C dX12_pickOf_17 (by decide) rfl ?_
  refine r_aload_n (pc := 19) C 1 rfl rfl dX12_pickOf_19 ?_
  refine r_iconst (pc := 20) C dX12_pickOf_20 ?_
  obtain ⟨r2, hq2, h⟩ := bnd_inv h
  refine r_callV (pc := 21) (rest := []) (st1 := [vB r2]) C (mExtOK b) [vI 0] (c_m_isTold l hq2) cl_RX12_418 m_s0 (by decide) rfl rfl rfl rfl ⟨Nat.le_of_ble_eq_true rfl, Nat.le_of_ble_eq_true rfl⟩ (Nat.le_of_ble_eq_true rfl) rfl rfl dX12_pickOf_21 ?_
  refine r_if_neB (pc := 24) (tgt := 64) C h dX12_pickOf_24 (by decide) (fun hc24 h => ?_) (fun hc24 h => ?_)
  · refine r_aload_n (pc := 64) C 1 rfl rfl dX12_pickOf_64 ?_
    refine r_getR (pc := 65) C fl_RX12_195 m_s0 (by decide) m_k60 m_r60 dX12_pickOf_65 ?_
    refine r_iconst (pc := 68) C dX12_pickOf_68 ?_
    refine r_iload (pc := 69) C 0 rfl dX12_pickOf_69 ?_
    obtain ⟨M_71, hM_71, h⟩ := lt_inv h
    refine r_iast (pc := 71) C m_s38 (by decide) (by decide) (by decide) rfl hM_71 dX12_pickOf_71 ?_
    refine r_aload_n (pc := 72) C 1 rfl rfl dX12_pickOf_72 ?_
    refine r_getR (pc := 73) C fl_RX12_195 m_s0 (by decide) m_k60 m_r60 dX12_pickOf_73 ?_
    refine r_bipush (pc := 76) (j := 6) C (by decide +kernel) dX12_pickOf_76 ?_
    refine r_aload_n (pc := 78) C 1 rfl rfl dX12_pickOf_78 ?_
    refine r_getR (pc := 79) C fl_RX12_153 m_s0 (by decide) m_k46 m_r46 dX12_pickOf_79 ?_
    refine r_bipush (pc := 82) (j := 7) C (by decide +kernel) dX12_pickOf_82 ?_
    refine r_iload_n (pc := 84) C 2 rfl rfl dX12_pickOf_84 ?_
    refine r_imul (pc := 85) C dX12_pickOf_85 ?_
    refine r_iload_n (pc := 86) C 4 rfl rfl dX12_pickOf_86 ?_
    refine r_iadd (pc := 87) C dX12_pickOf_87 ?_
    obtain ⟨hi88, h⟩ := chk_inv h
    refine r_iald (pc := 88) C m_s27 (by decide) (by decide) hi88 rfl dX12_pickOf_88 ?_
    obtain ⟨M_89, hM_89, h⟩ := lt_inv h
    refine r_iast (pc := 89) C m_s38 (by decide) (by decide) (by decide) rfl hM_89 dX12_pickOf_89 ?_
    refine r_aload_n (pc := 90) C 1 rfl rfl dX12_pickOf_90 ?_
    refine r_iconst (pc := 91) C dX12_pickOf_91 ?_
    obtain ⟨r3, M3, hq3, h⟩ := bnd2_inv h
    refine r_callV (pc := 92) (rest := []) (st1 := [vL r3]) C (mExtOK b) [vI 0] (c_m_reckons l hq3) cl_RX12_421 m_s0 (by decide) rfl rfl rfl rfl ⟨Nat.le_of_ble_eq_true rfl, Nat.le_of_ble_eq_true rfl⟩ (Nat.le_of_ble_eq_true rfl) rfl rfl dX12_pickOf_92 ?_
    have e := Option.some.inj h
    exact r_lret (pc := 95) C hr (congrArg (fun z => some (vL z)) (Prod.mk.inj e).1.symm) (Prod.mk.inj e).2.symm dX12_pickOf_95
  · refine r_bipush (pc := 27) (j := 9) C (by decide +kernel) dX12_pickOf_27 ?_
    refine r_iload (pc := 29) C 0 rfl dX12_pickOf_29 ?_
    refine r_aload_n (pc := 31) C 1 rfl rfl dX12_pickOf_31 ?_
    refine r_getR (pc := 32) C fl_RX12_195 m_s0 (by decide) m_k60 m_r60 dX12_pickOf_32 ?_
    refine r_iconst (pc := 35) C dX12_pickOf_35 ?_
    refine r_iald (pc := 36) C m_s38 (by decide) (by decide) (by decide) rfl dX12_pickOf_36 ?_
    refine r_icmp_le (pc := 37) (tgt := 52) C h dX12_pickOf_37 (by decide) (fun hc37 h => ?_) (fun hc37 h => ?_)
    · refine r_aload_n (pc := 52) C 1 rfl rfl dX12_pickOf_52 ?_
      refine r_getR (pc := 53) C fl_RX12_195 m_s0 (by decide) m_k60 m_r60 dX12_pickOf_53 ?_
      refine r_iconst (pc := 56) C dX12_pickOf_56 ?_
      refine r_iald (pc := 57) C m_s38 (by decide) (by decide) (by decide) rfl dX12_pickOf_57 ?_
      refine r_iload (pc := 58) C 0 rfl dX12_pickOf_58 ?_
      refine r_isub (pc := 60) C dX12_pickOf_60 ?_
      refine r_isub (pc := 61) C dX12_pickOf_61 ?_
      refine r_i2l (pc := 62) C dX12_pickOf_62 ?_
      have e := Option.some.inj h
      exact r_lret (pc := 63) C hr (congrArg (fun z => some (vL z)) (Prod.mk.inj e).1.symm) (Prod.mk.inj e).2.symm dX12_pickOf_63
    · refine r_iload (pc := 40) C 0 rfl dX12_pickOf_40 ?_
      refine r_aload_n (pc := 42) C 1 rfl rfl dX12_pickOf_42 ?_
      refine r_getR (pc := 43) C fl_RX12_195 m_s0 (by decide) m_k60 m_r60 dX12_pickOf_43 ?_
      refine r_iconst (pc := 46) C dX12_pickOf_46 ?_
      refine r_iald (pc := 47) C m_s38 (by decide) (by decide) (by decide) rfl dX12_pickOf_47 ?_
      refine r_isub (pc := 48) C dX12_pickOf_48 ?_
      refine r_goto (pc := 49) (tgt := 61) C dX12_pickOf_49 (by decide) ?_
      refine r_isub (pc := 61) C dX12_pickOf_61 ?_
      refine r_i2l (pc := 62) C dX12_pickOf_62 ?_
      have e := Option.some.inj h
      exact r_lret (pc := 63) C hr (congrArg (fun z => some (vL z)) (Prod.mk.inj e).1.symm) (Prod.mk.inj e).2.symm dX12_pickOf_63
set_option maxHeartbeats 4000000 in
set_option maxRecDepth 20000 in
theorem w_m_soundingBy_L2_s (C : mCX p s m args meth c cX12_soundingBy 4 RX12 D E b) (hr : meth.sig.returnType = (some .int)) {r0 : Int} {v1 : Int} {v2 : Int} {M : Mem} {v3 : Int} {q : (Int) ⊕ (Int)} {rec : Int → Option ((Int) ⊕ (Int))} (hrec : ∀ (v3 : Int), rec v3 = some q → mWX p l e 1 12 s m args below meth c 4 D E b (some (vI r0)) M M 2 [(0, vR b 0), (1, vI v1), (2, vI v2), (3, vI v3)] []) (hret : ∀ r, q = .inl r → r = r0) (hfol : ∀ (v3 : Int), q = .inr v3 → mWX p l e 1 12 s m args below meth c 4 D E b (some (vI r0)) M M 53 [] []) (h : m_soundingBy_L2 v1 v2 M rec v3 = some q) :
    mWX p l e 1 12 s m args below meth c 4 D E b (some (vI r0)) M M 2 [(0, vR b 0), (1, vI v1), (2, vI v2), (3, vI v3)] [] := by
  unfold m_soundingBy_L2 at h
  refine r_iload_n (pc := 2) C 3 rfl rfl dX12_soundingBy_2 ?_
  refine r_aload_n (pc := 3) C 0 rfl rfl dX12_soundingBy_3 ?_
  refine r_getR (pc := 4) C fl_RX12_69 m_s0 (by decide) m_k19 m_r19 dX12_soundingBy_4 ?_
  refine r_aload_n (pc := 7) C 0 rfl rfl dX12_soundingBy_7 ?_
  refine r_getI (pc := 8) C fl_RX12_51 m_s0 (by decide) m_k13 dX12_soundingBy_8 ?_
  obtain ⟨hi11, h⟩ := chk_inv h
  refine r_iald (pc := 11) C m_s7 (by decide) (by decide) hi11 rfl dX12_soundingBy_11 ?_
  refine r_icmp_ge (pc := 12) (tgt := 53) C h dX12_soundingBy_12 (by decide) (fun hc12 h => ?_) (fun hc12 h => ?_)
  · refine r_sub (lv' := []) [] rfl ?_
    exact hfol _ (Option.some.inj h).symm
  · refine r_aload_n (pc := 15) C 0 rfl rfl dX12_soundingBy_15 ?_
    refine r_getR (pc := 16) C fl_RX12_159 m_s0 (by decide) m_k48 m_r48 dX12_soundingBy_16 ?_
    refine r_bipush (pc := 19) (j := 12) C (by decide +kernel) dX12_soundingBy_19 ?_
    refine r_iload_n (pc := 21) C 1 rfl rfl dX12_soundingBy_21 ?_
    refine r_imul (pc := 22) C dX12_soundingBy_22 ?_
    refine r_iload_n (pc := 23) C 3 rfl rfl dX12_soundingBy_23 ?_
    refine r_iadd (pc := 24) C dX12_soundingBy_24 ?_
    obtain ⟨hi25, h⟩ := chk_inv h
    refine r_iald (pc := 25) C m_s29 (by decide) (by decide) hi25 rfl dX12_soundingBy_25 ?_
    refine r_iconst (pc := 26) C dX12_soundingBy_26 ?_
    refine r_icmp_ne (pc := 27) (tgt := 47) C h dX12_soundingBy_27 (by decide) (fun hc27 h => ?_) (fun hc27 h => ?_)
    · obtain ⟨v3_47, hv3_47, h⟩ := lt_inv h
      refine r_iincN (pc := 47) (y := v3_47) (lv' := [(3, vI v3_47), (0, vR b 0), (1, vI v1), (2, vI v2)]) C 3 rfl hv3_47 dX12_soundingBy_47 (by decide) rfl ?_
      refine r_goto (pc := 50) (tgt := 2) C dX12_soundingBy_50 (by decide) ?_
      refine r_sub (lv' := [(0, vR b 0), (1, vI v1), (2, vI v2), (3, vI v3_47)]) [1, 2, 3, 0] rfl ?_
      exact hrec _ h
    · refine r_aload_n (pc := 30) C 0 rfl rfl dX12_soundingBy_30 ?_
      refine r_getR (pc := 31) C fl_RX12_168 m_s0 (by decide) m_k51 m_r51 dX12_soundingBy_31 ?_
      refine r_bipush (pc := 34) (j := 12) C (by decide +kernel) dX12_soundingBy_34 ?_
      refine r_iload_n (pc := 36) C 1 rfl rfl dX12_soundingBy_36 ?_
      refine r_imul (pc := 37) C dX12_soundingBy_37 ?_
      refine r_iload_n (pc := 38) C 3 rfl rfl dX12_soundingBy_38 ?_
      refine r_iadd (pc := 39) C dX12_soundingBy_39 ?_
      obtain ⟨hi40, h⟩ := chk_inv h
      refine r_iald (pc := 40) C m_s32 (by decide) (by decide) hi40 rfl dX12_soundingBy_40 ?_
      refine r_iload_n (pc := 41) C 2 rfl rfl dX12_soundingBy_41 ?_
      refine r_icmp_ne (pc := 42) (tgt := 47) C h dX12_soundingBy_42 (by decide) (fun hc42 h => ?_) (fun hc42 h => ?_)
      · obtain ⟨v3_47, hv3_47, h⟩ := lt_inv h
        refine r_iincN (pc := 47) (y := v3_47) (lv' := [(3, vI v3_47), (0, vR b 0), (1, vI v1), (2, vI v2)]) C 3 rfl hv3_47 dX12_soundingBy_47 (by decide) rfl ?_
        refine r_goto (pc := 50) (tgt := 2) C dX12_soundingBy_50 (by decide) ?_
        refine r_sub (lv' := [(0, vR b 0), (1, vI v1), (2, vI v2), (3, vI v3_47)]) [1, 2, 3, 0] rfl ?_
        exact hrec _ h
      · refine r_iload_n (pc := 45) C 3 rfl rfl dX12_soundingBy_45 ?_
        have e := hret _ (Option.some.inj h).symm
        exact r_iret (pc := 46) C hr (congrArg (fun z => some (vI z)) e.symm) rfl dX12_soundingBy_46
set_option maxHeartbeats 4000000 in
theorem w_m_soundingBy_L2 (C : mCX p s m args meth c cX12_soundingBy 4 RX12 D E b) (hr : meth.sig.returnType = (some .int)) {r0 : Int} {v1 : Int} {v2 : Int} {M : Mem} {q : (Int) ⊕ (Int)} (hret : ∀ r, q = .inl r → r = r0) (hfol : ∀ (v3 : Int), q = .inr v3 → mWX p l e 1 12 s m args below meth c 4 D E b (some (vI r0)) M M 53 [] []) : ∀ (n : Nat) (v3 : Int), itr1 (m_soundingBy_L2 v1 v2 M) n v3 = some q →
    mWX p l e 1 12 s m args below meth c 4 D E b (some (vI r0)) M M 2 [(0, vR b 0), (1, vI v1), (2, vI v2), (3, vI v3)] [] := by
  intro n
  induction n with
  | zero => exact fun _ h => itr_z h
  | succ n ih => exact fun _ h => w_m_soundingBy_L2_s C hr ih hret hfol h
set_option maxHeartbeats 4000000 in
set_option maxRecDepth 20000 in
theorem c_m_soundingBy (l : Launch) {x1 : Int} {x2 : Int} {M : Mem} {r0 : Int} (h : m_soundingBy x1 x2 M = some r0) : Ct l yX12_soundingBy cX12_soundingBy 4 (some .int) 1 12 vwCl mSh mN mRf mExt (fun b => [vR b 0, vI x1, vI x2]) M (fun b => (some (vI r0))) M := by
  refine Ct_of mExtOK (by decide) (fun b => Nat.le_of_ble_eq_true rfl) ?_
  intro p e s m args below meth c D E b C hr
  unfold m_soundingBy at h
  refine (show mWX p l e 1 12 s m args below meth c 4 D E b (some (vI r0)) M M 0 [(0, vR b 0), (1, vI x1), (2, vI x2)] [] from ?_)
  refine r_iconst (pc := 0) C dX12_soundingBy_0 ?_
  refine r_istore_n (pc := 1) (lv' := [(3, vI 0), (0, vR b 0), (1, vI x1), (2, vI x2)]) C rfl dX12_soundingBy_1 (by decide) rfl ?_
  refine r_sub (lv' := [(0, vR b 0), (1, vI x1), (2, vI x2), (3, vI 0)]) [1, 2, 3, 0] rfl ?_
  obtain ⟨q1, hl1, h⟩ := bnd_inv h
  refine w_m_soundingBy_L2 C hr (fun r hq => ?_) (fun v3_1 hq => ?_) FUEL _ hl1
  · have hq := hq.symm
    subst hq
    exact Option.some.inj h
  · have hq := hq.symm
    subst hq
    refine r_iconst (pc := 53) C dX12_soundingBy_53 ?_
    have e := Option.some.inj h
    exact r_iret (pc := 54) C hr (congrArg (fun z => some (vI z)) e.symm) rfl dX12_soundingBy_54
set_option maxHeartbeats 4000000 in
set_option maxRecDepth 20000 in
theorem w_m_busyMany_L4_s (C : mCX p s m args meth c cX12_busyMany 4 RX12 D E b) (hr : meth.sig.returnType = (some .int)) {r0 : Int} {v1 : Int} {M : Mem} {v2 : Int} {v3 : Int} {q : Int × Int} {rec : Int → Int → Option (Int × Int)} (hrec : ∀ (v2 : Int) (v3 : Int), rec v2 v3 = some q → mWX p l e 2 35 s m args below meth c 4 D E b (some (vI r0)) M M 4 [(0, vR b 0), (1, vI v1), (2, vI v2), (3, vI v3)] []) (hfol : ∀ (v2 : Int) (v3 : Int), q = (v2, v3) → mWX p l e 2 35 s m args below meth c 4 D E b (some (vI r0)) M M 41 [(2, vI v2)] []) (h : m_busyMany_L4 v1 M rec v2 v3 = some q) :
    mWX p l e 2 35 s m args below meth c 4 D E b (some (vI r0)) M M 4 [(0, vR b 0), (1, vI v1), (2, vI v2), (3, vI v3)] [] := by
  unfold m_busyMany_L4 at h
  refine r_iload_n (pc := 4) C 3 rfl rfl dX12_busyMany_4 ?_
  refine r_aload_n (pc := 5) C 0 rfl rfl dX12_busyMany_5 ?_
  refine r_getR (pc := 6) C fl_RX12_54 m_s0 (by decide) m_k14 m_r14 dX12_busyMany_6 ?_
  refine r_aload_n (pc := 9) C 0 rfl rfl dX12_busyMany_9 ?_
  refine r_getI (pc := 10) C fl_RX12_51 m_s0 (by decide) m_k13 dX12_busyMany_10 ?_
  obtain ⟨hi13, h⟩ := chk_inv h
  refine r_iald (pc := 13) C m_s2 (by decide) (by decide) hi13 rfl dX12_busyMany_13 ?_
  refine r_icmp_ge (pc := 14) (tgt := 41) C h dX12_busyMany_14 (by decide) (fun hc14 h => ?_) (fun hc14 h => ?_)
  · refine r_sub (lv' := [(2, vI v2)]) [2] rfl ?_
    exact hfol _ _ (Option.some.inj h).symm
  · refine r_iload_n (pc := 17) C 2 rfl rfl dX12_busyMany_17 ?_
    refine r_aload_n (pc := 18) C 0 rfl rfl dX12_busyMany_18 ?_
    refine r_iload_n (pc := 19) C 1 rfl rfl dX12_busyMany_19 ?_
    refine r_iload_n (pc := 20) C 3 rfl rfl dX12_busyMany_20 ?_
    obtain ⟨r1, hq1, h⟩ := bnd_inv h
    refine r_callV (pc := 21) (rest := [vI v2]) (st1 := [vI r1, vI v2]) C (mExtOK b) [vI v1, vI v3] (c_m_soundingBy l hq1) cl_RX12_425 m_s0 (by decide) rfl rfl rfl rfl ⟨Nat.le_of_ble_eq_true rfl, Nat.le_of_ble_eq_true rfl⟩ (Nat.le_of_ble_eq_true rfl) rfl rfl dX12_busyMany_21 ?_
    refine r_iconst (pc := 24) C dX12_busyMany_24 ?_
    refine r_icmp_ne (pc := 25) (tgt := 32) C h dX12_busyMany_25 (by decide) (fun hc25 h => ?_) (fun hc25 h => ?_)
    · refine r_iconst (pc := 32) C dX12_busyMany_32 ?_
      refine r_iadd (pc := 33) C dX12_busyMany_33 ?_
      obtain ⟨v2_34, hv2_34, h⟩ := lt_inv h
      refine r_topI hv2_34 ?_
      refine r_istore_n (pc := 34) (lv' := [(2, vI v2_34), (0, vR b 0), (1, vI v1), (3, vI v3)]) C rfl dX12_busyMany_34 (by decide) rfl ?_
      obtain ⟨v3_35, hv3_35, h⟩ := lt_inv h
      refine r_iincN (pc := 35) (y := v3_35) (lv' := [(3, vI v3_35), (2, vI v2_34), (0, vR b 0), (1, vI v1)]) C 3 rfl hv3_35 dX12_busyMany_35 (by decide) rfl ?_
      refine r_goto (pc := 38) (tgt := 4) C dX12_busyMany_38 (by decide) ?_
      refine r_sub (lv' := [(0, vR b 0), (1, vI v1), (2, vI v2_34), (3, vI v3_35)]) [2, 3, 1, 0] rfl ?_
      exact hrec _ _ h
    · refine r_iconst (pc := 28) C dX12_busyMany_28 ?_
      refine r_goto (pc := 29) (tgt := 33) C dX12_busyMany_29 (by decide) ?_
      refine r_iadd (pc := 33) C dX12_busyMany_33 ?_
      obtain ⟨v2_34, hv2_34, h⟩ := lt_inv h
      refine r_topI hv2_34 ?_
      refine r_istore_n (pc := 34) (lv' := [(2, vI v2_34), (0, vR b 0), (1, vI v1), (3, vI v3)]) C rfl dX12_busyMany_34 (by decide) rfl ?_
      obtain ⟨v3_35, hv3_35, h⟩ := lt_inv h
      refine r_iincN (pc := 35) (y := v3_35) (lv' := [(3, vI v3_35), (2, vI v2_34), (0, vR b 0), (1, vI v1)]) C 3 rfl hv3_35 dX12_busyMany_35 (by decide) rfl ?_
      refine r_goto (pc := 38) (tgt := 4) C dX12_busyMany_38 (by decide) ?_
      refine r_sub (lv' := [(0, vR b 0), (1, vI v1), (2, vI v2_34), (3, vI v3_35)]) [2, 3, 1, 0] rfl ?_
      exact hrec _ _ h
set_option maxHeartbeats 4000000 in
theorem w_m_busyMany_L4 (C : mCX p s m args meth c cX12_busyMany 4 RX12 D E b) (hr : meth.sig.returnType = (some .int)) {r0 : Int} {v1 : Int} {M : Mem} {q : Int × Int} (hfol : ∀ (v2 : Int) (v3 : Int), q = (v2, v3) → mWX p l e 2 35 s m args below meth c 4 D E b (some (vI r0)) M M 41 [(2, vI v2)] []) : ∀ (n : Nat) (v2 : Int) (v3 : Int), itr2 (m_busyMany_L4 v1 M) n v2 v3 = some q →
    mWX p l e 2 35 s m args below meth c 4 D E b (some (vI r0)) M M 4 [(0, vR b 0), (1, vI v1), (2, vI v2), (3, vI v3)] [] := by
  intro n
  induction n with
  | zero => exact fun _ _ h => itr_z h
  | succ n ih => exact fun _ _ h => w_m_busyMany_L4_s C hr ih hfol h
set_option maxHeartbeats 4000000 in
set_option maxRecDepth 20000 in
theorem c_m_busyMany (l : Launch) {x1 : Int} {M : Mem} {r0 : Int} (h : m_busyMany x1 M = some r0) : Ct l yX12_busyMany cX12_busyMany 4 (some .int) 2 35 vwCl mSh mN mRf mExt (fun b => [vR b 0, vI x1]) M (fun b => (some (vI r0))) M := by
  refine Ct_of mExtOK (by decide) (fun b => Nat.le_of_ble_eq_true rfl) ?_
  intro p e s m args below meth c D E b C hr
  unfold m_busyMany at h
  refine (show mWX p l e 2 35 s m args below meth c 4 D E b (some (vI r0)) M M 0 [(0, vR b 0), (1, vI x1)] [] from ?_)
  refine r_iconst (pc := 0) C dX12_busyMany_0 ?_
  refine r_istore_n (pc := 1) (lv' := [(2, vI 0), (0, vR b 0), (1, vI x1)]) C rfl dX12_busyMany_1 (by decide) rfl ?_
  refine r_iconst (pc := 2) C dX12_busyMany_2 ?_
  refine r_istore_n (pc := 3) (lv' := [(3, vI 0), (2, vI 0), (0, vR b 0), (1, vI x1)]) C rfl dX12_busyMany_3 (by decide) rfl ?_
  refine r_sub (lv' := [(0, vR b 0), (1, vI x1), (2, vI 0), (3, vI 0)]) [2, 3, 1, 0] rfl ?_
  obtain ⟨q2, hl2, h⟩ := bnd_inv h
  refine w_m_busyMany_L4 C hr (fun v2_2 v3_2 hq => ?_) FUEL _ _ hl2
  have hq := hq.symm
  subst hq
  refine r_iload_n (pc := 41) C 0 rfl rfl dX12_busyMany_41 ?_
  have e := Option.some.inj h
  exact r_iret (pc := 42) C hr (congrArg (fun z => some (vI z)) e.symm) rfl dX12_busyMany_42
set_option maxHeartbeats 4000000 in
set_option maxRecDepth 20000 in
theorem c_m_isFree (l : Launch) {x1 : Int} {x2 : Int} {M : Mem} {r0 : Bool} (h : m_isFree x1 x2 M = some r0) : Ct l yX12_isFree cX12_isFree 3 (some .boolean) 2 35 vwCl mSh mN mRf mExt (fun b => [vR b 0, vI x1, vI x2]) M (fun b => (some (vB r0))) M := by
  refine Ct_of mExtOK (by decide) (fun b => Nat.le_of_ble_eq_true rfl) ?_
  intro p e s m args below meth c D E b C hr
  unfold m_isFree at h
  refine (show mWX p l e 2 35 s m args below meth c 3 D E b (some (vB r0)) M M 0 [(0, vR b 0), (1, vI x1), (2, vI x2)] [] from ?_)
  refine r_aload_n (pc := 0) C 0 rfl rfl dX12_isFree_0 ?_
  refine r_getR (pc := 1) C fl_RX12_156 m_s0 (by decide) m_k47 m_r47 dX12_isFree_1 ?_
  refine r_iload_n (pc := 4) C 1 rfl rfl dX12_isFree_4 ?_
  obtain ⟨hi5, h⟩ := chk_inv h
  refine r_iald (pc := 5) C m_s28 (by decide) (by decide) hi5 rfl dX12_isFree_5 ?_
  refine r_iload_n (pc := 6) C 2 rfl rfl dX12_isFree_6 ?_
  obtain ⟨r1, hq1, h⟩ := bnd_inv h
  refine r_callS (pc := 7) (rest := []) (st1 := [vB r1]) C (mExtOK b) [vI (M 28 x1.toNat), vI x2] (c_m_has2 l hq1) cl_RX12_428 rfl rfl ⟨Nat.le_of_ble_eq_true rfl, Nat.le_of_ble_eq_true rfl⟩ (Nat.le_of_ble_eq_true rfl) rfl rfl dX12_isFree_7 ?_
  refine r_if_neB (pc := 10) (tgt := 27) C h dX12_isFree_10 (by decide) (fun hc10 h => ?_) (fun hc10 h => ?_)
  · refine r_iconst (pc := 27) C dX12_isFree_27 ?_
    have e := Option.some.inj h
    exact r_zret (pc := 28) C hr (Or.inl rfl) (congrArg (fun z => some (vB z)) e.symm) rfl dX12_isFree_28
  · refine r_aload_n (pc := 13) C 0 rfl rfl dX12_isFree_13 ?_
    refine r_iload_n (pc := 14) C 1 rfl rfl dX12_isFree_14 ?_
    refine r_iload_n (pc := 15) C 2 rfl rfl dX12_isFree_15 ?_
    obtain ⟨r2, hq2, h⟩ := bnd_inv h
    refine r_callV (pc := 16) (rest := []) (st1 := [vI r2]) C (mExtOK b) [vI x1, vI x2] (c_m_soundingBy l hq2) cl_RX12_425 m_s0 (by decide) rfl rfl rfl rfl ⟨Nat.le_of_ble_eq_true rfl, Nat.le_of_ble_eq_true rfl⟩ (Nat.le_of_ble_eq_true rfl) rfl rfl dX12_isFree_16 ?_
    refine r_iconst (pc := 19) C dX12_isFree_19 ?_
    refine r_icmp_ne (pc := 20) (tgt := 27) C h dX12_isFree_20 (by decide) (fun hc20 h => ?_) (fun hc20 h => ?_)
    · refine r_iconst (pc := 27) C dX12_isFree_27 ?_
      have e := Option.some.inj h
      exact r_zret (pc := 28) C hr (Or.inl rfl) (congrArg (fun z => some (vB z)) e.symm) rfl dX12_isFree_28
    · refine r_iconst (pc := 23) C dX12_isFree_23 ?_
      refine r_goto (pc := 24) (tgt := 28) C dX12_isFree_24 (by decide) ?_
      have e := Option.some.inj h
      exact r_zret (pc := 28) C hr (Or.inr rfl) (congrArg (fun z => some (vB z)) e.symm) rfl dX12_isFree_28
set_option maxHeartbeats 4000000 in
set_option maxRecDepth 20000 in
theorem w_m_writesDown_B87 (C : mCX p s m args meth c cX12_writesDown 5 RX12 D E b) (hr : meth.sig.returnType = none) {M0 : Mem} {M : Mem} {v1 : Int} {v2 : Int} {v3 : Int} (h : m_writesDown_B87 v1 v2 v3 M = some M0) :
    mWX p l e 1 12 s m args below meth c 5 D E b none M0 M 87 [(0, vR b 0), (1, vI v1), (2, vI v2), (3, vI v3)] [] := by
  unfold m_writesDown_B87 at h
  refine r_iconst (pc := 87) C dX12_writesDown_87 ?_
  refine r_bipush (pc := 88) (j := 40) C (by decide +kernel) dX12_writesDown_88 ?_
  refine r_iload_n (pc := 90) C 1 rfl rfl dX12_writesDown_90 ?_
  refine r_imul (pc := 91) C dX12_writesDown_91 ?_
  refine r_aload_n (pc := 92) C 0 rfl rfl dX12_writesDown_92 ?_
  refine r_getR (pc := 93) C fl_RX12_177 m_s0 (by decide) m_k54 m_r54 dX12_writesDown_93 ?_
  refine r_iload_n (pc := 96) C 1 rfl rfl dX12_writesDown_96 ?_
  obtain ⟨hi97, h⟩ := chk_inv h
  refine r_iald (pc := 97) C m_s35 (by decide) (by decide) hi97 rfl dX12_writesDown_97 ?_
  refine r_iadd (pc := 98) C dX12_writesDown_98 ?_
  refine r_imul (pc := 99) C dX12_writesDown_99 ?_
  obtain ⟨v4_100, hv4_100, h⟩ := lt_inv h
  refine r_topI hv4_100 ?_
  refine r_istore (pc := 100) (lv' := [(4, vI v4_100), (0, vR b 0), (1, vI v1), (2, vI v2), (3, vI v3)]) C dX12_writesDown_100 (by decide) rfl ?_
  refine r_aload_n (pc := 102) C 1 rfl rfl dX12_writesDown_102 ?_
  refine r_getR (pc := 103) C fl_RX12_180 m_s0 (by decide) m_k55 m_r55 dX12_writesDown_103 ?_
  refine r_iload (pc := 106) C 0 rfl dX12_writesDown_106 ?_
  refine r_aload_n (pc := 108) C 1 rfl rfl dX12_writesDown_108 ?_
  refine r_getR (pc := 109) C fl_RX12_147 m_s0 (by decide) m_k44 m_r44 dX12_writesDown_109 ?_
  refine r_iload_n (pc := 112) C 2 rfl rfl dX12_writesDown_112 ?_
  obtain ⟨hi113, h⟩ := chk_inv h
  refine r_iald (pc := 113) C m_s25 (by decide) (by decide) hi113 rfl dX12_writesDown_113 ?_
  obtain ⟨hi114, h⟩ := chk_inv h
  obtain ⟨M_114, hM_114, h⟩ := lt_inv h
  refine r_iast (pc := 114) C m_s36 (by decide) (by decide) hi114 rfl hM_114 dX12_writesDown_114 ?_
  refine r_aload_n (pc := 115) C 1 rfl rfl dX12_writesDown_115 ?_
  refine r_getR (pc := 116) C fl_RX12_180 m_s0 (by decide) m_k55 m_r55 dX12_writesDown_116 ?_
  refine r_iload (pc := 119) C 0 rfl dX12_writesDown_119 ?_
  refine r_iconst (pc := 121) C dX12_writesDown_121 ?_
  refine r_iadd (pc := 122) C dX12_writesDown_122 ?_
  refine r_iload_n (pc := 123) C 3 rfl rfl dX12_writesDown_123 ?_
  obtain ⟨hi124, h⟩ := chk_inv h
  obtain ⟨M_124, hM_124, h⟩ := lt_inv h
  refine r_iast (pc := 124) C m_s36 (by decide) (by decide) hi124 rfl hM_124 dX12_writesDown_124 ?_
  refine r_aload_n (pc := 125) C 1 rfl rfl dX12_writesDown_125 ?_
  refine r_getR (pc := 126) C fl_RX12_180 m_s0 (by decide) m_k55 m_r55 dX12_writesDown_126 ?_
  refine r_iload (pc := 129) C 0 rfl dX12_writesDown_129 ?_
  refine r_iconst (pc := 131) C dX12_writesDown_131 ?_
  refine r_iadd (pc := 132) C dX12_writesDown_132 ?_
  refine r_iload_n (pc := 133) C 4 rfl rfl dX12_writesDown_133 ?_
  obtain ⟨hi134, h⟩ := chk_inv h
  obtain ⟨M_134, hM_134, h⟩ := lt_inv h
  refine r_iast (pc := 134) C m_s36 (by decide) (by decide) hi134 rfl hM_134 dX12_writesDown_134 ?_
  refine r_aload_n (pc := 135) C 1 rfl rfl dX12_writesDown_135 ?_
  refine r_getR (pc := 136) C fl_RX12_177 m_s0 (by decide) m_k54 m_r54 dX12_writesDown_136 ?_
  refine r_iload_n (pc := 139) C 2 rfl rfl dX12_writesDown_139 ?_
  refine r_dup2 (pc := 140) C rfl rfl dX12_writesDown_140 ?_
  obtain ⟨hi141, h⟩ := chk_inv h
  refine r_iald (pc := 141) C m_s35 (by decide) (by decide) hi141 rfl dX12_writesDown_141 ?_
  refine r_iconst (pc := 142) C dX12_writesDown_142 ?_
  refine r_iadd (pc := 143) C dX12_writesDown_143 ?_
  obtain ⟨hi144, h⟩ := chk_inv h
  obtain ⟨M_144, hM_144, h⟩ := lt_inv h
  refine r_iast (pc := 144) C m_s35 (by decide) (by decide) hi144 rfl hM_144 dX12_writesDown_144 ?_
  have e := Option.some.inj h
  exact r_vret (pc := 145) C hr rfl e.symm dX12_writesDown_145
set_option maxHeartbeats 4000000 in
set_option maxRecDepth 20000 in
theorem w_m_writesDown_L41_s (C : mCX p s m args meth c cX12_writesDown 5 RX12 D E b) (hr : meth.sig.returnType = none) {M0 : Mem} {v1 : Int} {v2 : Int} {v3 : Int} {v4 : Int} {M : Mem} {q : Int × Mem} {rec : Int → Mem → Option (Int × Mem)} (hrec : ∀ (v4 : Int) (M : Mem), rec v4 M = some q → mWX p l e 1 12 s m args below meth c 5 D E b none M0 M 41 [(0, vR b 0), (1, vI v1), (2, vI v2), (3, vI v3), (4, vI v4)] []) (hfol : ∀ (v4 : Int) (M : Mem), q = (v4, M) → mWX p l e 1 12 s m args below meth c 5 D E b none M0 M 77 [(0, vR b 0), (1, vI v1), (2, vI v2), (3, vI v3)] []) (h : m_writesDown_L41 v1 v2 v3 rec v4 M = some q) :
    mWX p l e 1 12 s m args below meth c 5 D E b none M0 M 41 [(0, vR b 0), (1, vI v1), (2, vI v2), (3, vI v3), (4, vI v4)] [] := by
  unfold m_writesDown_L41 at h
  refine r_iload (pc := 41) C 4 rfl dX12_writesDown_41 ?_
  refine r_bipush (pc := 43) (j := 120) C (by decide +kernel) dX12_writesDown_43 ?_
  refine r_iload_n (pc := 45) C 1 rfl rfl dX12_writesDown_45 ?_
  refine r_imul (pc := 46) C dX12_writesDown_46 ?_
  refine r_bipush (pc := 47) (j := 120) C (by decide +kernel) dX12_writesDown_47 ?_
  refine r_iadd (pc := 49) C dX12_writesDown_49 ?_
  refine r_iconst (pc := 50) C dX12_writesDown_50 ?_
  refine r_isub (pc := 51) C dX12_writesDown_51 ?_
  refine r_icmp_ge (pc := 52) (tgt := 77) C h dX12_writesDown_52 (by decide) (fun hc52 h => ?_) (fun hc52 h => ?_)
  · refine r_sub (lv' := [(0, vR b 0), (1, vI v1), (2, vI v2), (3, vI v3)]) [0, 1, 2, 3] rfl ?_
    exact hfol _ _ (Option.some.inj h).symm
  · refine r_aload_n (pc := 55) C 0 rfl rfl dX12_writesDown_55 ?_
    refine r_getR (pc := 56) C fl_RX12_180 m_s0 (by decide) m_k55 m_r55 dX12_writesDown_56 ?_
    refine r_iload (pc := 59) C 4 rfl dX12_writesDown_59 ?_
    refine r_aload_n (pc := 61) C 0 rfl rfl dX12_writesDown_61 ?_
    refine r_getR (pc := 62) C fl_RX12_180 m_s0 (by decide) m_k55 m_r55 dX12_writesDown_62 ?_
    refine r_iload (pc := 65) C 4 rfl dX12_writesDown_65 ?_
    refine r_iconst (pc := 67) C dX12_writesDown_67 ?_
    refine r_iadd (pc := 68) C dX12_writesDown_68 ?_
    obtain ⟨hi69, h⟩ := chk_inv h
    refine r_iald (pc := 69) C m_s36 (by decide) (by decide) hi69 rfl dX12_writesDown_69 ?_
    obtain ⟨hi70, h⟩ := chk_inv h
    obtain ⟨M_70, hM_70, h⟩ := lt_inv h
    refine r_iast (pc := 70) C m_s36 (by decide) (by decide) hi70 rfl hM_70 dX12_writesDown_70 ?_
    obtain ⟨v4_71, hv4_71, h⟩ := lt_inv h
    refine r_iincN (pc := 71) (y := v4_71) (lv' := [(4, vI v4_71), (0, vR b 0), (1, vI v1), (2, vI v2), (3, vI v3)]) C 4 rfl hv4_71 dX12_writesDown_71 (by decide) rfl ?_
    refine r_goto (pc := 74) (tgt := 41) C dX12_writesDown_74 (by decide) ?_
    refine r_sub (lv' := [(0, vR b 0), (1, vI v1), (2, vI v2), (3, vI v3), (4, vI v4_71)]) [1, 2, 3, 4, 0] rfl ?_
    exact hrec _ _ h
set_option maxHeartbeats 4000000 in
theorem w_m_writesDown_L41 (C : mCX p s m args meth c cX12_writesDown 5 RX12 D E b) (hr : meth.sig.returnType = none) {M0 : Mem} {v1 : Int} {v2 : Int} {v3 : Int} {q : Int × Mem} (hfol : ∀ (v4 : Int) (M : Mem), q = (v4, M) → mWX p l e 1 12 s m args below meth c 5 D E b none M0 M 77 [(0, vR b 0), (1, vI v1), (2, vI v2), (3, vI v3)] []) : ∀ (n : Nat) (v4 : Int) (M : Mem), itr2 (m_writesDown_L41 v1 v2 v3) n v4 M = some q →
    mWX p l e 1 12 s m args below meth c 5 D E b none M0 M 41 [(0, vR b 0), (1, vI v1), (2, vI v2), (3, vI v3), (4, vI v4)] [] := by
  intro n
  induction n with
  | zero => exact fun _ _ h => itr_z h
  | succ n ih => exact fun _ _ h => w_m_writesDown_L41_s C hr ih hfol h
set_option maxHeartbeats 4000000 in
set_option maxRecDepth 20000 in
theorem c_m_writesDown (l : Launch) {x1 : Int} {x2 : Int} {x3 : Int} {M : Mem} {M0 : Mem} (h : m_writesDown x1 x2 x3 M = some M0) : Ct l yX12_writesDown cX12_writesDown 5 none 1 12 vwCl mSh mN mRf mExt (fun b => [vR b 0, vI x1, vI x2, vI x3]) M (fun b => none) M0 := by
  refine Ct_of mExtOK (by decide) (fun b => Nat.le_of_ble_eq_true rfl) ?_
  intro p e s m args below meth c D E b C hr
  unfold m_writesDown at h
  refine (show mWX p l e 1 12 s m args below meth c 5 D E b none M0 M 0 [(0, vR b 0), (1, vI x1), (2, vI x2), (3, vI x3)] [] from ?_)
  refine r_aload_n (pc := 0) C 0 rfl rfl dX12_writesDown_0 ?_
  refine r_getR (pc := 1) C fl_RX12_159 m_s0 (by decide) m_k48 m_r48 dX12_writesDown_1 ?_
  refine r_bipush (pc := 4) (j := 12) C (by decide +kernel) dX12_writesDown_4 ?_
  refine r_iload_n (pc := 6) C 1 rfl rfl dX12_writesDown_6 ?_
  refine r_imul (pc := 7) C dX12_writesDown_7 ?_
  refine r_iload_n (pc := 8) C 2 rfl rfl dX12_writesDown_8 ?_
  refine r_iadd (pc := 9) C dX12_writesDown_9 ?_
  refine r_iload_n (pc := 10) C 3 rfl rfl dX12_writesDown_10 ?_
  obtain ⟨hi11, h⟩ := chk_inv h
  obtain ⟨M_11, hM_11, h⟩ := lt_inv h
  refine r_iast (pc := 11) C m_s29 (by decide) (by decide) hi11 rfl hM_11 dX12_writesDown_11 ?_
  refine r_aload_n (pc := 12) C 0 rfl rfl dX12_writesDown_12 ?_
  refine r_getR (pc := 13) C fl_RX12_171 m_s0 (by decide) m_k52 m_r52 dX12_writesDown_13 ?_
  refine r_bipush (pc := 16) (j := 12) C (by decide +kernel) dX12_writesDown_16 ?_
  refine r_iload_n (pc := 18) C 1 rfl rfl dX12_writesDown_18 ?_
  refine r_imul (pc := 19) C dX12_writesDown_19 ?_
  refine r_iload_n (pc := 20) C 2 rfl rfl dX12_writesDown_20 ?_
  refine r_iadd (pc := 21) C dX12_writesDown_21 ?_
  refine r_iconst (pc := 22) C dX12_writesDown_22 ?_
  obtain ⟨hi23, h⟩ := chk_inv h
  obtain ⟨M_23, hM_23, h⟩ := lt_inv h
  refine r_iast (pc := 23) C m_s33 (by decide) (by decide) hi23 rfl hM_23 dX12_writesDown_23 ?_
  refine r_aload_n (pc := 24) C 0 rfl rfl dX12_writesDown_24 ?_
  refine r_getR (pc := 25) C fl_RX12_177 m_s0 (by decide) m_k54 m_r54 dX12_writesDown_25 ?_
  refine r_iload_n (pc := 28) C 1 rfl rfl dX12_writesDown_28 ?_
  obtain ⟨hi29, h⟩ := chk_inv h
  refine r_iald (pc := 29) C m_s35 (by decide) (by decide) hi29 rfl dX12_writesDown_29 ?_
  refine r_bipush (pc := 30) (j := 40) C (by decide +kernel) dX12_writesDown_30 ?_
  refine r_icmp_ne (pc := 32) (tgt := 87) C h dX12_writesDown_32 (by decide) (fun hc32 h => ?_) (fun hc32 h => ?_)
  · refine r_sub (lv' := [(0, vR b 0), (1, vI x1), (2, vI x2), (3, vI x3)]) [0, 1, 2, 3] rfl ?_
    exact w_m_writesDown_B87 C hr h
  · refine r_bipush (pc := 35) (j := 120) C (by decide +kernel) dX12_writesDown_35 ?_
    refine r_iload_n (pc := 37) C 1 rfl rfl dX12_writesDown_37 ?_
    refine r_imul (pc := 38) C dX12_writesDown_38 ?_
    obtain ⟨v4_39, hv4_39, h⟩ := lt_inv h
    refine r_topI hv4_39 ?_
    refine r_istore (pc := 39) (lv' := [(4, vI v4_39), (0, vR b 0), (1, vI x1), (2, vI x2), (3, vI x3)]) C dX12_writesDown_39 (by decide) rfl ?_
    refine r_sub (lv' := [(0, vR b 0), (1, vI x1), (2, vI x2), (3, vI x3), (4, vI v4_39)]) [1, 2, 3, 4, 0] rfl ?_
    obtain ⟨q1, hl1, h⟩ := bnd_inv h
    refine w_m_writesDown_L41 C hr (fun v4_1 M_1 hq => ?_) FUEL _ _ hl1
    have hq := hq.symm
    subst hq
    refine r_aload_n (pc := 77) C 0 rfl rfl dX12_writesDown_77 ?_
    refine r_getR (pc := 78) C fl_RX12_177 m_s0 (by decide) m_k54 m_r54 dX12_writesDown_78 ?_
    refine r_iload_n (pc := 81) C 1 rfl rfl dX12_writesDown_81 ?_
    refine r_dup2 (pc := 82) C rfl rfl dX12_writesDown_82 ?_
    obtain ⟨hi83, h⟩ := chk_inv h
    refine r_iald (pc := 83) C m_s35 (by decide) (by decide) hi83 rfl dX12_writesDown_83 ?_
    refine r_iconst (pc := 84) C dX12_writesDown_84 ?_
    refine r_isub (pc := 85) C dX12_writesDown_85 ?_
    obtain ⟨hi86, h⟩ := chk_inv h
    obtain ⟨M_86, hM_86, h⟩ := lt_inv h
    refine r_iast (pc := 86) C m_s35 (by decide) (by decide) hi86 rfl hM_86 dX12_writesDown_86 ?_
    refine r_sub (lv' := [(0, vR b 0), (1, vI x1), (2, vI x2), (3, vI x3)]) [0, 1, 2, 3] rfl ?_
    exact w_m_writesDown_B87 C hr h
set_option maxHeartbeats 4000000 in
set_option maxRecDepth 20000 in
theorem c_m_strikes (l : Launch) {x1 : Int} {x2 : Int} {M : Mem} {M0 : Mem} (h : m_strikes x1 x2 M = some M0) : Ct l yX12_strikes cX12_strikes 4 none 2 36 vwCl mSh mN mRf mExt (fun b => [vR b 0, vI x1, vI x2]) M (fun b => none) M0 := by
  refine Ct_of mExtOK (by decide) (fun b => Nat.le_of_ble_eq_true rfl) ?_
  intro p e s m args below meth c D E b C hr
  unfold m_strikes at h
  refine (show mWX p l e 2 36 s m args below meth c 4 D E b none M0 M 0 [(0, vR b 0), (1, vI x1), (2, vI x2)] [] from ?_)
  refine r_aload_n (pc := 0) C 0 rfl rfl dX12_strikes_0 ?_
  refine r_getR (pc := 1) C fl_RX12_156 m_s0 (by decide) m_k47 m_r47 dX12_strikes_1 ?_
  refine r_iload_n (pc := 4) C 1 rfl rfl dX12_strikes_4 ?_
  refine r_dup2 (pc := 5) C rfl rfl dX12_strikes_5 ?_
  obtain ⟨hi6, h⟩ := chk_inv h
  refine r_iald (pc := 6) C m_s28 (by decide) (by decide) hi6 rfl dX12_strikes_6 ?_
  refine r_iconst (pc := 7) C dX12_strikes_7 ?_
  refine r_iload_n (pc := 8) C 2 rfl rfl dX12_strikes_8 ?_
  refine r_ishl (pc := 9) C dX12_strikes_9 ?_
  refine r_ior (pc := 10) C dX12_strikes_10 ?_
  obtain ⟨hi11, h⟩ := chk_inv h
  obtain ⟨M_11, hM_11, h⟩ := lt_inv h
  refine r_iast (pc := 11) C m_s28 (by decide) (by decide) hi11 rfl hM_11 dX12_strikes_11 ?_
  refine r_aload_n (pc := 12) C 0 rfl rfl dX12_strikes_12 ?_
  refine r_iload_n (pc := 13) C 1 rfl rfl dX12_strikes_13 ?_
  refine r_iload_n (pc := 14) C 2 rfl rfl dX12_strikes_14 ?_
  obtain ⟨r1, hq1, h⟩ := bnd_inv h
  refine r_callV (pc := 15) (rest := []) (st1 := [vI r1]) C (mExtOK b) [vI x1, vI x2] (c_m_soundingBy l hq1) cl_RX12_425 m_s0 (by decide) rfl rfl rfl rfl ⟨Nat.le_of_ble_eq_true rfl, Nat.le_of_ble_eq_true rfl⟩ (Nat.le_of_ble_eq_true rfl) rfl rfl dX12_strikes_15 ?_
  refine r_istore_n (pc := 18) (lv' := [(3, vI r1), (0, vR b 0), (1, vI x1), (2, vI x2)]) C rfl dX12_strikes_18 (by decide) rfl ?_
  refine r_iload_n (pc := 19) C 0 rfl rfl dX12_strikes_19 ?_
  refine r_iconst (pc := 20) C dX12_strikes_20 ?_
  refine r_icmp_eq (pc := 21) (tgt := 31) C h dX12_strikes_21 (by decide) (fun hc21 h => ?_) (fun hc21 h => ?_)
  · have e := Option.some.inj h
    exact r_vret (pc := 31) C hr rfl e.symm dX12_strikes_31
  · refine r_aload_n (pc := 24) C 1 rfl rfl dX12_strikes_24 ?_
    refine r_iload_n (pc := 25) C 2 rfl rfl dX12_strikes_25 ?_
    refine r_iload_n (pc := 26) C 0 rfl rfl dX12_strikes_26 ?_
    refine r_iconst (pc := 27) C dX12_strikes_27 ?_
    obtain ⟨M2, hq2, h⟩ := bnd_inv h
    refine r_callV (pc := 28) (rest := []) (st1 := []) C (mExtOK b) [vI x1, vI r1, vI 5] (c_m_writesDown l hq2) cl_RX12_432 m_s0 (by decide) rfl rfl rfl rfl ⟨Nat.le_of_ble_eq_true rfl, Nat.le_of_ble_eq_true rfl⟩ (Nat.le_of_ble_eq_true rfl) rfl rfl dX12_strikes_28 ?_
    have e := Option.some.inj h
    exact r_vret (pc := 31) C hr rfl e.symm dX12_strikes_31
set_option maxHeartbeats 4000000 in
set_option maxRecDepth 20000 in
theorem w_m_isGiven_B76 (C : mCX p s m args meth c cX12_isGiven 5 RX12 D E b) (hr : meth.sig.returnType = none) {M0 : Mem} {M : Mem} {v1 : Int} {v2 : Int} {v3 : Int} (h : m_isGiven_B76 v1 v2 v3 M = some M0) :
    mWX p l e 4 85 s m args below meth c 5 D E b none M0 M 76 [(0, vR b 0), (1, vI v1), (2, vI v2), (3, vI v3)] [] := by
  unfold m_isGiven_B76 at h
  refine r_aload_n (pc := 76) C 0 rfl rfl dX12_isGiven_76 ?_
  refine r_iload_n (pc := 77) C 1 rfl rfl dX12_isGiven_77 ?_
  refine r_iload_n (pc := 78) C 2 rfl rfl dX12_isGiven_78 ?_
  obtain ⟨M1, hq1, h⟩ := bnd_inv h
  refine r_callV (pc := 79) (rest := []) (st1 := []) C (mExtOK b) [vI v1, vI v2] (c_m_lays l hq1) cl_RX12_415 m_s0 (by decide) rfl rfl rfl rfl ⟨Nat.le_of_ble_eq_true rfl, Nat.le_of_ble_eq_true rfl⟩ (Nat.le_of_ble_eq_true rfl) rfl rfl dX12_isGiven_79 ?_
  refine r_aload_n (pc := 82) C 0 rfl rfl dX12_isGiven_82 ?_
  refine r_getR (pc := 83) C fl_RX12_195 m_s0 (by decide) m_k60 m_r60 dX12_isGiven_83 ?_
  refine r_iconst (pc := 86) C dX12_isGiven_86 ?_
  refine r_aload_n (pc := 87) C 0 rfl rfl dX12_isGiven_87 ?_
  refine r_getR (pc := 88) C fl_RX12_150 m_s0 (by decide) m_k45 m_r45 dX12_isGiven_88 ?_
  refine r_bipush (pc := 91) (j := 7) C (by decide +kernel) dX12_isGiven_91 ?_
  refine r_iload_n (pc := 93) C 1 rfl rfl dX12_isGiven_93 ?_
  refine r_imul (pc := 94) C dX12_isGiven_94 ?_
  refine r_iload_n (pc := 95) C 3 rfl rfl dX12_isGiven_95 ?_
  refine r_iadd (pc := 96) C dX12_isGiven_96 ?_
  obtain ⟨hi97, h⟩ := chk_inv h
  refine r_iald (pc := 97) C m_s26 (by decide) (by decide) hi97 rfl dX12_isGiven_97 ?_
  obtain ⟨M_98, hM_98, h⟩ := lt_inv h
  refine r_iast (pc := 98) C m_s38 (by decide) (by decide) (by decide) rfl hM_98 dX12_isGiven_98 ?_
  refine r_aload_n (pc := 99) C 0 rfl rfl dX12_isGiven_99 ?_
  refine r_getR (pc := 100) C fl_RX12_195 m_s0 (by decide) m_k60 m_r60 dX12_isGiven_100 ?_
  refine r_bipush (pc := 103) (j := 7) C (by decide +kernel) dX12_isGiven_103 ?_
  refine r_aload_n (pc := 105) C 0 rfl rfl dX12_isGiven_105 ?_
  refine r_iload_n (pc := 106) C 1 rfl rfl dX12_isGiven_106 ?_
  obtain ⟨r2, hq2, h⟩ := bnd_inv h
  refine r_callV (pc := 107) (rest := [vI 7, vR b 38]) (st1 := [vI r2, vI 7, vR b 38]) C (mExtOK b) [vI v1] (c_m_busyMany l hq2) cl_RX12_436 m_s0 (by decide) rfl rfl rfl rfl ⟨Nat.le_of_ble_eq_true rfl, Nat.le_of_ble_eq_true rfl⟩ (Nat.le_of_ble_eq_true rfl) rfl rfl dX12_isGiven_107 ?_
  obtain ⟨M_110, hM_110, h⟩ := lt_inv h
  refine r_iast (pc := 110) C m_s38 (by decide) (by decide) (by decide) rfl hM_110 dX12_isGiven_110 ?_
  refine r_aload_n (pc := 111) C 0 rfl rfl dX12_isGiven_111 ?_
  refine r_iconst (pc := 112) C dX12_isGiven_112 ?_
  obtain ⟨r3, hq3, h⟩ := bnd_inv h
  refine r_callV (pc := 113) (rest := []) (st1 := [vB r3]) C (mExtOK b) [vI 1] (c_m_isTold l hq3) cl_RX12_418 m_s0 (by decide) rfl rfl rfl rfl ⟨Nat.le_of_ble_eq_true rfl, Nat.le_of_ble_eq_true rfl⟩ (Nat.le_of_ble_eq_true rfl) rfl rfl dX12_isGiven_113 ?_
  refine r_if_eqB (pc := 116) (tgt := 141) C h dX12_isGiven_116 (by decide) (fun hc116 h => ?_) (fun hc116 h => ?_)
  · refine r_aload_n (pc := 119) C 0 rfl rfl dX12_isGiven_119 ?_
    refine r_iconst (pc := 120) C dX12_isGiven_120 ?_
    obtain ⟨r4, M4, hq4, h⟩ := bnd2_inv h
    refine r_callV (pc := 121) (rest := []) (st1 := [vL r4]) C (mExtOK b) [vI 1] (c_m_reckons l hq4) cl_RX12_421 m_s0 (by decide) rfl rfl rfl rfl ⟨Nat.le_of_ble_eq_true rfl, Nat.le_of_ble_eq_true rfl⟩ (Nat.le_of_ble_eq_true rfl) rfl rfl dX12_isGiven_121 ?_
    refine r_lconst (pc := 124) (j := 1) C rfl dX12_isGiven_124 ?_
    refine r_lcmp (pc := 125) C dX12_isGiven_125 ?_
    refine r_if_ne (pc := 126) (tgt := 141) C h dX12_isGiven_126 (by decide) (fun hc126 h => ?_) (fun hc126 h => ?_)
    · have e := Option.some.inj h
      exact r_vret (pc := 141) C hr rfl e.symm dX12_isGiven_141
    · refine r_aload_n (pc := 129) C 0 rfl rfl dX12_isGiven_129 ?_
      refine r_getR (pc := 130) C fl_RX12_174 m_s0 (by decide) m_k53 m_r53 dX12_isGiven_130 ?_
      refine r_iload_n (pc := 133) C 1 rfl rfl dX12_isGiven_133 ?_
      refine r_dup2 (pc := 134) C rfl rfl dX12_isGiven_134 ?_
      obtain ⟨hi135, h⟩ := chk_inv h
      refine r_iald (pc := 135) C m_s34 (by decide) (by decide) hi135 rfl dX12_isGiven_135 ?_
      refine r_iconst (pc := 136) C dX12_isGiven_136 ?_
      refine r_iload_n (pc := 137) C 2 rfl rfl dX12_isGiven_137 ?_
      refine r_ishl (pc := 138) C dX12_isGiven_138 ?_
      refine r_ior (pc := 139) C dX12_isGiven_139 ?_
      obtain ⟨hi140, h⟩ := chk_inv h
      obtain ⟨M_140, hM_140, h⟩ := lt_inv h
      refine r_iast (pc := 140) C m_s34 (by decide) (by decide) hi140 rfl hM_140 dX12_isGiven_140 ?_
      have e := Option.some.inj h
      exact r_vret (pc := 141) C hr rfl e.symm dX12_isGiven_141
  · have e := Option.some.inj h
    exact r_vret (pc := 141) C hr rfl e.symm dX12_isGiven_141
set_option maxHeartbeats 4000000 in
set_option maxRecDepth 20000 in
theorem c_m_isGiven (l : Launch) {x1 : Int} {x2 : Int} {x3 : Int} {M : Mem} {M0 : Mem} (h : m_isGiven x1 x2 x3 M = some M0) : Ct l yX12_isGiven cX12_isGiven 5 none 4 85 vwCl mSh mN mRf mExt (fun b => [vR b 0, vI x1, vI x2, vI x3]) M (fun b => none) M0 := by
  refine Ct_of mExtOK (by decide) (fun b => Nat.le_of_ble_eq_true rfl) ?_
  intro p e s m args below meth c D E b C hr
  unfold m_isGiven at h
  refine (show mWX p l e 4 85 s m args below meth c 5 D E b none M0 M 0 [(0, vR b 0), (1, vI x1), (2, vI x2), (3, vI x3)] [] from ?_)
  refine r_bipush (pc := 0) (j := 12) C (by decide +kernel) dX12_isGiven_0 ?_
  refine r_iload_n (pc := 2) C 1 rfl rfl dX12_isGiven_2 ?_
  refine r_imul (pc := 3) C dX12_isGiven_3 ?_
  refine r_iload_n (pc := 4) C 2 rfl rfl dX12_isGiven_4 ?_
  refine r_iadd (pc := 5) C dX12_isGiven_5 ?_
  obtain ⟨v4_6, hv4_6, h⟩ := lt_inv h
  refine r_topI hv4_6 ?_
  refine r_istore (pc := 6) (lv' := [(4, vI v4_6), (0, vR b 0), (1, vI x1), (2, vI x2), (3, vI x3)]) C dX12_isGiven_6 (by decide) rfl ?_
  refine r_aload_n (pc := 8) C 1 rfl rfl dX12_isGiven_8 ?_
  refine r_getR (pc := 9) C fl_RX12_159 m_s0 (by decide) m_k48 m_r48 dX12_isGiven_9 ?_
  refine r_iload (pc := 12) C 0 rfl dX12_isGiven_12 ?_
  refine r_iconst (pc := 14) C dX12_isGiven_14 ?_
  obtain ⟨hi15, h⟩ := chk_inv h
  obtain ⟨M_15, hM_15, h⟩ := lt_inv h
  refine r_iast (pc := 15) C m_s29 (by decide) (by decide) hi15 rfl hM_15 dX12_isGiven_15 ?_
  refine r_aload_n (pc := 16) C 1 rfl rfl dX12_isGiven_16 ?_
  refine r_getR (pc := 17) C fl_RX12_168 m_s0 (by decide) m_k51 m_r51 dX12_isGiven_17 ?_
  refine r_iload (pc := 20) C 0 rfl dX12_isGiven_20 ?_
  refine r_iload_n (pc := 22) C 4 rfl rfl dX12_isGiven_22 ?_
  obtain ⟨hi23, h⟩ := chk_inv h
  obtain ⟨M_23, hM_23, h⟩ := lt_inv h
  refine r_iast (pc := 23) C m_s32 (by decide) (by decide) hi23 rfl hM_23 dX12_isGiven_23 ?_
  refine r_aload_n (pc := 24) C 1 rfl rfl dX12_isGiven_24 ?_
  refine r_getR (pc := 25) C fl_RX12_171 m_s0 (by decide) m_k52 m_r52 dX12_isGiven_25 ?_
  refine r_iload (pc := 28) C 0 rfl dX12_isGiven_28 ?_
  refine r_aload_n (pc := 30) C 1 rfl rfl dX12_isGiven_30 ?_
  refine r_getR (pc := 31) C fl_RX12_78 m_s0 (by decide) m_k22 m_r22 dX12_isGiven_31 ?_
  refine r_bipush (pc := 34) (j := 12) C (by decide +kernel) dX12_isGiven_34 ?_
  refine r_aload_n (pc := 36) C 1 rfl rfl dX12_isGiven_36 ?_
  refine r_getI (pc := 37) C fl_RX12_51 m_s0 (by decide) m_k13 dX12_isGiven_37 ?_
  refine r_imul (pc := 40) C dX12_isGiven_40 ?_
  refine r_iload_n (pc := 41) C 3 rfl rfl dX12_isGiven_41 ?_
  refine r_iadd (pc := 42) C dX12_isGiven_42 ?_
  obtain ⟨hi43, h⟩ := chk_inv h
  refine r_iald (pc := 43) C m_s10 (by decide) (by decide) hi43 rfl dX12_isGiven_43 ?_
  obtain ⟨hi44, h⟩ := chk_inv h
  obtain ⟨M_44, hM_44, h⟩ := lt_inv h
  refine r_iast (pc := 44) C m_s33 (by decide) (by decide) hi44 rfl hM_44 dX12_isGiven_44 ?_
  refine r_aload_n (pc := 45) C 1 rfl rfl dX12_isGiven_45 ?_
  refine r_getR (pc := 46) C fl_RX12_153 m_s0 (by decide) m_k46 m_r46 dX12_isGiven_46 ?_
  refine r_bipush (pc := 49) (j := 7) C (by decide +kernel) dX12_isGiven_49 ?_
  refine r_iload_n (pc := 51) C 2 rfl rfl dX12_isGiven_51 ?_
  refine r_imul (pc := 52) C dX12_isGiven_52 ?_
  refine r_iload_n (pc := 53) C 4 rfl rfl dX12_isGiven_53 ?_
  refine r_iadd (pc := 54) C dX12_isGiven_54 ?_
  obtain ⟨hi55, h⟩ := chk_inv h
  refine r_iald (pc := 55) C m_s27 (by decide) (by decide) hi55 rfl dX12_isGiven_55 ?_
  refine r_bipush (pc := 56) (j := 99) C (by decide +kernel) dX12_isGiven_56 ?_
  refine r_icmp_ge (pc := 58) (tgt := 76) C h dX12_isGiven_58 (by decide) (fun hc58 h => ?_) (fun hc58 h => ?_)
  · refine r_sub (lv' := [(0, vR b 0), (1, vI x1), (2, vI x2), (3, vI x3)]) [1, 2, 3, 4] rfl ?_
    exact w_m_isGiven_B76 C hr h
  · refine r_aload_n (pc := 61) C 1 rfl rfl dX12_isGiven_61 ?_
    refine r_getR (pc := 62) C fl_RX12_153 m_s0 (by decide) m_k46 m_r46 dX12_isGiven_62 ?_
    refine r_bipush (pc := 65) (j := 7) C (by decide +kernel) dX12_isGiven_65 ?_
    refine r_iload_n (pc := 67) C 2 rfl rfl dX12_isGiven_67 ?_
    refine r_imul (pc := 68) C dX12_isGiven_68 ?_
    refine r_iload_n (pc := 69) C 4 rfl rfl dX12_isGiven_69 ?_
    refine r_iadd (pc := 70) C dX12_isGiven_70 ?_
    refine r_dup2 (pc := 71) C rfl rfl dX12_isGiven_71 ?_
    obtain ⟨hi72, h⟩ := chk_inv h
    refine r_iald (pc := 72) C m_s27 (by decide) (by decide) hi72 rfl dX12_isGiven_72 ?_
    refine r_iconst (pc := 73) C dX12_isGiven_73 ?_
    refine r_iadd (pc := 74) C dX12_isGiven_74 ?_
    obtain ⟨hi75, h⟩ := chk_inv h
    obtain ⟨M_75, hM_75, h⟩ := lt_inv h
    refine r_iast (pc := 75) C m_s27 (by decide) (by decide) hi75 rfl hM_75 dX12_isGiven_75 ?_
    refine r_sub (lv' := [(0, vR b 0), (1, vI x1), (2, vI x2), (3, vI x3)]) [1, 2, 3, 4] rfl ?_
    exact w_m_isGiven_B76 C hr h
set_option maxHeartbeats 4000000 in
set_option maxRecDepth 20000 in
theorem w_m_finds_L9_s (C : mCX p s m args meth c cX12_finds 10 RX12 D E b) (hr : meth.sig.returnType = none) {M0 : Mem} {v1 : Int} {v2 : Int} {v3 : Int} {v4 : Int} {v5 : Int} {v7 : Int} {M : Mem} {q : Int × Int × Int × Mem} {rec : Int → Int → Int → Mem → Option (Int × Int × Int × Mem)} (hrec : ∀ (v4 : Int) (v5 : Int) (v7 : Int) (M : Mem), rec v4 v5 v7 M = some q → mWX p l e 5 109 s m args below meth c 10 D E b none M0 M 9 [(0, vR b 0), (1, vI v1), (2, vI v2), (3, vI v3), (4, vI v4), (5, vL v5), (7, vI v7)] []) (hfol : ∀ (v4 : Int) (v5 : Int) (v7 : Int) (M : Mem), q = (v4, v5, v7, M) → mWX p l e 5 109 s m args below meth c 10 D E b none M0 M 80 [(0, vR b 0), (1, vI v1), (2, vI v2), (4, vI v4)] []) (h : m_finds_L9 v1 v2 v3 rec v4 v5 v7 M = some q) :
    mWX p l e 5 109 s m args below meth c 10 D E b none M0 M 9 [(0, vR b 0), (1, vI v1), (2, vI v2), (3, vI v3), (4, vI v4), (5, vL v5), (7, vI v7)] [] := by
  unfold m_finds_L9 at h
  refine r_iload (pc := 9) C 6 rfl dX12_finds_9 ?_
  refine r_aload_n (pc := 11) C 0 rfl rfl dX12_finds_11 ?_
  refine r_getR (pc := 12) C fl_RX12_54 m_s0 (by decide) m_k14 m_r14 dX12_finds_12 ?_
  refine r_aload_n (pc := 15) C 0 rfl rfl dX12_finds_15 ?_
  refine r_getI (pc := 16) C fl_RX12_51 m_s0 (by decide) m_k13 dX12_finds_16 ?_
  obtain ⟨hi19, h⟩ := chk_inv h
  refine r_iald (pc := 19) C m_s2 (by decide) (by decide) hi19 rfl dX12_finds_19 ?_
  refine r_icmp_ge (pc := 20) (tgt := 80) C h dX12_finds_20 (by decide) (fun hc20 h => ?_) (fun hc20 h => ?_)
  · refine r_sub (lv' := [(0, vR b 0), (1, vI v1), (2, vI v2), (4, vI v4)]) [0, 1, 2, 4] rfl ?_
    exact hfol _ _ _ _ (Option.some.inj h).symm
  · refine r_iload_n (pc := 23) C 3 rfl rfl dX12_finds_23 ?_
    refine r_iload (pc := 24) C 6 rfl dX12_finds_24 ?_
    obtain ⟨r1, hq1, h⟩ := bnd_inv h
    refine r_callS (pc := 26) (rest := []) (st1 := [vB r1]) C (mExtOK b) [vI v3, vI v7] (c_m_has2 l hq1) cl_RX12_428 rfl rfl ⟨Nat.le_of_ble_eq_true rfl, Nat.le_of_ble_eq_true rfl⟩ (Nat.le_of_ble_eq_true rfl) rfl rfl dX12_finds_26 ?_
    refine r_if_eqB (pc := 29) (tgt := 74) C h dX12_finds_29 (by decide) (fun hc29 h => ?_) (fun hc29 h => ?_)
    · refine r_aload_n (pc := 32) C 0 rfl rfl dX12_finds_32 ?_
      refine r_iload_n (pc := 33) C 1 rfl rfl dX12_finds_33 ?_
      refine r_iload (pc := 34) C 6 rfl dX12_finds_34 ?_
      obtain ⟨r2, hq2, h⟩ := bnd_inv h
      refine r_callV (pc := 36) (rest := []) (st1 := [vB r2]) C (mExtOK b) [vI v1, vI v7] (c_m_isFree l hq2) cl_RX12_439 m_s0 (by decide) rfl rfl rfl rfl ⟨Nat.le_of_ble_eq_true rfl, Nat.le_of_ble_eq_true rfl⟩ (Nat.le_of_ble_eq_true rfl) rfl rfl dX12_finds_36 ?_
      refine r_if_neB (pc := 39) (tgt := 45) C h dX12_finds_39 (by decide) (fun hc39 h => ?_) (fun hc39 h => ?_)
      · refine r_aload_n (pc := 45) C 0 rfl rfl dX12_finds_45 ?_
        refine r_iload_n (pc := 46) C 1 rfl rfl dX12_finds_46 ?_
        refine r_iload_n (pc := 47) C 2 rfl rfl dX12_finds_47 ?_
        refine r_iload (pc := 48) C 6 rfl dX12_finds_48 ?_
        obtain ⟨r3, M3, hq3, h⟩ := bnd2_inv h
        refine r_callV (pc := 50) (rest := []) (st1 := [vL r3]) C (mExtOK b) [vI v1, vI v2, vI v7] (c_m_pickOf l hq3) cl_RX12_442 m_s0 (by decide) rfl rfl rfl rfl ⟨Nat.le_of_ble_eq_true rfl, Nat.le_of_ble_eq_true rfl⟩ (Nat.le_of_ble_eq_true rfl) rfl rfl dX12_finds_50 ?_
        refine r_lstore (pc := 53) (lv' := [(8, vL r3), (0, vR b 0), (1, vI v1), (2, vI v2), (3, vI v3), (4, vI v4), (5, vL v5), (7, vI v7)]) C dX12_finds_53 (by decide) rfl ?_
        refine r_lload (pc := 55) C 0 rfl dX12_finds_55 ?_
        refine r_lload (pc := 57) C 6 rfl dX12_finds_57 ?_
        refine r_lcmp (pc := 59) C dX12_finds_59 ?_
        refine r_if_gt (pc := 60) (tgt := 66) C h dX12_finds_60 (by decide) (fun hc60 h => ?_) (fun hc60 h => ?_)
        · refine r_lload (pc := 66) C 0 rfl dX12_finds_66 ?_
          refine r_lstore (pc := 68) (lv' := [(5, vL r3), (8, vL r3), (0, vR b 0), (1, vI v1), (2, vI v2), (3, vI v3), (4, vI v4), (7, vI v7)]) C dX12_finds_68 (by decide) rfl ?_
          refine r_iload (pc := 70) C 7 rfl dX12_finds_70 ?_
          refine r_istore (pc := 72) (lv' := [(4, vI v7), (5, vL r3), (8, vL r3), (0, vR b 0), (1, vI v1), (2, vI v2), (3, vI v3), (7, vI v7)]) C dX12_finds_72 (by decide) rfl ?_
          obtain ⟨v7_74, hv7_74, h⟩ := lt_inv h
          refine r_iincN (pc := 74) (y := v7_74) (lv' := [(7, vI v7_74), (4, vI v7), (5, vL r3), (8, vL r3), (0, vR b 0), (1, vI v1), (2, vI v2), (3, vI v3)]) C 7 rfl hv7_74 dX12_finds_74 (by decide) rfl ?_
          refine r_goto (pc := 77) (tgt := 9) C dX12_finds_77 (by decide) ?_
          refine r_sub (lv' := [(0, vR b 0), (1, vI v1), (2, vI v2), (3, vI v3), (4, vI v7), (5, vL r3), (7, vI v7_74)]) [4, 5, 6, 7, 1, 2, 0] rfl ?_
          exact hrec _ _ _ _ h
        · refine r_goto (pc := 63) (tgt := 74) C dX12_finds_63 (by decide) ?_
          obtain ⟨v7_74, hv7_74, h⟩ := lt_inv h
          refine r_iincN (pc := 74) (y := v7_74) (lv' := [(7, vI v7_74), (8, vL r3), (0, vR b 0), (1, vI v1), (2, vI v2), (3, vI v3), (4, vI v4), (5, vL v5)]) C 7 rfl hv7_74 dX12_finds_74 (by decide) rfl ?_
          refine r_goto (pc := 77) (tgt := 9) C dX12_finds_77 (by decide) ?_
          refine r_sub (lv' := [(0, vR b 0), (1, vI v1), (2, vI v2), (3, vI v3), (4, vI v4), (5, vL v5), (7, vI v7_74)]) [2, 3, 4, 5, 6, 7, 0] rfl ?_
          exact hrec _ _ _ _ h
      · refine r_goto (pc := 42) (tgt := 74) C dX12_finds_42 (by decide) ?_
        obtain ⟨v7_74, hv7_74, h⟩ := lt_inv h
        refine r_iincN (pc := 74) (y := v7_74) (lv' := [(7, vI v7_74), (0, vR b 0), (1, vI v1), (2, vI v2), (3, vI v3), (4, vI v4), (5, vL v5)]) C 6 rfl hv7_74 dX12_finds_74 (by decide) rfl ?_
        refine r_goto (pc := 77) (tgt := 9) C dX12_finds_77 (by decide) ?_
        refine r_sub (lv' := [(0, vR b 0), (1, vI v1), (2, vI v2), (3, vI v3), (4, vI v4), (5, vL v5), (7, vI v7_74)]) [1, 2, 3, 4, 5, 6, 0] rfl ?_
        exact hrec _ _ _ _ h
    · obtain ⟨v7_74, hv7_74, h⟩ := lt_inv h
      refine r_iincN (pc := 74) (y := v7_74) (lv' := [(7, vI v7_74), (0, vR b 0), (1, vI v1), (2, vI v2), (3, vI v3), (4, vI v4), (5, vL v5)]) C 6 rfl hv7_74 dX12_finds_74 (by decide) rfl ?_
      refine r_goto (pc := 77) (tgt := 9) C dX12_finds_77 (by decide) ?_
      refine r_sub (lv' := [(0, vR b 0), (1, vI v1), (2, vI v2), (3, vI v3), (4, vI v4), (5, vL v5), (7, vI v7_74)]) [1, 2, 3, 4, 5, 6, 0] rfl ?_
      exact hrec _ _ _ _ h
set_option maxHeartbeats 4000000 in
theorem w_m_finds_L9 (C : mCX p s m args meth c cX12_finds 10 RX12 D E b) (hr : meth.sig.returnType = none) {M0 : Mem} {v1 : Int} {v2 : Int} {v3 : Int} {q : Int × Int × Int × Mem} (hfol : ∀ (v4 : Int) (v5 : Int) (v7 : Int) (M : Mem), q = (v4, v5, v7, M) → mWX p l e 5 109 s m args below meth c 10 D E b none M0 M 80 [(0, vR b 0), (1, vI v1), (2, vI v2), (4, vI v4)] []) : ∀ (n : Nat) (v4 : Int) (v5 : Int) (v7 : Int) (M : Mem), itr4 (m_finds_L9 v1 v2 v3) n v4 v5 v7 M = some q →
    mWX p l e 5 109 s m args below meth c 10 D E b none M0 M 9 [(0, vR b 0), (1, vI v1), (2, vI v2), (3, vI v3), (4, vI v4), (5, vL v5), (7, vI v7)] [] := by
  intro n
  induction n with
  | zero => exact fun _ _ _ _ h => itr_z h
  | succ n ih => exact fun _ _ _ _ h => w_m_finds_L9_s C hr ih hfol h
set_option maxHeartbeats 4000000 in
set_option maxRecDepth 20000 in
theorem c_m_finds (l : Launch) {x1 : Int} {x2 : Int} {x3 : Int} {M : Mem} {M0 : Mem} (h : m_finds x1 x2 x3 M = some M0) : Ct l yX12_finds cX12_finds 10 none 5 109 vwCl mSh mN mRf mExt (fun b => [vR b 0, vI x1, vI x2, vI x3]) M (fun b => none) M0 := by
  refine Ct_of mExtOK (by decide) (fun b => Nat.le_of_ble_eq_true rfl) ?_
  intro p e s m args below meth c D E b C hr
  unfold m_finds at h
  refine (show mWX p l e 5 109 s m args below meth c 10 D E b none M0 M 0 [(0, vR b 0), (1, vI x1), (2, vI x2), (3, vI x3)] [] from ?_)
  refine r_iconst (pc := 0) C dX12_finds_0 ?_
  refine r_istore (pc := 1) (lv' := [(4, vI (-1)), (0, vR b 0), (1, vI x1), (2, vI x2), (3, vI x3)]) C dX12_finds_1 (by decide) rfl ?_
  refine r_lconst (pc := 3) (j := 0) C rfl dX12_finds_3 ?_
  refine r_lstore (pc := 4) (lv' := [(5, vL 0), (4, vI (-1)), (0, vR b 0), (1, vI x1), (2, vI x2), (3, vI x3)]) C dX12_finds_4 (by decide) rfl ?_
  refine r_iconst (pc := 6) C dX12_finds_6 ?_
  refine r_istore (pc := 7) (lv' := [(7, vI 0), (5, vL 0), (4, vI (-1)), (0, vR b 0), (1, vI x1), (2, vI x2), (3, vI x3)]) C dX12_finds_7 (by decide) rfl ?_
  refine r_sub (lv' := [(0, vR b 0), (1, vI x1), (2, vI x2), (3, vI x3), (4, vI (-1)), (5, vL 0), (7, vI 0)]) [3, 4, 5, 6, 2, 1, 0] rfl ?_
  obtain ⟨q4, hl4, h⟩ := bnd_inv h
  refine w_m_finds_L9 C hr (fun v4_4 v5_4 v7_4 M_4 hq => ?_) FUEL _ _ _ _ hl4
  have hq := hq.symm
  subst hq
  refine r_iload (pc := 80) C 3 rfl dX12_finds_80 ?_
  refine r_iconst (pc := 82) C dX12_finds_82 ?_
  refine r_icmp_eq (pc := 83) (tgt := 94) C h dX12_finds_83 (by decide) (fun hc83 h => ?_) (fun hc83 h => ?_)
  · have e := Option.some.inj h
    exact r_vret (pc := 94) C hr rfl e.symm dX12_finds_94
  · refine r_aload_n (pc := 86) C 0 rfl rfl dX12_finds_86 ?_
    refine r_iload_n (pc := 87) C 1 rfl rfl dX12_finds_87 ?_
    refine r_iload_n (pc := 88) C 2 rfl rfl dX12_finds_88 ?_
    refine r_iload (pc := 89) C 3 rfl dX12_finds_89 ?_
    obtain ⟨M5, hq5, h⟩ := bnd_inv h
    refine r_callV (pc := 91) (rest := []) (st1 := []) C (mExtOK b) [vI x1, vI x2, vI v4_4] (c_m_isGiven l hq5) cl_RX12_446 m_s0 (by decide) rfl rfl rfl rfl ⟨Nat.le_of_ble_eq_true rfl, Nat.le_of_ble_eq_true rfl⟩ (Nat.le_of_ble_eq_true rfl) rfl rfl dX12_finds_91 ?_
    have e := Option.some.inj h
    exact r_vret (pc := 94) C hr rfl e.symm dX12_finds_94
set_option maxHeartbeats 4000000 in
set_option maxRecDepth 20000 in
theorem c_m_isHushed (l : Launch) {x1 : Int} {x2 : Int} {M : Mem} {r0 : Bool} {M0 : Mem} (h : m_isHushed x1 x2 M = some (r0, M0)) : Ct l yX12_isHushed cX12_isHushed 3 (some .boolean) 4 85 vwCl mSh mN mRf mExt (fun b => [vR b 0, vI x1, vI x2]) M (fun b => (some (vB r0))) M0 := by
  refine Ct_of mExtOK (by decide) (fun b => Nat.le_of_ble_eq_true rfl) ?_
  intro p e s m args below meth c D E b C hr
  unfold m_isHushed at h
  refine (show mWX p l e 4 85 s m args below meth c 3 D E b (some (vB r0)) M0 M 0 [(0, vR b 0), (1, vI x1), (2, vI x2)] [] from ?_)
  refine r_aload_n (pc := 0) C 0 rfl rfl dX12_isHushed_0 ?_
  refine r_iload_n (pc := 1) C 1 rfl rfl dX12_isHushed_1 ?_
  refine r_iload_n (pc := 2) C 2 rfl rfl dX12_isHushed_2 ?_
  obtain ⟨M1, hq1, h⟩ := bnd_inv h
  refine r_callV (pc := 3) (rest := []) (st1 := []) C (mExtOK b) [vI x1, vI x2] (c_m_lays l hq1) cl_RX12_415 m_s0 (by decide) rfl rfl rfl rfl ⟨Nat.le_of_ble_eq_true rfl, Nat.le_of_ble_eq_true rfl⟩ (Nat.le_of_ble_eq_true rfl) rfl rfl dX12_isHushed_3 ?_
  refine r_aload_n (pc := 6) C 0 rfl rfl dX12_isHushed_6 ?_
  refine r_iconst (pc := 7) C dX12_isHushed_7 ?_
  obtain ⟨r2, hq2, h⟩ := bnd_inv h
  refine r_callV (pc := 8) (rest := []) (st1 := [vB r2]) C (mExtOK b) [vI 2] (c_m_isTold l hq2) cl_RX12_418 m_s0 (by decide) rfl rfl rfl rfl ⟨Nat.le_of_ble_eq_true rfl, Nat.le_of_ble_eq_true rfl⟩ (Nat.le_of_ble_eq_true rfl) rfl rfl dX12_isHushed_8 ?_
  refine r_if_eqB (pc := 11) (tgt := 32) C h dX12_isHushed_11 (by decide) (fun hc11 h => ?_) (fun hc11 h => ?_)
  · refine r_aload_n (pc := 14) C 0 rfl rfl dX12_isHushed_14 ?_
    refine r_iconst (pc := 15) C dX12_isHushed_15 ?_
    obtain ⟨r3, M3, hq3, h⟩ := bnd2_inv h
    refine r_callV (pc := 16) (rest := []) (st1 := [vL r3]) C (mExtOK b) [vI 2] (c_m_reckons l hq3) cl_RX12_421 m_s0 (by decide) rfl rfl rfl rfl ⟨Nat.le_of_ble_eq_true rfl, Nat.le_of_ble_eq_true rfl⟩ (Nat.le_of_ble_eq_true rfl) rfl rfl dX12_isHushed_16 ?_
    refine r_lconst (pc := 19) (j := 1) C rfl dX12_isHushed_19 ?_
    refine r_lcmp (pc := 20) C dX12_isHushed_20 ?_
    refine r_if_ne (pc := 21) (tgt := 28) C h dX12_isHushed_21 (by decide) (fun hc21 h => ?_) (fun hc21 h => ?_)
    · refine r_iconst (pc := 28) C dX12_isHushed_28 ?_
      refine r_goto (pc := 29) (tgt := 53) C dX12_isHushed_29 (by decide) ?_
      have e := Option.some.inj h
      exact r_zret (pc := 53) C hr (Or.inl rfl) (congrArg (fun z => some (vB z)) (Prod.mk.inj e).1.symm) (Prod.mk.inj e).2.symm dX12_isHushed_53
    · refine r_iconst (pc := 24) C dX12_isHushed_24 ?_
      refine r_goto (pc := 25) (tgt := 53) C dX12_isHushed_25 (by decide) ?_
      have e := Option.some.inj h
      exact r_zret (pc := 53) C hr (Or.inr rfl) (congrArg (fun z => some (vB z)) (Prod.mk.inj e).1.symm) (Prod.mk.inj e).2.symm dX12_isHushed_53
  · refine r_aload_n (pc := 32) C 0 rfl rfl dX12_isHushed_32 ?_
    refine r_getR (pc := 33) C fl_RX12_195 m_s0 (by decide) m_k60 m_r60 dX12_isHushed_33 ?_
    refine r_iconst (pc := 36) C dX12_isHushed_36 ?_
    refine r_iald (pc := 37) C m_s38 (by decide) (by decide) (by decide) rfl dX12_isHushed_37 ?_
    refine r_aload_n (pc := 38) C 0 rfl rfl dX12_isHushed_38 ?_
    refine r_getR (pc := 39) C fl_RX12_195 m_s0 (by decide) m_k60 m_r60 dX12_isHushed_39 ?_
    refine r_bipush (pc := 42) (j := 8) C (by decide +kernel) dX12_isHushed_42 ?_
    refine r_iald (pc := 44) C m_s38 (by decide) (by decide) (by decide) rfl dX12_isHushed_44 ?_
    refine r_icmp_le (pc := 45) (tgt := 52) C h dX12_isHushed_45 (by decide) (fun hc45 h => ?_) (fun hc45 h => ?_)
    · refine r_iconst (pc := 52) C dX12_isHushed_52 ?_
      have e := Option.some.inj h
      exact r_zret (pc := 53) C hr (Or.inl rfl) (congrArg (fun z => some (vB z)) (Prod.mk.inj e).1.symm) (Prod.mk.inj e).2.symm dX12_isHushed_53
    · refine r_iconst (pc := 48) C dX12_isHushed_48 ?_
      refine r_goto (pc := 49) (tgt := 53) C dX12_isHushed_49 (by decide) ?_
      have e := Option.some.inj h
      exact r_zret (pc := 53) C hr (Or.inr rfl) (congrArg (fun z => some (vB z)) (Prod.mk.inj e).1.symm) (Prod.mk.inj e).2.symm dX12_isHushed_53
end
