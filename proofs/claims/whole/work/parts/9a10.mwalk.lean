theorem dX12_is_0 : decode cX12_is 0 = .ok (.iload_n 0, 1) := by decide +kernel
theorem dX12_is_1 : decode cX12_is 1 = .ok (.iload_n 1, 1) := by decide +kernel
theorem dX12_is_2 : decode cX12_is 2 = .ok (.if_icmp .lt 12, 3) := by decide +kernel
theorem dX12_is_5 : decode cX12_is 5 = .ok (.iload_n 0, 1) := by decide +kernel
theorem dX12_is_6 : decode cX12_is 6 = .ok (.iload_n 2, 1) := by decide +kernel
theorem dX12_is_7 : decode cX12_is 7 = .ok (.if_icmp .gt 7, 3) := by decide +kernel
theorem dX12_is_10 : decode cX12_is 10 = .ok (.iconst 1, 1) := by decide +kernel
theorem dX12_is_11 : decode cX12_is 11 = .ok (.goto 4, 3) := by decide +kernel
theorem dX12_is_14 : decode cX12_is 14 = .ok (.iconst 0, 1) := by decide +kernel
theorem dX12_is_15 : decode cX12_is 15 = .ok (.ireturn, 1) := by decide +kernel
theorem dX12_put_0 : decode cX12_put 0 = .ok (.bipush 24, 2) := by decide +kernel
theorem dX12_put_2 : decode cX12_put 2 = .ok (.istore_n 2, 1) := by decide +kernel
theorem dX12_put_3 : decode cX12_put 3 = .ok (.iload_n 2, 1) := by decide +kernel
theorem dX12_put_4 : decode cX12_put 4 = .ok (.ifCond .lt 35, 3) := by decide +kernel
theorem dX12_put_7 : decode cX12_put 7 = .ok (.aload_n 0, 1) := by decide +kernel
theorem dX12_put_8 : decode cX12_put 8 = .ok (.getfield 7, 3) := by decide +kernel
theorem dX12_put_11 : decode cX12_put 11 = .ok (.aload_n 0, 1) := by decide +kernel
theorem dX12_put_12 : decode cX12_put 12 = .ok (.getfield 13, 3) := by decide +kernel
theorem dX12_put_15 : decode cX12_put 15 = .ok (.iload_n 1, 1) := by decide +kernel
theorem dX12_put_16 : decode cX12_put 16 = .ok (.iload_n 2, 1) := by decide +kernel
theorem dX12_put_17 : decode cX12_put 17 = .ok (.ishr, 1) := by decide +kernel
theorem dX12_put_18 : decode cX12_put 18 = .ok (.sipush 255, 3) := by decide +kernel
theorem dX12_put_21 : decode cX12_put 21 = .ok (.iand, 1) := by decide +kernel
theorem dX12_put_22 : decode cX12_put 22 = .ok (.iastore, 1) := by decide +kernel
theorem dX12_put_23 : decode cX12_put 23 = .ok (.aload_n 0, 1) := by decide +kernel
theorem dX12_put_24 : decode cX12_put 24 = .ok (.dup, 1) := by decide +kernel
theorem dX12_put_25 : decode cX12_put 25 = .ok (.getfield 13, 3) := by decide +kernel
theorem dX12_put_28 : decode cX12_put 28 = .ok (.iconst 1, 1) := by decide +kernel
theorem dX12_put_29 : decode cX12_put 29 = .ok (.iadd, 1) := by decide +kernel
theorem dX12_put_30 : decode cX12_put 30 = .ok (.putfield 13, 3) := by decide +kernel
theorem dX12_put_33 : decode cX12_put 33 = .ok (.iinc 2 (-8), 3) := by decide +kernel
theorem dX12_put_36 : decode cX12_put 36 = .ok (.goto (-33), 3) := by decide +kernel
theorem dX12_put_39 : decode cX12_put 39 = .ok (.return_, 1) := by decide +kernel
theorem dX12_refuses_0 : decode cX12_refuses 0 = .ok (.aload_n 0, 1) := by decide +kernel
theorem dX12_refuses_1 : decode cX12_refuses 1 = .ok (.getfield 144, 3) := by decide +kernel
theorem dX12_refuses_4 : decode cX12_refuses 4 = .ok (.iload_n 1, 1) := by decide +kernel
theorem dX12_refuses_5 : decode cX12_refuses 5 = .ok (.dup2, 1) := by decide +kernel
theorem dX12_refuses_6 : decode cX12_refuses 6 = .ok (.iaload, 1) := by decide +kernel
theorem dX12_refuses_7 : decode cX12_refuses 7 = .ok (.iconst 1, 1) := by decide +kernel
theorem dX12_refuses_8 : decode cX12_refuses 8 = .ok (.iadd, 1) := by decide +kernel
theorem dX12_refuses_9 : decode cX12_refuses 9 = .ok (.iastore, 1) := by decide +kernel
theorem dX12_refuses_10 : decode cX12_refuses 10 = .ok (.iconst (-1), 1) := by decide +kernel
theorem dX12_refuses_11 : decode cX12_refuses 11 = .ok (.ireturn, 1) := by decide +kernel
theorem dX12_feed_0 : decode cX12_feed 0 = .ok (.aload_n 0, 1) := by decide +kernel
theorem dX12_feed_1 : decode cX12_feed 1 = .ok (.getfield 13, 3) := by decide +kernel
theorem dX12_feed_4 : decode cX12_feed 4 = .ok (.bipush 20, 2) := by decide +kernel
theorem dX12_feed_6 : decode cX12_feed 6 = .ok (.iadd, 1) := by decide +kernel
theorem dX12_feed_7 : decode cX12_feed 7 = .ok (.sipush 1600, 3) := by decide +kernel
theorem dX12_feed_10 : decode cX12_feed 10 = .ok (.if_icmp .le 9, 3) := by decide +kernel
theorem dX12_feed_13 : decode cX12_feed 13 = .ok (.aload_n 0, 1) := by decide +kernel
theorem dX12_feed_14 : decode cX12_feed 14 = .ok (.iconst 0, 1) := by decide +kernel
theorem dX12_feed_15 : decode cX12_feed 15 = .ok (.invokevirtual 225, 3) := by decide +kernel
theorem dX12_feed_18 : decode cX12_feed 18 = .ok (.ireturn, 1) := by decide +kernel
theorem dX12_feed_19 : decode cX12_feed 19 = .ok (.aload_n 0, 1) := by decide +kernel
theorem dX12_feed_20 : decode cX12_feed 20 = .ok (.iload_n 1, 1) := by decide +kernel
theorem dX12_feed_21 : decode cX12_feed 21 = .ok (.invokevirtual 229, 3) := by decide +kernel
theorem dX12_feed_24 : decode cX12_feed 24 = .ok (.aload_n 0, 1) := by decide +kernel
theorem dX12_feed_25 : decode cX12_feed 25 = .ok (.iload_n 2, 1) := by decide +kernel
theorem dX12_feed_26 : decode cX12_feed 26 = .ok (.invokevirtual 229, 3) := by decide +kernel
theorem dX12_feed_29 : decode cX12_feed 29 = .ok (.aload_n 0, 1) := by decide +kernel
theorem dX12_feed_30 : decode cX12_feed 30 = .ok (.iload_n 3, 1) := by decide +kernel
theorem dX12_feed_31 : decode cX12_feed 31 = .ok (.invokevirtual 229, 3) := by decide +kernel
theorem dX12_feed_34 : decode cX12_feed 34 = .ok (.aload_n 0, 1) := by decide +kernel
theorem dX12_feed_35 : decode cX12_feed 35 = .ok (.iload 4, 2) := by decide +kernel
theorem dX12_feed_37 : decode cX12_feed 37 = .ok (.invokevirtual 229, 3) := by decide +kernel
theorem dX12_feed_40 : decode cX12_feed 40 = .ok (.aload_n 0, 1) := by decide +kernel
theorem dX12_feed_41 : decode cX12_feed 41 = .ok (.iload 5, 2) := by decide +kernel
theorem dX12_feed_43 : decode cX12_feed 43 = .ok (.invokevirtual 229, 3) := by decide +kernel
theorem dX12_feed_46 : decode cX12_feed 46 = .ok (.aload_n 0, 1) := by decide +kernel
theorem dX12_feed_47 : decode cX12_feed 47 = .ok (.getfield 13, 3) := by decide +kernel
theorem dX12_feed_50 : decode cX12_feed 50 = .ok (.ireturn, 1) := by decide +kernel
theorem dX12_end_0 : decode cX12_end 0 = .ok (.iload_n 1, 1) := by decide +kernel
theorem dX12_end_1 : decode cX12_end 1 = .ok (.ifCond .lt 11, 3) := by decide +kernel
theorem dX12_end_4 : decode cX12_end 4 = .ok (.iload_n 1, 1) := by decide +kernel
theorem dX12_end_5 : decode cX12_end 5 = .ok (.aload_n 0, 1) := by decide +kernel
theorem dX12_end_6 : decode cX12_end 6 = .ok (.getfield 13, 3) := by decide +kernel
theorem dX12_end_9 : decode cX12_end 9 = .ok (.if_icmp .le 17, 3) := by decide +kernel
theorem dX12_end_12 : decode cX12_end 12 = .ok (.aload_n 0, 1) := by decide +kernel
theorem dX12_end_13 : decode cX12_end 13 = .ok (.iconst 0, 1) := by decide +kernel
theorem dX12_end_14 : decode cX12_end 14 = .ok (.invokevirtual 225, 3) := by decide +kernel
theorem dX12_end_17 : decode cX12_end 17 = .ok (.ifCond .lt 7, 3) := by decide +kernel
theorem dX12_end_20 : decode cX12_end 20 = .ok (.iconst 1, 1) := by decide +kernel
theorem dX12_end_21 : decode cX12_end 21 = .ok (.goto 4, 3) := by decide +kernel
theorem dX12_end_24 : decode cX12_end 24 = .ok (.iconst 0, 1) := by decide +kernel
theorem dX12_end_25 : decode cX12_end 25 = .ok (.ireturn, 1) := by decide +kernel
theorem dX12_end_26 : decode cX12_end 26 = .ok (.aload_n 0, 1) := by decide +kernel
theorem dX12_end_27 : decode cX12_end 27 = .ok (.iload_n 1, 1) := by decide +kernel
theorem dX12_end_28 : decode cX12_end 28 = .ok (.putfield 13, 3) := by decide +kernel
theorem dX12_end_31 : decode cX12_end 31 = .ok (.iconst 1, 1) := by decide +kernel
theorem dX12_end_32 : decode cX12_end 32 = .ok (.ireturn, 1) := by decide +kernel
theorem dX12_blame_0 : decode cX12_blame 0 = .ok (.aload_n 0, 1) := by decide +kernel
theorem dX12_blame_1 : decode cX12_blame 1 = .ok (.getfield 36, 3) := by decide +kernel
theorem dX12_blame_4 : decode cX12_blame 4 = .ok (.ifCond .le 4, 3) := by decide +kernel
theorem dX12_blame_7 : decode cX12_blame 7 = .ok (.return_, 1) := by decide +kernel
theorem dX12_blame_8 : decode cX12_blame 8 = .ok (.aload_n 0, 1) := by decide +kernel
theorem dX12_blame_9 : decode cX12_blame 9 = .ok (.iload_n 1, 1) := by decide +kernel
theorem dX12_blame_10 : decode cX12_blame 10 = .ok (.putfield 36, 3) := by decide +kernel
theorem dX12_blame_13 : decode cX12_blame 13 = .ok (.aload_n 0, 1) := by decide +kernel
theorem dX12_blame_14 : decode cX12_blame 14 = .ok (.iload_n 2, 1) := by decide +kernel
theorem dX12_blame_15 : decode cX12_blame 15 = .ok (.putfield 39, 3) := by decide +kernel
theorem dX12_blame_18 : decode cX12_blame 18 = .ok (.return_, 1) := by decide +kernel
theorem dX12_isLetter_0 : decode cX12_isLetter 0 = .ok (.iload_n 0, 1) := by decide +kernel
theorem dX12_isLetter_1 : decode cX12_isLetter 1 = .ok (.bipush 97, 2) := by decide +kernel
theorem dX12_isLetter_3 : decode cX12_isLetter 3 = .ok (.if_icmp .lt 13, 3) := by decide +kernel
theorem dX12_isLetter_6 : decode cX12_isLetter 6 = .ok (.iload_n 0, 1) := by decide +kernel
theorem dX12_isLetter_7 : decode cX12_isLetter 7 = .ok (.bipush 122, 2) := by decide +kernel
theorem dX12_isLetter_9 : decode cX12_isLetter 9 = .ok (.if_icmp .gt 7, 3) := by decide +kernel
theorem dX12_isLetter_12 : decode cX12_isLetter 12 = .ok (.iconst 1, 1) := by decide +kernel
theorem dX12_isLetter_13 : decode cX12_isLetter 13 = .ok (.goto 4, 3) := by decide +kernel
theorem dX12_isLetter_16 : decode cX12_isLetter 16 = .ok (.iconst 0, 1) := by decide +kernel
theorem dX12_isLetter_17 : decode cX12_isLetter 17 = .ok (.ireturn, 1) := by decide +kernel
theorem dX12_isDigit_0 : decode cX12_isDigit 0 = .ok (.iload_n 0, 1) := by decide +kernel
theorem dX12_isDigit_1 : decode cX12_isDigit 1 = .ok (.bipush 48, 2) := by decide +kernel
theorem dX12_isDigit_3 : decode cX12_isDigit 3 = .ok (.if_icmp .lt 13, 3) := by decide +kernel
theorem dX12_isDigit_6 : decode cX12_isDigit 6 = .ok (.iload_n 0, 1) := by decide +kernel
theorem dX12_isDigit_7 : decode cX12_isDigit 7 = .ok (.bipush 57, 2) := by decide +kernel
theorem dX12_isDigit_9 : decode cX12_isDigit 9 = .ok (.if_icmp .gt 7, 3) := by decide +kernel
theorem dX12_isDigit_12 : decode cX12_isDigit 12 = .ok (.iconst 1, 1) := by decide +kernel
theorem dX12_isDigit_13 : decode cX12_isDigit 13 = .ok (.goto 4, 3) := by decide +kernel
theorem dX12_isDigit_16 : decode cX12_isDigit 16 = .ok (.iconst 0, 1) := by decide +kernel
theorem dX12_isDigit_17 : decode cX12_isDigit 17 = .ok (.ireturn, 1) := by decide +kernel
theorem dX12_lex_0 : decode cX12_lex 0 = .ok (.aload_n 0, 1) := by decide +kernel
theorem dX12_lex_1 : decode cX12_lex 1 = .ok (.getfield 48, 3) := by decide +kernel
theorem dX12_lex_4 : decode cX12_lex 4 = .ok (.iconst (-1), 1) := by decide +kernel
theorem dX12_lex_5 : decode cX12_lex 5 = .ok (.if_icmp .eq 12, 3) := by decide +kernel
theorem dX12_lex_8 : decode cX12_lex 8 = .ok (.aload_n 0, 1) := by decide +kernel
theorem dX12_lex_9 : decode cX12_lex 9 = .ok (.iconst 1, 1) := by decide +kernel
theorem dX12_lex_10 : decode cX12_lex 10 = .ok (.aload_n 0, 1) := by decide +kernel
theorem dX12_lex_11 : decode cX12_lex 11 = .ok (.getfield 48, 3) := by decide +kernel
theorem dX12_lex_14 : decode cX12_lex 14 = .ok (.invokevirtual 233, 3) := by decide +kernel
theorem dX12_lex_17 : decode cX12_lex 17 = .ok (.return_, 1) := by decide +kernel
theorem dX12_ahead_0 : decode cX12_ahead 0 = .ok (.aload_n 0, 1) := by decide +kernel
theorem dX12_ahead_1 : decode cX12_ahead 1 = .ok (.getfield 26, 3) := by decide +kernel
theorem dX12_ahead_4 : decode cX12_ahead 4 = .ok (.istore_n 1, 1) := by decide +kernel
theorem dX12_ahead_5 : decode cX12_ahead 5 = .ok (.iload_n 1, 1) := by decide +kernel
theorem dX12_ahead_6 : decode cX12_ahead 6 = .ok (.aload_n 0, 1) := by decide +kernel
theorem dX12_ahead_7 : decode cX12_ahead 7 = .ok (.getfield 17, 3) := by decide +kernel
theorem dX12_ahead_10 : decode cX12_ahead 10 = .ok (.if_icmp .ge 31, 3) := by decide +kernel
theorem dX12_ahead_13 : decode cX12_ahead 13 = .ok (.aload_n 0, 1) := by decide +kernel
theorem dX12_ahead_14 : decode cX12_ahead 14 = .ok (.getfield 7, 3) := by decide +kernel
theorem dX12_ahead_17 : decode cX12_ahead 17 = .ok (.iload_n 1, 1) := by decide +kernel
theorem dX12_ahead_18 : decode cX12_ahead 18 = .ok (.iaload, 1) := by decide +kernel
theorem dX12_ahead_19 : decode cX12_ahead 19 = .ok (.bipush 32, 2) := by decide +kernel
theorem dX12_ahead_21 : decode cX12_ahead 21 = .ok (.if_icmp .eq 14, 3) := by decide +kernel
theorem dX12_ahead_24 : decode cX12_ahead 24 = .ok (.aload_n 0, 1) := by decide +kernel
theorem dX12_ahead_25 : decode cX12_ahead 25 = .ok (.getfield 7, 3) := by decide +kernel
theorem dX12_ahead_28 : decode cX12_ahead 28 = .ok (.iload_n 1, 1) := by decide +kernel
theorem dX12_ahead_29 : decode cX12_ahead 29 = .ok (.iaload, 1) := by decide +kernel
theorem dX12_ahead_30 : decode cX12_ahead 30 = .ok (.bipush 10, 2) := by decide +kernel
theorem dX12_ahead_32 : decode cX12_ahead 32 = .ok (.if_icmp .ne 9, 3) := by decide +kernel
theorem dX12_ahead_35 : decode cX12_ahead 35 = .ok (.iinc 1 1, 3) := by decide +kernel
theorem dX12_ahead_38 : decode cX12_ahead 38 = .ok (.goto (-33), 3) := by decide +kernel
theorem dX12_ahead_41 : decode cX12_ahead 41 = .ok (.aload_n 0, 1) := by decide +kernel
theorem dX12_ahead_42 : decode cX12_ahead 42 = .ok (.iload_n 1, 1) := by decide +kernel
theorem dX12_ahead_43 : decode cX12_ahead 43 = .ok (.putfield 23, 3) := by decide +kernel
theorem dX12_ahead_46 : decode cX12_ahead 46 = .ok (.aload_n 0, 1) := by decide +kernel
theorem dX12_ahead_47 : decode cX12_ahead 47 = .ok (.iload_n 1, 1) := by decide +kernel
theorem dX12_ahead_48 : decode cX12_ahead 48 = .ok (.putfield 26, 3) := by decide +kernel
theorem dX12_ahead_51 : decode cX12_ahead 51 = .ok (.aload_n 0, 1) := by decide +kernel
theorem dX12_ahead_52 : decode cX12_ahead 52 = .ok (.iconst 0, 1) := by decide +kernel
theorem dX12_ahead_53 : decode cX12_ahead 53 = .ok (.putfield 20, 3) := by decide +kernel
theorem dX12_ahead_56 : decode cX12_ahead 56 = .ok (.aload_n 0, 1) := by decide +kernel
theorem dX12_ahead_57 : decode cX12_ahead 57 = .ok (.iconst (-1), 1) := by decide +kernel
theorem dX12_ahead_58 : decode cX12_ahead 58 = .ok (.putfield 48, 3) := by decide +kernel
theorem dX12_ahead_61 : decode cX12_ahead 61 = .ok (.iload_n 1, 1) := by decide +kernel
theorem dX12_ahead_62 : decode cX12_ahead 62 = .ok (.aload_n 0, 1) := by decide +kernel
theorem dX12_ahead_63 : decode cX12_ahead 63 = .ok (.getfield 17, 3) := by decide +kernel
theorem dX12_ahead_66 : decode cX12_ahead 66 = .ok (.if_icmp .lt 4, 3) := by decide +kernel
theorem dX12_ahead_69 : decode cX12_ahead 69 = .ok (.return_, 1) := by decide +kernel
theorem dX12_ahead_70 : decode cX12_ahead 70 = .ok (.aload_n 0, 1) := by decide +kernel
theorem dX12_ahead_71 : decode cX12_ahead 71 = .ok (.getfield 7, 3) := by decide +kernel
theorem dX12_ahead_74 : decode cX12_ahead 74 = .ok (.iload_n 1, 1) := by decide +kernel
theorem dX12_ahead_75 : decode cX12_ahead 75 = .ok (.iaload, 1) := by decide +kernel
theorem dX12_ahead_76 : decode cX12_ahead 76 = .ok (.invokestatic 237, 3) := by decide +kernel
theorem dX12_ahead_79 : decode cX12_ahead 79 = .ok (.istore_n 2, 1) := by decide +kernel
theorem dX12_ahead_80 : decode cX12_ahead 80 = .ok (.aload_n 0, 1) := by decide +kernel
theorem dX12_ahead_81 : decode cX12_ahead 81 = .ok (.getfield 7, 3) := by decide +kernel
theorem dX12_ahead_84 : decode cX12_ahead 84 = .ok (.iload_n 1, 1) := by decide +kernel
theorem dX12_ahead_85 : decode cX12_ahead 85 = .ok (.iaload, 1) := by decide +kernel
theorem dX12_ahead_86 : decode cX12_ahead 86 = .ok (.invokestatic 241, 3) := by decide +kernel
theorem dX12_ahead_89 : decode cX12_ahead 89 = .ok (.istore_n 3, 1) := by decide +kernel
theorem dX12_ahead_90 : decode cX12_ahead 90 = .ok (.iload_n 2, 1) := by decide +kernel
theorem dX12_ahead_91 : decode cX12_ahead 91 = .ok (.ifCond .ne 7, 3) := by decide +kernel
theorem dX12_ahead_94 : decode cX12_ahead 94 = .ok (.iload_n 3, 1) := by decide +kernel
theorem dX12_ahead_95 : decode cX12_ahead 95 = .ok (.ifCond .eq 40, 3) := by decide +kernel
theorem dX12_ahead_98 : decode cX12_ahead 98 = .ok (.iload_n 1, 1) := by decide +kernel
theorem dX12_ahead_99 : decode cX12_ahead 99 = .ok (.ifCond .le 36, 3) := by decide +kernel
theorem dX12_ahead_102 : decode cX12_ahead 102 = .ok (.aload_n 0, 1) := by decide +kernel
theorem dX12_ahead_103 : decode cX12_ahead 103 = .ok (.getfield 7, 3) := by decide +kernel
theorem dX12_ahead_106 : decode cX12_ahead 106 = .ok (.iload_n 1, 1) := by decide +kernel
theorem dX12_ahead_107 : decode cX12_ahead 107 = .ok (.iconst 1, 1) := by decide +kernel
theorem dX12_ahead_108 : decode cX12_ahead 108 = .ok (.isub, 1) := by decide +kernel
theorem dX12_ahead_109 : decode cX12_ahead 109 = .ok (.iaload, 1) := by decide +kernel
theorem dX12_ahead_110 : decode cX12_ahead 110 = .ok (.invokestatic 237, 3) := by decide +kernel
theorem dX12_ahead_113 : decode cX12_ahead 113 = .ok (.ifCond .ne 17, 3) := by decide +kernel
theorem dX12_ahead_116 : decode cX12_ahead 116 = .ok (.aload_n 0, 1) := by decide +kernel
theorem dX12_ahead_117 : decode cX12_ahead 117 = .ok (.getfield 7, 3) := by decide +kernel
theorem dX12_ahead_120 : decode cX12_ahead 120 = .ok (.iload_n 1, 1) := by decide +kernel
theorem dX12_ahead_121 : decode cX12_ahead 121 = .ok (.iconst 1, 1) := by decide +kernel
theorem dX12_ahead_122 : decode cX12_ahead 122 = .ok (.isub, 1) := by decide +kernel
theorem dX12_ahead_123 : decode cX12_ahead 123 = .ok (.iaload, 1) := by decide +kernel
theorem dX12_ahead_124 : decode cX12_ahead 124 = .ok (.invokestatic 241, 3) := by decide +kernel
theorem dX12_ahead_127 : decode cX12_ahead 127 = .ok (.ifCond .eq 8, 3) := by decide +kernel
theorem dX12_ahead_130 : decode cX12_ahead 130 = .ok (.aload_n 0, 1) := by decide +kernel
theorem dX12_ahead_131 : decode cX12_ahead 131 = .ok (.iload_n 1, 1) := by decide +kernel
theorem dX12_ahead_132 : decode cX12_ahead 132 = .ok (.putfield 48, 3) := by decide +kernel
theorem dX12_ahead_135 : decode cX12_ahead 135 = .ok (.aload_n 0, 1) := by decide +kernel
theorem dX12_ahead_136 : decode cX12_ahead 136 = .ok (.iconst 0, 1) := by decide +kernel
theorem dX12_ahead_137 : decode cX12_ahead 137 = .ok (.putfield 29, 3) := by decide +kernel
theorem dX12_ahead_140 : decode cX12_ahead 140 = .ok (.aload_n 0, 1) := by decide +kernel
theorem dX12_ahead_141 : decode cX12_ahead 141 = .ok (.lconst 0, 1) := by decide +kernel
theorem dX12_ahead_142 : decode cX12_ahead 142 = .ok (.putfield 32, 3) := by decide +kernel
theorem dX12_ahead_145 : decode cX12_ahead 145 = .ok (.aload_n 0, 1) := by decide +kernel
theorem dX12_ahead_146 : decode cX12_ahead 146 = .ok (.iconst 3, 1) := by decide +kernel
theorem dX12_ahead_147 : decode cX12_ahead 147 = .ok (.putfield 20, 3) := by decide +kernel
theorem dX12_ahead_150 : decode cX12_ahead 150 = .ok (.aload_n 0, 1) := by decide +kernel
theorem dX12_ahead_151 : decode cX12_ahead 151 = .ok (.iload_n 1, 1) := by decide +kernel
theorem dX12_ahead_152 : decode cX12_ahead 152 = .ok (.iconst 1, 1) := by decide +kernel
theorem dX12_ahead_153 : decode cX12_ahead 153 = .ok (.iadd, 1) := by decide +kernel
theorem dX12_ahead_154 : decode cX12_ahead 154 = .ok (.putfield 26, 3) := by decide +kernel
theorem dX12_ahead_157 : decode cX12_ahead 157 = .ok (.iload_n 2, 1) := by decide +kernel
theorem dX12_ahead_158 : decode cX12_ahead 158 = .ok (.ifCond .ne 18, 3) := by decide +kernel
theorem dX12_ahead_161 : decode cX12_ahead 161 = .ok (.iload_n 3, 1) := by decide +kernel
theorem dX12_ahead_162 : decode cX12_ahead 162 = .ok (.ifCond .ne 14, 3) := by decide +kernel
theorem dX12_ahead_165 : decode cX12_ahead 165 = .ok (.aload_n 0, 1) := by decide +kernel
theorem dX12_ahead_166 : decode cX12_ahead 166 = .ok (.aload_n 0, 1) := by decide +kernel
theorem dX12_ahead_167 : decode cX12_ahead 167 = .ok (.getfield 7, 3) := by decide +kernel
theorem dX12_ahead_170 : decode cX12_ahead 170 = .ok (.iload_n 1, 1) := by decide +kernel
theorem dX12_ahead_171 : decode cX12_ahead 171 = .ok (.iaload, 1) := by decide +kernel
theorem dX12_ahead_172 : decode cX12_ahead 172 = .ok (.putfield 29, 3) := by decide +kernel
theorem dX12_ahead_175 : decode cX12_ahead 175 = .ok (.return_, 1) := by decide +kernel
theorem dX12_ahead_176 : decode cX12_ahead 176 = .ok (.aload_n 0, 1) := by decide +kernel
theorem dX12_ahead_177 : decode cX12_ahead 177 = .ok (.iload_n 2, 1) := by decide +kernel
theorem dX12_ahead_178 : decode cX12_ahead 178 = .ok (.ifCond .eq 7, 3) := by decide +kernel
theorem dX12_ahead_181 : decode cX12_ahead 181 = .ok (.iconst 1, 1) := by decide +kernel
theorem dX12_ahead_182 : decode cX12_ahead 182 = .ok (.goto 4, 3) := by decide +kernel
theorem dX12_ahead_185 : decode cX12_ahead 185 = .ok (.iconst 2, 1) := by decide +kernel
theorem dX12_ahead_186 : decode cX12_ahead 186 = .ok (.putfield 20, 3) := by decide +kernel
theorem dX12_ahead_189 : decode cX12_ahead 189 = .ok (.iload_n 2, 1) := by decide +kernel
theorem dX12_ahead_190 : decode cX12_ahead 190 = .ok (.ifCond .eq 8, 3) := by decide +kernel
theorem dX12_ahead_193 : decode cX12_ahead 193 = .ok (.bipush 6, 2) := by decide +kernel
theorem dX12_ahead_195 : decode cX12_ahead 195 = .ok (.goto 4, 3) := by decide +kernel
theorem dX12_ahead_198 : decode cX12_ahead 198 = .ok (.iconst 4, 1) := by decide +kernel
theorem dX12_ahead_199 : decode cX12_ahead 199 = .ok (.istore 4, 2) := by decide +kernel
theorem dX12_ahead_201 : decode cX12_ahead 201 = .ok (.iconst 0, 1) := by decide +kernel
theorem dX12_ahead_202 : decode cX12_ahead 202 = .ok (.istore 5, 2) := by decide +kernel
theorem dX12_ahead_204 : decode cX12_ahead 204 = .ok (.iload_n 1, 1) := by decide +kernel
theorem dX12_ahead_205 : decode cX12_ahead 205 = .ok (.aload_n 0, 1) := by decide +kernel
theorem dX12_ahead_206 : decode cX12_ahead 206 = .ok (.getfield 17, 3) := by decide +kernel
theorem dX12_ahead_209 : decode cX12_ahead 209 = .ok (.if_icmp .ge 125, 3) := by decide +kernel
theorem dX12_ahead_212 : decode cX12_ahead 212 = .ok (.iload_n 2, 1) := by decide +kernel
theorem dX12_ahead_213 : decode cX12_ahead 213 = .ok (.ifCond .eq 18, 3) := by decide +kernel
theorem dX12_ahead_216 : decode cX12_ahead 216 = .ok (.aload_n 0, 1) := by decide +kernel
theorem dX12_ahead_217 : decode cX12_ahead 217 = .ok (.getfield 7, 3) := by decide +kernel
theorem dX12_ahead_220 : decode cX12_ahead 220 = .ok (.iload_n 1, 1) := by decide +kernel
theorem dX12_ahead_221 : decode cX12_ahead 221 = .ok (.iaload, 1) := by decide +kernel
theorem dX12_ahead_222 : decode cX12_ahead 222 = .ok (.invokestatic 237, 3) := by decide +kernel
theorem dX12_ahead_225 : decode cX12_ahead 225 = .ok (.ifCond .eq 109, 3) := by decide +kernel
theorem dX12_ahead_228 : decode cX12_ahead 228 = .ok (.goto 15, 3) := by decide +kernel
theorem dX12_ahead_231 : decode cX12_ahead 231 = .ok (.aload_n 0, 1) := by decide +kernel
theorem dX12_ahead_232 : decode cX12_ahead 232 = .ok (.getfield 7, 3) := by decide +kernel
theorem dX12_ahead_235 : decode cX12_ahead 235 = .ok (.iload_n 1, 1) := by decide +kernel
theorem dX12_ahead_236 : decode cX12_ahead 236 = .ok (.iaload, 1) := by decide +kernel
theorem dX12_ahead_237 : decode cX12_ahead 237 = .ok (.invokestatic 241, 3) := by decide +kernel
theorem dX12_ahead_240 : decode cX12_ahead 240 = .ok (.ifCond .eq 94, 3) := by decide +kernel
theorem dX12_ahead_243 : decode cX12_ahead 243 = .ok (.iload 5, 2) := by decide +kernel
theorem dX12_ahead_245 : decode cX12_ahead 245 = .ok (.iload 4, 2) := by decide +kernel
theorem dX12_ahead_247 : decode cX12_ahead 247 = .ok (.if_icmp .ne 16, 3) := by decide +kernel
theorem dX12_ahead_250 : decode cX12_ahead 250 = .ok (.aload_n 0, 1) := by decide +kernel
theorem dX12_ahead_251 : decode cX12_ahead 251 = .ok (.getfield 48, 3) := by decide +kernel
theorem dX12_ahead_254 : decode cX12_ahead 254 = .ok (.iconst (-1), 1) := by decide +kernel
theorem dX12_ahead_255 : decode cX12_ahead 255 = .ok (.if_icmp .ne 8, 3) := by decide +kernel
theorem dX12_ahead_258 : decode cX12_ahead 258 = .ok (.aload_n 0, 1) := by decide +kernel
theorem dX12_ahead_259 : decode cX12_ahead 259 = .ok (.iload_n 1, 1) := by decide +kernel
theorem dX12_ahead_260 : decode cX12_ahead 260 = .ok (.putfield 48, 3) := by decide +kernel
theorem dX12_ahead_263 : decode cX12_ahead 263 = .ok (.iload 5, 2) := by decide +kernel
theorem dX12_ahead_265 : decode cX12_ahead 265 = .ok (.iload 4, 2) := by decide +kernel
theorem dX12_ahead_267 : decode cX12_ahead 267 = .ok (.if_icmp .ge 26, 3) := by decide +kernel
theorem dX12_ahead_270 : decode cX12_ahead 270 = .ok (.iload_n 2, 1) := by decide +kernel
theorem dX12_ahead_271 : decode cX12_ahead 271 = .ok (.ifCond .eq 22, 3) := by decide +kernel
theorem dX12_ahead_274 : decode cX12_ahead 274 = .ok (.aload_n 0, 1) := by decide +kernel
theorem dX12_ahead_275 : decode cX12_ahead 275 = .ok (.aload_n 0, 1) := by decide +kernel
theorem dX12_ahead_276 : decode cX12_ahead 276 = .ok (.getfield 32, 3) := by decide +kernel
theorem dX12_ahead_279 : decode cX12_ahead 279 = .ok (.bipush 8, 2) := by decide +kernel
theorem dX12_ahead_281 : decode cX12_ahead 281 = .ok (.lshl, 1) := by decide +kernel
theorem dX12_ahead_282 : decode cX12_ahead 282 = .ok (.aload_n 0, 1) := by decide +kernel
theorem dX12_ahead_283 : decode cX12_ahead 283 = .ok (.getfield 7, 3) := by decide +kernel
theorem dX12_ahead_286 : decode cX12_ahead 286 = .ok (.iload_n 1, 1) := by decide +kernel
theorem dX12_ahead_287 : decode cX12_ahead 287 = .ok (.iaload, 1) := by decide +kernel
theorem dX12_ahead_288 : decode cX12_ahead 288 = .ok (.i2l, 1) := by decide +kernel
theorem dX12_ahead_289 : decode cX12_ahead 289 = .ok (.lor, 1) := by decide +kernel
theorem dX12_ahead_290 : decode cX12_ahead 290 = .ok (.putfield 32, 3) := by decide +kernel
theorem dX12_ahead_293 : decode cX12_ahead 293 = .ok (.iload 5, 2) := by decide +kernel
theorem dX12_ahead_295 : decode cX12_ahead 295 = .ok (.iload 4, 2) := by decide +kernel
theorem dX12_ahead_297 : decode cX12_ahead 297 = .ok (.if_icmp .ge 28, 3) := by decide +kernel
theorem dX12_ahead_300 : decode cX12_ahead 300 = .ok (.iload_n 3, 1) := by decide +kernel
theorem dX12_ahead_301 : decode cX12_ahead 301 = .ok (.ifCond .eq 24, 3) := by decide +kernel
theorem dX12_ahead_304 : decode cX12_ahead 304 = .ok (.aload_n 0, 1) := by decide +kernel
theorem dX12_ahead_305 : decode cX12_ahead 305 = .ok (.bipush 10, 2) := by decide +kernel
theorem dX12_ahead_307 : decode cX12_ahead 307 = .ok (.aload_n 0, 1) := by decide +kernel
theorem dX12_ahead_308 : decode cX12_ahead 308 = .ok (.getfield 29, 3) := by decide +kernel
theorem dX12_ahead_311 : decode cX12_ahead 311 = .ok (.imul, 1) := by decide +kernel
theorem dX12_ahead_312 : decode cX12_ahead 312 = .ok (.aload_n 0, 1) := by decide +kernel
theorem dX12_ahead_313 : decode cX12_ahead 313 = .ok (.getfield 7, 3) := by decide +kernel
theorem dX12_ahead_316 : decode cX12_ahead 316 = .ok (.iload_n 1, 1) := by decide +kernel
theorem dX12_ahead_317 : decode cX12_ahead 317 = .ok (.iaload, 1) := by decide +kernel
theorem dX12_ahead_318 : decode cX12_ahead 318 = .ok (.iadd, 1) := by decide +kernel
theorem dX12_ahead_319 : decode cX12_ahead 319 = .ok (.bipush 48, 2) := by decide +kernel
theorem dX12_ahead_321 : decode cX12_ahead 321 = .ok (.isub, 1) := by decide +kernel
theorem dX12_ahead_322 : decode cX12_ahead 322 = .ok (.putfield 29, 3) := by decide +kernel
theorem dX12_ahead_325 : decode cX12_ahead 325 = .ok (.iinc 5 1, 3) := by decide +kernel
theorem dX12_ahead_328 : decode cX12_ahead 328 = .ok (.iinc 1 1, 3) := by decide +kernel
theorem dX12_ahead_331 : decode cX12_ahead 331 = .ok (.goto (-127), 3) := by decide +kernel
theorem dX12_ahead_334 : decode cX12_ahead 334 = .ok (.aload_n 0, 1) := by decide +kernel
theorem dX12_ahead_335 : decode cX12_ahead 335 = .ok (.iload_n 1, 1) := by decide +kernel
theorem dX12_ahead_336 : decode cX12_ahead 336 = .ok (.putfield 26, 3) := by decide +kernel
theorem dX12_ahead_339 : decode cX12_ahead 339 = .ok (.return_, 1) := by decide +kernel
theorem dX12_isSign_0 : decode cX12_isSign 0 = .ok (.aload_n 0, 1) := by decide +kernel
theorem dX12_isSign_1 : decode cX12_isSign 1 = .ok (.getfield 20, 3) := by decide +kernel
theorem dX12_isSign_4 : decode cX12_isSign 4 = .ok (.iconst 3, 1) := by decide +kernel
theorem dX12_isSign_5 : decode cX12_isSign 5 = .ok (.if_icmp .ne 15, 3) := by decide +kernel
theorem dX12_isSign_8 : decode cX12_isSign 8 = .ok (.aload_n 0, 1) := by decide +kernel
theorem dX12_isSign_9 : decode cX12_isSign 9 = .ok (.getfield 29, 3) := by decide +kernel
theorem dX12_isSign_12 : decode cX12_isSign 12 = .ok (.iload_n 1, 1) := by decide +kernel
theorem dX12_isSign_13 : decode cX12_isSign 13 = .ok (.if_icmp .ne 7, 3) := by decide +kernel
theorem dX12_isSign_16 : decode cX12_isSign 16 = .ok (.iconst 1, 1) := by decide +kernel
theorem dX12_isSign_17 : decode cX12_isSign 17 = .ok (.goto 4, 3) := by decide +kernel
theorem dX12_isSign_20 : decode cX12_isSign 20 = .ok (.iconst 0, 1) := by decide +kernel
theorem dX12_isSign_21 : decode cX12_isSign 21 = .ok (.ireturn, 1) := by decide +kernel
theorem dX12_isWord_0 : decode cX12_isWord 0 = .ok (.aload_n 0, 1) := by decide +kernel
theorem dX12_isWord_1 : decode cX12_isWord 1 = .ok (.getfield 20, 3) := by decide +kernel
theorem dX12_isWord_4 : decode cX12_isWord 4 = .ok (.iconst 1, 1) := by decide +kernel
theorem dX12_isWord_5 : decode cX12_isWord 5 = .ok (.if_icmp .ne 16, 3) := by decide +kernel
theorem dX12_isWord_8 : decode cX12_isWord 8 = .ok (.aload_n 0, 1) := by decide +kernel
theorem dX12_isWord_9 : decode cX12_isWord 9 = .ok (.getfield 32, 3) := by decide +kernel
theorem dX12_isWord_12 : decode cX12_isWord 12 = .ok (.lload_n 1, 1) := by decide +kernel
theorem dX12_isWord_13 : decode cX12_isWord 13 = .ok (.lcmp, 1) := by decide +kernel
theorem dX12_isWord_14 : decode cX12_isWord 14 = .ok (.ifCond .ne 7, 3) := by decide +kernel
theorem dX12_isWord_17 : decode cX12_isWord 17 = .ok (.iconst 1, 1) := by decide +kernel
theorem dX12_isWord_18 : decode cX12_isWord 18 = .ok (.goto 4, 3) := by decide +kernel
theorem dX12_isWord_21 : decode cX12_isWord 21 = .ok (.iconst 0, 1) := by decide +kernel
theorem dX12_isWord_22 : decode cX12_isWord 22 = .ok (.ireturn, 1) := by decide +kernel
theorem dX12_must_0 : decode cX12_must 0 = .ok (.aload_n 0, 1) := by decide +kernel
theorem dX12_must_1 : decode cX12_must 1 = .ok (.invokevirtual 244, 3) := by decide +kernel
theorem dX12_must_4 : decode cX12_must 4 = .ok (.aload_n 0, 1) := by decide +kernel
theorem dX12_must_5 : decode cX12_must 5 = .ok (.iload_n 1, 1) := by decide +kernel
theorem dX12_must_6 : decode cX12_must 6 = .ok (.invokevirtual 247, 3) := by decide +kernel
theorem dX12_must_9 : decode cX12_must 9 = .ok (.ifCond .ne 12, 3) := by decide +kernel
theorem dX12_must_12 : decode cX12_must 12 = .ok (.aload_n 0, 1) := by decide +kernel
theorem dX12_must_13 : decode cX12_must 13 = .ok (.iconst 1, 1) := by decide +kernel
theorem dX12_must_14 : decode cX12_must 14 = .ok (.aload_n 0, 1) := by decide +kernel
theorem dX12_must_15 : decode cX12_must 15 = .ok (.getfield 23, 3) := by decide +kernel
theorem dX12_must_18 : decode cX12_must 18 = .ok (.invokevirtual 233, 3) := by decide +kernel
theorem dX12_must_21 : decode cX12_must 21 = .ok (.aload_n 0, 1) := by decide +kernel
theorem dX12_must_22 : decode cX12_must 22 = .ok (.getfield 36, 3) := by decide +kernel
theorem dX12_must_25 : decode cX12_must 25 = .ok (.ifCond .ne 7, 3) := by decide +kernel
theorem dX12_must_28 : decode cX12_must 28 = .ok (.aload_n 0, 1) := by decide +kernel
theorem dX12_must_29 : decode cX12_must 29 = .ok (.invokevirtual 250, 3) := by decide +kernel
theorem dX12_must_32 : decode cX12_must 32 = .ok (.return_, 1) := by decide +kernel
theorem dX12_isOwn_0 : decode cX12_isOwn 0 = .ok (.lload_n 1, 1) := by decide +kernel
theorem dX12_isOwn_1 : decode cX12_isOwn 1 = .ok (.ldc2_w 253, 3) := by decide +kernel
theorem dX12_isOwn_4 : decode cX12_isOwn 4 = .ok (.lcmp, 1) := by decide +kernel
theorem dX12_isOwn_5 : decode cX12_isOwn 5 = .ok (.ifCond .eq 35, 3) := by decide +kernel
theorem dX12_isOwn_8 : decode cX12_isOwn 8 = .ok (.lload_n 1, 1) := by decide +kernel
theorem dX12_isOwn_9 : decode cX12_isOwn 9 = .ok (.ldc2_w 255, 3) := by decide +kernel
theorem dX12_isOwn_12 : decode cX12_isOwn 12 = .ok (.lcmp, 1) := by decide +kernel
theorem dX12_isOwn_13 : decode cX12_isOwn 13 = .ok (.ifCond .eq 27, 3) := by decide +kernel
theorem dX12_isOwn_16 : decode cX12_isOwn 16 = .ok (.lload_n 1, 1) := by decide +kernel
theorem dX12_isOwn_17 : decode cX12_isOwn 17 = .ok (.ldc2_w 257, 3) := by decide +kernel
theorem dX12_isOwn_20 : decode cX12_isOwn 20 = .ok (.lcmp, 1) := by decide +kernel
theorem dX12_isOwn_21 : decode cX12_isOwn 21 = .ok (.ifCond .eq 19, 3) := by decide +kernel
theorem dX12_isOwn_24 : decode cX12_isOwn 24 = .ok (.lload_n 1, 1) := by decide +kernel
theorem dX12_isOwn_25 : decode cX12_isOwn 25 = .ok (.ldc2_w 259, 3) := by decide +kernel
theorem dX12_isOwn_28 : decode cX12_isOwn 28 = .ok (.lcmp, 1) := by decide +kernel
theorem dX12_isOwn_29 : decode cX12_isOwn 29 = .ok (.ifCond .eq 11, 3) := by decide +kernel
theorem dX12_isOwn_32 : decode cX12_isOwn 32 = .ok (.lload_n 1, 1) := by decide +kernel
theorem dX12_isOwn_33 : decode cX12_isOwn 33 = .ok (.ldc2_w 261, 3) := by decide +kernel
theorem dX12_isOwn_36 : decode cX12_isOwn 36 = .ok (.lcmp, 1) := by decide +kernel
theorem dX12_isOwn_37 : decode cX12_isOwn 37 = .ok (.ifCond .ne 5, 3) := by decide +kernel
theorem dX12_isOwn_40 : decode cX12_isOwn 40 = .ok (.iconst 1, 1) := by decide +kernel
theorem dX12_isOwn_41 : decode cX12_isOwn 41 = .ok (.ireturn, 1) := by decide +kernel
theorem dX12_isOwn_42 : decode cX12_isOwn 42 = .ok (.lload_n 1, 1) := by decide +kernel
theorem dX12_isOwn_43 : decode cX12_isOwn 43 = .ok (.ldc2_w 263, 3) := by decide +kernel
theorem dX12_isOwn_46 : decode cX12_isOwn 46 = .ok (.lcmp, 1) := by decide +kernel
theorem dX12_isOwn_47 : decode cX12_isOwn 47 = .ok (.ifCond .eq 35, 3) := by decide +kernel
theorem dX12_isOwn_50 : decode cX12_isOwn 50 = .ok (.lload_n 1, 1) := by decide +kernel
theorem dX12_isOwn_51 : decode cX12_isOwn 51 = .ok (.ldc2_w 265, 3) := by decide +kernel
theorem dX12_isOwn_54 : decode cX12_isOwn 54 = .ok (.lcmp, 1) := by decide +kernel
theorem dX12_isOwn_55 : decode cX12_isOwn 55 = .ok (.ifCond .eq 27, 3) := by decide +kernel
theorem dX12_isOwn_58 : decode cX12_isOwn 58 = .ok (.lload_n 1, 1) := by decide +kernel
theorem dX12_isOwn_59 : decode cX12_isOwn 59 = .ok (.ldc2_w 267, 3) := by decide +kernel
theorem dX12_isOwn_62 : decode cX12_isOwn 62 = .ok (.lcmp, 1) := by decide +kernel
theorem dX12_isOwn_63 : decode cX12_isOwn 63 = .ok (.ifCond .eq 19, 3) := by decide +kernel
theorem dX12_isOwn_66 : decode cX12_isOwn 66 = .ok (.lload_n 1, 1) := by decide +kernel
theorem dX12_isOwn_67 : decode cX12_isOwn 67 = .ok (.ldc2_w 269, 3) := by decide +kernel
theorem dX12_isOwn_70 : decode cX12_isOwn 70 = .ok (.lcmp, 1) := by decide +kernel
theorem dX12_isOwn_71 : decode cX12_isOwn 71 = .ok (.ifCond .eq 11, 3) := by decide +kernel
theorem dX12_isOwn_74 : decode cX12_isOwn 74 = .ok (.lload_n 1, 1) := by decide +kernel
theorem dX12_isOwn_75 : decode cX12_isOwn 75 = .ok (.ldc2_w 271, 3) := by decide +kernel
theorem dX12_isOwn_78 : decode cX12_isOwn 78 = .ok (.lcmp, 1) := by decide +kernel
theorem dX12_isOwn_79 : decode cX12_isOwn 79 = .ok (.ifCond .ne 5, 3) := by decide +kernel
theorem dX12_isOwn_82 : decode cX12_isOwn 82 = .ok (.iconst 1, 1) := by decide +kernel
theorem dX12_isOwn_83 : decode cX12_isOwn 83 = .ok (.ireturn, 1) := by decide +kernel
theorem dX12_isOwn_84 : decode cX12_isOwn 84 = .ok (.lload_n 1, 1) := by decide +kernel
theorem dX12_isOwn_85 : decode cX12_isOwn 85 = .ok (.ldc2_w 273, 3) := by decide +kernel
theorem dX12_isOwn_88 : decode cX12_isOwn 88 = .ok (.lcmp, 1) := by decide +kernel
theorem dX12_isOwn_89 : decode cX12_isOwn 89 = .ok (.ifCond .eq 35, 3) := by decide +kernel
theorem dX12_isOwn_92 : decode cX12_isOwn 92 = .ok (.lload_n 1, 1) := by decide +kernel
theorem dX12_isOwn_93 : decode cX12_isOwn 93 = .ok (.ldc2_w 275, 3) := by decide +kernel
theorem dX12_isOwn_96 : decode cX12_isOwn 96 = .ok (.lcmp, 1) := by decide +kernel
theorem dX12_isOwn_97 : decode cX12_isOwn 97 = .ok (.ifCond .eq 27, 3) := by decide +kernel
theorem dX12_isOwn_100 : decode cX12_isOwn 100 = .ok (.lload_n 1, 1) := by decide +kernel
theorem dX12_isOwn_101 : decode cX12_isOwn 101 = .ok (.ldc2_w 277, 3) := by decide +kernel
theorem dX12_isOwn_104 : decode cX12_isOwn 104 = .ok (.lcmp, 1) := by decide +kernel
theorem dX12_isOwn_105 : decode cX12_isOwn 105 = .ok (.ifCond .eq 19, 3) := by decide +kernel
theorem dX12_isOwn_108 : decode cX12_isOwn 108 = .ok (.lload_n 1, 1) := by decide +kernel
theorem dX12_isOwn_109 : decode cX12_isOwn 109 = .ok (.ldc2_w 279, 3) := by decide +kernel
theorem dX12_isOwn_112 : decode cX12_isOwn 112 = .ok (.lcmp, 1) := by decide +kernel
theorem dX12_isOwn_113 : decode cX12_isOwn 113 = .ok (.ifCond .eq 11, 3) := by decide +kernel
theorem dX12_isOwn_116 : decode cX12_isOwn 116 = .ok (.lload_n 1, 1) := by decide +kernel
theorem dX12_isOwn_117 : decode cX12_isOwn 117 = .ok (.ldc2_w 281, 3) := by decide +kernel
theorem dX12_isOwn_120 : decode cX12_isOwn 120 = .ok (.lcmp, 1) := by decide +kernel
theorem dX12_isOwn_121 : decode cX12_isOwn 121 = .ok (.ifCond .ne 5, 3) := by decide +kernel
theorem dX12_isOwn_124 : decode cX12_isOwn 124 = .ok (.iconst 1, 1) := by decide +kernel
theorem dX12_isOwn_125 : decode cX12_isOwn 125 = .ok (.ireturn, 1) := by decide +kernel
theorem dX12_isOwn_126 : decode cX12_isOwn 126 = .ok (.lload_n 1, 1) := by decide +kernel
theorem dX12_isOwn_127 : decode cX12_isOwn 127 = .ok (.ldc2_w 283, 3) := by decide +kernel
theorem dX12_isOwn_130 : decode cX12_isOwn 130 = .ok (.lcmp, 1) := by decide +kernel
theorem dX12_isOwn_131 : decode cX12_isOwn 131 = .ok (.ifCond .eq 35, 3) := by decide +kernel
theorem dX12_isOwn_134 : decode cX12_isOwn 134 = .ok (.lload_n 1, 1) := by decide +kernel
theorem dX12_isOwn_135 : decode cX12_isOwn 135 = .ok (.ldc2_w 285, 3) := by decide +kernel
theorem dX12_isOwn_138 : decode cX12_isOwn 138 = .ok (.lcmp, 1) := by decide +kernel
theorem dX12_isOwn_139 : decode cX12_isOwn 139 = .ok (.ifCond .eq 27, 3) := by decide +kernel
theorem dX12_isOwn_142 : decode cX12_isOwn 142 = .ok (.lload_n 1, 1) := by decide +kernel
theorem dX12_isOwn_143 : decode cX12_isOwn 143 = .ok (.ldc2_w 287, 3) := by decide +kernel
theorem dX12_isOwn_146 : decode cX12_isOwn 146 = .ok (.lcmp, 1) := by decide +kernel
theorem dX12_isOwn_147 : decode cX12_isOwn 147 = .ok (.ifCond .eq 19, 3) := by decide +kernel
theorem dX12_isOwn_150 : decode cX12_isOwn 150 = .ok (.lload_n 1, 1) := by decide +kernel
theorem dX12_isOwn_151 : decode cX12_isOwn 151 = .ok (.ldc2_w 289, 3) := by decide +kernel
theorem dX12_isOwn_154 : decode cX12_isOwn 154 = .ok (.lcmp, 1) := by decide +kernel
theorem dX12_isOwn_155 : decode cX12_isOwn 155 = .ok (.ifCond .eq 11, 3) := by decide +kernel
theorem dX12_isOwn_158 : decode cX12_isOwn 158 = .ok (.lload_n 1, 1) := by decide +kernel
theorem dX12_isOwn_159 : decode cX12_isOwn 159 = .ok (.ldc2_w 291, 3) := by decide +kernel
theorem dX12_isOwn_162 : decode cX12_isOwn 162 = .ok (.lcmp, 1) := by decide +kernel
theorem dX12_isOwn_163 : decode cX12_isOwn 163 = .ok (.ifCond .ne 5, 3) := by decide +kernel
theorem dX12_isOwn_166 : decode cX12_isOwn 166 = .ok (.iconst 1, 1) := by decide +kernel
theorem dX12_isOwn_167 : decode cX12_isOwn 167 = .ok (.ireturn, 1) := by decide +kernel
theorem dX12_isOwn_168 : decode cX12_isOwn 168 = .ok (.lload_n 1, 1) := by decide +kernel
theorem dX12_isOwn_169 : decode cX12_isOwn 169 = .ok (.ldc2_w 293, 3) := by decide +kernel
theorem dX12_isOwn_172 : decode cX12_isOwn 172 = .ok (.lcmp, 1) := by decide +kernel
theorem dX12_isOwn_173 : decode cX12_isOwn 173 = .ok (.ifCond .eq 19, 3) := by decide +kernel
theorem dX12_isOwn_176 : decode cX12_isOwn 176 = .ok (.lload_n 1, 1) := by decide +kernel
theorem dX12_isOwn_177 : decode cX12_isOwn 177 = .ok (.ldc2_w 295, 3) := by decide +kernel
theorem dX12_isOwn_180 : decode cX12_isOwn 180 = .ok (.lcmp, 1) := by decide +kernel
theorem dX12_isOwn_181 : decode cX12_isOwn 181 = .ok (.ifCond .eq 11, 3) := by decide +kernel
theorem dX12_isOwn_184 : decode cX12_isOwn 184 = .ok (.lload_n 1, 1) := by decide +kernel
theorem dX12_isOwn_185 : decode cX12_isOwn 185 = .ok (.ldc2_w 297, 3) := by decide +kernel
theorem dX12_isOwn_188 : decode cX12_isOwn 188 = .ok (.lcmp, 1) := by decide +kernel
theorem dX12_isOwn_189 : decode cX12_isOwn 189 = .ok (.ifCond .ne 5, 3) := by decide +kernel
theorem dX12_isOwn_192 : decode cX12_isOwn 192 = .ok (.iconst 1, 1) := by decide +kernel
theorem dX12_isOwn_193 : decode cX12_isOwn 193 = .ok (.ireturn, 1) := by decide +kernel
theorem dX12_isOwn_194 : decode cX12_isOwn 194 = .ok (.iconst 0, 1) := by decide +kernel
theorem dX12_isOwn_195 : decode cX12_isOwn 195 = .ok (.ireturn, 1) := by decide +kernel
theorem dX12_personNamed_0 : decode cX12_personNamed 0 = .ok (.iconst 0, 1) := by decide +kernel
theorem dX12_personNamed_1 : decode cX12_personNamed 1 = .ok (.istore_n 3, 1) := by decide +kernel
theorem dX12_personNamed_2 : decode cX12_personNamed 2 = .ok (.iload_n 3, 1) := by decide +kernel
theorem dX12_personNamed_3 : decode cX12_personNamed 3 = .ok (.aload_n 0, 1) := by decide +kernel
theorem dX12_personNamed_4 : decode cX12_personNamed 4 = .ok (.getfield 60, 3) := by decide +kernel
theorem dX12_personNamed_7 : decode cX12_personNamed 7 = .ok (.aload_n 0, 1) := by decide +kernel
theorem dX12_personNamed_8 : decode cX12_personNamed 8 = .ok (.getfield 106, 3) := by decide +kernel
theorem dX12_personNamed_11 : decode cX12_personNamed 11 = .ok (.iaload, 1) := by decide +kernel
theorem dX12_personNamed_12 : decode cX12_personNamed 12 = .ok (.if_icmp .ge 30, 3) := by decide +kernel
theorem dX12_personNamed_15 : decode cX12_personNamed 15 = .ok (.aload_n 0, 1) := by decide +kernel
theorem dX12_personNamed_16 : decode cX12_personNamed 16 = .ok (.getfield 100, 3) := by decide +kernel
theorem dX12_personNamed_19 : decode cX12_personNamed 19 = .ok (.bipush 8, 2) := by decide +kernel
theorem dX12_personNamed_21 : decode cX12_personNamed 21 = .ok (.aload_n 0, 1) := by decide +kernel
theorem dX12_personNamed_22 : decode cX12_personNamed 22 = .ok (.getfield 106, 3) := by decide +kernel
theorem dX12_personNamed_25 : decode cX12_personNamed 25 = .ok (.imul, 1) := by decide +kernel
theorem dX12_personNamed_26 : decode cX12_personNamed 26 = .ok (.iload_n 3, 1) := by decide +kernel
theorem dX12_personNamed_27 : decode cX12_personNamed 27 = .ok (.iadd, 1) := by decide +kernel
theorem dX12_personNamed_28 : decode cX12_personNamed 28 = .ok (.laload, 1) := by decide +kernel
theorem dX12_personNamed_29 : decode cX12_personNamed 29 = .ok (.lload_n 1, 1) := by decide +kernel
theorem dX12_personNamed_30 : decode cX12_personNamed 30 = .ok (.lcmp, 1) := by decide +kernel
theorem dX12_personNamed_31 : decode cX12_personNamed 31 = .ok (.ifCond .ne 5, 3) := by decide +kernel
theorem dX12_personNamed_34 : decode cX12_personNamed 34 = .ok (.iload_n 3, 1) := by decide +kernel
theorem dX12_personNamed_35 : decode cX12_personNamed 35 = .ok (.ireturn, 1) := by decide +kernel
theorem dX12_personNamed_36 : decode cX12_personNamed 36 = .ok (.iinc 3 1, 3) := by decide +kernel
theorem dX12_personNamed_39 : decode cX12_personNamed 39 = .ok (.goto (-37), 3) := by decide +kernel
theorem dX12_personNamed_42 : decode cX12_personNamed 42 = .ok (.iconst (-1), 1) := by decide +kernel
theorem dX12_personNamed_43 : decode cX12_personNamed 43 = .ok (.ireturn, 1) := by decide +kernel
theorem dX12_isNamed_0 : decode cX12_isNamed 0 = .ok (.iconst 0, 1) := by decide +kernel
theorem dX12_isNamed_1 : decode cX12_isNamed 1 = .ok (.istore_n 3, 1) := by decide +kernel
theorem dX12_isNamed_2 : decode cX12_isNamed 2 = .ok (.iload_n 3, 1) := by decide +kernel
theorem dX12_isNamed_3 : decode cX12_isNamed 3 = .ok (.aload_n 0, 1) := by decide +kernel
theorem dX12_isNamed_4 : decode cX12_isNamed 4 = .ok (.getfield 54, 3) := by decide +kernel
theorem dX12_isNamed_7 : decode cX12_isNamed 7 = .ok (.aload_n 0, 1) := by decide +kernel
theorem dX12_isNamed_8 : decode cX12_isNamed 8 = .ok (.getfield 106, 3) := by decide +kernel
theorem dX12_isNamed_11 : decode cX12_isNamed 11 = .ok (.iaload, 1) := by decide +kernel
theorem dX12_isNamed_12 : decode cX12_isNamed 12 = .ok (.if_icmp .ge 30, 3) := by decide +kernel
theorem dX12_isNamed_15 : decode cX12_isNamed 15 = .ok (.aload_n 0, 1) := by decide +kernel
theorem dX12_isNamed_16 : decode cX12_isNamed 16 = .ok (.getfield 96, 3) := by decide +kernel
theorem dX12_isNamed_19 : decode cX12_isNamed 19 = .ok (.bipush 7, 2) := by decide +kernel
theorem dX12_isNamed_21 : decode cX12_isNamed 21 = .ok (.aload_n 0, 1) := by decide +kernel
theorem dX12_isNamed_22 : decode cX12_isNamed 22 = .ok (.getfield 106, 3) := by decide +kernel
theorem dX12_isNamed_25 : decode cX12_isNamed 25 = .ok (.imul, 1) := by decide +kernel
theorem dX12_isNamed_26 : decode cX12_isNamed 26 = .ok (.iload_n 3, 1) := by decide +kernel
theorem dX12_isNamed_27 : decode cX12_isNamed 27 = .ok (.iadd, 1) := by decide +kernel
theorem dX12_isNamed_28 : decode cX12_isNamed 28 = .ok (.laload, 1) := by decide +kernel
theorem dX12_isNamed_29 : decode cX12_isNamed 29 = .ok (.lload_n 1, 1) := by decide +kernel
theorem dX12_isNamed_30 : decode cX12_isNamed 30 = .ok (.lcmp, 1) := by decide +kernel
theorem dX12_isNamed_31 : decode cX12_isNamed 31 = .ok (.ifCond .ne 5, 3) := by decide +kernel
theorem dX12_isNamed_34 : decode cX12_isNamed 34 = .ok (.iconst 1, 1) := by decide +kernel
theorem dX12_isNamed_35 : decode cX12_isNamed 35 = .ok (.ireturn, 1) := by decide +kernel
theorem dX12_isNamed_36 : decode cX12_isNamed 36 = .ok (.iinc 3 1, 3) := by decide +kernel
theorem dX12_isNamed_39 : decode cX12_isNamed 39 = .ok (.goto (-37), 3) := by decide +kernel
theorem dX12_isNamed_42 : decode cX12_isNamed 42 = .ok (.aload_n 0, 1) := by decide +kernel
theorem dX12_isNamed_43 : decode cX12_isNamed 43 = .ok (.lload_n 1, 1) := by decide +kernel
theorem dX12_isNamed_44 : decode cX12_isNamed 44 = .ok (.invokevirtual 299, 3) := by decide +kernel
theorem dX12_isNamed_47 : decode cX12_isNamed 47 = .ok (.iconst (-1), 1) := by decide +kernel
theorem dX12_isNamed_48 : decode cX12_isNamed 48 = .ok (.if_icmp .eq 7, 3) := by decide +kernel
theorem dX12_isNamed_51 : decode cX12_isNamed 51 = .ok (.iconst 1, 1) := by decide +kernel
theorem dX12_isNamed_52 : decode cX12_isNamed 52 = .ok (.goto 4, 3) := by decide +kernel
theorem dX12_isNamed_55 : decode cX12_isNamed 55 = .ok (.iconst 0, 1) := by decide +kernel
theorem dX12_isNamed_56 : decode cX12_isNamed 56 = .ok (.ireturn, 1) := by decide +kernel
theorem dX12_number_0 : decode cX12_number 0 = .ok (.aload_n 0, 1) := by decide +kernel
theorem dX12_number_1 : decode cX12_number 1 = .ok (.invokevirtual 244, 3) := by decide +kernel
theorem dX12_number_4 : decode cX12_number 4 = .ok (.aload_n 0, 1) := by decide +kernel
theorem dX12_number_5 : decode cX12_number 5 = .ok (.getfield 36, 3) := by decide +kernel
theorem dX12_number_8 : decode cX12_number 8 = .ok (.ifCond .le 5, 3) := by decide +kernel
theorem dX12_number_11 : decode cX12_number 11 = .ok (.iconst 0, 1) := by decide +kernel
theorem dX12_number_12 : decode cX12_number 12 = .ok (.ireturn, 1) := by decide +kernel
theorem dX12_number_13 : decode cX12_number 13 = .ok (.aload_n 0, 1) := by decide +kernel
theorem dX12_number_14 : decode cX12_number 14 = .ok (.getfield 20, 3) := by decide +kernel
theorem dX12_number_17 : decode cX12_number 17 = .ok (.iconst 2, 1) := by decide +kernel
theorem dX12_number_18 : decode cX12_number 18 = .ok (.if_icmp .eq 12, 3) := by decide +kernel
theorem dX12_number_21 : decode cX12_number 21 = .ok (.aload_n 0, 1) := by decide +kernel
theorem dX12_number_22 : decode cX12_number 22 = .ok (.iconst 1, 1) := by decide +kernel
theorem dX12_number_23 : decode cX12_number 23 = .ok (.aload_n 0, 1) := by decide +kernel
theorem dX12_number_24 : decode cX12_number 24 = .ok (.getfield 23, 3) := by decide +kernel
theorem dX12_number_27 : decode cX12_number 27 = .ok (.invokevirtual 233, 3) := by decide +kernel
theorem dX12_number_30 : decode cX12_number 30 = .ok (.aload_n 0, 1) := by decide +kernel
theorem dX12_number_31 : decode cX12_number 31 = .ok (.getfield 36, 3) := by decide +kernel
theorem dX12_number_34 : decode cX12_number 34 = .ok (.ifCond .ne 24, 3) := by decide +kernel
theorem dX12_number_37 : decode cX12_number 37 = .ok (.aload_n 0, 1) := by decide +kernel
theorem dX12_number_38 : decode cX12_number 38 = .ok (.getfield 29, 3) := by decide +kernel
theorem dX12_number_41 : decode cX12_number 41 = .ok (.iload_n 1, 1) := by decide +kernel
theorem dX12_number_42 : decode cX12_number 42 = .ok (.iload_n 2, 1) := by decide +kernel
theorem dX12_number_43 : decode cX12_number 43 = .ok (.invokestatic 303, 3) := by decide +kernel
theorem dX12_number_46 : decode cX12_number 46 = .ok (.ifCond .ne 12, 3) := by decide +kernel
theorem dX12_number_49 : decode cX12_number 49 = .ok (.aload_n 0, 1) := by decide +kernel
theorem dX12_number_50 : decode cX12_number 50 = .ok (.iconst 4, 1) := by decide +kernel
theorem dX12_number_51 : decode cX12_number 51 = .ok (.aload_n 0, 1) := by decide +kernel
theorem dX12_number_52 : decode cX12_number 52 = .ok (.getfield 23, 3) := by decide +kernel
theorem dX12_number_55 : decode cX12_number 55 = .ok (.invokevirtual 233, 3) := by decide +kernel
theorem dX12_number_58 : decode cX12_number 58 = .ok (.aload_n 0, 1) := by decide +kernel
theorem dX12_number_59 : decode cX12_number 59 = .ok (.getfield 29, 3) := by decide +kernel
theorem dX12_number_62 : decode cX12_number 62 = .ok (.istore_n 3, 1) := by decide +kernel
theorem dX12_number_63 : decode cX12_number 63 = .ok (.aload_n 0, 1) := by decide +kernel
theorem dX12_number_64 : decode cX12_number 64 = .ok (.getfield 36, 3) := by decide +kernel
theorem dX12_number_67 : decode cX12_number 67 = .ok (.ifCond .ne 7, 3) := by decide +kernel
theorem dX12_number_70 : decode cX12_number 70 = .ok (.aload_n 0, 1) := by decide +kernel
theorem dX12_number_71 : decode cX12_number 71 = .ok (.invokevirtual 250, 3) := by decide +kernel
theorem dX12_number_74 : decode cX12_number 74 = .ok (.iload_n 3, 1) := by decide +kernel
theorem dX12_number_75 : decode cX12_number 75 = .ok (.ireturn, 1) := by decide +kernel
theorem dX12_add_0 : decode cX12_add 0 = .ok (.aload_n 0, 1) := by decide +kernel
theorem dX12_add_1 : decode cX12_add 1 = .ok (.getfield 90, 3) := by decide +kernel
theorem dX12_add_4 : decode cX12_add 4 = .ok (.sipush 1600, 3) := by decide +kernel
theorem dX12_add_7 : decode cX12_add 7 = .ok (.aload_n 0, 1) := by decide +kernel
theorem dX12_add_8 : decode cX12_add 8 = .ok (.getfield 106, 3) := by decide +kernel
theorem dX12_add_11 : decode cX12_add 11 = .ok (.imul, 1) := by decide +kernel
theorem dX12_add_12 : decode cX12_add 12 = .ok (.aload_n 0, 1) := by decide +kernel
theorem dX12_add_13 : decode cX12_add 13 = .ok (.getfield 103, 3) := by decide +kernel
theorem dX12_add_16 : decode cX12_add 16 = .ok (.iadd, 1) := by decide +kernel
theorem dX12_add_17 : decode cX12_add 17 = .ok (.iload_n 1, 1) := by decide +kernel
theorem dX12_add_18 : decode cX12_add 18 = .ok (.iastore, 1) := by decide +kernel
theorem dX12_add_19 : decode cX12_add 19 = .ok (.aload_n 0, 1) := by decide +kernel
theorem dX12_add_20 : decode cX12_add 20 = .ok (.getfield 93, 3) := by decide +kernel
theorem dX12_add_23 : decode cX12_add 23 = .ok (.sipush 1600, 3) := by decide +kernel
theorem dX12_add_26 : decode cX12_add 26 = .ok (.aload_n 0, 1) := by decide +kernel
theorem dX12_add_27 : decode cX12_add 27 = .ok (.getfield 106, 3) := by decide +kernel
theorem dX12_add_30 : decode cX12_add 30 = .ok (.imul, 1) := by decide +kernel
theorem dX12_add_31 : decode cX12_add 31 = .ok (.aload_n 0, 1) := by decide +kernel
theorem dX12_add_32 : decode cX12_add 32 = .ok (.getfield 103, 3) := by decide +kernel
theorem dX12_add_35 : decode cX12_add 35 = .ok (.iadd, 1) := by decide +kernel
theorem dX12_add_36 : decode cX12_add 36 = .ok (.iload_n 2, 1) := by decide +kernel
theorem dX12_add_37 : decode cX12_add 37 = .ok (.iastore, 1) := by decide +kernel
theorem dX12_add_38 : decode cX12_add 38 = .ok (.aload_n 0, 1) := by decide +kernel
theorem dX12_add_39 : decode cX12_add 39 = .ok (.dup, 1) := by decide +kernel
theorem dX12_add_40 : decode cX12_add 40 = .ok (.getfield 103, 3) := by decide +kernel
theorem dX12_add_43 : decode cX12_add 43 = .ok (.iconst 1, 1) := by decide +kernel
theorem dX12_add_44 : decode cX12_add 44 = .ok (.iadd, 1) := by decide +kernel
theorem dX12_add_45 : decode cX12_add 45 = .ok (.putfield 103, 3) := by decide +kernel
theorem dX12_add_48 : decode cX12_add 48 = .ok (.return_, 1) := by decide +kernel
theorem dX12_isOf_0 : decode cX12_isOf 0 = .ok (.iload_n 1, 1) := by decide +kernel
theorem dX12_isOf_1 : decode cX12_isOf 1 = .ok (.iconst 5, 1) := by decide +kernel
theorem dX12_isOf_2 : decode cX12_isOf 2 = .ok (.if_icmp .ne 19, 3) := by decide +kernel
theorem dX12_isOf_5 : decode cX12_isOf 5 = .ok (.aload_n 0, 1) := by decide +kernel
theorem dX12_isOf_6 : decode cX12_isOf 6 = .ok (.getfield 109, 3) := by decide +kernel
theorem dX12_isOf_9 : decode cX12_isOf 9 = .ok (.iconst 2, 1) := by decide +kernel
theorem dX12_isOf_10 : decode cX12_isOf 10 = .ok (.if_icmp .eq 7, 3) := by decide +kernel
theorem dX12_isOf_13 : decode cX12_isOf 13 = .ok (.iconst 1, 1) := by decide +kernel
theorem dX12_isOf_14 : decode cX12_isOf 14 = .ok (.goto 40, 3) := by decide +kernel
theorem dX12_isOf_17 : decode cX12_isOf 17 = .ok (.iconst 0, 1) := by decide +kernel
theorem dX12_isOf_18 : decode cX12_isOf 18 = .ok (.goto 36, 3) := by decide +kernel
theorem dX12_isOf_21 : decode cX12_isOf 21 = .ok (.aload_n 0, 1) := by decide +kernel
theorem dX12_isOf_22 : decode cX12_isOf 22 = .ok (.getfield 109, 3) := by decide +kernel
theorem dX12_isOf_25 : decode cX12_isOf 25 = .ok (.iload_n 1, 1) := by decide +kernel
theorem dX12_isOf_26 : decode cX12_isOf 26 = .ok (.bipush 6, 2) := by decide +kernel
theorem dX12_isOf_28 : decode cX12_isOf 28 = .ok (.if_icmp .ne 7, 3) := by decide +kernel
theorem dX12_isOf_31 : decode cX12_isOf 31 = .ok (.iconst 0, 1) := by decide +kernel
theorem dX12_isOf_32 : decode cX12_isOf 32 = .ok (.goto 14, 3) := by decide +kernel
theorem dX12_isOf_35 : decode cX12_isOf 35 = .ok (.iload_n 1, 1) := by decide +kernel
theorem dX12_isOf_36 : decode cX12_isOf 36 = .ok (.bipush 7, 2) := by decide +kernel
theorem dX12_isOf_38 : decode cX12_isOf 38 = .ok (.if_icmp .ne 7, 3) := by decide +kernel
theorem dX12_isOf_41 : decode cX12_isOf 41 = .ok (.iconst 1, 1) := by decide +kernel
theorem dX12_isOf_42 : decode cX12_isOf 42 = .ok (.goto 4, 3) := by decide +kernel
theorem dX12_isOf_45 : decode cX12_isOf 45 = .ok (.iconst 2, 1) := by decide +kernel
theorem dX12_isOf_46 : decode cX12_isOf 46 = .ok (.if_icmp .ne 7, 3) := by decide +kernel
theorem dX12_isOf_49 : decode cX12_isOf 49 = .ok (.iconst 1, 1) := by decide +kernel
theorem dX12_isOf_50 : decode cX12_isOf 50 = .ok (.goto 4, 3) := by decide +kernel
theorem dX12_isOf_53 : decode cX12_isOf 53 = .ok (.iconst 0, 1) := by decide +kernel
theorem dX12_isOf_54 : decode cX12_isOf 54 = .ok (.ireturn, 1) := by decide +kernel
theorem dX12_rank_0 : decode cX12_rank 0 = .ok (.iload_n 0, 1) := by decide +kernel
theorem dX12_rank_1 : decode cX12_rank 1 = .ok (.bipush 42, 2) := by decide +kernel
theorem dX12_rank_3 : decode cX12_rank 3 = .ok (.if_icmp .ne 7, 3) := by decide +kernel
theorem dX12_rank_6 : decode cX12_rank 6 = .ok (.iconst 1, 1) := by decide +kernel
theorem dX12_rank_7 : decode cX12_rank 7 = .ok (.goto 63, 3) := by decide +kernel
theorem dX12_rank_10 : decode cX12_rank 10 = .ok (.iload_n 0, 1) := by decide +kernel
theorem dX12_rank_11 : decode cX12_rank 11 = .ok (.bipush 41, 2) := by decide +kernel
theorem dX12_rank_13 : decode cX12_rank 13 = .ok (.if_icmp .ne 7, 3) := by decide +kernel
theorem dX12_rank_16 : decode cX12_rank 16 = .ok (.iconst 2, 1) := by decide +kernel
theorem dX12_rank_17 : decode cX12_rank 17 = .ok (.goto 53, 3) := by decide +kernel
theorem dX12_rank_20 : decode cX12_rank 20 = .ok (.iload_n 0, 1) := by decide +kernel
theorem dX12_rank_21 : decode cX12_rank 21 = .ok (.bipush 43, 2) := by decide +kernel
theorem dX12_rank_23 : decode cX12_rank 23 = .ok (.if_icmp .ne 7, 3) := by decide +kernel
theorem dX12_rank_26 : decode cX12_rank 26 = .ok (.iconst 3, 1) := by decide +kernel
theorem dX12_rank_27 : decode cX12_rank 27 = .ok (.goto 43, 3) := by decide +kernel
theorem dX12_rank_30 : decode cX12_rank 30 = .ok (.iload_n 0, 1) := by decide +kernel
theorem dX12_rank_31 : decode cX12_rank 31 = .ok (.bipush 38, 2) := by decide +kernel
theorem dX12_rank_33 : decode cX12_rank 33 = .ok (.if_icmp .eq 15, 3) := by decide +kernel
theorem dX12_rank_36 : decode cX12_rank 36 = .ok (.iload_n 0, 1) := by decide +kernel
theorem dX12_rank_37 : decode cX12_rank 37 = .ok (.bipush 39, 2) := by decide +kernel
theorem dX12_rank_39 : decode cX12_rank 39 = .ok (.if_icmp .eq 9, 3) := by decide +kernel
theorem dX12_rank_42 : decode cX12_rank 42 = .ok (.iload_n 0, 1) := by decide +kernel
theorem dX12_rank_43 : decode cX12_rank 43 = .ok (.bipush 40, 2) := by decide +kernel
theorem dX12_rank_45 : decode cX12_rank 45 = .ok (.if_icmp .ne 7, 3) := by decide +kernel
theorem dX12_rank_48 : decode cX12_rank 48 = .ok (.iconst 4, 1) := by decide +kernel
theorem dX12_rank_49 : decode cX12_rank 49 = .ok (.goto 21, 3) := by decide +kernel
theorem dX12_rank_52 : decode cX12_rank 52 = .ok (.iload_n 0, 1) := by decide +kernel
theorem dX12_rank_53 : decode cX12_rank 53 = .ok (.bipush 31, 2) := by decide +kernel
theorem dX12_rank_55 : decode cX12_rank 55 = .ok (.if_icmp .eq 9, 3) := by decide +kernel
theorem dX12_rank_58 : decode cX12_rank 58 = .ok (.iload_n 0, 1) := by decide +kernel
theorem dX12_rank_59 : decode cX12_rank 59 = .ok (.bipush 32, 2) := by decide +kernel
theorem dX12_rank_61 : decode cX12_rank 61 = .ok (.if_icmp .ne 7, 3) := by decide +kernel
theorem dX12_rank_64 : decode cX12_rank 64 = .ok (.iconst 5, 1) := by decide +kernel
theorem dX12_rank_65 : decode cX12_rank 65 = .ok (.goto 5, 3) := by decide +kernel
theorem dX12_rank_68 : decode cX12_rank 68 = .ok (.bipush 6, 2) := by decide +kernel
theorem dX12_rank_70 : decode cX12_rank 70 = .ok (.ireturn, 1) := by decide +kernel
theorem dX12_joins_0 : decode cX12_joins 0 = .ok (.aload_n 0, 1) := by decide +kernel
theorem dX12_joins_1 : decode cX12_joins 1 = .ok (.getfield 137, 3) := by decide +kernel
theorem dX12_joins_4 : decode cX12_joins 4 = .ok (.aload_n 0, 1) := by decide +kernel
theorem dX12_joins_5 : decode cX12_joins 5 = .ok (.getfield 125, 3) := by decide +kernel
theorem dX12_joins_8 : decode cX12_joins 8 = .ok (.aload_n 0, 1) := by decide +kernel
theorem dX12_joins_9 : decode cX12_joins 9 = .ok (.getfield 128, 3) := by decide +kernel
theorem dX12_joins_12 : decode cX12_joins 12 = .ok (.iconst 1, 1) := by decide +kernel
theorem dX12_joins_13 : decode cX12_joins 13 = .ok (.isub, 1) := by decide +kernel
theorem dX12_joins_14 : decode cX12_joins 14 = .ok (.iaload, 1) := by decide +kernel
theorem dX12_joins_15 : decode cX12_joins 15 = .ok (.if_icmp .le 72, 3) := by decide +kernel
theorem dX12_joins_18 : decode cX12_joins 18 = .ok (.aload_n 0, 1) := by decide +kernel
theorem dX12_joins_19 : decode cX12_joins 19 = .ok (.getfield 134, 3) := by decide +kernel
theorem dX12_joins_22 : decode cX12_joins 22 = .ok (.aload_n 0, 1) := by decide +kernel
theorem dX12_joins_23 : decode cX12_joins 23 = .ok (.getfield 137, 3) := by decide +kernel
theorem dX12_joins_26 : decode cX12_joins 26 = .ok (.iconst 1, 1) := by decide +kernel
theorem dX12_joins_27 : decode cX12_joins 27 = .ok (.isub, 1) := by decide +kernel
theorem dX12_joins_28 : decode cX12_joins 28 = .ok (.iaload, 1) := by decide +kernel
theorem dX12_joins_29 : decode cX12_joins 29 = .ok (.invokestatic 307, 3) := by decide +kernel
theorem dX12_joins_32 : decode cX12_joins 32 = .ok (.iload_n 1, 1) := by decide +kernel
theorem dX12_joins_33 : decode cX12_joins 33 = .ok (.if_icmp .lt 54, 3) := by decide +kernel
theorem dX12_joins_36 : decode cX12_joins 36 = .ok (.aload_n 0, 1) := by decide +kernel
theorem dX12_joins_37 : decode cX12_joins 37 = .ok (.dup, 1) := by decide +kernel
theorem dX12_joins_38 : decode cX12_joins 38 = .ok (.getfield 137, 3) := by decide +kernel
theorem dX12_joins_41 : decode cX12_joins 41 = .ok (.iconst 1, 1) := by decide +kernel
theorem dX12_joins_42 : decode cX12_joins 42 = .ok (.isub, 1) := by decide +kernel
theorem dX12_joins_43 : decode cX12_joins 43 = .ok (.putfield 137, 3) := by decide +kernel
theorem dX12_joins_46 : decode cX12_joins 46 = .ok (.aload_n 0, 1) := by decide +kernel
theorem dX12_joins_47 : decode cX12_joins 47 = .ok (.aload_n 0, 1) := by decide +kernel
theorem dX12_joins_48 : decode cX12_joins 48 = .ok (.getfield 134, 3) := by decide +kernel
theorem dX12_joins_51 : decode cX12_joins 51 = .ok (.aload_n 0, 1) := by decide +kernel
theorem dX12_joins_52 : decode cX12_joins 52 = .ok (.getfield 137, 3) := by decide +kernel
theorem dX12_joins_55 : decode cX12_joins 55 = .ok (.iaload, 1) := by decide +kernel
theorem dX12_joins_56 : decode cX12_joins 56 = .ok (.iconst 0, 1) := by decide +kernel
theorem dX12_joins_57 : decode cX12_joins 57 = .ok (.invokevirtual 310, 3) := by decide +kernel
theorem dX12_joins_60 : decode cX12_joins 60 = .ok (.aload_n 0, 1) := by decide +kernel
theorem dX12_joins_61 : decode cX12_joins 61 = .ok (.getfield 134, 3) := by decide +kernel
theorem dX12_joins_64 : decode cX12_joins 64 = .ok (.aload_n 0, 1) := by decide +kernel
theorem dX12_joins_65 : decode cX12_joins 65 = .ok (.getfield 137, 3) := by decide +kernel
theorem dX12_joins_68 : decode cX12_joins 68 = .ok (.iaload, 1) := by decide +kernel
theorem dX12_joins_69 : decode cX12_joins 69 = .ok (.bipush 43, 2) := by decide +kernel
theorem dX12_joins_71 : decode cX12_joins 71 = .ok (.if_icmp .ne (-71), 3) := by decide +kernel
theorem dX12_joins_74 : decode cX12_joins 74 = .ok (.aload_n 0, 1) := by decide +kernel
theorem dX12_joins_75 : decode cX12_joins 75 = .ok (.dup, 1) := by decide +kernel
theorem dX12_joins_76 : decode cX12_joins 76 = .ok (.getfield 131, 3) := by decide +kernel
theorem dX12_joins_79 : decode cX12_joins 79 = .ok (.iconst 1, 1) := by decide +kernel
theorem dX12_joins_80 : decode cX12_joins 80 = .ok (.isub, 1) := by decide +kernel
theorem dX12_joins_81 : decode cX12_joins 81 = .ok (.putfield 131, 3) := by decide +kernel
theorem dX12_joins_84 : decode cX12_joins 84 = .ok (.goto (-84), 3) := by decide +kernel
theorem dX12_joins_87 : decode cX12_joins 87 = .ok (.return_, 1) := by decide +kernel
theorem dX12_holdsBack_0 : decode cX12_holdsBack 0 = .ok (.aload_n 0, 1) := by decide +kernel
theorem dX12_holdsBack_1 : decode cX12_holdsBack 1 = .ok (.getfield 134, 3) := by decide +kernel
theorem dX12_holdsBack_4 : decode cX12_holdsBack 4 = .ok (.aload_n 0, 1) := by decide +kernel
theorem dX12_holdsBack_5 : decode cX12_holdsBack 5 = .ok (.getfield 137, 3) := by decide +kernel
theorem dX12_holdsBack_8 : decode cX12_holdsBack 8 = .ok (.iload_n 1, 1) := by decide +kernel
theorem dX12_holdsBack_9 : decode cX12_holdsBack 9 = .ok (.iastore, 1) := by decide +kernel
theorem dX12_holdsBack_10 : decode cX12_holdsBack 10 = .ok (.aload_n 0, 1) := by decide +kernel
theorem dX12_holdsBack_11 : decode cX12_holdsBack 11 = .ok (.dup, 1) := by decide +kernel
theorem dX12_holdsBack_12 : decode cX12_holdsBack 12 = .ok (.getfield 137, 3) := by decide +kernel
theorem dX12_holdsBack_15 : decode cX12_holdsBack 15 = .ok (.iconst 1, 1) := by decide +kernel
theorem dX12_holdsBack_16 : decode cX12_holdsBack 16 = .ok (.iadd, 1) := by decide +kernel
theorem dX12_holdsBack_17 : decode cX12_holdsBack 17 = .ok (.putfield 137, 3) := by decide +kernel
theorem dX12_holdsBack_20 : decode cX12_holdsBack 20 = .ok (.return_, 1) := by decide +kernel
theorem dX12_pushes_0 : decode cX12_pushes 0 = .ok (.aload_n 0, 1) := by decide +kernel
theorem dX12_pushes_1 : decode cX12_pushes 1 = .ok (.getfield 112, 3) := by decide +kernel
theorem dX12_pushes_4 : decode cX12_pushes 4 = .ok (.aload_n 0, 1) := by decide +kernel
theorem dX12_pushes_5 : decode cX12_pushes 5 = .ok (.getfield 128, 3) := by decide +kernel
theorem dX12_pushes_8 : decode cX12_pushes 8 = .ok (.iload_n 1, 1) := by decide +kernel
theorem dX12_pushes_9 : decode cX12_pushes 9 = .ok (.iastore, 1) := by decide +kernel
theorem dX12_pushes_10 : decode cX12_pushes 10 = .ok (.aload_n 0, 1) := by decide +kernel
theorem dX12_pushes_11 : decode cX12_pushes 11 = .ok (.getfield 115, 3) := by decide +kernel
theorem dX12_pushes_14 : decode cX12_pushes 14 = .ok (.aload_n 0, 1) := by decide +kernel
theorem dX12_pushes_15 : decode cX12_pushes 15 = .ok (.getfield 128, 3) := by decide +kernel
theorem dX12_pushes_18 : decode cX12_pushes 18 = .ok (.iconst 0, 1) := by decide +kernel
theorem dX12_pushes_19 : decode cX12_pushes 19 = .ok (.iastore, 1) := by decide +kernel
theorem dX12_pushes_20 : decode cX12_pushes 20 = .ok (.aload_n 0, 1) := by decide +kernel
theorem dX12_pushes_21 : decode cX12_pushes 21 = .ok (.getfield 118, 3) := by decide +kernel
theorem dX12_pushes_24 : decode cX12_pushes 24 = .ok (.aload_n 0, 1) := by decide +kernel
theorem dX12_pushes_25 : decode cX12_pushes 25 = .ok (.getfield 128, 3) := by decide +kernel
theorem dX12_pushes_28 : decode cX12_pushes 28 = .ok (.iconst 1, 1) := by decide +kernel
theorem dX12_pushes_29 : decode cX12_pushes 29 = .ok (.bastore, 1) := by decide +kernel
theorem dX12_pushes_30 : decode cX12_pushes 30 = .ok (.aload_n 0, 1) := by decide +kernel
theorem dX12_pushes_31 : decode cX12_pushes 31 = .ok (.getfield 125, 3) := by decide +kernel
theorem dX12_pushes_34 : decode cX12_pushes 34 = .ok (.aload_n 0, 1) := by decide +kernel
theorem dX12_pushes_35 : decode cX12_pushes 35 = .ok (.getfield 128, 3) := by decide +kernel
theorem dX12_pushes_38 : decode cX12_pushes 38 = .ok (.aload_n 0, 1) := by decide +kernel
theorem dX12_pushes_39 : decode cX12_pushes 39 = .ok (.getfield 137, 3) := by decide +kernel
theorem dX12_pushes_42 : decode cX12_pushes 42 = .ok (.iastore, 1) := by decide +kernel
theorem dX12_pushes_43 : decode cX12_pushes 43 = .ok (.aload_n 0, 1) := by decide +kernel
theorem dX12_pushes_44 : decode cX12_pushes 44 = .ok (.dup, 1) := by decide +kernel
theorem dX12_pushes_45 : decode cX12_pushes 45 = .ok (.getfield 128, 3) := by decide +kernel
theorem dX12_pushes_48 : decode cX12_pushes 48 = .ok (.iconst 1, 1) := by decide +kernel
theorem dX12_pushes_49 : decode cX12_pushes 49 = .ok (.iadd, 1) := by decide +kernel
theorem dX12_pushes_50 : decode cX12_pushes 50 = .ok (.putfield 128, 3) := by decide +kernel
theorem dX12_pushes_53 : decode cX12_pushes 53 = .ok (.return_, 1) := by decide +kernel
theorem dX12_opens_0 : decode cX12_opens 0 = .ok (.aload_n 0, 1) := by decide +kernel
theorem dX12_opens_1 : decode cX12_opens 1 = .ok (.getfield 131, 3) := by decide +kernel
theorem dX12_opens_4 : decode cX12_opens 4 = .ok (.bipush 7, 2) := by decide +kernel
theorem dX12_opens_6 : decode cX12_opens 6 = .ok (.if_icmp .ne 12, 3) := by decide +kernel
theorem dX12_opens_9 : decode cX12_opens 9 = .ok (.aload_n 0, 1) := by decide +kernel
theorem dX12_opens_10 : decode cX12_opens 10 = .ok (.iconst 5, 1) := by decide +kernel
theorem dX12_opens_11 : decode cX12_opens 11 = .ok (.aload_n 0, 1) := by decide +kernel
theorem dX12_opens_12 : decode cX12_opens 12 = .ok (.getfield 23, 3) := by decide +kernel
theorem dX12_opens_15 : decode cX12_opens 15 = .ok (.invokevirtual 233, 3) := by decide +kernel
theorem dX12_opens_18 : decode cX12_opens 18 = .ok (.aload_n 0, 1) := by decide +kernel
theorem dX12_opens_19 : decode cX12_opens 19 = .ok (.getfield 36, 3) := by decide +kernel
theorem dX12_opens_22 : decode cX12_opens 22 = .ok (.ifCond .le 4, 3) := by decide +kernel
theorem dX12_opens_25 : decode cX12_opens 25 = .ok (.return_, 1) := by decide +kernel
theorem dX12_opens_26 : decode cX12_opens 26 = .ok (.aload_n 0, 1) := by decide +kernel
theorem dX12_opens_27 : decode cX12_opens 27 = .ok (.dup, 1) := by decide +kernel
theorem dX12_opens_28 : decode cX12_opens 28 = .ok (.getfield 131, 3) := by decide +kernel
theorem dX12_opens_31 : decode cX12_opens 31 = .ok (.iconst 1, 1) := by decide +kernel
theorem dX12_opens_32 : decode cX12_opens 32 = .ok (.iadd, 1) := by decide +kernel
theorem dX12_opens_33 : decode cX12_opens 33 = .ok (.putfield 131, 3) := by decide +kernel
theorem dX12_opens_36 : decode cX12_opens 36 = .ok (.aload_n 0, 1) := by decide +kernel
theorem dX12_opens_37 : decode cX12_opens 37 = .ok (.invokevirtual 250, 3) := by decide +kernel
theorem dX12_opens_40 : decode cX12_opens 40 = .ok (.aload_n 0, 1) := by decide +kernel
theorem dX12_opens_41 : decode cX12_opens 41 = .ok (.iload_n 1, 1) := by decide +kernel
theorem dX12_opens_42 : decode cX12_opens 42 = .ok (.invokevirtual 313, 3) := by decide +kernel
theorem dX12_opens_45 : decode cX12_opens 45 = .ok (.return_, 1) := by decide +kernel
theorem dX12_isTest_0 : decode cX12_isTest 0 = .ok (.iload_n 0, 1) := by decide +kernel
theorem dX12_isTest_1 : decode cX12_isTest 1 = .ok (.iconst 1, 1) := by decide +kernel
theorem dX12_isTest_2 : decode cX12_isTest 2 = .ok (.if_icmp .eq 14, 3) := by decide +kernel
theorem dX12_isTest_5 : decode cX12_isTest 5 = .ok (.iload_n 0, 1) := by decide +kernel
theorem dX12_isTest_6 : decode cX12_isTest 6 = .ok (.iconst 5, 1) := by decide +kernel
theorem dX12_isTest_7 : decode cX12_isTest 7 = .ok (.if_icmp .eq 9, 3) := by decide +kernel
theorem dX12_isTest_10 : decode cX12_isTest 10 = .ok (.iload_n 0, 1) := by decide +kernel
theorem dX12_isTest_11 : decode cX12_isTest 11 = .ok (.bipush 6, 2) := by decide +kernel
theorem dX12_isTest_13 : decode cX12_isTest 13 = .ok (.if_icmp .ne 7, 3) := by decide +kernel
theorem dX12_isTest_16 : decode cX12_isTest 16 = .ok (.iconst 1, 1) := by decide +kernel
theorem dX12_isTest_17 : decode cX12_isTest 17 = .ok (.goto 4, 3) := by decide +kernel
theorem dX12_isTest_20 : decode cX12_isTest 20 = .ok (.iconst 0, 1) := by decide +kernel
theorem dX12_isTest_21 : decode cX12_isTest 21 = .ok (.ireturn, 1) := by decide +kernel
theorem dX12_operand_0 : decode cX12_operand 0 = .ok (.aload_n 0, 1) := by decide +kernel
theorem dX12_operand_1 : decode cX12_operand 1 = .ok (.invokevirtual 244, 3) := by decide +kernel
theorem dX12_operand_4 : decode cX12_operand 4 = .ok (.aload_n 0, 1) := by decide +kernel
theorem dX12_operand_5 : decode cX12_operand 5 = .ok (.getfield 36, 3) := by decide +kernel
theorem dX12_operand_8 : decode cX12_operand 8 = .ok (.ifCond .le 5, 3) := by decide +kernel
theorem dX12_operand_11 : decode cX12_operand 11 = .ok (.iconst 1, 1) := by decide +kernel
theorem dX12_operand_12 : decode cX12_operand 12 = .ok (.ireturn, 1) := by decide +kernel
theorem dX12_operand_13 : decode cX12_operand 13 = .ok (.aload_n 0, 1) := by decide +kernel
theorem dX12_operand_14 : decode cX12_operand 14 = .ok (.getfield 128, 3) := by decide +kernel
theorem dX12_operand_17 : decode cX12_operand 17 = .ok (.iconst 1, 1) := by decide +kernel
theorem dX12_operand_18 : decode cX12_operand 18 = .ok (.isub, 1) := by decide +kernel
theorem dX12_operand_19 : decode cX12_operand 19 = .ok (.istore_n 1, 1) := by decide +kernel
theorem dX12_operand_20 : decode cX12_operand 20 = .ok (.aload_n 0, 1) := by decide +kernel
theorem dX12_operand_21 : decode cX12_operand 21 = .ok (.getfield 112, 3) := by decide +kernel
theorem dX12_operand_24 : decode cX12_operand 24 = .ok (.iload_n 1, 1) := by decide +kernel
theorem dX12_operand_25 : decode cX12_operand 25 = .ok (.iaload, 1) := by decide +kernel
theorem dX12_operand_26 : decode cX12_operand 26 = .ok (.invokestatic 316, 3) := by decide +kernel
theorem dX12_operand_29 : decode cX12_operand 29 = .ok (.ifCond .eq 16, 3) := by decide +kernel
theorem dX12_operand_32 : decode cX12_operand 32 = .ok (.aload_n 0, 1) := by decide +kernel
theorem dX12_operand_33 : decode cX12_operand 33 = .ok (.getfield 118, 3) := by decide +kernel
theorem dX12_operand_36 : decode cX12_operand 36 = .ok (.iload_n 1, 1) := by decide +kernel
theorem dX12_operand_37 : decode cX12_operand 37 = .ok (.baload, 1) := by decide +kernel
theorem dX12_operand_38 : decode cX12_operand 38 = .ok (.ifCond .eq 7, 3) := by decide +kernel
theorem dX12_operand_41 : decode cX12_operand 41 = .ok (.iconst 1, 1) := by decide +kernel
theorem dX12_operand_42 : decode cX12_operand 42 = .ok (.goto 4, 3) := by decide +kernel
theorem dX12_operand_45 : decode cX12_operand 45 = .ok (.iconst 0, 1) := by decide +kernel
theorem dX12_operand_46 : decode cX12_operand 46 = .ok (.istore_n 2, 1) := by decide +kernel
theorem dX12_operand_47 : decode cX12_operand 47 = .ok (.iload_n 2, 1) := by decide +kernel
theorem dX12_operand_48 : decode cX12_operand 48 = .ok (.ifCond .eq 62, 3) := by decide +kernel
theorem dX12_operand_51 : decode cX12_operand 51 = .ok (.aload_n 0, 1) := by decide +kernel
theorem dX12_operand_52 : decode cX12_operand 52 = .ok (.ldc2_w 291, 3) := by decide +kernel
theorem dX12_operand_55 : decode cX12_operand 55 = .ok (.invokevirtual 319, 3) := by decide +kernel
theorem dX12_operand_58 : decode cX12_operand 58 = .ok (.ifCond .eq 52, 3) := by decide +kernel
theorem dX12_operand_61 : decode cX12_operand 61 = .ok (.aload_n 0, 1) := by decide +kernel
theorem dX12_operand_62 : decode cX12_operand 62 = .ok (.getfield 131, 3) := by decide +kernel
theorem dX12_operand_65 : decode cX12_operand 65 = .ok (.bipush 7, 2) := by decide +kernel
theorem dX12_operand_67 : decode cX12_operand 67 = .ok (.if_icmp .ne 12, 3) := by decide +kernel
theorem dX12_operand_70 : decode cX12_operand 70 = .ok (.aload_n 0, 1) := by decide +kernel
theorem dX12_operand_71 : decode cX12_operand 71 = .ok (.iconst 5, 1) := by decide +kernel
theorem dX12_operand_72 : decode cX12_operand 72 = .ok (.aload_n 0, 1) := by decide +kernel
theorem dX12_operand_73 : decode cX12_operand 73 = .ok (.getfield 23, 3) := by decide +kernel
theorem dX12_operand_76 : decode cX12_operand 76 = .ok (.invokevirtual 233, 3) := by decide +kernel
theorem dX12_operand_79 : decode cX12_operand 79 = .ok (.aload_n 0, 1) := by decide +kernel
theorem dX12_operand_80 : decode cX12_operand 80 = .ok (.getfield 36, 3) := by decide +kernel
theorem dX12_operand_83 : decode cX12_operand 83 = .ok (.ifCond .le 5, 3) := by decide +kernel
theorem dX12_operand_86 : decode cX12_operand 86 = .ok (.iconst 1, 1) := by decide +kernel
theorem dX12_operand_87 : decode cX12_operand 87 = .ok (.ireturn, 1) := by decide +kernel
theorem dX12_operand_88 : decode cX12_operand 88 = .ok (.aload_n 0, 1) := by decide +kernel
theorem dX12_operand_89 : decode cX12_operand 89 = .ok (.dup, 1) := by decide +kernel
theorem dX12_operand_90 : decode cX12_operand 90 = .ok (.getfield 131, 3) := by decide +kernel
theorem dX12_operand_93 : decode cX12_operand 93 = .ok (.iconst 1, 1) := by decide +kernel
theorem dX12_operand_94 : decode cX12_operand 94 = .ok (.iadd, 1) := by decide +kernel
theorem dX12_operand_95 : decode cX12_operand 95 = .ok (.putfield 131, 3) := by decide +kernel
theorem dX12_operand_98 : decode cX12_operand 98 = .ok (.aload_n 0, 1) := by decide +kernel
theorem dX12_operand_99 : decode cX12_operand 99 = .ok (.bipush 43, 2) := by decide +kernel
theorem dX12_operand_101 : decode cX12_operand 101 = .ok (.invokevirtual 323, 3) := by decide +kernel
theorem dX12_operand_104 : decode cX12_operand 104 = .ok (.aload_n 0, 1) := by decide +kernel
theorem dX12_operand_105 : decode cX12_operand 105 = .ok (.invokevirtual 250, 3) := by decide +kernel
theorem dX12_operand_108 : decode cX12_operand 108 = .ok (.iconst 0, 1) := by decide +kernel
theorem dX12_operand_109 : decode cX12_operand 109 = .ok (.ireturn, 1) := by decide +kernel
theorem dX12_operand_110 : decode cX12_operand 110 = .ok (.aload_n 0, 1) := by decide +kernel
theorem dX12_operand_111 : decode cX12_operand 111 = .ok (.getfield 118, 3) := by decide +kernel
theorem dX12_operand_114 : decode cX12_operand 114 = .ok (.iload_n 1, 1) := by decide +kernel
theorem dX12_operand_115 : decode cX12_operand 115 = .ok (.iconst 0, 1) := by decide +kernel
theorem dX12_operand_116 : decode cX12_operand 116 = .ok (.bastore, 1) := by decide +kernel
theorem dX12_operand_117 : decode cX12_operand 117 = .ok (.iload_n 2, 1) := by decide +kernel
theorem dX12_operand_118 : decode cX12_operand 118 = .ok (.ifCond .eq 19, 3) := by decide +kernel
theorem dX12_operand_121 : decode cX12_operand 121 = .ok (.aload_n 0, 1) := by decide +kernel
theorem dX12_operand_122 : decode cX12_operand 122 = .ok (.bipush 91, 2) := by decide +kernel
theorem dX12_operand_124 : decode cX12_operand 124 = .ok (.invokevirtual 247, 3) := by decide +kernel
theorem dX12_operand_127 : decode cX12_operand 127 = .ok (.ifCond .eq 10, 3) := by decide +kernel
theorem dX12_operand_130 : decode cX12_operand 130 = .ok (.aload_n 0, 1) := by decide +kernel
theorem dX12_operand_131 : decode cX12_operand 131 = .ok (.iconst 5, 1) := by decide +kernel
theorem dX12_operand_132 : decode cX12_operand 132 = .ok (.invokevirtual 326, 3) := by decide +kernel
theorem dX12_operand_135 : decode cX12_operand 135 = .ok (.iconst 0, 1) := by decide +kernel
theorem dX12_operand_136 : decode cX12_operand 136 = .ok (.ireturn, 1) := by decide +kernel
theorem dX12_operand_137 : decode cX12_operand 137 = .ok (.iload_n 2, 1) := by decide +kernel
theorem dX12_operand_138 : decode cX12_operand 138 = .ok (.ifCond .eq 33, 3) := by decide +kernel
theorem dX12_operand_141 : decode cX12_operand 141 = .ok (.aload_n 0, 1) := by decide +kernel
theorem dX12_operand_142 : decode cX12_operand 142 = .ok (.ldc2_w 293, 3) := by decide +kernel
theorem dX12_operand_145 : decode cX12_operand 145 = .ok (.invokevirtual 319, 3) := by decide +kernel
theorem dX12_operand_148 : decode cX12_operand 148 = .ok (.ifCond .eq 23, 3) := by decide +kernel
theorem dX12_operand_151 : decode cX12_operand 151 = .ok (.aload_n 0, 1) := by decide +kernel
theorem dX12_operand_152 : decode cX12_operand 152 = .ok (.bipush 30, 2) := by decide +kernel
theorem dX12_operand_154 : decode cX12_operand 154 = .ok (.iconst 0, 1) := by decide +kernel
theorem dX12_operand_155 : decode cX12_operand 155 = .ok (.invokevirtual 310, 3) := by decide +kernel
theorem dX12_operand_158 : decode cX12_operand 158 = .ok (.aload_n 0, 1) := by decide +kernel
theorem dX12_operand_159 : decode cX12_operand 159 = .ok (.getfield 115, 3) := by decide +kernel
theorem dX12_operand_162 : decode cX12_operand 162 = .ok (.iload_n 1, 1) := by decide +kernel
theorem dX12_operand_163 : decode cX12_operand 163 = .ok (.iconst 2, 1) := by decide +kernel
theorem dX12_operand_164 : decode cX12_operand 164 = .ok (.iastore, 1) := by decide +kernel
theorem dX12_operand_165 : decode cX12_operand 165 = .ok (.aload_n 0, 1) := by decide +kernel
theorem dX12_operand_166 : decode cX12_operand 166 = .ok (.invokevirtual 250, 3) := by decide +kernel
theorem dX12_operand_169 : decode cX12_operand 169 = .ok (.iconst 1, 1) := by decide +kernel
theorem dX12_operand_170 : decode cX12_operand 170 = .ok (.ireturn, 1) := by decide +kernel
theorem dX12_operand_171 : decode cX12_operand 171 = .ok (.aload_n 0, 1) := by decide +kernel
theorem dX12_operand_172 : decode cX12_operand 172 = .ok (.bipush 40, 2) := by decide +kernel
theorem dX12_operand_174 : decode cX12_operand 174 = .ok (.invokevirtual 247, 3) := by decide +kernel
theorem dX12_operand_177 : decode cX12_operand 177 = .ok (.ifCond .eq 10, 3) := by decide +kernel
theorem dX12_operand_180 : decode cX12_operand 180 = .ok (.aload_n 0, 1) := by decide +kernel
theorem dX12_operand_181 : decode cX12_operand 181 = .ok (.iconst 2, 1) := by decide +kernel
theorem dX12_operand_182 : decode cX12_operand 182 = .ok (.invokevirtual 326, 3) := by decide +kernel
theorem dX12_operand_185 : decode cX12_operand 185 = .ok (.iconst 0, 1) := by decide +kernel
theorem dX12_operand_186 : decode cX12_operand 186 = .ok (.ireturn, 1) := by decide +kernel
theorem dX12_operand_187 : decode cX12_operand 187 = .ok (.aload_n 0, 1) := by decide +kernel
theorem dX12_operand_188 : decode cX12_operand 188 = .ok (.ldc2_w 295, 3) := by decide +kernel
theorem dX12_operand_191 : decode cX12_operand 191 = .ok (.invokevirtual 319, 3) := by decide +kernel
theorem dX12_operand_194 : decode cX12_operand 194 = .ok (.ifCond .ne 23, 3) := by decide +kernel
theorem dX12_operand_197 : decode cX12_operand 197 = .ok (.aload_n 0, 1) := by decide +kernel
theorem dX12_operand_198 : decode cX12_operand 198 = .ok (.ldc2_w 297, 3) := by decide +kernel
theorem dX12_operand_201 : decode cX12_operand 201 = .ok (.invokevirtual 319, 3) := by decide +kernel
theorem dX12_operand_204 : decode cX12_operand 204 = .ok (.ifCond .ne 13, 3) := by decide +kernel
theorem dX12_operand_207 : decode cX12_operand 207 = .ok (.aload_n 0, 1) := by decide +kernel
theorem dX12_operand_208 : decode cX12_operand 208 = .ok (.ldc2_w 285, 3) := by decide +kernel
theorem dX12_operand_211 : decode cX12_operand 211 = .ok (.invokevirtual 319, 3) := by decide +kernel
theorem dX12_operand_214 : decode cX12_operand 214 = .ok (.ifCond .eq 99, 3) := by decide +kernel
theorem dX12_operand_217 : decode cX12_operand 217 = .ok (.aload_n 0, 1) := by decide +kernel
theorem dX12_operand_218 : decode cX12_operand 218 = .ok (.ldc2_w 295, 3) := by decide +kernel
theorem dX12_operand_221 : decode cX12_operand 221 = .ok (.invokevirtual 319, 3) := by decide +kernel
theorem dX12_operand_224 : decode cX12_operand 224 = .ok (.ifCond .eq 8, 3) := by decide +kernel
theorem dX12_operand_227 : decode cX12_operand 227 = .ok (.bipush 36, 2) := by decide +kernel
theorem dX12_operand_229 : decode cX12_operand 229 = .ok (.goto 20, 3) := by decide +kernel
theorem dX12_operand_232 : decode cX12_operand 232 = .ok (.aload_n 0, 1) := by decide +kernel
theorem dX12_operand_233 : decode cX12_operand 233 = .ok (.ldc2_w 297, 3) := by decide +kernel
theorem dX12_operand_236 : decode cX12_operand 236 = .ok (.invokevirtual 319, 3) := by decide +kernel
theorem dX12_operand_239 : decode cX12_operand 239 = .ok (.ifCond .eq 8, 3) := by decide +kernel
theorem dX12_operand_242 : decode cX12_operand 242 = .ok (.bipush 37, 2) := by decide +kernel
theorem dX12_operand_244 : decode cX12_operand 244 = .ok (.goto 5, 3) := by decide +kernel
theorem dX12_operand_247 : decode cX12_operand 247 = .ok (.bipush 44, 2) := by decide +kernel
theorem dX12_operand_249 : decode cX12_operand 249 = .ok (.istore_n 3, 1) := by decide +kernel
theorem dX12_operand_250 : decode cX12_operand 250 = .ok (.aload_n 0, 1) := by decide +kernel
theorem dX12_operand_251 : decode cX12_operand 251 = .ok (.invokevirtual 250, 3) := by decide +kernel
theorem dX12_operand_254 : decode cX12_operand 254 = .ok (.aload_n 0, 1) := by decide +kernel
theorem dX12_operand_255 : decode cX12_operand 255 = .ok (.invokevirtual 244, 3) := by decide +kernel
theorem dX12_operand_258 : decode cX12_operand 258 = .ok (.aload_n 0, 1) := by decide +kernel
theorem dX12_operand_259 : decode cX12_operand 259 = .ok (.bipush 40, 2) := by decide +kernel
theorem dX12_operand_261 : decode cX12_operand 261 = .ok (.invokevirtual 247, 3) := by decide +kernel
theorem dX12_operand_264 : decode cX12_operand 264 = .ok (.ifCond .ne 12, 3) := by decide +kernel
theorem dX12_operand_267 : decode cX12_operand 267 = .ok (.aload_n 0, 1) := by decide +kernel
theorem dX12_operand_268 : decode cX12_operand 268 = .ok (.iconst 1, 1) := by decide +kernel
theorem dX12_operand_269 : decode cX12_operand 269 = .ok (.aload_n 0, 1) := by decide +kernel
theorem dX12_operand_270 : decode cX12_operand 270 = .ok (.getfield 23, 3) := by decide +kernel
theorem dX12_operand_273 : decode cX12_operand 273 = .ok (.invokevirtual 233, 3) := by decide +kernel
theorem dX12_operand_276 : decode cX12_operand 276 = .ok (.aload_n 0, 1) := by decide +kernel
theorem dX12_operand_277 : decode cX12_operand 277 = .ok (.iload_n 3, 1) := by decide +kernel
theorem dX12_operand_278 : decode cX12_operand 278 = .ok (.bipush 44, 2) := by decide +kernel
theorem dX12_operand_280 : decode cX12_operand 280 = .ok (.if_icmp .ne 8, 3) := by decide +kernel
theorem dX12_operand_283 : decode cX12_operand 283 = .ok (.bipush 6, 2) := by decide +kernel
theorem dX12_operand_285 : decode cX12_operand 285 = .ok (.goto 4, 3) := by decide +kernel
theorem dX12_operand_288 : decode cX12_operand 288 = .ok (.iconst 3, 1) := by decide +kernel
theorem dX12_operand_289 : decode cX12_operand 289 = .ok (.invokevirtual 326, 3) := by decide +kernel
theorem dX12_operand_292 : decode cX12_operand 292 = .ok (.aload_n 0, 1) := by decide +kernel
theorem dX12_operand_293 : decode cX12_operand 293 = .ok (.getfield 36, 3) := by decide +kernel
theorem dX12_operand_296 : decode cX12_operand 296 = .ok (.ifCond .ne 15, 3) := by decide +kernel
theorem dX12_operand_299 : decode cX12_operand 299 = .ok (.aload_n 0, 1) := by decide +kernel
theorem dX12_operand_300 : decode cX12_operand 300 = .ok (.getfield 122, 3) := by decide +kernel
theorem dX12_operand_303 : decode cX12_operand 303 = .ok (.aload_n 0, 1) := by decide +kernel
theorem dX12_operand_304 : decode cX12_operand 304 = .ok (.getfield 128, 3) := by decide +kernel
theorem dX12_operand_307 : decode cX12_operand 307 = .ok (.iconst 1, 1) := by decide +kernel
theorem dX12_operand_308 : decode cX12_operand 308 = .ok (.isub, 1) := by decide +kernel
theorem dX12_operand_309 : decode cX12_operand 309 = .ok (.iload_n 3, 1) := by decide +kernel
theorem dX12_operand_310 : decode cX12_operand 310 = .ok (.iastore, 1) := by decide +kernel
theorem dX12_operand_311 : decode cX12_operand 311 = .ok (.iconst 0, 1) := by decide +kernel
theorem dX12_operand_312 : decode cX12_operand 312 = .ok (.ireturn, 1) := by decide +kernel
theorem dX12_operand_313 : decode cX12_operand 313 = .ok (.aload_n 0, 1) := by decide +kernel
theorem dX12_operand_314 : decode cX12_operand 314 = .ok (.getfield 20, 3) := by decide +kernel
theorem dX12_operand_317 : decode cX12_operand 317 = .ok (.iconst 2, 1) := by decide +kernel
theorem dX12_operand_318 : decode cX12_operand 318 = .ok (.if_icmp .ne 7, 3) := by decide +kernel
theorem dX12_operand_321 : decode cX12_operand 321 = .ok (.iconst 0, 1) := by decide +kernel
theorem dX12_operand_322 : decode cX12_operand 322 = .ok (.goto 119, 3) := by decide +kernel
theorem dX12_operand_325 : decode cX12_operand 325 = .ok (.aload_n 0, 1) := by decide +kernel
theorem dX12_operand_326 : decode cX12_operand 326 = .ok (.ldc2_w 275, 3) := by decide +kernel
theorem dX12_operand_329 : decode cX12_operand 329 = .ok (.invokevirtual 319, 3) := by decide +kernel
theorem dX12_operand_332 : decode cX12_operand 332 = .ok (.ifCond .eq 7, 3) := by decide +kernel
theorem dX12_operand_335 : decode cX12_operand 335 = .ok (.iconst 1, 1) := by decide +kernel
theorem dX12_operand_336 : decode cX12_operand 336 = .ok (.goto 105, 3) := by decide +kernel
theorem dX12_operand_339 : decode cX12_operand 339 = .ok (.aload_n 0, 1) := by decide +kernel
theorem dX12_operand_340 : decode cX12_operand 340 = .ok (.ldc2_w 277, 3) := by decide +kernel
theorem dX12_operand_343 : decode cX12_operand 343 = .ok (.invokevirtual 319, 3) := by decide +kernel
theorem dX12_operand_346 : decode cX12_operand 346 = .ok (.ifCond .eq 7, 3) := by decide +kernel
theorem dX12_operand_349 : decode cX12_operand 349 = .ok (.iconst 2, 1) := by decide +kernel
theorem dX12_operand_350 : decode cX12_operand 350 = .ok (.goto 91, 3) := by decide +kernel
theorem dX12_operand_353 : decode cX12_operand 353 = .ok (.aload_n 0, 1) := by decide +kernel
theorem dX12_operand_354 : decode cX12_operand 354 = .ok (.ldc2_w 279, 3) := by decide +kernel
theorem dX12_operand_357 : decode cX12_operand 357 = .ok (.invokevirtual 319, 3) := by decide +kernel
theorem dX12_operand_360 : decode cX12_operand 360 = .ok (.ifCond .eq 7, 3) := by decide +kernel
theorem dX12_operand_363 : decode cX12_operand 363 = .ok (.iconst 3, 1) := by decide +kernel
theorem dX12_operand_364 : decode cX12_operand 364 = .ok (.goto 77, 3) := by decide +kernel
theorem dX12_operand_367 : decode cX12_operand 367 = .ok (.aload_n 0, 1) := by decide +kernel
theorem dX12_operand_368 : decode cX12_operand 368 = .ok (.ldc2_w 265, 3) := by decide +kernel
theorem dX12_operand_371 : decode cX12_operand 371 = .ok (.invokevirtual 319, 3) := by decide +kernel
theorem dX12_operand_374 : decode cX12_operand 374 = .ok (.ifCond .eq 7, 3) := by decide +kernel
theorem dX12_operand_377 : decode cX12_operand 377 = .ok (.iconst 4, 1) := by decide +kernel
theorem dX12_operand_378 : decode cX12_operand 378 = .ok (.goto 63, 3) := by decide +kernel
theorem dX12_operand_381 : decode cX12_operand 381 = .ok (.aload_n 0, 1) := by decide +kernel
theorem dX12_operand_382 : decode cX12_operand 382 = .ok (.ldc2_w 255, 3) := by decide +kernel
theorem dX12_operand_385 : decode cX12_operand 385 = .ok (.invokevirtual 319, 3) := by decide +kernel
theorem dX12_operand_388 : decode cX12_operand 388 = .ok (.ifCond .eq 7, 3) := by decide +kernel
theorem dX12_operand_391 : decode cX12_operand 391 = .ok (.iconst 5, 1) := by decide +kernel
theorem dX12_operand_392 : decode cX12_operand 392 = .ok (.goto 49, 3) := by decide +kernel
theorem dX12_operand_395 : decode cX12_operand 395 = .ok (.aload_n 0, 1) := by decide +kernel
theorem dX12_operand_396 : decode cX12_operand 396 = .ok (.ldc2_w 281, 3) := by decide +kernel
theorem dX12_operand_399 : decode cX12_operand 399 = .ok (.invokevirtual 319, 3) := by decide +kernel
theorem dX12_operand_402 : decode cX12_operand 402 = .ok (.ifCond .eq 8, 3) := by decide +kernel
theorem dX12_operand_405 : decode cX12_operand 405 = .ok (.bipush 6, 2) := by decide +kernel
theorem dX12_operand_407 : decode cX12_operand 407 = .ok (.goto 34, 3) := by decide +kernel
theorem dX12_operand_410 : decode cX12_operand 410 = .ok (.aload_n 0, 1) := by decide +kernel
theorem dX12_operand_411 : decode cX12_operand 411 = .ok (.ldc2_w 283, 3) := by decide +kernel
theorem dX12_operand_414 : decode cX12_operand 414 = .ok (.invokevirtual 319, 3) := by decide +kernel
theorem dX12_operand_417 : decode cX12_operand 417 = .ok (.ifCond .eq 8, 3) := by decide +kernel
theorem dX12_operand_420 : decode cX12_operand 420 = .ok (.bipush 7, 2) := by decide +kernel
theorem dX12_operand_422 : decode cX12_operand 422 = .ok (.goto 19, 3) := by decide +kernel
theorem dX12_operand_425 : decode cX12_operand 425 = .ok (.aload_n 0, 1) := by decide +kernel
theorem dX12_operand_426 : decode cX12_operand 426 = .ok (.ldc2_w 259, 3) := by decide +kernel
theorem dX12_operand_429 : decode cX12_operand 429 = .ok (.invokevirtual 319, 3) := by decide +kernel
theorem dX12_operand_432 : decode cX12_operand 432 = .ok (.ifCond .eq 8, 3) := by decide +kernel
theorem dX12_operand_435 : decode cX12_operand 435 = .ok (.bipush 8, 2) := by decide +kernel
theorem dX12_operand_437 : decode cX12_operand 437 = .ok (.goto 4, 3) := by decide +kernel
theorem dX12_operand_440 : decode cX12_operand 440 = .ok (.iconst (-1), 1) := by decide +kernel
theorem dX12_operand_441 : decode cX12_operand 441 = .ok (.istore_n 3, 1) := by decide +kernel
theorem dX12_operand_442 : decode cX12_operand 442 = .ok (.iload_n 3, 1) := by decide +kernel
theorem dX12_operand_443 : decode cX12_operand 443 = .ok (.iconst 5, 1) := by decide +kernel
theorem dX12_operand_444 : decode cX12_operand 444 = .ok (.if_icmp .lt 13, 3) := by decide +kernel
theorem dX12_operand_447 : decode cX12_operand 447 = .ok (.aload_n 0, 1) := by decide +kernel
theorem dX12_operand_448 : decode cX12_operand 448 = .ok (.iload_n 3, 1) := by decide +kernel
theorem dX12_operand_449 : decode cX12_operand 449 = .ok (.invokevirtual 329, 3) := by decide +kernel
theorem dX12_operand_452 : decode cX12_operand 452 = .ok (.ifCond .ne 5, 3) := by decide +kernel
theorem dX12_operand_455 : decode cX12_operand 455 = .ok (.iconst (-1), 1) := by decide +kernel
theorem dX12_operand_456 : decode cX12_operand 456 = .ok (.istore_n 3, 1) := by decide +kernel
theorem dX12_operand_457 : decode cX12_operand 457 = .ok (.iload_n 3, 1) := by decide +kernel
theorem dX12_operand_458 : decode cX12_operand 458 = .ok (.iconst (-1), 1) := by decide +kernel
theorem dX12_operand_459 : decode cX12_operand 459 = .ok (.if_icmp .ne 12, 3) := by decide +kernel
theorem dX12_operand_462 : decode cX12_operand 462 = .ok (.aload_n 0, 1) := by decide +kernel
theorem dX12_operand_463 : decode cX12_operand 463 = .ok (.iconst 1, 1) := by decide +kernel
theorem dX12_operand_464 : decode cX12_operand 464 = .ok (.aload_n 0, 1) := by decide +kernel
theorem dX12_operand_465 : decode cX12_operand 465 = .ok (.getfield 23, 3) := by decide +kernel
theorem dX12_operand_468 : decode cX12_operand 468 = .ok (.invokevirtual 233, 3) := by decide +kernel
theorem dX12_operand_471 : decode cX12_operand 471 = .ok (.aload_n 0, 1) := by decide +kernel
theorem dX12_operand_472 : decode cX12_operand 472 = .ok (.getfield 36, 3) := by decide +kernel
theorem dX12_operand_475 : decode cX12_operand 475 = .ok (.ifCond .le 5, 3) := by decide +kernel
theorem dX12_operand_478 : decode cX12_operand 478 = .ok (.iconst 1, 1) := by decide +kernel
theorem dX12_operand_479 : decode cX12_operand 479 = .ok (.ireturn, 1) := by decide +kernel
theorem dX12_operand_480 : decode cX12_operand 480 = .ok (.aload_n 0, 1) := by decide +kernel
theorem dX12_operand_481 : decode cX12_operand 481 = .ok (.iload_n 3, 1) := by decide +kernel
theorem dX12_operand_482 : decode cX12_operand 482 = .ok (.aload_n 0, 1) := by decide +kernel
theorem dX12_operand_483 : decode cX12_operand 483 = .ok (.getfield 29, 3) := by decide +kernel
theorem dX12_operand_486 : decode cX12_operand 486 = .ok (.invokevirtual 310, 3) := by decide +kernel
theorem dX12_operand_489 : decode cX12_operand 489 = .ok (.aload_n 0, 1) := by decide +kernel
theorem dX12_operand_490 : decode cX12_operand 490 = .ok (.invokevirtual 250, 3) := by decide +kernel
theorem dX12_operand_493 : decode cX12_operand 493 = .ok (.iconst 1, 1) := by decide +kernel
theorem dX12_operand_494 : decode cX12_operand 494 = .ok (.ireturn, 1) := by decide +kernel
section
variable {p : Program} {l : Launch} {e : Env} {s : State} {m : MethodId} {args : Array Value} {below : List Frame} {meth : Method} {c : Code} {D : va_G} {E : Nat → ClassId} {b : Nat}
set_option maxHeartbeats 4000000 in
set_option maxRecDepth 20000 in
theorem c_m_is (l : Launch) {x0 : Int} {x1 : Int} {x2 : Int} {M : Mem} {r0 : Bool} (h : m_is x0 x1 x2 = some r0) : Ct l yX12_is cX12_is 3 (some .boolean) 1 12 vwCl mSh mN mRf mExt (fun b => [vI x0, vI x1, vI x2]) M (fun b => (some (vB r0))) M := by
  refine Ct_of mExtOK (by decide) (fun b => Nat.le_of_ble_eq_true rfl) ?_
  intro p e s m args below meth c D E b C hr
  unfold m_is at h
  refine (show mWX p l e 1 12 s m args below meth c 3 D E b (some (vB r0)) M M 0 [(0, vI x0), (1, vI x1), (2, vI x2)] [] from ?_)
  refine r_iload_n (pc := 0) C 0 rfl rfl dX12_is_0 ?_
  refine r_iload_n (pc := 1) C 1 rfl rfl dX12_is_1 ?_
  refine r_icmp_lt (pc := 2) (tgt := 14) C h dX12_is_2 (by decide) (fun hc2 h => ?_) (fun hc2 h => ?_)
  · refine r_iconst (pc := 14) C dX12_is_14 ?_
    have e := Option.some.inj h
    exact r_zret (pc := 15) C hr (Or.inl rfl) (congrArg (fun z => some (vB z)) e.symm) rfl dX12_is_15
  · refine r_iload_n (pc := 5) C 0 rfl rfl dX12_is_5 ?_
    refine r_iload_n (pc := 6) C 2 rfl rfl dX12_is_6 ?_
    refine r_icmp_gt (pc := 7) (tgt := 14) C h dX12_is_7 (by decide) (fun hc7 h => ?_) (fun hc7 h => ?_)
    · refine r_iconst (pc := 14) C dX12_is_14 ?_
      have e := Option.some.inj h
      exact r_zret (pc := 15) C hr (Or.inl rfl) (congrArg (fun z => some (vB z)) e.symm) rfl dX12_is_15
    · refine r_iconst (pc := 10) C dX12_is_10 ?_
      refine r_goto (pc := 11) (tgt := 15) C dX12_is_11 (by decide) ?_
      have e := Option.some.inj h
      exact r_zret (pc := 15) C hr (Or.inr rfl) (congrArg (fun z => some (vB z)) e.symm) rfl dX12_is_15
set_option maxHeartbeats 4000000 in
set_option maxRecDepth 20000 in
theorem w_m_put_L3_s (C : mCX p s m args meth c cX12_put 3 RX12 D E b) (hr : meth.sig.returnType = none) {M0 : Mem} {v1 : Int} {v2 : Int} {M : Mem} {q : Int × Mem} {rec : Int → Mem → Option (Int × Mem)} (hrec : ∀ (v2 : Int) (M : Mem), rec v2 M = some q → mWX p l e 1 12 s m args below meth c 3 D E b none M0 M 3 [(0, vR b 0), (1, vI v1), (2, vI v2)] []) (hfol : ∀ (v2 : Int) (M : Mem), q = (v2, M) → mWX p l e 1 12 s m args below meth c 3 D E b none M0 M 39 [] []) (h : m_put_L3 v1 rec v2 M = some q) :
    mWX p l e 1 12 s m args below meth c 3 D E b none M0 M 3 [(0, vR b 0), (1, vI v1), (2, vI v2)] [] := by
  unfold m_put_L3 at h
  refine r_iload_n (pc := 3) C 2 rfl rfl dX12_put_3 ?_
  refine r_if_lt (pc := 4) (tgt := 39) C h dX12_put_4 (by decide) (fun hc4 h => ?_) (fun hc4 h => ?_)
  · refine r_sub (lv' := []) [] rfl ?_
    exact hfol _ _ (Option.some.inj h).symm
  · refine r_aload_n (pc := 7) C 0 rfl rfl dX12_put_7 ?_
    refine r_getR (pc := 8) C fl_RX12_7 m_s0 (by decide) m_k0 m_r0 dX12_put_8 ?_
    refine r_aload_n (pc := 11) C 0 rfl rfl dX12_put_11 ?_
    refine r_getI (pc := 12) C fl_RX12_13 m_s0 (by decide) m_k1 dX12_put_12 ?_
    refine r_iload_n (pc := 15) C 1 rfl rfl dX12_put_15 ?_
    refine r_iload_n (pc := 16) C 2 rfl rfl dX12_put_16 ?_
    refine r_ishr (pc := 17) C dX12_put_17 ?_
    refine r_sipush (pc := 18) (j := 255) C (by decide +kernel) dX12_put_18 ?_
    refine r_iand (pc := 21) C dX12_put_21 ?_
    obtain ⟨hi22, h⟩ := chk_inv h
    obtain ⟨M_22, hM_22, h⟩ := lt_inv h
    refine r_iast (pc := 22) C m_s1 (by decide) (by decide) hi22 rfl hM_22 dX12_put_22 ?_
    refine r_aload_n (pc := 23) C 0 rfl rfl dX12_put_23 ?_
    refine r_dup (pc := 24) C rfl dX12_put_24 ?_
    refine r_getI (pc := 25) C fl_RX12_13 m_s0 (by decide) m_k1 dX12_put_25 ?_
    refine r_iconst (pc := 28) C dX12_put_28 ?_
    refine r_iadd (pc := 29) C dX12_put_29 ?_
    obtain ⟨M_30, hM_30, h⟩ := lt_inv h
    refine r_putI (pc := 30) C fl_RX12_13 mw_ft m_w1 m_s0 (by decide) m_k1 hM_30 dX12_put_30 ?_
    obtain ⟨v2_33, hv2_33, h⟩ := lt_inv h
    refine r_iincN (pc := 33) (y := v2_33) (lv' := [(2, vI v2_33), (0, vR b 0), (1, vI v1)]) C 2 rfl hv2_33 dX12_put_33 (by decide) rfl ?_
    refine r_goto (pc := 36) (tgt := 3) C dX12_put_36 (by decide) ?_
    refine r_sub (lv' := [(0, vR b 0), (1, vI v1), (2, vI v2_33)]) [1, 2, 0] rfl ?_
    exact hrec _ _ h
set_option maxHeartbeats 4000000 in
theorem w_m_put_L3 (C : mCX p s m args meth c cX12_put 3 RX12 D E b) (hr : meth.sig.returnType = none) {M0 : Mem} {v1 : Int} {q : Int × Mem} (hfol : ∀ (v2 : Int) (M : Mem), q = (v2, M) → mWX p l e 1 12 s m args below meth c 3 D E b none M0 M 39 [] []) : ∀ (n : Nat) (v2 : Int) (M : Mem), itr2 (m_put_L3 v1) n v2 M = some q →
    mWX p l e 1 12 s m args below meth c 3 D E b none M0 M 3 [(0, vR b 0), (1, vI v1), (2, vI v2)] [] := by
  intro n
  induction n with
  | zero => exact fun _ _ h => itr_z h
  | succ n ih => exact fun _ _ h => w_m_put_L3_s C hr ih hfol h
set_option maxHeartbeats 4000000 in
set_option maxRecDepth 20000 in
theorem c_m_put (l : Launch) {x1 : Int} {M : Mem} {M0 : Mem} (h : m_put x1 M = some M0) : Ct l yX12_put cX12_put 3 none 1 12 vwCl mSh mN mRf mExt (fun b => [vR b 0, vI x1]) M (fun b => none) M0 := by
  refine Ct_of mExtOK (by decide) (fun b => Nat.le_of_ble_eq_true rfl) ?_
  intro p e s m args below meth c D E b C hr
  unfold m_put at h
  refine (show mWX p l e 1 12 s m args below meth c 3 D E b none M0 M 0 [(0, vR b 0), (1, vI x1)] [] from ?_)
  refine r_bipush (pc := 0) (j := 24) C (by decide +kernel) dX12_put_0 ?_
  refine r_istore_n (pc := 2) (lv' := [(2, vI 24), (0, vR b 0), (1, vI x1)]) C rfl dX12_put_2 (by decide) rfl ?_
  refine r_sub (lv' := [(0, vR b 0), (1, vI x1), (2, vI 24)]) [1, 2, 0] rfl ?_
  obtain ⟨q1, hl1, h⟩ := bnd_inv h
  refine w_m_put_L3 C hr (fun v2_1 M_1 hq => ?_) FUEL _ _ hl1
  have hq := hq.symm
  subst hq
  have e := Option.some.inj h
  exact r_vret (pc := 39) C hr rfl e.symm dX12_put_39
set_option maxHeartbeats 4000000 in
set_option maxRecDepth 20000 in
theorem c_m_refuses (l : Launch) {x1 : Int} {M : Mem} {r0 : Int} {M0 : Mem} (h : m_refuses x1 M = some (r0, M0)) : Ct l yX12_refuses cX12_refuses 2 (some .int) 1 12 vwCl mSh mN mRf mExt (fun b => [vR b 0, vI x1]) M (fun b => (some (vI r0))) M0 := by
  refine Ct_of mExtOK (by decide) (fun b => Nat.le_of_ble_eq_true rfl) ?_
  intro p e s m args below meth c D E b C hr
  unfold m_refuses at h
  refine (show mWX p l e 1 12 s m args below meth c 2 D E b (some (vI r0)) M0 M 0 [(0, vR b 0), (1, vI x1)] [] from ?_)
  refine r_aload_n (pc := 0) C 0 rfl rfl dX12_refuses_0 ?_
  refine r_getR (pc := 1) C fl_RX12_144 m_s0 (by decide) m_k43 m_r43 dX12_refuses_1 ?_
  refine r_iload_n (pc := 4) C 1 rfl rfl dX12_refuses_4 ?_
  refine r_dup2 (pc := 5) C rfl rfl dX12_refuses_5 ?_
  obtain ⟨hi6, h⟩ := chk_inv h
  refine r_iald (pc := 6) C m_s24 (by decide) (by decide) hi6 rfl dX12_refuses_6 ?_
  refine r_iconst (pc := 7) C dX12_refuses_7 ?_
  refine r_iadd (pc := 8) C dX12_refuses_8 ?_
  obtain ⟨hi9, h⟩ := chk_inv h
  obtain ⟨M_9, hM_9, h⟩ := lt_inv h
  refine r_iast (pc := 9) C m_s24 (by decide) (by decide) hi9 rfl hM_9 dX12_refuses_9 ?_
  refine r_iconst (pc := 10) C dX12_refuses_10 ?_
  have e := Option.some.inj h
  exact r_iret (pc := 11) C hr (congrArg (fun z => some (vI z)) (Prod.mk.inj e).1.symm) (Prod.mk.inj e).2.symm dX12_refuses_11
set_option maxHeartbeats 4000000 in
set_option maxRecDepth 20000 in
theorem c_m_feed (l : Launch) {x1 : Int} {x2 : Int} {x3 : Int} {x4 : Int} {x5 : Int} {M : Mem} {r0 : Int} {M0 : Mem} (h : m_feed x1 x2 x3 x4 x5 M = some (r0, M0)) : Ct l yX12_feed cX12_feed 6 (some .int) 2 34 vwCl mSh mN mRf mExt (fun b => [vR b 0, vI x1, vI x2, vI x3, vI x4, vI x5]) M (fun b => (some (vI r0))) M0 := by
  refine Ct_of mExtOK (by decide) (fun b => Nat.le_of_ble_eq_true rfl) ?_
  intro p e s m args below meth c D E b C hr
  unfold m_feed at h
  refine (show mWX p l e 2 34 s m args below meth c 6 D E b (some (vI r0)) M0 M 0 [(0, vR b 0), (1, vI x1), (2, vI x2), (3, vI x3), (4, vI x4), (5, vI x5)] [] from ?_)
  refine r_aload_n (pc := 0) C 0 rfl rfl dX12_feed_0 ?_
  refine r_getI (pc := 1) C fl_RX12_13 m_s0 (by decide) m_k1 dX12_feed_1 ?_
  refine r_bipush (pc := 4) (j := 20) C (by decide +kernel) dX12_feed_4 ?_
  refine r_iadd (pc := 6) C dX12_feed_6 ?_
  refine r_sipush (pc := 7) (j := 1600) C (by decide +kernel) dX12_feed_7 ?_
  refine r_icmp_le (pc := 10) (tgt := 19) C h dX12_feed_10 (by decide) (fun hc10 h => ?_) (fun hc10 h => ?_)
  · refine r_aload_n (pc := 19) C 0 rfl rfl dX12_feed_19 ?_
    refine r_iload_n (pc := 20) C 1 rfl rfl dX12_feed_20 ?_
    obtain ⟨M1, hq1, h⟩ := bnd_inv h
    refine r_callV (pc := 21) (rest := []) (st1 := []) C (mExtOK b) [vI x1] (c_m_put l hq1) cl_RX12_229 m_s0 (by decide) rfl rfl rfl rfl ⟨Nat.le_of_ble_eq_true rfl, Nat.le_of_ble_eq_true rfl⟩ (Nat.le_of_ble_eq_true rfl) rfl rfl dX12_feed_21 ?_
    refine r_aload_n (pc := 24) C 0 rfl rfl dX12_feed_24 ?_
    refine r_iload_n (pc := 25) C 2 rfl rfl dX12_feed_25 ?_
    obtain ⟨M2, hq2, h⟩ := bnd_inv h
    refine r_callV (pc := 26) (rest := []) (st1 := []) C (mExtOK b) [vI x2] (c_m_put l hq2) cl_RX12_229 m_s0 (by decide) rfl rfl rfl rfl ⟨Nat.le_of_ble_eq_true rfl, Nat.le_of_ble_eq_true rfl⟩ (Nat.le_of_ble_eq_true rfl) rfl rfl dX12_feed_26 ?_
    refine r_aload_n (pc := 29) C 0 rfl rfl dX12_feed_29 ?_
    refine r_iload_n (pc := 30) C 3 rfl rfl dX12_feed_30 ?_
    obtain ⟨M3, hq3, h⟩ := bnd_inv h
    refine r_callV (pc := 31) (rest := []) (st1 := []) C (mExtOK b) [vI x3] (c_m_put l hq3) cl_RX12_229 m_s0 (by decide) rfl rfl rfl rfl ⟨Nat.le_of_ble_eq_true rfl, Nat.le_of_ble_eq_true rfl⟩ (Nat.le_of_ble_eq_true rfl) rfl rfl dX12_feed_31 ?_
    refine r_aload_n (pc := 34) C 0 rfl rfl dX12_feed_34 ?_
    refine r_iload (pc := 35) C 4 rfl dX12_feed_35 ?_
    obtain ⟨M4, hq4, h⟩ := bnd_inv h
    refine r_callV (pc := 37) (rest := []) (st1 := []) C (mExtOK b) [vI x4] (c_m_put l hq4) cl_RX12_229 m_s0 (by decide) rfl rfl rfl rfl ⟨Nat.le_of_ble_eq_true rfl, Nat.le_of_ble_eq_true rfl⟩ (Nat.le_of_ble_eq_true rfl) rfl rfl dX12_feed_37 ?_
    refine r_aload_n (pc := 40) C 0 rfl rfl dX12_feed_40 ?_
    refine r_iload (pc := 41) C 5 rfl dX12_feed_41 ?_
    obtain ⟨M5, hq5, h⟩ := bnd_inv h
    refine r_callV (pc := 43) (rest := []) (st1 := []) C (mExtOK b) [vI x5] (c_m_put l hq5) cl_RX12_229 m_s0 (by decide) rfl rfl rfl rfl ⟨Nat.le_of_ble_eq_true rfl, Nat.le_of_ble_eq_true rfl⟩ (Nat.le_of_ble_eq_true rfl) rfl rfl dX12_feed_43 ?_
    refine r_aload_n (pc := 46) C 0 rfl rfl dX12_feed_46 ?_
    refine r_getI (pc := 47) C fl_RX12_13 m_s0 (by decide) m_k1 dX12_feed_47 ?_
    have e := Option.some.inj h
    exact r_iret (pc := 50) C hr (congrArg (fun z => some (vI z)) (Prod.mk.inj e).1.symm) (Prod.mk.inj e).2.symm dX12_feed_50
  · refine r_aload_n (pc := 13) C 0 rfl rfl dX12_feed_13 ?_
    refine r_iconst (pc := 14) C dX12_feed_14 ?_
    obtain ⟨r6, M6, hq6, h⟩ := bnd2_inv h
    refine r_callV (pc := 15) (rest := []) (st1 := [vI r6]) C (mExtOK b) [vI 0] (c_m_refuses l hq6) cl_RX12_225 m_s0 (by decide) rfl rfl rfl rfl ⟨Nat.le_of_ble_eq_true rfl, Nat.le_of_ble_eq_true rfl⟩ (Nat.le_of_ble_eq_true rfl) rfl rfl dX12_feed_15 ?_
    have e := Option.some.inj h
    exact r_iret (pc := 18) C hr (congrArg (fun z => some (vI z)) (Prod.mk.inj e).1.symm) (Prod.mk.inj e).2.symm dX12_feed_18
set_option maxHeartbeats 4000000 in
set_option maxRecDepth 20000 in
theorem w_m_end_B12 (C : mCX p s m args meth c cX12_end 2 RX12 D E b) (hr : meth.sig.returnType = (some .boolean)) {r0 : Bool} {M0 : Mem} {M : Mem} (h : m_end_B12 M = some (r0, M0)) :
    mWX p l e 2 33 s m args below meth c 2 D E b (some (vB r0)) M0 M 12 [(0, vR b 0)] [] := by
  unfold m_end_B12 at h
  refine r_aload_n (pc := 12) C 0 rfl rfl dX12_end_12 ?_
  refine r_iconst (pc := 13) C dX12_end_13 ?_
  obtain ⟨r1, M1, hq1, h⟩ := bnd2_inv h
  refine r_callV (pc := 14) (rest := []) (st1 := [vI r1]) C (mExtOK b) [vI 0] (c_m_refuses l hq1) cl_RX12_225 m_s0 (by decide) rfl rfl rfl rfl ⟨Nat.le_of_ble_eq_true rfl, Nat.le_of_ble_eq_true rfl⟩ (Nat.le_of_ble_eq_true rfl) rfl rfl dX12_end_14 ?_
  refine r_if_lt (pc := 17) (tgt := 24) C h dX12_end_17 (by decide) (fun hc17 h => ?_) (fun hc17 h => ?_)
  · refine r_iconst (pc := 24) C dX12_end_24 ?_
    have e := Option.some.inj h
    exact r_zret (pc := 25) C hr (Or.inl rfl) (congrArg (fun z => some (vB z)) (Prod.mk.inj e).1.symm) (Prod.mk.inj e).2.symm dX12_end_25
  · refine r_iconst (pc := 20) C dX12_end_20 ?_
    refine r_goto (pc := 21) (tgt := 25) C dX12_end_21 (by decide) ?_
    have e := Option.some.inj h
    exact r_zret (pc := 25) C hr (Or.inr rfl) (congrArg (fun z => some (vB z)) (Prod.mk.inj e).1.symm) (Prod.mk.inj e).2.symm dX12_end_25
set_option maxHeartbeats 4000000 in
set_option maxRecDepth 20000 in
theorem c_m_end (l : Launch) {x1 : Int} {M : Mem} {r0 : Bool} {M0 : Mem} (h : m_end x1 M = some (r0, M0)) : Ct l yX12_end cX12_end 2 (some .boolean) 2 33 vwCl mSh mN mRf mExt (fun b => [vR b 0, vI x1]) M (fun b => (some (vB r0))) M0 := by
  refine Ct_of mExtOK (by decide) (fun b => Nat.le_of_ble_eq_true rfl) ?_
  intro p e s m args below meth c D E b C hr
  unfold m_end at h
  refine (show mWX p l e 2 33 s m args below meth c 2 D E b (some (vB r0)) M0 M 0 [(0, vR b 0), (1, vI x1)] [] from ?_)
  refine r_iload_n (pc := 0) C 1 rfl rfl dX12_end_0 ?_
  refine r_if_lt (pc := 1) (tgt := 12) C h dX12_end_1 (by decide) (fun hc1 h => ?_) (fun hc1 h => ?_)
  · refine r_sub (lv' := [(0, vR b 0)]) [0] rfl ?_
    exact w_m_end_B12 C hr h
  · refine r_iload_n (pc := 4) C 1 rfl rfl dX12_end_4 ?_
    refine r_aload_n (pc := 5) C 0 rfl rfl dX12_end_5 ?_
    refine r_getI (pc := 6) C fl_RX12_13 m_s0 (by decide) m_k1 dX12_end_6 ?_
    refine r_icmp_le (pc := 9) (tgt := 26) C h dX12_end_9 (by decide) (fun hc9 h => ?_) (fun hc9 h => ?_)
    · refine r_aload_n (pc := 26) C 0 rfl rfl dX12_end_26 ?_
      refine r_iload_n (pc := 27) C 1 rfl rfl dX12_end_27 ?_
      obtain ⟨M_28, hM_28, h⟩ := lt_inv h
      refine r_putI (pc := 28) C fl_RX12_13 mw_ft m_w1 m_s0 (by decide) m_k1 hM_28 dX12_end_28 ?_
      refine r_iconst (pc := 31) C dX12_end_31 ?_
      have e := Option.some.inj h
      exact r_zret (pc := 32) C hr (Or.inr rfl) (congrArg (fun z => some (vB z)) (Prod.mk.inj e).1.symm) (Prod.mk.inj e).2.symm dX12_end_32
    · refine r_sub (lv' := [(0, vR b 0)]) [0] rfl ?_
      exact w_m_end_B12 C hr h
set_option maxHeartbeats 4000000 in
set_option maxRecDepth 20000 in
theorem c_m_blame (l : Launch) {x1 : Int} {x2 : Int} {M : Mem} {M0 : Mem} (h : m_blame x1 x2 M = some M0) : Ct l yX12_blame cX12_blame 3 none 1 12 vwCl mSh mN mRf mExt (fun b => [vR b 0, vI x1, vI x2]) M (fun b => none) M0 := by
  refine Ct_of mExtOK (by decide) (fun b => Nat.le_of_ble_eq_true rfl) ?_
  intro p e s m args below meth c D E b C hr
  unfold m_blame at h
  refine (show mWX p l e 1 12 s m args below meth c 3 D E b none M0 M 0 [(0, vR b 0), (1, vI x1), (2, vI x2)] [] from ?_)
  refine r_aload_n (pc := 0) C 0 rfl rfl dX12_blame_0 ?_
  refine r_getI (pc := 1) C fl_RX12_36 m_s0 (by decide) m_k8 dX12_blame_1 ?_
  refine r_if_le (pc := 4) (tgt := 8) C h dX12_blame_4 (by decide) (fun hc4 h => ?_) (fun hc4 h => ?_)
  · refine r_aload_n (pc := 8) C 0 rfl rfl dX12_blame_8 ?_
    refine r_iload_n (pc := 9) C 1 rfl rfl dX12_blame_9 ?_
    obtain ⟨M_10, hM_10, h⟩ := lt_inv h
    refine r_putI (pc := 10) C fl_RX12_36 mw_ft m_w8 m_s0 (by decide) m_k8 hM_10 dX12_blame_10 ?_
    refine r_aload_n (pc := 13) C 0 rfl rfl dX12_blame_13 ?_
    refine r_iload_n (pc := 14) C 2 rfl rfl dX12_blame_14 ?_
    obtain ⟨M_15, hM_15, h⟩ := lt_inv h
    refine r_putI (pc := 15) C fl_RX12_39 mw_ft m_w9 m_s0 (by decide) m_k9 hM_15 dX12_blame_15 ?_
    have e := Option.some.inj h
    exact r_vret (pc := 18) C hr rfl e.symm dX12_blame_18
  · have e := Option.some.inj h
    exact r_vret (pc := 7) C hr rfl e.symm dX12_blame_7
set_option maxHeartbeats 4000000 in
set_option maxRecDepth 20000 in
theorem c_m_isLetter (l : Launch) {x0 : Int} {M : Mem} {r0 : Bool} (h : m_isLetter x0 = some r0) : Ct l yX12_isLetter cX12_isLetter 1 (some .boolean) 1 12 vwCl mSh mN mRf mExt (fun b => [vI x0]) M (fun b => (some (vB r0))) M := by
  refine Ct_of mExtOK (by decide) (fun b => Nat.le_of_ble_eq_true rfl) ?_
  intro p e s m args below meth c D E b C hr
  unfold m_isLetter at h
  refine (show mWX p l e 1 12 s m args below meth c 1 D E b (some (vB r0)) M M 0 [(0, vI x0)] [] from ?_)
  refine r_iload_n (pc := 0) C 0 rfl rfl dX12_isLetter_0 ?_
  refine r_bipush (pc := 1) (j := 97) C (by decide +kernel) dX12_isLetter_1 ?_
  refine r_icmp_lt (pc := 3) (tgt := 16) C h dX12_isLetter_3 (by decide) (fun hc3 h => ?_) (fun hc3 h => ?_)
  · refine r_iconst (pc := 16) C dX12_isLetter_16 ?_
    have e := Option.some.inj h
    exact r_zret (pc := 17) C hr (Or.inl rfl) (congrArg (fun z => some (vB z)) e.symm) rfl dX12_isLetter_17
  · refine r_iload_n (pc := 6) C 0 rfl rfl dX12_isLetter_6 ?_
    refine r_bipush (pc := 7) (j := 122) C (by decide +kernel) dX12_isLetter_7 ?_
    refine r_icmp_gt (pc := 9) (tgt := 16) C h dX12_isLetter_9 (by decide) (fun hc9 h => ?_) (fun hc9 h => ?_)
    · refine r_iconst (pc := 16) C dX12_isLetter_16 ?_
      have e := Option.some.inj h
      exact r_zret (pc := 17) C hr (Or.inl rfl) (congrArg (fun z => some (vB z)) e.symm) rfl dX12_isLetter_17
    · refine r_iconst (pc := 12) C dX12_isLetter_12 ?_
      refine r_goto (pc := 13) (tgt := 17) C dX12_isLetter_13 (by decide) ?_
      have e := Option.some.inj h
      exact r_zret (pc := 17) C hr (Or.inr rfl) (congrArg (fun z => some (vB z)) e.symm) rfl dX12_isLetter_17
set_option maxHeartbeats 4000000 in
set_option maxRecDepth 20000 in
theorem c_m_isDigit (l : Launch) {x0 : Int} {M : Mem} {r0 : Bool} (h : m_isDigit x0 = some r0) : Ct l yX12_isDigit cX12_isDigit 1 (some .boolean) 1 12 vwCl mSh mN mRf mExt (fun b => [vI x0]) M (fun b => (some (vB r0))) M := by
  refine Ct_of mExtOK (by decide) (fun b => Nat.le_of_ble_eq_true rfl) ?_
  intro p e s m args below meth c D E b C hr
  unfold m_isDigit at h
  refine (show mWX p l e 1 12 s m args below meth c 1 D E b (some (vB r0)) M M 0 [(0, vI x0)] [] from ?_)
  refine r_iload_n (pc := 0) C 0 rfl rfl dX12_isDigit_0 ?_
  refine r_bipush (pc := 1) (j := 48) C (by decide +kernel) dX12_isDigit_1 ?_
  refine r_icmp_lt (pc := 3) (tgt := 16) C h dX12_isDigit_3 (by decide) (fun hc3 h => ?_) (fun hc3 h => ?_)
  · refine r_iconst (pc := 16) C dX12_isDigit_16 ?_
    have e := Option.some.inj h
    exact r_zret (pc := 17) C hr (Or.inl rfl) (congrArg (fun z => some (vB z)) e.symm) rfl dX12_isDigit_17
  · refine r_iload_n (pc := 6) C 0 rfl rfl dX12_isDigit_6 ?_
    refine r_bipush (pc := 7) (j := 57) C (by decide +kernel) dX12_isDigit_7 ?_
    refine r_icmp_gt (pc := 9) (tgt := 16) C h dX12_isDigit_9 (by decide) (fun hc9 h => ?_) (fun hc9 h => ?_)
    · refine r_iconst (pc := 16) C dX12_isDigit_16 ?_
      have e := Option.some.inj h
      exact r_zret (pc := 17) C hr (Or.inl rfl) (congrArg (fun z => some (vB z)) e.symm) rfl dX12_isDigit_17
    · refine r_iconst (pc := 12) C dX12_isDigit_12 ?_
      refine r_goto (pc := 13) (tgt := 17) C dX12_isDigit_13 (by decide) ?_
      have e := Option.some.inj h
      exact r_zret (pc := 17) C hr (Or.inr rfl) (congrArg (fun z => some (vB z)) e.symm) rfl dX12_isDigit_17
set_option maxHeartbeats 4000000 in
set_option maxRecDepth 20000 in
theorem c_m_lex (l : Launch) {M : Mem} {M0 : Mem} (h : m_lex M = some M0) : Ct l yX12_lex cX12_lex 1 none 2 34 vwCl mSh mN mRf mExt (fun b => [vR b 0]) M (fun b => none) M0 := by
  refine Ct_of mExtOK (by decide) (fun b => Nat.le_of_ble_eq_true rfl) ?_
  intro p e s m args below meth c D E b C hr
  unfold m_lex at h
  refine (show mWX p l e 2 34 s m args below meth c 1 D E b none M0 M 0 [(0, vR b 0)] [] from ?_)
  refine r_aload_n (pc := 0) C 0 rfl rfl dX12_lex_0 ?_
  refine r_getI (pc := 1) C fl_RX12_48 m_s0 (by decide) m_k12 dX12_lex_1 ?_
  refine r_iconst (pc := 4) C dX12_lex_4 ?_
  refine r_icmp_eq (pc := 5) (tgt := 17) C h dX12_lex_5 (by decide) (fun hc5 h => ?_) (fun hc5 h => ?_)
  · have e := Option.some.inj h
    exact r_vret (pc := 17) C hr rfl e.symm dX12_lex_17
  · refine r_aload_n (pc := 8) C 0 rfl rfl dX12_lex_8 ?_
    refine r_iconst (pc := 9) C dX12_lex_9 ?_
    refine r_aload_n (pc := 10) C 0 rfl rfl dX12_lex_10 ?_
    refine r_getI (pc := 11) C fl_RX12_48 m_s0 (by decide) m_k12 dX12_lex_11 ?_
    obtain ⟨M1, hq1, h⟩ := bnd_inv h
    refine r_callV (pc := 14) (rest := []) (st1 := []) C (mExtOK b) [vI 1, vI (M 0 12)] (c_m_blame l hq1) cl_RX12_233 m_s0 (by decide) rfl rfl rfl rfl ⟨Nat.le_of_ble_eq_true rfl, Nat.le_of_ble_eq_true rfl⟩ (Nat.le_of_ble_eq_true rfl) rfl rfl dX12_lex_14 ?_
    have e := Option.some.inj h
    exact r_vret (pc := 17) C hr rfl e.symm dX12_lex_17
set_option maxHeartbeats 4000000 in
set_option maxRecDepth 20000 in
theorem w_m_ahead_L5_s (C : mCX p s m args meth c cX12_ahead 6 RX12 D E b) (hr : meth.sig.returnType = none) {M0 : Mem} {M : Mem} {v1 : Int} {q : Int} {rec : Int → Option (Int)} (hrec : ∀ (v1 : Int), rec v1 = some q → mWX p l e 2 32 s m args below meth c 6 D E b none M0 M 5 [(0, vR b 0), (1, vI v1)] []) (hfol : ∀ (v1 : Int), q = v1 → mWX p l e 2 32 s m args below meth c 6 D E b none M0 M 41 [(0, vR b 0), (1, vI v1)] []) (h : m_ahead_L5 M rec v1 = some q) :
    mWX p l e 2 32 s m args below meth c 6 D E b none M0 M 5 [(0, vR b 0), (1, vI v1)] [] := by
  unfold m_ahead_L5 at h
  refine r_iload_n (pc := 5) C 1 rfl rfl dX12_ahead_5 ?_
  refine r_aload_n (pc := 6) C 0 rfl rfl dX12_ahead_6 ?_
  refine r_getI (pc := 7) C fl_RX12_17 m_s0 (by decide) m_k2 dX12_ahead_7 ?_
  refine r_icmp_ge (pc := 10) (tgt := 41) C h dX12_ahead_10 (by decide) (fun hc10 h => ?_) (fun hc10 h => ?_)
  · refine r_sub (lv' := [(0, vR b 0), (1, vI v1)]) [0, 1] rfl ?_
    exact hfol _ (Option.some.inj h).symm
  · refine r_aload_n (pc := 13) C 0 rfl rfl dX12_ahead_13 ?_
    refine r_getR (pc := 14) C fl_RX12_7 m_s0 (by decide) m_k0 m_r0 dX12_ahead_14 ?_
    refine r_iload_n (pc := 17) C 1 rfl rfl dX12_ahead_17 ?_
    obtain ⟨hi18, h⟩ := chk_inv h
    refine r_iald (pc := 18) C m_s1 (by decide) (by decide) hi18 rfl dX12_ahead_18 ?_
    refine r_bipush (pc := 19) (j := 32) C (by decide +kernel) dX12_ahead_19 ?_
    refine r_icmp_eq (pc := 21) (tgt := 35) C h dX12_ahead_21 (by decide) (fun hc21 h => ?_) (fun hc21 h => ?_)
    · obtain ⟨v1_35, hv1_35, h⟩ := lt_inv h
      refine r_iincN (pc := 35) (y := v1_35) (lv' := [(1, vI v1_35), (0, vR b 0)]) C 1 rfl hv1_35 dX12_ahead_35 (by decide) rfl ?_
      refine r_goto (pc := 38) (tgt := 5) C dX12_ahead_38 (by decide) ?_
      refine r_sub (lv' := [(0, vR b 0), (1, vI v1_35)]) [1, 0] rfl ?_
      exact hrec _ h
    · refine r_aload_n (pc := 24) C 0 rfl rfl dX12_ahead_24 ?_
      refine r_getR (pc := 25) C fl_RX12_7 m_s0 (by decide) m_k0 m_r0 dX12_ahead_25 ?_
      refine r_iload_n (pc := 28) C 1 rfl rfl dX12_ahead_28 ?_
      obtain ⟨hi29, h⟩ := chk_inv h
      refine r_iald (pc := 29) C m_s1 (by decide) (by decide) hi29 rfl dX12_ahead_29 ?_
      refine r_bipush (pc := 30) (j := 10) C (by decide +kernel) dX12_ahead_30 ?_
      refine r_icmp_ne (pc := 32) (tgt := 41) C h dX12_ahead_32 (by decide) (fun hc32 h => ?_) (fun hc32 h => ?_)
      · refine r_sub (lv' := [(0, vR b 0), (1, vI v1)]) [0, 1] rfl ?_
        exact hfol _ (Option.some.inj h).symm
      · obtain ⟨v1_35, hv1_35, h⟩ := lt_inv h
        refine r_iincN (pc := 35) (y := v1_35) (lv' := [(1, vI v1_35), (0, vR b 0)]) C 1 rfl hv1_35 dX12_ahead_35 (by decide) rfl ?_
        refine r_goto (pc := 38) (tgt := 5) C dX12_ahead_38 (by decide) ?_
        refine r_sub (lv' := [(0, vR b 0), (1, vI v1_35)]) [1, 0] rfl ?_
        exact hrec _ h
set_option maxHeartbeats 4000000 in
theorem w_m_ahead_L5 (C : mCX p s m args meth c cX12_ahead 6 RX12 D E b) (hr : meth.sig.returnType = none) {M0 : Mem} {M : Mem} {q : Int} (hfol : ∀ (v1 : Int), q = v1 → mWX p l e 2 32 s m args below meth c 6 D E b none M0 M 41 [(0, vR b 0), (1, vI v1)] []) : ∀ (n : Nat) (v1 : Int), itr1 (m_ahead_L5 M) n v1 = some q →
    mWX p l e 2 32 s m args below meth c 6 D E b none M0 M 5 [(0, vR b 0), (1, vI v1)] [] := by
  intro n
  induction n with
  | zero => exact fun _ h => itr_z h
  | succ n ih => exact fun _ h => w_m_ahead_L5_s C hr ih hfol h
set_option maxHeartbeats 4000000 in
set_option maxRecDepth 20000 in
theorem w_m_ahead_L204_B293 (C : mCX p s m args meth c cX12_ahead 6 RX12 D E b) (hr : meth.sig.returnType = none) {M0 : Mem} {M : Mem} {v1 : Int} {v2 : Int} {v3 : Int} {v4 : Int} {v5 : Int} {q : Int × Int × Mem} {rec : Int → Int → Mem → Option (Int × Int × Mem)} (hrec : ∀ (v1 : Int) (v5 : Int) (M : Mem), rec v1 v5 M = some q → mWX p l e 2 32 s m args below meth c 6 D E b none M0 M 204 [(0, vR b 0), (1, vI v1), (2, vI v2), (3, vI v3), (4, vI v4), (5, vI v5)] []) (hfol : ∀ (v1 : Int) (v5 : Int) (M : Mem), q = (v1, v5, M) → mWX p l e 2 32 s m args below meth c 6 D E b none M0 M 334 [(0, vR b 0), (1, vI v1)] []) (h : m_ahead_L204_B293 rec v1 v2 v3 v4 v5 M = some q) :
    mWX p l e 2 32 s m args below meth c 6 D E b none M0 M 293 [(0, vR b 0), (1, vI v1), (2, vI v2), (3, vI v3), (4, vI v4), (5, vI v5)] [] := by
  unfold m_ahead_L204_B293 at h
  refine r_iload (pc := 293) C 5 rfl dX12_ahead_293 ?_
  refine r_iload (pc := 295) C 4 rfl dX12_ahead_295 ?_
  refine r_icmp_ge (pc := 297) (tgt := 325) C h dX12_ahead_297 (by decide) (fun hc297 h => ?_) (fun hc297 h => ?_)
  · obtain ⟨v5_325, hv5_325, h⟩ := lt_inv h
    refine r_iincN (pc := 325) (y := v5_325) (lv' := [(5, vI v5_325), (0, vR b 0), (1, vI v1), (2, vI v2), (3, vI v3), (4, vI v4)]) C 5 rfl hv5_325 dX12_ahead_325 (by decide) rfl ?_
    obtain ⟨v1_328, hv1_328, h⟩ := lt_inv h
    refine r_iincN (pc := 328) (y := v1_328) (lv' := [(1, vI v1_328), (5, vI v5_325), (0, vR b 0), (2, vI v2), (3, vI v3), (4, vI v4)]) C 2 rfl hv1_328 dX12_ahead_328 (by decide) rfl ?_
    refine r_goto (pc := 331) (tgt := 204) C dX12_ahead_331 (by decide) ?_
    refine r_sub (lv' := [(0, vR b 0), (1, vI v1_328), (2, vI v2), (3, vI v3), (4, vI v4), (5, vI v5_325)]) [2, 0, 3, 4, 5, 1] rfl ?_
    exact hrec _ _ _ h
  · refine r_iload_n (pc := 300) C 3 rfl rfl dX12_ahead_300 ?_
    refine r_if_eq (pc := 301) (tgt := 325) C h dX12_ahead_301 (by decide) (fun hc301 h => ?_) (fun hc301 h => ?_)
    · obtain ⟨v5_325, hv5_325, h⟩ := lt_inv h
      refine r_iincN (pc := 325) (y := v5_325) (lv' := [(5, vI v5_325), (0, vR b 0), (1, vI v1), (2, vI v2), (3, vI v3), (4, vI v4)]) C 5 rfl hv5_325 dX12_ahead_325 (by decide) rfl ?_
      obtain ⟨v1_328, hv1_328, h⟩ := lt_inv h
      refine r_iincN (pc := 328) (y := v1_328) (lv' := [(1, vI v1_328), (5, vI v5_325), (0, vR b 0), (2, vI v2), (3, vI v3), (4, vI v4)]) C 2 rfl hv1_328 dX12_ahead_328 (by decide) rfl ?_
      refine r_goto (pc := 331) (tgt := 204) C dX12_ahead_331 (by decide) ?_
      refine r_sub (lv' := [(0, vR b 0), (1, vI v1_328), (2, vI v2), (3, vI v3), (4, vI v4), (5, vI v5_325)]) [2, 0, 3, 4, 5, 1] rfl ?_
      exact hrec _ _ _ h
    · refine r_aload_n (pc := 304) C 0 rfl rfl dX12_ahead_304 ?_
      refine r_bipush (pc := 305) (j := 10) C (by decide +kernel) dX12_ahead_305 ?_
      refine r_aload_n (pc := 307) C 0 rfl rfl dX12_ahead_307 ?_
      refine r_getI (pc := 308) C fl_RX12_29 m_s0 (by decide) m_k6 dX12_ahead_308 ?_
      refine r_imul (pc := 311) C dX12_ahead_311 ?_
      refine r_aload_n (pc := 312) C 0 rfl rfl dX12_ahead_312 ?_
      refine r_getR (pc := 313) C fl_RX12_7 m_s0 (by decide) m_k0 m_r0 dX12_ahead_313 ?_
      refine r_iload_n (pc := 316) C 1 rfl rfl dX12_ahead_316 ?_
      obtain ⟨hi317, h⟩ := chk_inv h
      refine r_iald (pc := 317) C m_s1 (by decide) (by decide) hi317 rfl dX12_ahead_317 ?_
      refine r_iadd (pc := 318) C dX12_ahead_318 ?_
      refine r_bipush (pc := 319) (j := 48) C (by decide +kernel) dX12_ahead_319 ?_
      refine r_isub (pc := 321) C dX12_ahead_321 ?_
      obtain ⟨M_322, hM_322, h⟩ := lt_inv h
      refine r_putI (pc := 322) C fl_RX12_29 mw_ft m_w6 m_s0 (by decide) m_k6 hM_322 dX12_ahead_322 ?_
      obtain ⟨v5_325, hv5_325, h⟩ := lt_inv h
      refine r_iincN (pc := 325) (y := v5_325) (lv' := [(5, vI v5_325), (0, vR b 0), (1, vI v1), (2, vI v2), (3, vI v3), (4, vI v4)]) C 5 rfl hv5_325 dX12_ahead_325 (by decide) rfl ?_
      obtain ⟨v1_328, hv1_328, h⟩ := lt_inv h
      refine r_iincN (pc := 328) (y := v1_328) (lv' := [(1, vI v1_328), (5, vI v5_325), (0, vR b 0), (2, vI v2), (3, vI v3), (4, vI v4)]) C 2 rfl hv1_328 dX12_ahead_328 (by decide) rfl ?_
      refine r_goto (pc := 331) (tgt := 204) C dX12_ahead_331 (by decide) ?_
      refine r_sub (lv' := [(0, vR b 0), (1, vI v1_328), (2, vI v2), (3, vI v3), (4, vI v4), (5, vI v5_325)]) [2, 0, 3, 4, 5, 1] rfl ?_
      exact hrec _ _ _ h
set_option maxHeartbeats 4000000 in
set_option maxRecDepth 20000 in
theorem w_m_ahead_L204_B263 (C : mCX p s m args meth c cX12_ahead 6 RX12 D E b) (hr : meth.sig.returnType = none) {M0 : Mem} {M : Mem} {v1 : Int} {v2 : Int} {v3 : Int} {v4 : Int} {v5 : Int} {q : Int × Int × Mem} {rec : Int → Int → Mem → Option (Int × Int × Mem)} (hrec : ∀ (v1 : Int) (v5 : Int) (M : Mem), rec v1 v5 M = some q → mWX p l e 2 32 s m args below meth c 6 D E b none M0 M 204 [(0, vR b 0), (1, vI v1), (2, vI v2), (3, vI v3), (4, vI v4), (5, vI v5)] []) (hfol : ∀ (v1 : Int) (v5 : Int) (M : Mem), q = (v1, v5, M) → mWX p l e 2 32 s m args below meth c 6 D E b none M0 M 334 [(0, vR b 0), (1, vI v1)] []) (h : m_ahead_L204_B263 rec v1 v2 v3 v4 v5 M = some q) :
    mWX p l e 2 32 s m args below meth c 6 D E b none M0 M 263 [(0, vR b 0), (1, vI v1), (2, vI v2), (3, vI v3), (4, vI v4), (5, vI v5)] [] := by
  unfold m_ahead_L204_B263 at h
  refine r_iload (pc := 263) C 5 rfl dX12_ahead_263 ?_
  refine r_iload (pc := 265) C 4 rfl dX12_ahead_265 ?_
  refine r_icmp_ge (pc := 267) (tgt := 293) C h dX12_ahead_267 (by decide) (fun hc267 h => ?_) (fun hc267 h => ?_)
  · refine r_sub (lv' := [(0, vR b 0), (1, vI v1), (2, vI v2), (3, vI v3), (4, vI v4), (5, vI v5)]) [0, 1, 2, 3, 4, 5] rfl ?_
    exact w_m_ahead_L204_B293 C hr hrec hfol h
  · refine r_iload_n (pc := 270) C 2 rfl rfl dX12_ahead_270 ?_
    refine r_if_eq (pc := 271) (tgt := 293) C h dX12_ahead_271 (by decide) (fun hc271 h => ?_) (fun hc271 h => ?_)
    · refine r_sub (lv' := [(0, vR b 0), (1, vI v1), (2, vI v2), (3, vI v3), (4, vI v4), (5, vI v5)]) [0, 1, 2, 3, 4, 5] rfl ?_
      exact w_m_ahead_L204_B293 C hr hrec hfol h
    · refine r_aload_n (pc := 274) C 0 rfl rfl dX12_ahead_274 ?_
      refine r_aload_n (pc := 275) C 0 rfl rfl dX12_ahead_275 ?_
      refine r_getL (pc := 276) C fl_RX12_32 m_s0 (by decide) m_k7 dX12_ahead_276 ?_
      refine r_bipush (pc := 279) (j := 8) C (by decide +kernel) dX12_ahead_279 ?_
      refine r_lshl (pc := 281) C dX12_ahead_281 ?_
      refine r_aload_n (pc := 282) C 0 rfl rfl dX12_ahead_282 ?_
      refine r_getR (pc := 283) C fl_RX12_7 m_s0 (by decide) m_k0 m_r0 dX12_ahead_283 ?_
      refine r_iload_n (pc := 286) C 1 rfl rfl dX12_ahead_286 ?_
      obtain ⟨hi287, h⟩ := chk_inv h
      refine r_iald (pc := 287) C m_s1 (by decide) (by decide) hi287 rfl dX12_ahead_287 ?_
      refine r_i2l (pc := 288) C dX12_ahead_288 ?_
      refine r_lor (pc := 289) C dX12_ahead_289 ?_
      obtain ⟨M_290, hM_290, h⟩ := lt_inv h
      refine r_putL (pc := 290) C fl_RX12_32 mw_ft m_w7 m_s0 (by decide) m_k7 hM_290 dX12_ahead_290 ?_
      refine r_sub (lv' := [(0, vR b 0), (1, vI v1), (2, vI v2), (3, vI v3), (4, vI v4), (5, vI v5)]) [0, 1, 2, 3, 4, 5] rfl ?_
      exact w_m_ahead_L204_B293 C hr hrec hfol h
set_option maxHeartbeats 4000000 in
set_option maxRecDepth 20000 in
theorem w_m_ahead_L204_B243 (C : mCX p s m args meth c cX12_ahead 6 RX12 D E b) (hr : meth.sig.returnType = none) {M0 : Mem} {M : Mem} {v1 : Int} {v2 : Int} {v3 : Int} {v4 : Int} {v5 : Int} {q : Int × Int × Mem} {rec : Int → Int → Mem → Option (Int × Int × Mem)} (hrec : ∀ (v1 : Int) (v5 : Int) (M : Mem), rec v1 v5 M = some q → mWX p l e 2 32 s m args below meth c 6 D E b none M0 M 204 [(0, vR b 0), (1, vI v1), (2, vI v2), (3, vI v3), (4, vI v4), (5, vI v5)] []) (hfol : ∀ (v1 : Int) (v5 : Int) (M : Mem), q = (v1, v5, M) → mWX p l e 2 32 s m args below meth c 6 D E b none M0 M 334 [(0, vR b 0), (1, vI v1)] []) (h : m_ahead_L204_B243 rec v1 v2 v3 v4 v5 M = some q) :
    mWX p l e 2 32 s m args below meth c 6 D E b none M0 M 243 [(0, vR b 0), (1, vI v1), (2, vI v2), (3, vI v3), (4, vI v4), (5, vI v5)] [] := by
  unfold m_ahead_L204_B243 at h
  refine r_iload (pc := 243) C 5 rfl dX12_ahead_243 ?_
  refine r_iload (pc := 245) C 4 rfl dX12_ahead_245 ?_
  refine r_icmp_ne (pc := 247) (tgt := 263) C h dX12_ahead_247 (by decide) (fun hc247 h => ?_) (fun hc247 h => ?_)
  · refine r_sub (lv' := [(0, vR b 0), (1, vI v1), (2, vI v2), (3, vI v3), (4, vI v4), (5, vI v5)]) [0, 1, 2, 3, 4, 5] rfl ?_
    exact w_m_ahead_L204_B263 C hr hrec hfol h
  · refine r_aload_n (pc := 250) C 0 rfl rfl dX12_ahead_250 ?_
    refine r_getI (pc := 251) C fl_RX12_48 m_s0 (by decide) m_k12 dX12_ahead_251 ?_
    refine r_iconst (pc := 254) C dX12_ahead_254 ?_
    refine r_icmp_ne (pc := 255) (tgt := 263) C h dX12_ahead_255 (by decide) (fun hc255 h => ?_) (fun hc255 h => ?_)
    · refine r_sub (lv' := [(0, vR b 0), (1, vI v1), (2, vI v2), (3, vI v3), (4, vI v4), (5, vI v5)]) [0, 1, 2, 3, 4, 5] rfl ?_
      exact w_m_ahead_L204_B263 C hr hrec hfol h
    · refine r_aload_n (pc := 258) C 0 rfl rfl dX12_ahead_258 ?_
      refine r_iload_n (pc := 259) C 1 rfl rfl dX12_ahead_259 ?_
      obtain ⟨M_260, hM_260, h⟩ := lt_inv h
      refine r_putI (pc := 260) C fl_RX12_48 mw_ft m_w12 m_s0 (by decide) m_k12 hM_260 dX12_ahead_260 ?_
      refine r_sub (lv' := [(0, vR b 0), (1, vI v1), (2, vI v2), (3, vI v3), (4, vI v4), (5, vI v5)]) [0, 1, 2, 3, 4, 5] rfl ?_
      exact w_m_ahead_L204_B263 C hr hrec hfol h
set_option maxHeartbeats 4000000 in
set_option maxRecDepth 20000 in
theorem w_m_ahead_L204_s (C : mCX p s m args meth c cX12_ahead 6 RX12 D E b) (hr : meth.sig.returnType = none) {M0 : Mem} {v2 : Int} {v3 : Int} {v4 : Int} {v1 : Int} {v5 : Int} {M : Mem} {q : Int × Int × Mem} {rec : Int → Int → Mem → Option (Int × Int × Mem)} (hrec : ∀ (v1 : Int) (v5 : Int) (M : Mem), rec v1 v5 M = some q → mWX p l e 2 32 s m args below meth c 6 D E b none M0 M 204 [(0, vR b 0), (1, vI v1), (2, vI v2), (3, vI v3), (4, vI v4), (5, vI v5)] []) (hfol : ∀ (v1 : Int) (v5 : Int) (M : Mem), q = (v1, v5, M) → mWX p l e 2 32 s m args below meth c 6 D E b none M0 M 334 [(0, vR b 0), (1, vI v1)] []) (h : m_ahead_L204 v2 v3 v4 rec v1 v5 M = some q) :
    mWX p l e 2 32 s m args below meth c 6 D E b none M0 M 204 [(0, vR b 0), (1, vI v1), (2, vI v2), (3, vI v3), (4, vI v4), (5, vI v5)] [] := by
  unfold m_ahead_L204 at h
  refine r_iload_n (pc := 204) C 1 rfl rfl dX12_ahead_204 ?_
  refine r_aload_n (pc := 205) C 0 rfl rfl dX12_ahead_205 ?_
  refine r_getI (pc := 206) C fl_RX12_17 m_s0 (by decide) m_k2 dX12_ahead_206 ?_
  refine r_icmp_ge (pc := 209) (tgt := 334) C h dX12_ahead_209 (by decide) (fun hc209 h => ?_) (fun hc209 h => ?_)
  · refine r_sub (lv' := [(0, vR b 0), (1, vI v1)]) [0, 1] rfl ?_
    exact hfol _ _ _ (Option.some.inj h).symm
  · refine r_iload_n (pc := 212) C 2 rfl rfl dX12_ahead_212 ?_
    refine r_if_eq (pc := 213) (tgt := 231) C h dX12_ahead_213 (by decide) (fun hc213 h => ?_) (fun hc213 h => ?_)
    · refine r_aload_n (pc := 231) C 0 rfl rfl dX12_ahead_231 ?_
      refine r_getR (pc := 232) C fl_RX12_7 m_s0 (by decide) m_k0 m_r0 dX12_ahead_232 ?_
      refine r_iload_n (pc := 235) C 1 rfl rfl dX12_ahead_235 ?_
      obtain ⟨hi236, h⟩ := chk_inv h
      refine r_iald (pc := 236) C m_s1 (by decide) (by decide) hi236 rfl dX12_ahead_236 ?_
      obtain ⟨r4, hq4, h⟩ := bnd_inv h
      refine r_callS (pc := 237) (rest := []) (st1 := [vB r4]) C (mExtOK b) [vI (M 1 v1.toNat)] (c_m_isDigit l hq4) cl_RX12_241 rfl rfl ⟨Nat.le_of_ble_eq_true rfl, Nat.le_of_ble_eq_true rfl⟩ (Nat.le_of_ble_eq_true rfl) rfl rfl dX12_ahead_237 ?_
      refine r_if_eqB (pc := 240) (tgt := 334) C h dX12_ahead_240 (by decide) (fun hc240 h => ?_) (fun hc240 h => ?_)
      · refine r_sub (lv' := [(0, vR b 0), (1, vI v1), (2, vI v2), (3, vI v3), (4, vI v4), (5, vI v5)]) [0, 1, 2, 3, 4, 5] rfl ?_
        exact w_m_ahead_L204_B243 C hr hrec hfol h
      · refine r_sub (lv' := [(0, vR b 0), (1, vI v1)]) [0, 1] rfl ?_
        exact hfol _ _ _ (Option.some.inj h).symm
    · refine r_aload_n (pc := 216) C 0 rfl rfl dX12_ahead_216 ?_
      refine r_getR (pc := 217) C fl_RX12_7 m_s0 (by decide) m_k0 m_r0 dX12_ahead_217 ?_
      refine r_iload_n (pc := 220) C 1 rfl rfl dX12_ahead_220 ?_
      obtain ⟨hi221, h⟩ := chk_inv h
      refine r_iald (pc := 221) C m_s1 (by decide) (by decide) hi221 rfl dX12_ahead_221 ?_
      obtain ⟨r5, hq5, h⟩ := bnd_inv h
      refine r_callS (pc := 222) (rest := []) (st1 := [vB r5]) C (mExtOK b) [vI (M 1 v1.toNat)] (c_m_isLetter l hq5) cl_RX12_237 rfl rfl ⟨Nat.le_of_ble_eq_true rfl, Nat.le_of_ble_eq_true rfl⟩ (Nat.le_of_ble_eq_true rfl) rfl rfl dX12_ahead_222 ?_
      refine r_if_eqB (pc := 225) (tgt := 334) C h dX12_ahead_225 (by decide) (fun hc225 h => ?_) (fun hc225 h => ?_)
      · refine r_goto (pc := 228) (tgt := 243) C dX12_ahead_228 (by decide) ?_
        refine r_sub (lv' := [(0, vR b 0), (1, vI v1), (2, vI v2), (3, vI v3), (4, vI v4), (5, vI v5)]) [0, 1, 2, 3, 4, 5] rfl ?_
        exact w_m_ahead_L204_B243 C hr hrec hfol h
      · refine r_sub (lv' := [(0, vR b 0), (1, vI v1)]) [0, 1] rfl ?_
        exact hfol _ _ _ (Option.some.inj h).symm
set_option maxHeartbeats 4000000 in
theorem w_m_ahead_L204 (C : mCX p s m args meth c cX12_ahead 6 RX12 D E b) (hr : meth.sig.returnType = none) {M0 : Mem} {v2 : Int} {v3 : Int} {v4 : Int} {q : Int × Int × Mem} (hfol : ∀ (v1 : Int) (v5 : Int) (M : Mem), q = (v1, v5, M) → mWX p l e 2 32 s m args below meth c 6 D E b none M0 M 334 [(0, vR b 0), (1, vI v1)] []) : ∀ (n : Nat) (v1 : Int) (v5 : Int) (M : Mem), itr3 (m_ahead_L204 v2 v3 v4) n v1 v5 M = some q →
    mWX p l e 2 32 s m args below meth c 6 D E b none M0 M 204 [(0, vR b 0), (1, vI v1), (2, vI v2), (3, vI v3), (4, vI v4), (5, vI v5)] [] := by
  intro n
  induction n with
  | zero => exact fun _ _ _ h => itr_z h
  | succ n ih => exact fun _ _ _ h => w_m_ahead_L204_s C hr ih hfol h
set_option maxHeartbeats 4000000 in
set_option maxRecDepth 20000 in
theorem w_m_ahead_B199 (C : mCX p s m args meth c cX12_ahead 6 RX12 D E b) (hr : meth.sig.returnType = none) {M0 : Mem} {M : Mem} {v1 : Int} {v2 : Int} {v3 : Int} {s0 : Int} (h : m_ahead_B199 v1 v2 v3 s0 M = some M0) :
    mWX p l e 2 32 s m args below meth c 6 D E b none M0 M 199 [(0, vR b 0), (1, vI v1), (2, vI v2), (3, vI v3)] [vI s0] := by
  unfold m_ahead_B199 at h
  refine r_istore (pc := 199) (lv' := [(4, vI s0), (0, vR b 0), (1, vI v1), (2, vI v2), (3, vI v3)]) C dX12_ahead_199 (by decide) rfl ?_
  refine r_iconst (pc := 201) C dX12_ahead_201 ?_
  refine r_istore (pc := 202) (lv' := [(5, vI 0), (4, vI s0), (0, vR b 0), (1, vI v1), (2, vI v2), (3, vI v3)]) C dX12_ahead_202 (by decide) rfl ?_
  refine r_sub (lv' := [(0, vR b 0), (1, vI v1), (2, vI v2), (3, vI v3), (4, vI s0), (5, vI 0)]) [2, 3, 4, 5, 1, 0] rfl ?_
  obtain ⟨q6, hl6, h⟩ := bnd_inv h
  refine w_m_ahead_L204 C hr (fun v1_6 v5_6 M_6 hq => ?_) FUEL _ _ _ hl6
  have hq := hq.symm
  subst hq
  refine r_aload_n (pc := 334) C 0 rfl rfl dX12_ahead_334 ?_
  refine r_iload_n (pc := 335) C 1 rfl rfl dX12_ahead_335 ?_
  obtain ⟨M_336, hM_336, h⟩ := lt_inv h
  refine r_putI (pc := 336) C fl_RX12_26 mw_ft m_w5 m_s0 (by decide) m_k5 hM_336 dX12_ahead_336 ?_
  have e := Option.some.inj h
  exact r_vret (pc := 339) C hr rfl e.symm dX12_ahead_339
set_option maxHeartbeats 4000000 in
set_option maxRecDepth 20000 in
theorem w_m_ahead_B186 (C : mCX p s m args meth c cX12_ahead 6 RX12 D E b) (hr : meth.sig.returnType = none) {M0 : Mem} {M : Mem} {v1 : Int} {v2 : Int} {v3 : Int} {s1 : Int} (h : m_ahead_B186 v1 v2 v3 s1 M = some M0) :
    mWX p l e 2 32 s m args below meth c 6 D E b none M0 M 186 [(0, vR b 0), (1, vI v1), (2, vI v2), (3, vI v3)] [vI s1, vR b 0] := by
  unfold m_ahead_B186 at h
  obtain ⟨M_186, hM_186, h⟩ := lt_inv h
  refine r_putI (pc := 186) C fl_RX12_20 mw_ft m_w3 m_s0 (by decide) m_k3 hM_186 dX12_ahead_186 ?_
  refine r_iload_n (pc := 189) C 2 rfl rfl dX12_ahead_189 ?_
  refine r_if_eq (pc := 190) (tgt := 198) C h dX12_ahead_190 (by decide) (fun hc190 h => ?_) (fun hc190 h => ?_)
  · refine r_iconst (pc := 198) C dX12_ahead_198 ?_
    refine r_sub (lv' := [(0, vR b 0), (1, vI v1), (2, vI v2), (3, vI v3)]) [0, 1, 2, 3] rfl ?_
    exact w_m_ahead_B199 C hr h
  · refine r_bipush (pc := 193) (j := 6) C (by decide +kernel) dX12_ahead_193 ?_
    refine r_goto (pc := 195) (tgt := 199) C dX12_ahead_195 (by decide) ?_
    refine r_sub (lv' := [(0, vR b 0), (1, vI v1), (2, vI v2), (3, vI v3)]) [0, 1, 2, 3] rfl ?_
    exact w_m_ahead_B199 C hr h
set_option maxHeartbeats 4000000 in
set_option maxRecDepth 20000 in
theorem w_m_ahead_B176 (C : mCX p s m args meth c cX12_ahead 6 RX12 D E b) (hr : meth.sig.returnType = none) {M0 : Mem} {M : Mem} {v1 : Int} {v2 : Int} {v3 : Int} (h : m_ahead_B176 v1 v2 v3 M = some M0) :
    mWX p l e 2 32 s m args below meth c 6 D E b none M0 M 176 [(0, vR b 0), (1, vI v1), (2, vI v2), (3, vI v3)] [] := by
  unfold m_ahead_B176 at h
  refine r_aload_n (pc := 176) C 0 rfl rfl dX12_ahead_176 ?_
  refine r_iload_n (pc := 177) C 2 rfl rfl dX12_ahead_177 ?_
  refine r_if_eq (pc := 178) (tgt := 185) C h dX12_ahead_178 (by decide) (fun hc178 h => ?_) (fun hc178 h => ?_)
  · refine r_iconst (pc := 185) C dX12_ahead_185 ?_
    refine r_sub (lv' := [(0, vR b 0), (1, vI v1), (2, vI v2), (3, vI v3)]) [0, 1, 2, 3] rfl ?_
    exact w_m_ahead_B186 C hr h
  · refine r_iconst (pc := 181) C dX12_ahead_181 ?_
    refine r_goto (pc := 182) (tgt := 186) C dX12_ahead_182 (by decide) ?_
    refine r_sub (lv' := [(0, vR b 0), (1, vI v1), (2, vI v2), (3, vI v3)]) [0, 1, 2, 3] rfl ?_
    exact w_m_ahead_B186 C hr h
set_option maxHeartbeats 4000000 in
set_option maxRecDepth 20000 in
theorem w_m_ahead_B135 (C : mCX p s m args meth c cX12_ahead 6 RX12 D E b) (hr : meth.sig.returnType = none) {M0 : Mem} {M : Mem} {v1 : Int} {v2 : Int} {v3 : Int} (h : m_ahead_B135 v1 v2 v3 M = some M0) :
    mWX p l e 2 32 s m args below meth c 6 D E b none M0 M 135 [(0, vR b 0), (1, vI v1), (2, vI v2), (3, vI v3)] [] := by
  unfold m_ahead_B135 at h
  refine r_aload_n (pc := 135) C 0 rfl rfl dX12_ahead_135 ?_
  refine r_iconst (pc := 136) C dX12_ahead_136 ?_
  obtain ⟨M_137, hM_137, h⟩ := lt_inv h
  refine r_putI (pc := 137) C fl_RX12_29 mw_ft m_w6 m_s0 (by decide) m_k6 hM_137 dX12_ahead_137 ?_
  refine r_aload_n (pc := 140) C 0 rfl rfl dX12_ahead_140 ?_
  refine r_lconst (pc := 141) (j := 0) C rfl dX12_ahead_141 ?_
  obtain ⟨M_142, hM_142, h⟩ := lt_inv h
  refine r_putL (pc := 142) C fl_RX12_32 mw_ft m_w7 m_s0 (by decide) m_k7 hM_142 dX12_ahead_142 ?_
  refine r_aload_n (pc := 145) C 0 rfl rfl dX12_ahead_145 ?_
  refine r_iconst (pc := 146) C dX12_ahead_146 ?_
  obtain ⟨M_147, hM_147, h⟩ := lt_inv h
  refine r_putI (pc := 147) C fl_RX12_20 mw_ft m_w3 m_s0 (by decide) m_k3 hM_147 dX12_ahead_147 ?_
  refine r_aload_n (pc := 150) C 0 rfl rfl dX12_ahead_150 ?_
  refine r_iload_n (pc := 151) C 1 rfl rfl dX12_ahead_151 ?_
  refine r_iconst (pc := 152) C dX12_ahead_152 ?_
  refine r_iadd (pc := 153) C dX12_ahead_153 ?_
  obtain ⟨M_154, hM_154, h⟩ := lt_inv h
  refine r_putI (pc := 154) C fl_RX12_26 mw_ft m_w5 m_s0 (by decide) m_k5 hM_154 dX12_ahead_154 ?_
  refine r_iload_n (pc := 157) C 2 rfl rfl dX12_ahead_157 ?_
  refine r_if_ne (pc := 158) (tgt := 176) C h dX12_ahead_158 (by decide) (fun hc158 h => ?_) (fun hc158 h => ?_)
  · refine r_sub (lv' := [(0, vR b 0), (1, vI v1), (2, vI v2), (3, vI v3)]) [0, 1, 2, 3] rfl ?_
    exact w_m_ahead_B176 C hr h
  · refine r_iload_n (pc := 161) C 3 rfl rfl dX12_ahead_161 ?_
    refine r_if_ne (pc := 162) (tgt := 176) C h dX12_ahead_162 (by decide) (fun hc162 h => ?_) (fun hc162 h => ?_)
    · refine r_sub (lv' := [(0, vR b 0), (1, vI v1), (2, vI v2), (3, vI v3)]) [0, 1, 2, 3] rfl ?_
      exact w_m_ahead_B176 C hr h
    · refine r_aload_n (pc := 165) C 0 rfl rfl dX12_ahead_165 ?_
      refine r_aload_n (pc := 166) C 0 rfl rfl dX12_ahead_166 ?_
      refine r_getR (pc := 167) C fl_RX12_7 m_s0 (by decide) m_k0 m_r0 dX12_ahead_167 ?_
      refine r_iload_n (pc := 170) C 1 rfl rfl dX12_ahead_170 ?_
      obtain ⟨hi171, h⟩ := chk_inv h
      refine r_iald (pc := 171) C m_s1 (by decide) (by decide) hi171 rfl dX12_ahead_171 ?_
      obtain ⟨M_172, hM_172, h⟩ := lt_inv h
      refine r_putI (pc := 172) C fl_RX12_29 mw_ft m_w6 m_s0 (by decide) m_k6 hM_172 dX12_ahead_172 ?_
      have e := Option.some.inj h
      exact r_vret (pc := 175) C hr rfl e.symm dX12_ahead_175
set_option maxHeartbeats 4000000 in
set_option maxRecDepth 20000 in
theorem w_m_ahead_B130 (C : mCX p s m args meth c cX12_ahead 6 RX12 D E b) (hr : meth.sig.returnType = none) {M0 : Mem} {M : Mem} {v1 : Int} {v2 : Int} {v3 : Int} (h : m_ahead_B130 v1 v2 v3 M = some M0) :
    mWX p l e 2 32 s m args below meth c 6 D E b none M0 M 130 [(0, vR b 0), (1, vI v1), (2, vI v2), (3, vI v3)] [] := by
  unfold m_ahead_B130 at h
  refine r_aload_n (pc := 130) C 0 rfl rfl dX12_ahead_130 ?_
  refine r_iload_n (pc := 131) C 1 rfl rfl dX12_ahead_131 ?_
  obtain ⟨M_132, hM_132, h⟩ := lt_inv h
  refine r_putI (pc := 132) C fl_RX12_48 mw_ft m_w12 m_s0 (by decide) m_k12 hM_132 dX12_ahead_132 ?_
  refine r_sub (lv' := [(0, vR b 0), (1, vI v1), (2, vI v2), (3, vI v3)]) [0, 1, 2, 3] rfl ?_
  exact w_m_ahead_B135 C hr h
set_option maxHeartbeats 4000000 in
set_option maxRecDepth 20000 in
theorem w_m_ahead_B98 (C : mCX p s m args meth c cX12_ahead 6 RX12 D E b) (hr : meth.sig.returnType = none) {M0 : Mem} {M : Mem} {v1 : Int} {v2 : Int} {v3 : Int} (h : m_ahead_B98 v1 v2 v3 M = some M0) :
    mWX p l e 2 32 s m args below meth c 6 D E b none M0 M 98 [(0, vR b 0), (1, vI v1), (2, vI v2), (3, vI v3)] [] := by
  unfold m_ahead_B98 at h
  refine r_iload_n (pc := 98) C 1 rfl rfl dX12_ahead_98 ?_
  refine r_if_le (pc := 99) (tgt := 135) C h dX12_ahead_99 (by decide) (fun hc99 h => ?_) (fun hc99 h => ?_)
  · refine r_sub (lv' := [(0, vR b 0), (1, vI v1), (2, vI v2), (3, vI v3)]) [0, 1, 2, 3] rfl ?_
    exact w_m_ahead_B135 C hr h
  · refine r_aload_n (pc := 102) C 0 rfl rfl dX12_ahead_102 ?_
    refine r_getR (pc := 103) C fl_RX12_7 m_s0 (by decide) m_k0 m_r0 dX12_ahead_103 ?_
    refine r_iload_n (pc := 106) C 1 rfl rfl dX12_ahead_106 ?_
    refine r_iconst (pc := 107) C dX12_ahead_107 ?_
    refine r_isub (pc := 108) C dX12_ahead_108 ?_
    obtain ⟨hi109, h⟩ := chk_inv h
    refine r_iald (pc := 109) C m_s1 (by decide) (by decide) hi109 rfl dX12_ahead_109 ?_
    obtain ⟨r7, hq7, h⟩ := bnd_inv h
    refine r_callS (pc := 110) (rest := []) (st1 := [vB r7]) C (mExtOK b) [vI (M 1 (v1 - 1).toNat)] (c_m_isLetter l hq7) cl_RX12_237 rfl rfl ⟨Nat.le_of_ble_eq_true rfl, Nat.le_of_ble_eq_true rfl⟩ (Nat.le_of_ble_eq_true rfl) rfl rfl dX12_ahead_110 ?_
    refine r_if_neB (pc := 113) (tgt := 130) C h dX12_ahead_113 (by decide) (fun hc113 h => ?_) (fun hc113 h => ?_)
    · refine r_sub (lv' := [(0, vR b 0), (1, vI v1), (2, vI v2), (3, vI v3)]) [0, 1, 2, 3] rfl ?_
      exact w_m_ahead_B130 C hr h
    · refine r_aload_n (pc := 116) C 0 rfl rfl dX12_ahead_116 ?_
      refine r_getR (pc := 117) C fl_RX12_7 m_s0 (by decide) m_k0 m_r0 dX12_ahead_117 ?_
      refine r_iload_n (pc := 120) C 1 rfl rfl dX12_ahead_120 ?_
      refine r_iconst (pc := 121) C dX12_ahead_121 ?_
      refine r_isub (pc := 122) C dX12_ahead_122 ?_
      obtain ⟨hi123, h⟩ := chk_inv h
      refine r_iald (pc := 123) C m_s1 (by decide) (by decide) hi123 rfl dX12_ahead_123 ?_
      obtain ⟨r8, hq8, h⟩ := bnd_inv h
      refine r_callS (pc := 124) (rest := []) (st1 := [vB r8]) C (mExtOK b) [vI (M 1 (v1 - 1).toNat)] (c_m_isDigit l hq8) cl_RX12_241 rfl rfl ⟨Nat.le_of_ble_eq_true rfl, Nat.le_of_ble_eq_true rfl⟩ (Nat.le_of_ble_eq_true rfl) rfl rfl dX12_ahead_124 ?_
      refine r_if_eqB (pc := 127) (tgt := 135) C h dX12_ahead_127 (by decide) (fun hc127 h => ?_) (fun hc127 h => ?_)
      · refine r_sub (lv' := [(0, vR b 0), (1, vI v1), (2, vI v2), (3, vI v3)]) [0, 1, 2, 3] rfl ?_
        exact w_m_ahead_B130 C hr h
      · refine r_sub (lv' := [(0, vR b 0), (1, vI v1), (2, vI v2), (3, vI v3)]) [0, 1, 2, 3] rfl ?_
        exact w_m_ahead_B135 C hr h
set_option maxHeartbeats 4000000 in
set_option maxRecDepth 20000 in
theorem c_m_ahead (l : Launch) {M : Mem} {M0 : Mem} (h : m_ahead M = some M0) : Ct l yX12_ahead cX12_ahead 6 none 2 32 vwCl mSh mN mRf mExt (fun b => [vR b 0]) M (fun b => none) M0 := by
  refine Ct_of mExtOK (by decide) (fun b => Nat.le_of_ble_eq_true rfl) ?_
  intro p e s m args below meth c D E b C hr
  unfold m_ahead at h
  refine (show mWX p l e 2 32 s m args below meth c 6 D E b none M0 M 0 [(0, vR b 0)] [] from ?_)
  refine r_aload_n (pc := 0) C 0 rfl rfl dX12_ahead_0 ?_
  refine r_getI (pc := 1) C fl_RX12_26 m_s0 (by decide) m_k5 dX12_ahead_1 ?_
  obtain ⟨v1_4, hv1_4, h⟩ := lt_inv h
  refine r_topI hv1_4 ?_
  refine r_istore_n (pc := 4) (lv' := [(1, vI v1_4), (0, vR b 0)]) C rfl dX12_ahead_4 (by decide) rfl ?_
  refine r_sub (lv' := [(0, vR b 0), (1, vI v1_4)]) [1, 0] rfl ?_
  obtain ⟨q1, hl1, h⟩ := bnd_inv h
  refine w_m_ahead_L5 C hr (fun v1_1 hq => ?_) FUEL _ hl1
  have hq := hq.symm
  subst hq
  refine r_aload_n (pc := 41) C 0 rfl rfl dX12_ahead_41 ?_
  refine r_iload_n (pc := 42) C 1 rfl rfl dX12_ahead_42 ?_
  obtain ⟨M_43, hM_43, h⟩ := lt_inv h
  refine r_putI (pc := 43) C fl_RX12_23 mw_ft m_w4 m_s0 (by decide) m_k4 hM_43 dX12_ahead_43 ?_
  refine r_aload_n (pc := 46) C 0 rfl rfl dX12_ahead_46 ?_
  refine r_iload_n (pc := 47) C 1 rfl rfl dX12_ahead_47 ?_
  obtain ⟨M_48, hM_48, h⟩ := lt_inv h
  refine r_putI (pc := 48) C fl_RX12_26 mw_ft m_w5 m_s0 (by decide) m_k5 hM_48 dX12_ahead_48 ?_
  refine r_aload_n (pc := 51) C 0 rfl rfl dX12_ahead_51 ?_
  refine r_iconst (pc := 52) C dX12_ahead_52 ?_
  obtain ⟨M_53, hM_53, h⟩ := lt_inv h
  refine r_putI (pc := 53) C fl_RX12_20 mw_ft m_w3 m_s0 (by decide) m_k3 hM_53 dX12_ahead_53 ?_
  refine r_aload_n (pc := 56) C 0 rfl rfl dX12_ahead_56 ?_
  refine r_iconst (pc := 57) C dX12_ahead_57 ?_
  obtain ⟨M_58, hM_58, h⟩ := lt_inv h
  refine r_putI (pc := 58) C fl_RX12_48 mw_ft m_w12 m_s0 (by decide) m_k12 hM_58 dX12_ahead_58 ?_
  refine r_iload_n (pc := 61) C 1 rfl rfl dX12_ahead_61 ?_
  refine r_aload_n (pc := 62) C 0 rfl rfl dX12_ahead_62 ?_
  refine r_getI (pc := 63) C fl_RX12_17 m_s0 (by decide) m_k2 dX12_ahead_63 ?_
  refine r_icmp_lt (pc := 66) (tgt := 70) C h dX12_ahead_66 (by decide) (fun hc66 h => ?_) (fun hc66 h => ?_)
  · refine r_aload_n (pc := 70) C 0 rfl rfl dX12_ahead_70 ?_
    refine r_getR (pc := 71) C fl_RX12_7 m_s0 (by decide) m_k0 m_r0 dX12_ahead_71 ?_
    refine r_iload_n (pc := 74) C 1 rfl rfl dX12_ahead_74 ?_
    obtain ⟨hi75, h⟩ := chk_inv h
    refine r_iald (pc := 75) C m_s1 (by decide) (by decide) hi75 rfl dX12_ahead_75 ?_
    obtain ⟨r2, hq2, h⟩ := bnd_inv h
    refine r_callS (pc := 76) (rest := []) (st1 := [vB r2]) C (mExtOK b) [vI (M_58 1 v1_1.toNat)] (c_m_isLetter l hq2) cl_RX12_237 rfl rfl ⟨Nat.le_of_ble_eq_true rfl, Nat.le_of_ble_eq_true rfl⟩ (Nat.le_of_ble_eq_true rfl) rfl rfl dX12_ahead_76 ?_
    obtain ⟨v2_79, hv2_79, h⟩ := lt_inv h
    refine r_topI hv2_79 ?_
    refine r_istore_n (pc := 79) (lv' := [(2, vI v2_79), (0, vR b 0), (1, vI v1_1)]) C rfl dX12_ahead_79 (by decide) rfl ?_
    refine r_aload_n (pc := 80) C 1 rfl rfl dX12_ahead_80 ?_
    refine r_getR (pc := 81) C fl_RX12_7 m_s0 (by decide) m_k0 m_r0 dX12_ahead_81 ?_
    refine r_iload_n (pc := 84) C 2 rfl rfl dX12_ahead_84 ?_
    obtain ⟨hi85, h⟩ := chk_inv h
    refine r_iald (pc := 85) C m_s1 (by decide) (by decide) hi85 rfl dX12_ahead_85 ?_
    obtain ⟨r3, hq3, h⟩ := bnd_inv h
    refine r_callS (pc := 86) (rest := []) (st1 := [vB r3]) C (mExtOK b) [vI (M_58 1 v1_1.toNat)] (c_m_isDigit l hq3) cl_RX12_241 rfl rfl ⟨Nat.le_of_ble_eq_true rfl, Nat.le_of_ble_eq_true rfl⟩ (Nat.le_of_ble_eq_true rfl) rfl rfl dX12_ahead_86 ?_
    obtain ⟨v3_89, hv3_89, h⟩ := lt_inv h
    refine r_topI hv3_89 ?_
    refine r_istore_n (pc := 89) (lv' := [(3, vI v3_89), (2, vI v2_79), (0, vR b 0), (1, vI v1_1)]) C rfl dX12_ahead_89 (by decide) rfl ?_
    refine r_iload_n (pc := 90) C 1 rfl rfl dX12_ahead_90 ?_
    refine r_if_ne (pc := 91) (tgt := 98) C h dX12_ahead_91 (by decide) (fun hc91 h => ?_) (fun hc91 h => ?_)
    · refine r_sub (lv' := [(0, vR b 0), (1, vI v1_1), (2, vI v2_79), (3, vI v3_89)]) [2, 3, 1, 0] rfl ?_
      exact w_m_ahead_B98 C hr h
    · refine r_iload_n (pc := 94) C 0 rfl rfl dX12_ahead_94 ?_
      refine r_if_eq (pc := 95) (tgt := 135) C h dX12_ahead_95 (by decide) (fun hc95 h => ?_) (fun hc95 h => ?_)
      · refine r_sub (lv' := [(0, vR b 0), (1, vI v1_1), (2, vI v2_79), (3, vI v3_89)]) [2, 3, 1, 0] rfl ?_
        exact w_m_ahead_B135 C hr h
      · refine r_sub (lv' := [(0, vR b 0), (1, vI v1_1), (2, vI v2_79), (3, vI v3_89)]) [2, 3, 1, 0] rfl ?_
        exact w_m_ahead_B98 C hr h
  · have e := Option.some.inj h
    exact r_vret (pc := 69) C hr rfl e.symm dX12_ahead_69
set_option maxHeartbeats 4000000 in
set_option maxRecDepth 20000 in
theorem c_m_isSign (l : Launch) {x1 : Int} {M : Mem} {r0 : Bool} (h : m_isSign x1 M = some r0) : Ct l yX12_isSign cX12_isSign 2 (some .boolean) 1 12 vwCl mSh mN mRf mExt (fun b => [vR b 0, vI x1]) M (fun b => (some (vB r0))) M := by
  refine Ct_of mExtOK (by decide) (fun b => Nat.le_of_ble_eq_true rfl) ?_
  intro p e s m args below meth c D E b C hr
  unfold m_isSign at h
  refine (show mWX p l e 1 12 s m args below meth c 2 D E b (some (vB r0)) M M 0 [(0, vR b 0), (1, vI x1)] [] from ?_)
  refine r_aload_n (pc := 0) C 0 rfl rfl dX12_isSign_0 ?_
  refine r_getI (pc := 1) C fl_RX12_20 m_s0 (by decide) m_k3 dX12_isSign_1 ?_
  refine r_iconst (pc := 4) C dX12_isSign_4 ?_
  refine r_icmp_ne (pc := 5) (tgt := 20) C h dX12_isSign_5 (by decide) (fun hc5 h => ?_) (fun hc5 h => ?_)
  · refine r_iconst (pc := 20) C dX12_isSign_20 ?_
    have e := Option.some.inj h
    exact r_zret (pc := 21) C hr (Or.inl rfl) (congrArg (fun z => some (vB z)) e.symm) rfl dX12_isSign_21
  · refine r_aload_n (pc := 8) C 0 rfl rfl dX12_isSign_8 ?_
    refine r_getI (pc := 9) C fl_RX12_29 m_s0 (by decide) m_k6 dX12_isSign_9 ?_
    refine r_iload_n (pc := 12) C 1 rfl rfl dX12_isSign_12 ?_
    refine r_icmp_ne (pc := 13) (tgt := 20) C h dX12_isSign_13 (by decide) (fun hc13 h => ?_) (fun hc13 h => ?_)
    · refine r_iconst (pc := 20) C dX12_isSign_20 ?_
      have e := Option.some.inj h
      exact r_zret (pc := 21) C hr (Or.inl rfl) (congrArg (fun z => some (vB z)) e.symm) rfl dX12_isSign_21
    · refine r_iconst (pc := 16) C dX12_isSign_16 ?_
      refine r_goto (pc := 17) (tgt := 21) C dX12_isSign_17 (by decide) ?_
      have e := Option.some.inj h
      exact r_zret (pc := 21) C hr (Or.inr rfl) (congrArg (fun z => some (vB z)) e.symm) rfl dX12_isSign_21
set_option maxHeartbeats 4000000 in
set_option maxRecDepth 20000 in
theorem c_m_isWord (l : Launch) {x1 : Int} {M : Mem} {r0 : Bool} (h : m_isWord x1 M = some r0) : Ct l yX12_isWord cX12_isWord 3 (some .boolean) 1 12 vwCl mSh mN mRf mExt (fun b => [vR b 0, vL x1]) M (fun b => (some (vB r0))) M := by
  refine Ct_of mExtOK (by decide) (fun b => Nat.le_of_ble_eq_true rfl) ?_
  intro p e s m args below meth c D E b C hr
  unfold m_isWord at h
  refine (show mWX p l e 1 12 s m args below meth c 3 D E b (some (vB r0)) M M 0 [(0, vR b 0), (1, vL x1)] [] from ?_)
  refine r_aload_n (pc := 0) C 0 rfl rfl dX12_isWord_0 ?_
  refine r_getI (pc := 1) C fl_RX12_20 m_s0 (by decide) m_k3 dX12_isWord_1 ?_
  refine r_iconst (pc := 4) C dX12_isWord_4 ?_
  refine r_icmp_ne (pc := 5) (tgt := 21) C h dX12_isWord_5 (by decide) (fun hc5 h => ?_) (fun hc5 h => ?_)
  · refine r_iconst (pc := 21) C dX12_isWord_21 ?_
    have e := Option.some.inj h
    exact r_zret (pc := 22) C hr (Or.inl rfl) (congrArg (fun z => some (vB z)) e.symm) rfl dX12_isWord_22
  · refine r_aload_n (pc := 8) C 0 rfl rfl dX12_isWord_8 ?_
    refine r_getL (pc := 9) C fl_RX12_32 m_s0 (by decide) m_k7 dX12_isWord_9 ?_
    refine r_lload_n (pc := 12) C 1 rfl rfl dX12_isWord_12 ?_
    refine r_lcmp (pc := 13) C dX12_isWord_13 ?_
    refine r_if_ne (pc := 14) (tgt := 21) C h dX12_isWord_14 (by decide) (fun hc14 h => ?_) (fun hc14 h => ?_)
    · refine r_iconst (pc := 21) C dX12_isWord_21 ?_
      have e := Option.some.inj h
      exact r_zret (pc := 22) C hr (Or.inl rfl) (congrArg (fun z => some (vB z)) e.symm) rfl dX12_isWord_22
    · refine r_iconst (pc := 17) C dX12_isWord_17 ?_
      refine r_goto (pc := 18) (tgt := 22) C dX12_isWord_18 (by decide) ?_
      have e := Option.some.inj h
      exact r_zret (pc := 22) C hr (Or.inr rfl) (congrArg (fun z => some (vB z)) e.symm) rfl dX12_isWord_22
set_option maxHeartbeats 4000000 in
set_option maxRecDepth 20000 in
theorem w_m_must_B21 (C : mCX p s m args meth c cX12_must 2 RX12 D E b) (hr : meth.sig.returnType = none) {M0 : Mem} {M : Mem} (h : m_must_B21 M = some M0) :
    mWX p l e 3 57 s m args below meth c 2 D E b none M0 M 21 [(0, vR b 0)] [] := by
  unfold m_must_B21 at h
  refine r_aload_n (pc := 21) C 0 rfl rfl dX12_must_21 ?_
  refine r_getI (pc := 22) C fl_RX12_36 m_s0 (by decide) m_k8 dX12_must_22 ?_
  refine r_if_ne (pc := 25) (tgt := 32) C h dX12_must_25 (by decide) (fun hc25 h => ?_) (fun hc25 h => ?_)
  · have e := Option.some.inj h
    exact r_vret (pc := 32) C hr rfl e.symm dX12_must_32
  · refine r_aload_n (pc := 28) C 0 rfl rfl dX12_must_28 ?_
    obtain ⟨M3, hq3, h⟩ := bnd_inv h
    refine r_callV (pc := 29) (rest := []) (st1 := []) C (mExtOK b) [] (c_m_ahead l hq3) cl_RX12_250 m_s0 (by decide) rfl rfl rfl rfl ⟨Nat.le_of_ble_eq_true rfl, Nat.le_of_ble_eq_true rfl⟩ (Nat.le_of_ble_eq_true rfl) rfl rfl dX12_must_29 ?_
    have e := Option.some.inj h
    exact r_vret (pc := 32) C hr rfl e.symm dX12_must_32
set_option maxHeartbeats 4000000 in
set_option maxRecDepth 20000 in
theorem c_m_must (l : Launch) {x1 : Int} {M : Mem} {M0 : Mem} (h : m_must x1 M = some M0) : Ct l yX12_must cX12_must 2 none 3 57 vwCl mSh mN mRf mExt (fun b => [vR b 0, vI x1]) M (fun b => none) M0 := by
  refine Ct_of mExtOK (by decide) (fun b => Nat.le_of_ble_eq_true rfl) ?_
  intro p e s m args below meth c D E b C hr
  unfold m_must at h
  refine (show mWX p l e 3 57 s m args below meth c 2 D E b none M0 M 0 [(0, vR b 0), (1, vI x1)] [] from ?_)
  refine r_aload_n (pc := 0) C 0 rfl rfl dX12_must_0 ?_
  obtain ⟨M1, hq1, h⟩ := bnd_inv h
  refine r_callV (pc := 1) (rest := []) (st1 := []) C (mExtOK b) [] (c_m_lex l hq1) cl_RX12_244 m_s0 (by decide) rfl rfl rfl rfl ⟨Nat.le_of_ble_eq_true rfl, Nat.le_of_ble_eq_true rfl⟩ (Nat.le_of_ble_eq_true rfl) rfl rfl dX12_must_1 ?_
  refine r_aload_n (pc := 4) C 0 rfl rfl dX12_must_4 ?_
  refine r_iload_n (pc := 5) C 1 rfl rfl dX12_must_5 ?_
  obtain ⟨r2, hq2, h⟩ := bnd_inv h
  refine r_callV (pc := 6) (rest := []) (st1 := [vB r2]) C (mExtOK b) [vI x1] (c_m_isSign l hq2) cl_RX12_247 m_s0 (by decide) rfl rfl rfl rfl ⟨Nat.le_of_ble_eq_true rfl, Nat.le_of_ble_eq_true rfl⟩ (Nat.le_of_ble_eq_true rfl) rfl rfl dX12_must_6 ?_
  refine r_if_neB (pc := 9) (tgt := 21) C h dX12_must_9 (by decide) (fun hc9 h => ?_) (fun hc9 h => ?_)
  · refine r_sub (lv' := [(0, vR b 0)]) [0] rfl ?_
    exact w_m_must_B21 C hr h
  · refine r_aload_n (pc := 12) C 0 rfl rfl dX12_must_12 ?_
    refine r_iconst (pc := 13) C dX12_must_13 ?_
    refine r_aload_n (pc := 14) C 0 rfl rfl dX12_must_14 ?_
    refine r_getI (pc := 15) C fl_RX12_23 m_s0 (by decide) m_k4 dX12_must_15 ?_
    obtain ⟨M4, hq4, h⟩ := bnd_inv h
    refine r_callV (pc := 18) (rest := []) (st1 := []) C (mExtOK b) [vI 1, vI (M1 0 4)] (c_m_blame l hq4) cl_RX12_233 m_s0 (by decide) rfl rfl rfl rfl ⟨Nat.le_of_ble_eq_true rfl, Nat.le_of_ble_eq_true rfl⟩ (Nat.le_of_ble_eq_true rfl) rfl rfl dX12_must_18 ?_
    refine r_sub (lv' := [(0, vR b 0)]) [0] rfl ?_
    exact w_m_must_B21 C hr h
set_option maxHeartbeats 4000000 in
set_option maxRecDepth 20000 in
theorem c_m_isOwn (l : Launch) {x1 : Int} {M : Mem} {r0 : Bool} (h : m_isOwn x1 = some r0) : Ct l yX12_isOwn cX12_isOwn 3 (some .boolean) 1 12 vwCl mSh mN mRf mExt (fun b => [vR b 0, vL x1]) M (fun b => (some (vB r0))) M := by
  refine Ct_of mExtOK (by decide) (fun b => Nat.le_of_ble_eq_true rfl) ?_
  intro p e s m args below meth c D E b C hr
  unfold m_isOwn at h
  refine (show mWX p l e 1 12 s m args below meth c 3 D E b (some (vB r0)) M M 0 [(0, vR b 0), (1, vL x1)] [] from ?_)
  refine r_lload_n (pc := 0) C 1 rfl rfl dX12_isOwn_0 ?_
  refine r_ldc2 (pc := 1) (j := 508675318629) C (by decide +kernel) gk_RX12_253 dX12_isOwn_1 ?_
  refine r_lcmp (pc := 4) C dX12_isOwn_4 ?_
  refine r_if_eq (pc := 5) (tgt := 40) C h dX12_isOwn_5 (by decide) (fun hc5 h => ?_) (fun hc5 h => ?_)
  · refine r_iconst (pc := 40) C dX12_isOwn_40 ?_
    have e := Option.some.inj h
    exact r_zret (pc := 41) C hr (Or.inr rfl) (congrArg (fun z => some (vB z)) e.symm) rfl dX12_isOwn_41
  · refine r_lload_n (pc := 8) C 1 rfl rfl dX12_isOwn_8 ?_
    refine r_ldc2 (pc := 9) (j := 482805572456) C (by decide +kernel) gk_RX12_255 dX12_isOwn_9 ?_
    refine r_lcmp (pc := 12) C dX12_isOwn_12 ?_
    refine r_if_eq (pc := 13) (tgt := 40) C h dX12_isOwn_13 (by decide) (fun hc13 h => ?_) (fun hc13 h => ?_)
    · refine r_iconst (pc := 40) C dX12_isOwn_40 ?_
      have e := Option.some.inj h
      exact r_zret (pc := 41) C hr (Or.inr rfl) (congrArg (fun z => some (vB z)) e.symm) rfl dX12_isOwn_41
    · refine r_lload_n (pc := 16) C 1 rfl rfl dX12_isOwn_16 ?_
      refine r_ldc2 (pc := 17) (j := 123581014175598) C (by decide +kernel) gk_RX12_257 dX12_isOwn_17 ?_
      refine r_lcmp (pc := 20) C dX12_isOwn_20 ?_
      refine r_if_eq (pc := 21) (tgt := 40) C h dX12_isOwn_21 (by decide) (fun hc21 h => ?_) (fun hc21 h => ?_)
      · refine r_iconst (pc := 40) C dX12_isOwn_40 ?_
        have e := Option.some.inj h
        exact r_zret (pc := 41) C hr (Or.inr rfl) (congrArg (fun z => some (vB z)) e.symm) rfl dX12_isOwn_41
      · refine r_lload_n (pc := 24) C 1 rfl rfl dX12_isOwn_24 ?_
        refine r_ldc2 (pc := 25) (j := 1667329133) C (by decide +kernel) gk_RX12_259 dX12_isOwn_25 ?_
        refine r_lcmp (pc := 28) C dX12_isOwn_28 ?_
        refine r_if_eq (pc := 29) (tgt := 40) C h dX12_isOwn_29 (by decide) (fun hc29 h => ?_) (fun hc29 h => ?_)
        · refine r_iconst (pc := 40) C dX12_isOwn_40 ?_
          have e := Option.some.inj h
          exact r_zret (pc := 41) C hr (Or.inr rfl) (congrArg (fun z => some (vB z)) e.symm) rfl dX12_isOwn_41
        · refine r_lload_n (pc := 32) C 1 rfl rfl dX12_isOwn_32 ?_
          refine r_ldc2 (pc := 33) (j := 512735736947) C (by decide +kernel) gk_RX12_261 dX12_isOwn_33 ?_
          refine r_lcmp (pc := 36) C dX12_isOwn_36 ?_
          refine r_if_ne (pc := 37) (tgt := 42) C h dX12_isOwn_37 (by decide) (fun hc37 h => ?_) (fun hc37 h => ?_)
          · refine r_lload_n (pc := 42) C 1 rfl rfl dX12_isOwn_42 ?_
            refine r_ldc2 (pc := 43) (j := 24948) C (by decide +kernel) gk_RX12_263 dX12_isOwn_43 ?_
            refine r_lcmp (pc := 46) C dX12_isOwn_46 ?_
            refine r_if_eq (pc := 47) (tgt := 82) C h dX12_isOwn_47 (by decide) (fun hc47 h => ?_) (fun hc47 h => ?_)
            · refine r_iconst (pc := 82) C dX12_isOwn_82 ?_
              have e := Option.some.inj h
              exact r_zret (pc := 83) C hr (Or.inr rfl) (congrArg (fun z => some (vB z)) e.symm) rfl dX12_isOwn_83
            · refine r_lload_n (pc := 50) C 1 rfl rfl dX12_isOwn_50 ?_
              refine r_ldc2 (pc := 51) (j := 1819242087) C (by decide +kernel) gk_RX12_265 dX12_isOwn_51 ?_
              refine r_lcmp (pc := 54) C dX12_isOwn_54 ?_
              refine r_if_eq (pc := 55) (tgt := 82) C h dX12_isOwn_55 (by decide) (fun hc55 h => ?_) (fun hc55 h => ?_)
              · refine r_iconst (pc := 82) C dX12_isOwn_82 ?_
                have e := Option.some.inj h
                exact r_zret (pc := 83) C hr (Or.inr rfl) (congrArg (fun z => some (vB z)) e.symm) rfl dX12_isOwn_83
              · refine r_lload_n (pc := 58) C 1 rfl rfl dX12_isOwn_58 ?_
                refine r_ldc2 (pc := 59) (j := 482804460403) C (by decide +kernel) gk_RX12_267 dX12_isOwn_59 ?_
                refine r_lcmp (pc := 62) C dX12_isOwn_62 ?_
                refine r_if_eq (pc := 63) (tgt := 82) C h dX12_isOwn_63 (by decide) (fun hc63 h => ?_) (fun hc63 h => ?_)
                · refine r_iconst (pc := 82) C dX12_isOwn_82 ?_
                  have e := Option.some.inj h
                  exact r_zret (pc := 83) C hr (Or.inr rfl) (congrArg (fun z => some (vB z)) e.symm) rfl dX12_isOwn_83
                · refine r_lload_n (pc := 66) C 1 rfl rfl dX12_isOwn_66 ?_
                  refine r_ldc2 (pc := 67) (j := 469920933235) C (by decide +kernel) gk_RX12_269 dX12_isOwn_67 ?_
                  refine r_lcmp (pc := 70) C dX12_isOwn_70 ?_
                  refine r_if_eq (pc := 71) (tgt := 82) C h dX12_isOwn_71 (by decide) (fun hc71 h => ?_) (fun hc71 h => ?_)
                  · refine r_iconst (pc := 82) C dX12_isOwn_82 ?_
                    have e := Option.some.inj h
                    exact r_zret (pc := 83) C hr (Or.inr rfl) (congrArg (fun z => some (vB z)) e.symm) rfl dX12_isOwn_83
                  · refine r_lload_n (pc := 74) C 1 rfl rfl dX12_isOwn_74 ?_
                    refine r_ldc2 (pc := 75) (j := 1752527720) C (by decide +kernel) gk_RX12_271 dX12_isOwn_75 ?_
                    refine r_lcmp (pc := 78) C dX12_isOwn_78 ?_
                    refine r_if_ne (pc := 79) (tgt := 84) C h dX12_isOwn_79 (by decide) (fun hc79 h => ?_) (fun hc79 h => ?_)
                    · refine r_lload_n (pc := 84) C 1 rfl rfl dX12_isOwn_84 ?_
                      refine r_ldc2 (pc := 85) (j := 126943973305189) C (by decide +kernel) gk_RX12_273 dX12_isOwn_85 ?_
                      refine r_lcmp (pc := 88) C dX12_isOwn_88 ?_
                      refine r_if_eq (pc := 89) (tgt := 124) C h dX12_isOwn_89 (by decide) (fun hc89 h => ?_) (fun hc89 h => ?_)
                      · refine r_iconst (pc := 124) C dX12_isOwn_124 ?_
                        have e := Option.some.inj h
                        exact r_zret (pc := 125) C hr (Or.inr rfl) (congrArg (fun z => some (vB z)) e.symm) rfl dX12_isOwn_125
                      · refine r_lload_n (pc := 92) C 1 rfl rfl dX12_isOwn_92 ?_
                        refine r_ldc2 (pc := 93) (j := 1953459813) C (by decide +kernel) gk_RX12_275 dX12_isOwn_93 ?_
                        refine r_lcmp (pc := 96) C dX12_isOwn_96 ?_
                        refine r_if_eq (pc := 97) (tgt := 124) C h dX12_isOwn_97 (by decide) (fun hc97 h => ?_) (fun hc97 h => ?_)
                        · refine r_iconst (pc := 124) C dX12_isOwn_124 ?_
                          have e := Option.some.inj h
                          exact r_zret (pc := 125) C hr (Or.inr rfl) (congrArg (fun z => some (vB z)) e.symm) rfl dX12_isOwn_125
                        · refine r_lload_n (pc := 100) C 1 rfl rfl dX12_isOwn_100 ?_
                          refine r_ldc2 (pc := 101) (j := 512735409267) C (by decide +kernel) gk_RX12_277 dX12_isOwn_101 ?_
                          refine r_lcmp (pc := 104) C dX12_isOwn_104 ?_
                          refine r_if_eq (pc := 105) (tgt := 124) C h dX12_isOwn_105 (by decide) (fun hc105 h => ?_) (fun hc105 h => ?_)
                          · refine r_iconst (pc := 124) C dX12_isOwn_124 ?_
                            have e := Option.some.inj h
                            exact r_zret (pc := 125) C hr (Or.inr rfl) (congrArg (fun z => some (vB z)) e.symm) rfl dX12_isOwn_125
                          · refine r_lload_n (pc := 108) C 1 rfl rfl dX12_isOwn_108 ?_
                            refine r_ldc2 (pc := 109) (j := 120299592184933) C (by decide +kernel) gk_RX12_279 dX12_isOwn_109 ?_
                            refine r_lcmp (pc := 112) C dX12_isOwn_112 ?_
                            refine r_if_eq (pc := 113) (tgt := 124) C h dX12_isOwn_113 (by decide) (fun hc113 h => ?_) (fun hc113 h => ?_)
                            · refine r_iconst (pc := 124) C dX12_isOwn_124 ?_
                              have e := Option.some.inj h
                              exact r_zret (pc := 125) C hr (Or.inr rfl) (congrArg (fun z => some (vB z)) e.symm) rfl dX12_isOwn_125
                            · refine r_lload_n (pc := 116) C 1 rfl rfl dX12_isOwn_116 ?_
                              refine r_ldc2 (pc := 117) (j := 1819238756) C (by decide +kernel) gk_RX12_281 dX12_isOwn_117 ?_
                              refine r_lcmp (pc := 120) C dX12_isOwn_120 ?_
                              refine r_if_ne (pc := 121) (tgt := 126) C h dX12_isOwn_121 (by decide) (fun hc121 h => ?_) (fun hc121 h => ?_)
                              · refine r_lload_n (pc := 126) C 1 rfl rfl dX12_isOwn_126 ?_
                                refine r_ldc2 (pc := 127) (j := 1651864441) C (by decide +kernel) gk_RX12_283 dX12_isOwn_127 ?_
                                refine r_lcmp (pc := 130) C dX12_isOwn_130 ?_
                                refine r_if_eq (pc := 131) (tgt := 166) C h dX12_isOwn_131 (by decide) (fun hc131 h => ?_) (fun hc131 h => ?_)
                                · refine r_iconst (pc := 166) C dX12_isOwn_166 ?_
                                  have e := Option.some.inj h
                                  exact r_zret (pc := 167) C hr (Or.inr rfl) (congrArg (fun z => some (vB z)) e.symm) rfl dX12_isOwn_167
                                · refine r_lload_n (pc := 134) C 1 rfl rfl dX12_isOwn_134 ?_
                                  refine r_ldc2 (pc := 135) (j := 26982) C (by decide +kernel) gk_RX12_285 dX12_isOwn_135 ?_
                                  refine r_lcmp (pc := 138) C dX12_isOwn_138 ?_
                                  refine r_if_eq (pc := 139) (tgt := 166) C h dX12_isOwn_139 (by decide) (fun hc139 h => ?_) (fun hc139 h => ?_)
                                  · refine r_iconst (pc := 166) C dX12_isOwn_166 ?_
                                    have e := Option.some.inj h
                                    exact r_zret (pc := 167) C hr (Or.inr rfl) (congrArg (fun z => some (vB z)) e.symm) rfl dX12_isOwn_167
                                  · refine r_lload_n (pc := 142) C 1 rfl rfl dX12_isOwn_142 ?_
                                    refine r_ldc2 (pc := 143) (j := 28530) C (by decide +kernel) gk_RX12_287 dX12_isOwn_143 ?_
                                    refine r_lcmp (pc := 146) C dX12_isOwn_146 ?_
                                    refine r_if_eq (pc := 147) (tgt := 166) C h dX12_isOwn_147 (by decide) (fun hc147 h => ?_) (fun hc147 h => ?_)
                                    · refine r_iconst (pc := 166) C dX12_isOwn_166 ?_
                                      have e := Option.some.inj h
                                      exact r_zret (pc := 167) C hr (Or.inr rfl) (congrArg (fun z => some (vB z)) e.symm) rfl dX12_isOwn_167
                                    · refine r_lload_n (pc := 150) C 1 rfl rfl dX12_isOwn_150 ?_
                                      refine r_ldc2 (pc := 151) (j := 6385252) C (by decide +kernel) gk_RX12_289 dX12_isOwn_151 ?_
                                      refine r_lcmp (pc := 154) C dX12_isOwn_154 ?_
                                      refine r_if_eq (pc := 155) (tgt := 166) C h dX12_isOwn_155 (by decide) (fun hc155 h => ?_) (fun hc155 h => ?_)
                                      · refine r_iconst (pc := 166) C dX12_isOwn_166 ?_
                                        have e := Option.some.inj h
                                        exact r_zret (pc := 167) C hr (Or.inr rfl) (congrArg (fun z => some (vB z)) e.symm) rfl dX12_isOwn_167
                                      · refine r_lload_n (pc := 158) C 1 rfl rfl dX12_isOwn_158 ?_
                                        refine r_ldc2 (pc := 159) (j := 7237492) C (by decide +kernel) gk_RX12_291 dX12_isOwn_159 ?_
                                        refine r_lcmp (pc := 162) C dX12_isOwn_162 ?_
                                        refine r_if_ne (pc := 163) (tgt := 168) C h dX12_isOwn_163 (by decide) (fun hc163 h => ?_) (fun hc163 h => ?_)
                                        · refine r_lload_n (pc := 168) C 1 rfl rfl dX12_isOwn_168 ?_
                                          refine r_ldc2 (pc := 169) (j := 6384748) C (by decide +kernel) gk_RX12_293 dX12_isOwn_169 ?_
                                          refine r_lcmp (pc := 172) C dX12_isOwn_172 ?_
                                          refine r_if_eq (pc := 173) (tgt := 192) C h dX12_isOwn_173 (by decide) (fun hc173 h => ?_) (fun hc173 h => ?_)
                                          · refine r_iconst (pc := 192) C dX12_isOwn_192 ?_
                                            have e := Option.some.inj h
                                            exact r_zret (pc := 193) C hr (Or.inr rfl) (congrArg (fun z => some (vB z)) e.symm) rfl dX12_isOwn_193
                                          · refine r_lload_n (pc := 176) C 1 rfl rfl dX12_isOwn_176 ?_
                                            refine r_ldc2 (pc := 177) (j := 7170414) C (by decide +kernel) gk_RX12_295 dX12_isOwn_177 ?_
                                            refine r_lcmp (pc := 180) C dX12_isOwn_180 ?_
                                            refine r_if_eq (pc := 181) (tgt := 192) C h dX12_isOwn_181 (by decide) (fun hc181 h => ?_) (fun hc181 h => ?_)
                                            · refine r_iconst (pc := 192) C dX12_isOwn_192 ?_
                                              have e := Option.some.inj h
                                              exact r_zret (pc := 193) C hr (Or.inr rfl) (congrArg (fun z => some (vB z)) e.symm) rfl dX12_isOwn_193
                                            · refine r_lload_n (pc := 184) C 1 rfl rfl dX12_isOwn_184 ?_
                                              refine r_ldc2 (pc := 185) (j := 7168376) C (by decide +kernel) gk_RX12_297 dX12_isOwn_185 ?_
                                              refine r_lcmp (pc := 188) C dX12_isOwn_188 ?_
                                              refine r_if_ne (pc := 189) (tgt := 194) C h dX12_isOwn_189 (by decide) (fun hc189 h => ?_) (fun hc189 h => ?_)
                                              · refine r_iconst (pc := 194) C dX12_isOwn_194 ?_
                                                have e := Option.some.inj h
                                                exact r_zret (pc := 195) C hr (Or.inl rfl) (congrArg (fun z => some (vB z)) e.symm) rfl dX12_isOwn_195
                                              · refine r_iconst (pc := 192) C dX12_isOwn_192 ?_
                                                have e := Option.some.inj h
                                                exact r_zret (pc := 193) C hr (Or.inr rfl) (congrArg (fun z => some (vB z)) e.symm) rfl dX12_isOwn_193
                                        · refine r_iconst (pc := 166) C dX12_isOwn_166 ?_
                                          have e := Option.some.inj h
                                          exact r_zret (pc := 167) C hr (Or.inr rfl) (congrArg (fun z => some (vB z)) e.symm) rfl dX12_isOwn_167
                              · refine r_iconst (pc := 124) C dX12_isOwn_124 ?_
                                have e := Option.some.inj h
                                exact r_zret (pc := 125) C hr (Or.inr rfl) (congrArg (fun z => some (vB z)) e.symm) rfl dX12_isOwn_125
                    · refine r_iconst (pc := 82) C dX12_isOwn_82 ?_
                      have e := Option.some.inj h
                      exact r_zret (pc := 83) C hr (Or.inr rfl) (congrArg (fun z => some (vB z)) e.symm) rfl dX12_isOwn_83
          · refine r_iconst (pc := 40) C dX12_isOwn_40 ?_
            have e := Option.some.inj h
            exact r_zret (pc := 41) C hr (Or.inr rfl) (congrArg (fun z => some (vB z)) e.symm) rfl dX12_isOwn_41
set_option maxHeartbeats 4000000 in
set_option maxRecDepth 20000 in
theorem w_m_personNamed_L2_s (C : mCX p s m args meth c cX12_personNamed 4 RX12 D E b) (hr : meth.sig.returnType = (some .int)) {r0 : Int} {v1 : Int} {M : Mem} {v3 : Int} {q : (Int) ⊕ (Int)} {rec : Int → Option ((Int) ⊕ (Int))} (hrec : ∀ (v3 : Int), rec v3 = some q → mWX p l e 1 12 s m args below meth c 4 D E b (some (vI r0)) M M 2 [(0, vR b 0), (1, vL v1), (3, vI v3)] []) (hret : ∀ r, q = .inl r → r = r0) (hfol : ∀ (v3 : Int), q = .inr v3 → mWX p l e 1 12 s m args below meth c 4 D E b (some (vI r0)) M M 42 [] []) (h : m_personNamed_L2 v1 M rec v3 = some q) :
    mWX p l e 1 12 s m args below meth c 4 D E b (some (vI r0)) M M 2 [(0, vR b 0), (1, vL v1), (3, vI v3)] [] := by
  unfold m_personNamed_L2 at h
  refine r_iload_n (pc := 2) C 2 rfl rfl dX12_personNamed_2 ?_
  refine r_aload_n (pc := 3) C 0 rfl rfl dX12_personNamed_3 ?_
  refine r_getR (pc := 4) C fl_RX12_60 m_s0 (by decide) m_k16 m_r16 dX12_personNamed_4 ?_
  refine r_aload_n (pc := 7) C 0 rfl rfl dX12_personNamed_7 ?_
  refine r_getI (pc := 8) C fl_RX12_106 m_s0 (by decide) m_k31 dX12_personNamed_8 ?_
  obtain ⟨hi11, h⟩ := chk_inv h
  refine r_iald (pc := 11) C m_s4 (by decide) (by decide) hi11 rfl dX12_personNamed_11 ?_
  refine r_icmp_ge (pc := 12) (tgt := 42) C h dX12_personNamed_12 (by decide) (fun hc12 h => ?_) (fun hc12 h => ?_)
  · refine r_sub (lv' := []) [] rfl ?_
    exact hfol _ (Option.some.inj h).symm
  · refine r_aload_n (pc := 15) C 0 rfl rfl dX12_personNamed_15 ?_
    refine r_getR (pc := 16) C fl_RX12_100 m_s0 (by decide) m_k29 m_r29 dX12_personNamed_16 ?_
    refine r_bipush (pc := 19) (j := 8) C (by decide +kernel) dX12_personNamed_19 ?_
    refine r_aload_n (pc := 21) C 0 rfl rfl dX12_personNamed_21 ?_
    refine r_getI (pc := 22) C fl_RX12_106 m_s0 (by decide) m_k31 dX12_personNamed_22 ?_
    refine r_imul (pc := 25) C dX12_personNamed_25 ?_
    refine r_iload_n (pc := 26) C 2 rfl rfl dX12_personNamed_26 ?_
    refine r_iadd (pc := 27) C dX12_personNamed_27 ?_
    obtain ⟨hi28, h⟩ := chk_inv h
    refine r_lald (pc := 28) C m_s17 (by decide) (by decide) hi28 rfl dX12_personNamed_28 ?_
    refine r_lload_n (pc := 29) C 1 rfl rfl dX12_personNamed_29 ?_
    refine r_lcmp (pc := 30) C dX12_personNamed_30 ?_
    refine r_if_ne (pc := 31) (tgt := 36) C h dX12_personNamed_31 (by decide) (fun hc31 h => ?_) (fun hc31 h => ?_)
    · obtain ⟨v3_36, hv3_36, h⟩ := lt_inv h
      refine r_iincN (pc := 36) (y := v3_36) (lv' := [(3, vI v3_36), (0, vR b 0), (1, vL v1)]) C 2 rfl hv3_36 dX12_personNamed_36 (by decide) rfl ?_
      refine r_goto (pc := 39) (tgt := 2) C dX12_personNamed_39 (by decide) ?_
      refine r_sub (lv' := [(0, vR b 0), (1, vL v1), (3, vI v3_36)]) [1, 2, 0] rfl ?_
      exact hrec _ h
    · refine r_iload_n (pc := 34) C 2 rfl rfl dX12_personNamed_34 ?_
      have e := hret _ (Option.some.inj h).symm
      exact r_iret (pc := 35) C hr (congrArg (fun z => some (vI z)) e.symm) rfl dX12_personNamed_35
set_option maxHeartbeats 4000000 in
theorem w_m_personNamed_L2 (C : mCX p s m args meth c cX12_personNamed 4 RX12 D E b) (hr : meth.sig.returnType = (some .int)) {r0 : Int} {v1 : Int} {M : Mem} {q : (Int) ⊕ (Int)} (hret : ∀ r, q = .inl r → r = r0) (hfol : ∀ (v3 : Int), q = .inr v3 → mWX p l e 1 12 s m args below meth c 4 D E b (some (vI r0)) M M 42 [] []) : ∀ (n : Nat) (v3 : Int), itr1 (m_personNamed_L2 v1 M) n v3 = some q →
    mWX p l e 1 12 s m args below meth c 4 D E b (some (vI r0)) M M 2 [(0, vR b 0), (1, vL v1), (3, vI v3)] [] := by
  intro n
  induction n with
  | zero => exact fun _ h => itr_z h
  | succ n ih => exact fun _ h => w_m_personNamed_L2_s C hr ih hret hfol h
set_option maxHeartbeats 4000000 in
set_option maxRecDepth 20000 in
theorem c_m_personNamed (l : Launch) {x1 : Int} {M : Mem} {r0 : Int} (h : m_personNamed x1 M = some r0) : Ct l yX12_personNamed cX12_personNamed 4 (some .int) 1 12 vwCl mSh mN mRf mExt (fun b => [vR b 0, vL x1]) M (fun b => (some (vI r0))) M := by
  refine Ct_of mExtOK (by decide) (fun b => Nat.le_of_ble_eq_true rfl) ?_
  intro p e s m args below meth c D E b C hr
  unfold m_personNamed at h
  refine (show mWX p l e 1 12 s m args below meth c 4 D E b (some (vI r0)) M M 0 [(0, vR b 0), (1, vL x1)] [] from ?_)
  refine r_iconst (pc := 0) C dX12_personNamed_0 ?_
  refine r_istore_n (pc := 1) (lv' := [(3, vI 0), (0, vR b 0), (1, vL x1)]) C rfl dX12_personNamed_1 (by decide) rfl ?_
  refine r_sub (lv' := [(0, vR b 0), (1, vL x1), (3, vI 0)]) [1, 2, 0] rfl ?_
  obtain ⟨q1, hl1, h⟩ := bnd_inv h
  refine w_m_personNamed_L2 C hr (fun r hq => ?_) (fun v3_1 hq => ?_) FUEL _ hl1
  · have hq := hq.symm
    subst hq
    exact Option.some.inj h
  · have hq := hq.symm
    subst hq
    refine r_iconst (pc := 42) C dX12_personNamed_42 ?_
    have e := Option.some.inj h
    exact r_iret (pc := 43) C hr (congrArg (fun z => some (vI z)) e.symm) rfl dX12_personNamed_43
set_option maxHeartbeats 4000000 in
set_option maxRecDepth 20000 in
theorem w_m_isNamed_L2_s (C : mCX p s m args meth c cX12_isNamed 4 RX12 D E b) (hr : meth.sig.returnType = (some .boolean)) {r0 : Bool} {v1 : Int} {M : Mem} {v3 : Int} {q : (Bool) ⊕ (Int)} {rec : Int → Option ((Bool) ⊕ (Int))} (hrec : ∀ (v3 : Int), rec v3 = some q → mWX p l e 2 35 s m args below meth c 4 D E b (some (vB r0)) M M 2 [(0, vR b 0), (1, vL v1), (3, vI v3)] []) (hret : ∀ r, q = .inl r → r = r0) (hfol : ∀ (v3 : Int), q = .inr v3 → mWX p l e 2 35 s m args below meth c 4 D E b (some (vB r0)) M M 42 [(0, vR b 0), (1, vL v1)] []) (h : m_isNamed_L2 v1 M rec v3 = some q) :
    mWX p l e 2 35 s m args below meth c 4 D E b (some (vB r0)) M M 2 [(0, vR b 0), (1, vL v1), (3, vI v3)] [] := by
  unfold m_isNamed_L2 at h
  refine r_iload_n (pc := 2) C 2 rfl rfl dX12_isNamed_2 ?_
  refine r_aload_n (pc := 3) C 0 rfl rfl dX12_isNamed_3 ?_
  refine r_getR (pc := 4) C fl_RX12_54 m_s0 (by decide) m_k14 m_r14 dX12_isNamed_4 ?_
  refine r_aload_n (pc := 7) C 0 rfl rfl dX12_isNamed_7 ?_
  refine r_getI (pc := 8) C fl_RX12_106 m_s0 (by decide) m_k31 dX12_isNamed_8 ?_
  obtain ⟨hi11, h⟩ := chk_inv h
  refine r_iald (pc := 11) C m_s2 (by decide) (by decide) hi11 rfl dX12_isNamed_11 ?_
  refine r_icmp_ge (pc := 12) (tgt := 42) C h dX12_isNamed_12 (by decide) (fun hc12 h => ?_) (fun hc12 h => ?_)
  · refine r_sub (lv' := [(0, vR b 0), (1, vL v1)]) [0, 1] rfl ?_
    exact hfol _ (Option.some.inj h).symm
  · refine r_aload_n (pc := 15) C 0 rfl rfl dX12_isNamed_15 ?_
    refine r_getR (pc := 16) C fl_RX12_96 m_s0 (by decide) m_k28 m_r28 dX12_isNamed_16 ?_
    refine r_bipush (pc := 19) (j := 7) C (by decide +kernel) dX12_isNamed_19 ?_
    refine r_aload_n (pc := 21) C 0 rfl rfl dX12_isNamed_21 ?_
    refine r_getI (pc := 22) C fl_RX12_106 m_s0 (by decide) m_k31 dX12_isNamed_22 ?_
    refine r_imul (pc := 25) C dX12_isNamed_25 ?_
    refine r_iload_n (pc := 26) C 2 rfl rfl dX12_isNamed_26 ?_
    refine r_iadd (pc := 27) C dX12_isNamed_27 ?_
    obtain ⟨hi28, h⟩ := chk_inv h
    refine r_lald (pc := 28) C m_s16 (by decide) (by decide) hi28 rfl dX12_isNamed_28 ?_
    refine r_lload_n (pc := 29) C 1 rfl rfl dX12_isNamed_29 ?_
    refine r_lcmp (pc := 30) C dX12_isNamed_30 ?_
    refine r_if_ne (pc := 31) (tgt := 36) C h dX12_isNamed_31 (by decide) (fun hc31 h => ?_) (fun hc31 h => ?_)
    · obtain ⟨v3_36, hv3_36, h⟩ := lt_inv h
      refine r_iincN (pc := 36) (y := v3_36) (lv' := [(3, vI v3_36), (0, vR b 0), (1, vL v1)]) C 2 rfl hv3_36 dX12_isNamed_36 (by decide) rfl ?_
      refine r_goto (pc := 39) (tgt := 2) C dX12_isNamed_39 (by decide) ?_
      refine r_sub (lv' := [(0, vR b 0), (1, vL v1), (3, vI v3_36)]) [1, 2, 0] rfl ?_
      exact hrec _ h
    · refine r_iconst (pc := 34) C dX12_isNamed_34 ?_
      have e := hret _ (Option.some.inj h).symm
      exact r_zret (pc := 35) C hr (Or.inr rfl) (congrArg (fun z => some (vB z)) e.symm) rfl dX12_isNamed_35
set_option maxHeartbeats 4000000 in
theorem w_m_isNamed_L2 (C : mCX p s m args meth c cX12_isNamed 4 RX12 D E b) (hr : meth.sig.returnType = (some .boolean)) {r0 : Bool} {v1 : Int} {M : Mem} {q : (Bool) ⊕ (Int)} (hret : ∀ r, q = .inl r → r = r0) (hfol : ∀ (v3 : Int), q = .inr v3 → mWX p l e 2 35 s m args below meth c 4 D E b (some (vB r0)) M M 42 [(0, vR b 0), (1, vL v1)] []) : ∀ (n : Nat) (v3 : Int), itr1 (m_isNamed_L2 v1 M) n v3 = some q →
    mWX p l e 2 35 s m args below meth c 4 D E b (some (vB r0)) M M 2 [(0, vR b 0), (1, vL v1), (3, vI v3)] [] := by
  intro n
  induction n with
  | zero => exact fun _ h => itr_z h
  | succ n ih => exact fun _ h => w_m_isNamed_L2_s C hr ih hret hfol h
set_option maxHeartbeats 4000000 in
set_option maxRecDepth 20000 in
theorem c_m_isNamed (l : Launch) {x1 : Int} {M : Mem} {r0 : Bool} (h : m_isNamed x1 M = some r0) : Ct l yX12_isNamed cX12_isNamed 4 (some .boolean) 2 35 vwCl mSh mN mRf mExt (fun b => [vR b 0, vL x1]) M (fun b => (some (vB r0))) M := by
  refine Ct_of mExtOK (by decide) (fun b => Nat.le_of_ble_eq_true rfl) ?_
  intro p e s m args below meth c D E b C hr
  unfold m_isNamed at h
  refine (show mWX p l e 2 35 s m args below meth c 4 D E b (some (vB r0)) M M 0 [(0, vR b 0), (1, vL x1)] [] from ?_)
  refine r_iconst (pc := 0) C dX12_isNamed_0 ?_
  refine r_istore_n (pc := 1) (lv' := [(3, vI 0), (0, vR b 0), (1, vL x1)]) C rfl dX12_isNamed_1 (by decide) rfl ?_
  refine r_sub (lv' := [(0, vR b 0), (1, vL x1), (3, vI 0)]) [1, 2, 0] rfl ?_
  obtain ⟨q1, hl1, h⟩ := bnd_inv h
  refine w_m_isNamed_L2 C hr (fun r hq => ?_) (fun v3_1 hq => ?_) FUEL _ hl1
  · have hq := hq.symm
    subst hq
    exact Option.some.inj h
  · have hq := hq.symm
    subst hq
    refine r_aload_n (pc := 42) C 0 rfl rfl dX12_isNamed_42 ?_
    refine r_lload_n (pc := 43) C 1 rfl rfl dX12_isNamed_43 ?_
    obtain ⟨r2, hq2, h⟩ := bnd_inv h
    refine r_callV (pc := 44) (rest := []) (st1 := [vI r2]) C (mExtOK b) [vL x1] (c_m_personNamed l hq2) cl_RX12_299 m_s0 (by decide) rfl rfl rfl rfl ⟨Nat.le_of_ble_eq_true rfl, Nat.le_of_ble_eq_true rfl⟩ (Nat.le_of_ble_eq_true rfl) rfl rfl dX12_isNamed_44 ?_
    refine r_iconst (pc := 47) C dX12_isNamed_47 ?_
    refine r_icmp_eq (pc := 48) (tgt := 55) C h dX12_isNamed_48 (by decide) (fun hc48 h => ?_) (fun hc48 h => ?_)
    · refine r_iconst (pc := 55) C dX12_isNamed_55 ?_
      have e := Option.some.inj h
      exact r_zret (pc := 56) C hr (Or.inl rfl) (congrArg (fun z => some (vB z)) e.symm) rfl dX12_isNamed_56
    · refine r_iconst (pc := 51) C dX12_isNamed_51 ?_
      refine r_goto (pc := 52) (tgt := 56) C dX12_isNamed_52 (by decide) ?_
      have e := Option.some.inj h
      exact r_zret (pc := 56) C hr (Or.inr rfl) (congrArg (fun z => some (vB z)) e.symm) rfl dX12_isNamed_56
set_option maxHeartbeats 4000000 in
set_option maxRecDepth 20000 in
theorem w_m_number_B58 (C : mCX p s m args meth c cX12_number 4 RX12 D E b) (hr : meth.sig.returnType = (some .int)) {r0 : Int} {M0 : Mem} {M : Mem} (h : m_number_B58 M = some (r0, M0)) :
    mWX p l e 3 57 s m args below meth c 4 D E b (some (vI r0)) M0 M 58 [(0, vR b 0)] [] := by
  unfold m_number_B58 at h
  refine r_aload_n (pc := 58) C 0 rfl rfl dX12_number_58 ?_
  refine r_getI (pc := 59) C fl_RX12_29 m_s0 (by decide) m_k6 dX12_number_59 ?_
  obtain ⟨v3_62, hv3_62, h⟩ := lt_inv h
  refine r_topI hv3_62 ?_
  refine r_istore_n (pc := 62) (lv' := [(3, vI v3_62), (0, vR b 0)]) C rfl dX12_number_62 (by decide) rfl ?_
  refine r_aload_n (pc := 63) C 1 rfl rfl dX12_number_63 ?_
  refine r_getI (pc := 64) C fl_RX12_36 m_s0 (by decide) m_k8 dX12_number_64 ?_
  refine r_if_ne (pc := 67) (tgt := 74) C h dX12_number_67 (by decide) (fun hc67 h => ?_) (fun hc67 h => ?_)
  · refine r_iload_n (pc := 74) C 0 rfl rfl dX12_number_74 ?_
    have e := Option.some.inj h
    exact r_iret (pc := 75) C hr (congrArg (fun z => some (vI z)) (Prod.mk.inj e).1.symm) (Prod.mk.inj e).2.symm dX12_number_75
  · refine r_aload_n (pc := 70) C 1 rfl rfl dX12_number_70 ?_
    obtain ⟨M2, hq2, h⟩ := bnd_inv h
    refine r_callV (pc := 71) (rest := []) (st1 := []) C (mExtOK b) [] (c_m_ahead l hq2) cl_RX12_250 m_s0 (by decide) rfl rfl rfl rfl ⟨Nat.le_of_ble_eq_true rfl, Nat.le_of_ble_eq_true rfl⟩ (Nat.le_of_ble_eq_true rfl) rfl rfl dX12_number_71 ?_
    refine r_iload_n (pc := 74) C 0 rfl rfl dX12_number_74 ?_
    have e := Option.some.inj h
    exact r_iret (pc := 75) C hr (congrArg (fun z => some (vI z)) (Prod.mk.inj e).1.symm) (Prod.mk.inj e).2.symm dX12_number_75
set_option maxHeartbeats 4000000 in
set_option maxRecDepth 20000 in
theorem w_m_number_B30 (C : mCX p s m args meth c cX12_number 4 RX12 D E b) (hr : meth.sig.returnType = (some .int)) {r0 : Int} {M0 : Mem} {M : Mem} {v1 : Int} {v2 : Int} (h : m_number_B30 v1 v2 M = some (r0, M0)) :
    mWX p l e 3 57 s m args below meth c 4 D E b (some (vI r0)) M0 M 30 [(0, vR b 0), (1, vI v1), (2, vI v2)] [] := by
  unfold m_number_B30 at h
  refine r_aload_n (pc := 30) C 0 rfl rfl dX12_number_30 ?_
  refine r_getI (pc := 31) C fl_RX12_36 m_s0 (by decide) m_k8 dX12_number_31 ?_
  refine r_if_ne (pc := 34) (tgt := 58) C h dX12_number_34 (by decide) (fun hc34 h => ?_) (fun hc34 h => ?_)
  · refine r_sub (lv' := [(0, vR b 0)]) [0] rfl ?_
    exact w_m_number_B58 C hr h
  · refine r_aload_n (pc := 37) C 0 rfl rfl dX12_number_37 ?_
    refine r_getI (pc := 38) C fl_RX12_29 m_s0 (by decide) m_k6 dX12_number_38 ?_
    refine r_iload_n (pc := 41) C 1 rfl rfl dX12_number_41 ?_
    refine r_iload_n (pc := 42) C 2 rfl rfl dX12_number_42 ?_
    obtain ⟨r3, hq3, h⟩ := bnd_inv h
    refine r_callS (pc := 43) (rest := []) (st1 := [vB r3]) C (mExtOK b) [vI (M 0 6), vI v1, vI v2] (c_m_is l hq3) cl_RX12_303 rfl rfl ⟨Nat.le_of_ble_eq_true rfl, Nat.le_of_ble_eq_true rfl⟩ (Nat.le_of_ble_eq_true rfl) rfl rfl dX12_number_43 ?_
    refine r_if_neB (pc := 46) (tgt := 58) C h dX12_number_46 (by decide) (fun hc46 h => ?_) (fun hc46 h => ?_)
    · refine r_sub (lv' := [(0, vR b 0)]) [0] rfl ?_
      exact w_m_number_B58 C hr h
    · refine r_aload_n (pc := 49) C 0 rfl rfl dX12_number_49 ?_
      refine r_iconst (pc := 50) C dX12_number_50 ?_
      refine r_aload_n (pc := 51) C 0 rfl rfl dX12_number_51 ?_
      refine r_getI (pc := 52) C fl_RX12_23 m_s0 (by decide) m_k4 dX12_number_52 ?_
      obtain ⟨M4, hq4, h⟩ := bnd_inv h
      refine r_callV (pc := 55) (rest := []) (st1 := []) C (mExtOK b) [vI 4, vI (M 0 4)] (c_m_blame l hq4) cl_RX12_233 m_s0 (by decide) rfl rfl rfl rfl ⟨Nat.le_of_ble_eq_true rfl, Nat.le_of_ble_eq_true rfl⟩ (Nat.le_of_ble_eq_true rfl) rfl rfl dX12_number_55 ?_
      refine r_sub (lv' := [(0, vR b 0)]) [0] rfl ?_
      exact w_m_number_B58 C hr h
set_option maxHeartbeats 4000000 in
set_option maxRecDepth 20000 in
theorem c_m_number (l : Launch) {x1 : Int} {x2 : Int} {M : Mem} {r0 : Int} {M0 : Mem} (h : m_number x1 x2 M = some (r0, M0)) : Ct l yX12_number cX12_number 4 (some .int) 3 57 vwCl mSh mN mRf mExt (fun b => [vR b 0, vI x1, vI x2]) M (fun b => (some (vI r0))) M0 := by
  refine Ct_of mExtOK (by decide) (fun b => Nat.le_of_ble_eq_true rfl) ?_
  intro p e s m args below meth c D E b C hr
  unfold m_number at h
  refine (show mWX p l e 3 57 s m args below meth c 4 D E b (some (vI r0)) M0 M 0 [(0, vR b 0), (1, vI x1), (2, vI x2)] [] from ?_)
  refine r_aload_n (pc := 0) C 0 rfl rfl dX12_number_0 ?_
  obtain ⟨M1, hq1, h⟩ := bnd_inv h
  refine r_callV (pc := 1) (rest := []) (st1 := []) C (mExtOK b) [] (c_m_lex l hq1) cl_RX12_244 m_s0 (by decide) rfl rfl rfl rfl ⟨Nat.le_of_ble_eq_true rfl, Nat.le_of_ble_eq_true rfl⟩ (Nat.le_of_ble_eq_true rfl) rfl rfl dX12_number_1 ?_
  refine r_aload_n (pc := 4) C 0 rfl rfl dX12_number_4 ?_
  refine r_getI (pc := 5) C fl_RX12_36 m_s0 (by decide) m_k8 dX12_number_5 ?_
  refine r_if_le (pc := 8) (tgt := 13) C h dX12_number_8 (by decide) (fun hc8 h => ?_) (fun hc8 h => ?_)
  · refine r_aload_n (pc := 13) C 0 rfl rfl dX12_number_13 ?_
    refine r_getI (pc := 14) C fl_RX12_20 m_s0 (by decide) m_k3 dX12_number_14 ?_
    refine r_iconst (pc := 17) C dX12_number_17 ?_
    refine r_icmp_eq (pc := 18) (tgt := 30) C h dX12_number_18 (by decide) (fun hc18 h => ?_) (fun hc18 h => ?_)
    · refine r_sub (lv' := [(0, vR b 0), (1, vI x1), (2, vI x2)]) [0, 1, 2] rfl ?_
      exact w_m_number_B30 C hr h
    · refine r_aload_n (pc := 21) C 0 rfl rfl dX12_number_21 ?_
      refine r_iconst (pc := 22) C dX12_number_22 ?_
      refine r_aload_n (pc := 23) C 0 rfl rfl dX12_number_23 ?_
      refine r_getI (pc := 24) C fl_RX12_23 m_s0 (by decide) m_k4 dX12_number_24 ?_
      obtain ⟨M5, hq5, h⟩ := bnd_inv h
      refine r_callV (pc := 27) (rest := []) (st1 := []) C (mExtOK b) [vI 1, vI (M1 0 4)] (c_m_blame l hq5) cl_RX12_233 m_s0 (by decide) rfl rfl rfl rfl ⟨Nat.le_of_ble_eq_true rfl, Nat.le_of_ble_eq_true rfl⟩ (Nat.le_of_ble_eq_true rfl) rfl rfl dX12_number_27 ?_
      refine r_sub (lv' := [(0, vR b 0), (1, vI x1), (2, vI x2)]) [0, 1, 2] rfl ?_
      exact w_m_number_B30 C hr h
  · refine r_iconst (pc := 11) C dX12_number_11 ?_
    have e := Option.some.inj h
    exact r_iret (pc := 12) C hr (congrArg (fun z => some (vI z)) (Prod.mk.inj e).1.symm) (Prod.mk.inj e).2.symm dX12_number_12
set_option maxHeartbeats 4000000 in
set_option maxRecDepth 20000 in
theorem c_m_add (l : Launch) {x1 : Int} {x2 : Int} {M : Mem} {M0 : Mem} (h : m_add x1 x2 M = some M0) : Ct l yX12_add cX12_add 3 none 1 12 vwCl mSh mN mRf mExt (fun b => [vR b 0, vI x1, vI x2]) M (fun b => none) M0 := by
  refine Ct_of mExtOK (by decide) (fun b => Nat.le_of_ble_eq_true rfl) ?_
  intro p e s m args below meth c D E b C hr
  unfold m_add at h
  refine (show mWX p l e 1 12 s m args below meth c 3 D E b none M0 M 0 [(0, vR b 0), (1, vI x1), (2, vI x2)] [] from ?_)
  refine r_aload_n (pc := 0) C 0 rfl rfl dX12_add_0 ?_
  refine r_getR (pc := 1) C fl_RX12_90 m_s0 (by decide) m_k26 m_r26 dX12_add_1 ?_
  refine r_sipush (pc := 4) (j := 1600) C (by decide +kernel) dX12_add_4 ?_
  refine r_aload_n (pc := 7) C 0 rfl rfl dX12_add_7 ?_
  refine r_getI (pc := 8) C fl_RX12_106 m_s0 (by decide) m_k31 dX12_add_8 ?_
  refine r_imul (pc := 11) C dX12_add_11 ?_
  refine r_aload_n (pc := 12) C 0 rfl rfl dX12_add_12 ?_
  refine r_getI (pc := 13) C fl_RX12_103 m_s0 (by decide) m_k30 dX12_add_13 ?_
  refine r_iadd (pc := 16) C dX12_add_16 ?_
  refine r_iload_n (pc := 17) C 1 rfl rfl dX12_add_17 ?_
  obtain ⟨hi18, h⟩ := chk_inv h
  obtain ⟨M_18, hM_18, h⟩ := lt_inv h
  refine r_iast (pc := 18) C m_s14 (by decide) (by decide) hi18 rfl hM_18 dX12_add_18 ?_
  refine r_aload_n (pc := 19) C 0 rfl rfl dX12_add_19 ?_
  refine r_getR (pc := 20) C fl_RX12_93 m_s0 (by decide) m_k27 m_r27 dX12_add_20 ?_
  refine r_sipush (pc := 23) (j := 1600) C (by decide +kernel) dX12_add_23 ?_
  refine r_aload_n (pc := 26) C 0 rfl rfl dX12_add_26 ?_
  refine r_getI (pc := 27) C fl_RX12_106 m_s0 (by decide) m_k31 dX12_add_27 ?_
  refine r_imul (pc := 30) C dX12_add_30 ?_
  refine r_aload_n (pc := 31) C 0 rfl rfl dX12_add_31 ?_
  refine r_getI (pc := 32) C fl_RX12_103 m_s0 (by decide) m_k30 dX12_add_32 ?_
  refine r_iadd (pc := 35) C dX12_add_35 ?_
  refine r_iload_n (pc := 36) C 2 rfl rfl dX12_add_36 ?_
  obtain ⟨hi37, h⟩ := chk_inv h
  obtain ⟨M_37, hM_37, h⟩ := lt_inv h
  refine r_iast (pc := 37) C m_s15 (by decide) (by decide) hi37 rfl hM_37 dX12_add_37 ?_
  refine r_aload_n (pc := 38) C 0 rfl rfl dX12_add_38 ?_
  refine r_dup (pc := 39) C rfl dX12_add_39 ?_
  refine r_getI (pc := 40) C fl_RX12_103 m_s0 (by decide) m_k30 dX12_add_40 ?_
  refine r_iconst (pc := 43) C dX12_add_43 ?_
  refine r_iadd (pc := 44) C dX12_add_44 ?_
  obtain ⟨M_45, hM_45, h⟩ := lt_inv h
  refine r_putI (pc := 45) C fl_RX12_103 mw_ft m_w30 m_s0 (by decide) m_k30 hM_45 dX12_add_45 ?_
  have e := Option.some.inj h
  exact r_vret (pc := 48) C hr rfl e.symm dX12_add_48
set_option maxHeartbeats 4000000 in
set_option maxRecDepth 20000 in
theorem c_m_isOf (l : Launch) {x1 : Int} {M : Mem} {r0 : Bool} (h : m_isOf x1 M = some r0) : Ct l yX12_isOf cX12_isOf 2 (some .boolean) 1 12 vwCl mSh mN mRf mExt (fun b => [vR b 0, vI x1]) M (fun b => (some (vB r0))) M := by
  refine Ct_of mExtOK (by decide) (fun b => Nat.le_of_ble_eq_true rfl) ?_
  intro p e s m args below meth c D E b C hr
  unfold m_isOf at h
  refine (show mWX p l e 1 12 s m args below meth c 2 D E b (some (vB r0)) M M 0 [(0, vR b 0), (1, vI x1)] [] from ?_)
  refine r_iload_n (pc := 0) C 1 rfl rfl dX12_isOf_0 ?_
  refine r_iconst (pc := 1) C dX12_isOf_1 ?_
  refine r_icmp_ne (pc := 2) (tgt := 21) C h dX12_isOf_2 (by decide) (fun hc2 h => ?_) (fun hc2 h => ?_)
  · refine r_aload_n (pc := 21) C 0 rfl rfl dX12_isOf_21 ?_
    refine r_getI (pc := 22) C fl_RX12_109 m_s0 (by decide) m_k32 dX12_isOf_22 ?_
    refine r_iload_n (pc := 25) C 1 rfl rfl dX12_isOf_25 ?_
    refine r_bipush (pc := 26) (j := 6) C (by decide +kernel) dX12_isOf_26 ?_
    refine r_icmp_ne (pc := 28) (tgt := 35) C h dX12_isOf_28 (by decide) (fun hc28 h => ?_) (fun hc28 h => ?_)
    · refine r_iload_n (pc := 35) C 1 rfl rfl dX12_isOf_35 ?_
      refine r_bipush (pc := 36) (j := 7) C (by decide +kernel) dX12_isOf_36 ?_
      refine r_icmp_ne (pc := 38) (tgt := 45) C h dX12_isOf_38 (by decide) (fun hc38 h => ?_) (fun hc38 h => ?_)
      · refine r_iconst (pc := 45) C dX12_isOf_45 ?_
        refine r_icmp_ne (pc := 46) (tgt := 53) C h dX12_isOf_46 (by decide) (fun hc46 h => ?_) (fun hc46 h => ?_)
        · refine r_iconst (pc := 53) C dX12_isOf_53 ?_
          have e := Option.some.inj h
          exact r_zret (pc := 54) C hr (Or.inl rfl) (congrArg (fun z => some (vB z)) e.symm) rfl dX12_isOf_54
        · refine r_iconst (pc := 49) C dX12_isOf_49 ?_
          refine r_goto (pc := 50) (tgt := 54) C dX12_isOf_50 (by decide) ?_
          have e := Option.some.inj h
          exact r_zret (pc := 54) C hr (Or.inr rfl) (congrArg (fun z => some (vB z)) e.symm) rfl dX12_isOf_54
      · refine r_iconst (pc := 41) C dX12_isOf_41 ?_
        refine r_goto (pc := 42) (tgt := 46) C dX12_isOf_42 (by decide) ?_
        refine r_icmp_ne (pc := 46) (tgt := 53) C h dX12_isOf_46 (by decide) (fun hc46 h => ?_) (fun hc46 h => ?_)
        · refine r_iconst (pc := 53) C dX12_isOf_53 ?_
          have e := Option.some.inj h
          exact r_zret (pc := 54) C hr (Or.inl rfl) (congrArg (fun z => some (vB z)) e.symm) rfl dX12_isOf_54
        · refine r_iconst (pc := 49) C dX12_isOf_49 ?_
          refine r_goto (pc := 50) (tgt := 54) C dX12_isOf_50 (by decide) ?_
          have e := Option.some.inj h
          exact r_zret (pc := 54) C hr (Or.inr rfl) (congrArg (fun z => some (vB z)) e.symm) rfl dX12_isOf_54
    · refine r_iconst (pc := 31) C dX12_isOf_31 ?_
      refine r_goto (pc := 32) (tgt := 46) C dX12_isOf_32 (by decide) ?_
      refine r_icmp_ne (pc := 46) (tgt := 53) C h dX12_isOf_46 (by decide) (fun hc46 h => ?_) (fun hc46 h => ?_)
      · refine r_iconst (pc := 53) C dX12_isOf_53 ?_
        have e := Option.some.inj h
        exact r_zret (pc := 54) C hr (Or.inl rfl) (congrArg (fun z => some (vB z)) e.symm) rfl dX12_isOf_54
      · refine r_iconst (pc := 49) C dX12_isOf_49 ?_
        refine r_goto (pc := 50) (tgt := 54) C dX12_isOf_50 (by decide) ?_
        have e := Option.some.inj h
        exact r_zret (pc := 54) C hr (Or.inr rfl) (congrArg (fun z => some (vB z)) e.symm) rfl dX12_isOf_54
  · refine r_aload_n (pc := 5) C 0 rfl rfl dX12_isOf_5 ?_
    refine r_getI (pc := 6) C fl_RX12_109 m_s0 (by decide) m_k32 dX12_isOf_6 ?_
    refine r_iconst (pc := 9) C dX12_isOf_9 ?_
    refine r_icmp_eq (pc := 10) (tgt := 17) C h dX12_isOf_10 (by decide) (fun hc10 h => ?_) (fun hc10 h => ?_)
    · refine r_iconst (pc := 17) C dX12_isOf_17 ?_
      refine r_goto (pc := 18) (tgt := 54) C dX12_isOf_18 (by decide) ?_
      have e := Option.some.inj h
      exact r_zret (pc := 54) C hr (Or.inl rfl) (congrArg (fun z => some (vB z)) e.symm) rfl dX12_isOf_54
    · refine r_iconst (pc := 13) C dX12_isOf_13 ?_
      refine r_goto (pc := 14) (tgt := 54) C dX12_isOf_14 (by decide) ?_
      have e := Option.some.inj h
      exact r_zret (pc := 54) C hr (Or.inr rfl) (congrArg (fun z => some (vB z)) e.symm) rfl dX12_isOf_54
set_option maxHeartbeats 4000000 in
set_option maxRecDepth 20000 in
theorem c_m_rank (l : Launch) {x0 : Int} {M : Mem} {r0 : Int} (h : m_rank x0 = some r0) : Ct l yX12_rank cX12_rank 1 (some .int) 1 12 vwCl mSh mN mRf mExt (fun b => [vI x0]) M (fun b => (some (vI r0))) M := by
  refine Ct_of mExtOK (by decide) (fun b => Nat.le_of_ble_eq_true rfl) ?_
  intro p e s m args below meth c D E b C hr
  unfold m_rank at h
  refine (show mWX p l e 1 12 s m args below meth c 1 D E b (some (vI r0)) M M 0 [(0, vI x0)] [] from ?_)
  refine r_iload_n (pc := 0) C 0 rfl rfl dX12_rank_0 ?_
  refine r_bipush (pc := 1) (j := 42) C (by decide +kernel) dX12_rank_1 ?_
  refine r_icmp_ne (pc := 3) (tgt := 10) C h dX12_rank_3 (by decide) (fun hc3 h => ?_) (fun hc3 h => ?_)
  · refine r_iload_n (pc := 10) C 0 rfl rfl dX12_rank_10 ?_
    refine r_bipush (pc := 11) (j := 41) C (by decide +kernel) dX12_rank_11 ?_
    refine r_icmp_ne (pc := 13) (tgt := 20) C h dX12_rank_13 (by decide) (fun hc13 h => ?_) (fun hc13 h => ?_)
    · refine r_iload_n (pc := 20) C 0 rfl rfl dX12_rank_20 ?_
      refine r_bipush (pc := 21) (j := 43) C (by decide +kernel) dX12_rank_21 ?_
      refine r_icmp_ne (pc := 23) (tgt := 30) C h dX12_rank_23 (by decide) (fun hc23 h => ?_) (fun hc23 h => ?_)
      · refine r_iload_n (pc := 30) C 0 rfl rfl dX12_rank_30 ?_
        refine r_bipush (pc := 31) (j := 38) C (by decide +kernel) dX12_rank_31 ?_
        refine r_icmp_eq (pc := 33) (tgt := 48) C h dX12_rank_33 (by decide) (fun hc33 h => ?_) (fun hc33 h => ?_)
        · refine r_iconst (pc := 48) C dX12_rank_48 ?_
          refine r_goto (pc := 49) (tgt := 70) C dX12_rank_49 (by decide) ?_
          have e := Option.some.inj h
          exact r_iret (pc := 70) C hr (congrArg (fun z => some (vI z)) e.symm) rfl dX12_rank_70
        · refine r_iload_n (pc := 36) C 0 rfl rfl dX12_rank_36 ?_
          refine r_bipush (pc := 37) (j := 39) C (by decide +kernel) dX12_rank_37 ?_
          refine r_icmp_eq (pc := 39) (tgt := 48) C h dX12_rank_39 (by decide) (fun hc39 h => ?_) (fun hc39 h => ?_)
          · refine r_iconst (pc := 48) C dX12_rank_48 ?_
            refine r_goto (pc := 49) (tgt := 70) C dX12_rank_49 (by decide) ?_
            have e := Option.some.inj h
            exact r_iret (pc := 70) C hr (congrArg (fun z => some (vI z)) e.symm) rfl dX12_rank_70
          · refine r_iload_n (pc := 42) C 0 rfl rfl dX12_rank_42 ?_
            refine r_bipush (pc := 43) (j := 40) C (by decide +kernel) dX12_rank_43 ?_
            refine r_icmp_ne (pc := 45) (tgt := 52) C h dX12_rank_45 (by decide) (fun hc45 h => ?_) (fun hc45 h => ?_)
            · refine r_iload_n (pc := 52) C 0 rfl rfl dX12_rank_52 ?_
              refine r_bipush (pc := 53) (j := 31) C (by decide +kernel) dX12_rank_53 ?_
              refine r_icmp_eq (pc := 55) (tgt := 64) C h dX12_rank_55 (by decide) (fun hc55 h => ?_) (fun hc55 h => ?_)
              · refine r_iconst (pc := 64) C dX12_rank_64 ?_
                refine r_goto (pc := 65) (tgt := 70) C dX12_rank_65 (by decide) ?_
                have e := Option.some.inj h
                exact r_iret (pc := 70) C hr (congrArg (fun z => some (vI z)) e.symm) rfl dX12_rank_70
              · refine r_iload_n (pc := 58) C 0 rfl rfl dX12_rank_58 ?_
                refine r_bipush (pc := 59) (j := 32) C (by decide +kernel) dX12_rank_59 ?_
                refine r_icmp_ne (pc := 61) (tgt := 68) C h dX12_rank_61 (by decide) (fun hc61 h => ?_) (fun hc61 h => ?_)
                · refine r_bipush (pc := 68) (j := 6) C (by decide +kernel) dX12_rank_68 ?_
                  have e := Option.some.inj h
                  exact r_iret (pc := 70) C hr (congrArg (fun z => some (vI z)) e.symm) rfl dX12_rank_70
                · refine r_iconst (pc := 64) C dX12_rank_64 ?_
                  refine r_goto (pc := 65) (tgt := 70) C dX12_rank_65 (by decide) ?_
                  have e := Option.some.inj h
                  exact r_iret (pc := 70) C hr (congrArg (fun z => some (vI z)) e.symm) rfl dX12_rank_70
            · refine r_iconst (pc := 48) C dX12_rank_48 ?_
              refine r_goto (pc := 49) (tgt := 70) C dX12_rank_49 (by decide) ?_
              have e := Option.some.inj h
              exact r_iret (pc := 70) C hr (congrArg (fun z => some (vI z)) e.symm) rfl dX12_rank_70
      · refine r_iconst (pc := 26) C dX12_rank_26 ?_
        refine r_goto (pc := 27) (tgt := 70) C dX12_rank_27 (by decide) ?_
        have e := Option.some.inj h
        exact r_iret (pc := 70) C hr (congrArg (fun z => some (vI z)) e.symm) rfl dX12_rank_70
    · refine r_iconst (pc := 16) C dX12_rank_16 ?_
      refine r_goto (pc := 17) (tgt := 70) C dX12_rank_17 (by decide) ?_
      have e := Option.some.inj h
      exact r_iret (pc := 70) C hr (congrArg (fun z => some (vI z)) e.symm) rfl dX12_rank_70
  · refine r_iconst (pc := 6) C dX12_rank_6 ?_
    refine r_goto (pc := 7) (tgt := 70) C dX12_rank_7 (by decide) ?_
    have e := Option.some.inj h
    exact r_iret (pc := 70) C hr (congrArg (fun z => some (vI z)) e.symm) rfl dX12_rank_70
set_option maxHeartbeats 4000000 in
set_option maxRecDepth 20000 in
theorem w_m_joins_L0_s (C : mCX p s m args meth c cX12_joins 2 RX12 D E b) (hr : meth.sig.returnType = none) {M0 : Mem} {v1 : Int} {M : Mem} {q : Mem} {rec : Mem → Option (Mem)} (hrec : ∀ (M : Mem), rec M = some q → mWX p l e 2 34 s m args below meth c 2 D E b none M0 M 0 [(0, vR b 0), (1, vI v1)] []) (hfol : ∀ (M : Mem), q = M → mWX p l e 2 34 s m args below meth c 2 D E b none M0 M 87 [] []) (h : m_joins_L0 v1 rec M = some q) :
    mWX p l e 2 34 s m args below meth c 2 D E b none M0 M 0 [(0, vR b 0), (1, vI v1)] [] := by
  unfold m_joins_L0 at h
  refine r_aload_n (pc := 0) C 0 rfl rfl dX12_joins_0 ?_
  refine r_getI (pc := 1) C fl_RX12_137 m_s0 (by decide) m_k41 dX12_joins_1 ?_
  refine r_aload_n (pc := 4) C 0 rfl rfl dX12_joins_4 ?_
  refine r_getR (pc := 5) C fl_RX12_125 m_s0 (by decide) m_k37 m_r37 dX12_joins_5 ?_
  refine r_aload_n (pc := 8) C 0 rfl rfl dX12_joins_8 ?_
  refine r_getI (pc := 9) C fl_RX12_128 m_s0 (by decide) m_k38 dX12_joins_9 ?_
  refine r_iconst (pc := 12) C dX12_joins_12 ?_
  refine r_isub (pc := 13) C dX12_joins_13 ?_
  obtain ⟨hi14, h⟩ := chk_inv h
  refine r_iald (pc := 14) C m_s22 (by decide) (by decide) hi14 rfl dX12_joins_14 ?_
  refine r_icmp_le (pc := 15) (tgt := 87) C h dX12_joins_15 (by decide) (fun hc15 h => ?_) (fun hc15 h => ?_)
  · refine r_sub (lv' := []) [] rfl ?_
    exact hfol _ (Option.some.inj h).symm
  · refine r_aload_n (pc := 18) C 0 rfl rfl dX12_joins_18 ?_
    refine r_getR (pc := 19) C fl_RX12_134 m_s0 (by decide) m_k40 m_r40 dX12_joins_19 ?_
    refine r_aload_n (pc := 22) C 0 rfl rfl dX12_joins_22 ?_
    refine r_getI (pc := 23) C fl_RX12_137 m_s0 (by decide) m_k41 dX12_joins_23 ?_
    refine r_iconst (pc := 26) C dX12_joins_26 ?_
    refine r_isub (pc := 27) C dX12_joins_27 ?_
    obtain ⟨hi28, h⟩ := chk_inv h
    refine r_iald (pc := 28) C m_s23 (by decide) (by decide) hi28 rfl dX12_joins_28 ?_
    obtain ⟨r1, hq1, h⟩ := bnd_inv h
    refine r_callS (pc := 29) (rest := []) (st1 := [vI r1]) C (mExtOK b) [vI (M 23 ((M 0 41) - 1).toNat)] (c_m_rank l hq1) cl_RX12_307 rfl rfl ⟨Nat.le_of_ble_eq_true rfl, Nat.le_of_ble_eq_true rfl⟩ (Nat.le_of_ble_eq_true rfl) rfl rfl dX12_joins_29 ?_
    refine r_iload_n (pc := 32) C 1 rfl rfl dX12_joins_32 ?_
    refine r_icmp_lt (pc := 33) (tgt := 87) C h dX12_joins_33 (by decide) (fun hc33 h => ?_) (fun hc33 h => ?_)
    · refine r_sub (lv' := []) [] rfl ?_
      exact hfol _ (Option.some.inj h).symm
    · refine r_aload_n (pc := 36) C 0 rfl rfl dX12_joins_36 ?_
      refine r_dup (pc := 37) C rfl dX12_joins_37 ?_
      refine r_getI (pc := 38) C fl_RX12_137 m_s0 (by decide) m_k41 dX12_joins_38 ?_
      refine r_iconst (pc := 41) C dX12_joins_41 ?_
      refine r_isub (pc := 42) C dX12_joins_42 ?_
      obtain ⟨M_43, hM_43, h⟩ := lt_inv h
      refine r_putI (pc := 43) C fl_RX12_137 mw_ft m_w41 m_s0 (by decide) m_k41 hM_43 dX12_joins_43 ?_
      refine r_aload_n (pc := 46) C 0 rfl rfl dX12_joins_46 ?_
      refine r_aload_n (pc := 47) C 0 rfl rfl dX12_joins_47 ?_
      refine r_getR (pc := 48) C fl_RX12_134 m_s0 (by decide) m_k40 m_r40 dX12_joins_48 ?_
      refine r_aload_n (pc := 51) C 0 rfl rfl dX12_joins_51 ?_
      refine r_getI (pc := 52) C fl_RX12_137 m_s0 (by decide) m_k41 dX12_joins_52 ?_
      obtain ⟨hi55, h⟩ := chk_inv h
      refine r_iald (pc := 55) C m_s23 (by decide) (by decide) hi55 rfl dX12_joins_55 ?_
      refine r_iconst (pc := 56) C dX12_joins_56 ?_
      obtain ⟨M2, hq2, h⟩ := bnd_inv h
      refine r_callV (pc := 57) (rest := []) (st1 := []) C (mExtOK b) [vI (M_43 23 (M_43 0 41).toNat), vI 0] (c_m_add l hq2) cl_RX12_310 m_s0 (by decide) rfl rfl rfl rfl ⟨Nat.le_of_ble_eq_true rfl, Nat.le_of_ble_eq_true rfl⟩ (Nat.le_of_ble_eq_true rfl) rfl rfl dX12_joins_57 ?_
      refine r_aload_n (pc := 60) C 0 rfl rfl dX12_joins_60 ?_
      refine r_getR (pc := 61) C fl_RX12_134 m_s0 (by decide) m_k40 m_r40 dX12_joins_61 ?_
      refine r_aload_n (pc := 64) C 0 rfl rfl dX12_joins_64 ?_
      refine r_getI (pc := 65) C fl_RX12_137 m_s0 (by decide) m_k41 dX12_joins_65 ?_
      obtain ⟨hi68, h⟩ := chk_inv h
      refine r_iald (pc := 68) C m_s23 (by decide) (by decide) hi68 rfl dX12_joins_68 ?_
      refine r_bipush (pc := 69) (j := 43) C (by decide +kernel) dX12_joins_69 ?_
      refine r_icmp_ne (pc := 71) (tgt := 0) C h dX12_joins_71 (by decide) (fun hc71 h => ?_) (fun hc71 h => ?_)
      · refine r_sub (lv' := [(0, vR b 0), (1, vI v1)]) [0, 1] rfl ?_
        exact hrec _ h
      · refine r_aload_n (pc := 74) C 0 rfl rfl dX12_joins_74 ?_
        refine r_dup (pc := 75) C rfl dX12_joins_75 ?_
        refine r_getI (pc := 76) C fl_RX12_131 m_s0 (by decide) m_k39 dX12_joins_76 ?_
        refine r_iconst (pc := 79) C dX12_joins_79 ?_
        refine r_isub (pc := 80) C dX12_joins_80 ?_
        obtain ⟨M_81, hM_81, h⟩ := lt_inv h
        refine r_putI (pc := 81) C fl_RX12_131 mw_ft m_w39 m_s0 (by decide) m_k39 hM_81 dX12_joins_81 ?_
        refine r_goto (pc := 84) (tgt := 0) C dX12_joins_84 (by decide) ?_
        refine r_sub (lv' := [(0, vR b 0), (1, vI v1)]) [0, 1] rfl ?_
        exact hrec _ h
set_option maxHeartbeats 4000000 in
theorem w_m_joins_L0 (C : mCX p s m args meth c cX12_joins 2 RX12 D E b) (hr : meth.sig.returnType = none) {M0 : Mem} {v1 : Int} {q : Mem} (hfol : ∀ (M : Mem), q = M → mWX p l e 2 34 s m args below meth c 2 D E b none M0 M 87 [] []) : ∀ (n : Nat) (M : Mem), itr1 (m_joins_L0 v1) n M = some q →
    mWX p l e 2 34 s m args below meth c 2 D E b none M0 M 0 [(0, vR b 0), (1, vI v1)] [] := by
  intro n
  induction n with
  | zero => exact fun _ h => itr_z h
  | succ n ih => exact fun _ h => w_m_joins_L0_s C hr ih hfol h
set_option maxHeartbeats 4000000 in
set_option maxRecDepth 20000 in
theorem c_m_joins (l : Launch) {x1 : Int} {M : Mem} {M0 : Mem} (h : m_joins x1 M = some M0) : Ct l yX12_joins cX12_joins 2 none 2 34 vwCl mSh mN mRf mExt (fun b => [vR b 0, vI x1]) M (fun b => none) M0 := by
  refine Ct_of mExtOK (by decide) (fun b => Nat.le_of_ble_eq_true rfl) ?_
  intro p e s m args below meth c D E b C hr
  unfold m_joins at h
  refine (show mWX p l e 2 34 s m args below meth c 2 D E b none M0 M 0 [(0, vR b 0), (1, vI x1)] [] from ?_)
  refine r_sub (lv' := [(0, vR b 0), (1, vI x1)]) [0, 1] rfl ?_
  obtain ⟨q3, hl3, h⟩ := bnd_inv h
  refine w_m_joins_L0 C hr (fun M_3 hq => ?_) FUEL _ hl3
  have hq := hq.symm
  subst hq
  have e := Option.some.inj h
  exact r_vret (pc := 87) C hr rfl e.symm dX12_joins_87
set_option maxHeartbeats 4000000 in
set_option maxRecDepth 20000 in
theorem c_m_holdsBack (l : Launch) {x1 : Int} {M : Mem} {M0 : Mem} (h : m_holdsBack x1 M = some M0) : Ct l yX12_holdsBack cX12_holdsBack 2 none 1 12 vwCl mSh mN mRf mExt (fun b => [vR b 0, vI x1]) M (fun b => none) M0 := by
  refine Ct_of mExtOK (by decide) (fun b => Nat.le_of_ble_eq_true rfl) ?_
  intro p e s m args below meth c D E b C hr
  unfold m_holdsBack at h
  refine (show mWX p l e 1 12 s m args below meth c 2 D E b none M0 M 0 [(0, vR b 0), (1, vI x1)] [] from ?_)
  refine r_aload_n (pc := 0) C 0 rfl rfl dX12_holdsBack_0 ?_
  refine r_getR (pc := 1) C fl_RX12_134 m_s0 (by decide) m_k40 m_r40 dX12_holdsBack_1 ?_
  refine r_aload_n (pc := 4) C 0 rfl rfl dX12_holdsBack_4 ?_
  refine r_getI (pc := 5) C fl_RX12_137 m_s0 (by decide) m_k41 dX12_holdsBack_5 ?_
  refine r_iload_n (pc := 8) C 1 rfl rfl dX12_holdsBack_8 ?_
  obtain ⟨hi9, h⟩ := chk_inv h
  obtain ⟨M_9, hM_9, h⟩ := lt_inv h
  refine r_iast (pc := 9) C m_s23 (by decide) (by decide) hi9 rfl hM_9 dX12_holdsBack_9 ?_
  refine r_aload_n (pc := 10) C 0 rfl rfl dX12_holdsBack_10 ?_
  refine r_dup (pc := 11) C rfl dX12_holdsBack_11 ?_
  refine r_getI (pc := 12) C fl_RX12_137 m_s0 (by decide) m_k41 dX12_holdsBack_12 ?_
  refine r_iconst (pc := 15) C dX12_holdsBack_15 ?_
  refine r_iadd (pc := 16) C dX12_holdsBack_16 ?_
  obtain ⟨M_17, hM_17, h⟩ := lt_inv h
  refine r_putI (pc := 17) C fl_RX12_137 mw_ft m_w41 m_s0 (by decide) m_k41 hM_17 dX12_holdsBack_17 ?_
  have e := Option.some.inj h
  exact r_vret (pc := 20) C hr rfl e.symm dX12_holdsBack_20
set_option maxHeartbeats 4000000 in
set_option maxRecDepth 20000 in
theorem c_m_pushes (l : Launch) {x1 : Int} {M : Mem} {M0 : Mem} (h : m_pushes x1 M = some M0) : Ct l yX12_pushes cX12_pushes 2 none 1 12 vwCl mSh mN mRf mExt (fun b => [vR b 0, vI x1]) M (fun b => none) M0 := by
  refine Ct_of mExtOK (by decide) (fun b => Nat.le_of_ble_eq_true rfl) ?_
  intro p e s m args below meth c D E b C hr
  unfold m_pushes at h
  refine (show mWX p l e 1 12 s m args below meth c 2 D E b none M0 M 0 [(0, vR b 0), (1, vI x1)] [] from ?_)
  refine r_aload_n (pc := 0) C 0 rfl rfl dX12_pushes_0 ?_
  refine r_getR (pc := 1) C fl_RX12_112 m_s0 (by decide) m_k33 m_r33 dX12_pushes_1 ?_
  refine r_aload_n (pc := 4) C 0 rfl rfl dX12_pushes_4 ?_
  refine r_getI (pc := 5) C fl_RX12_128 m_s0 (by decide) m_k38 dX12_pushes_5 ?_
  refine r_iload_n (pc := 8) C 1 rfl rfl dX12_pushes_8 ?_
  obtain ⟨hi9, h⟩ := chk_inv h
  obtain ⟨M_9, hM_9, h⟩ := lt_inv h
  refine r_iast (pc := 9) C m_s18 (by decide) (by decide) hi9 rfl hM_9 dX12_pushes_9 ?_
  refine r_aload_n (pc := 10) C 0 rfl rfl dX12_pushes_10 ?_
  refine r_getR (pc := 11) C fl_RX12_115 m_s0 (by decide) m_k34 m_r34 dX12_pushes_11 ?_
  refine r_aload_n (pc := 14) C 0 rfl rfl dX12_pushes_14 ?_
  refine r_getI (pc := 15) C fl_RX12_128 m_s0 (by decide) m_k38 dX12_pushes_15 ?_
  refine r_iconst (pc := 18) C dX12_pushes_18 ?_
  obtain ⟨hi19, h⟩ := chk_inv h
  obtain ⟨M_19, hM_19, h⟩ := lt_inv h
  refine r_iast (pc := 19) C m_s19 (by decide) (by decide) hi19 rfl hM_19 dX12_pushes_19 ?_
  refine r_aload_n (pc := 20) C 0 rfl rfl dX12_pushes_20 ?_
  refine r_getR (pc := 21) C fl_RX12_118 m_s0 (by decide) m_k35 m_r35 dX12_pushes_21 ?_
  refine r_aload_n (pc := 24) C 0 rfl rfl dX12_pushes_24 ?_
  refine r_getI (pc := 25) C fl_RX12_128 m_s0 (by decide) m_k38 dX12_pushes_25 ?_
  refine r_iconst (pc := 28) C dX12_pushes_28 ?_
  obtain ⟨hi29, h⟩ := chk_inv h
  obtain ⟨M_29, hM_29, h⟩ := lt_inv h
  refine r_zast (pc := 29) C m_s20 (by decide) (by decide) hi29 rfl (Or.inr rfl) hM_29 dX12_pushes_29 ?_
  refine r_aload_n (pc := 30) C 0 rfl rfl dX12_pushes_30 ?_
  refine r_getR (pc := 31) C fl_RX12_125 m_s0 (by decide) m_k37 m_r37 dX12_pushes_31 ?_
  refine r_aload_n (pc := 34) C 0 rfl rfl dX12_pushes_34 ?_
  refine r_getI (pc := 35) C fl_RX12_128 m_s0 (by decide) m_k38 dX12_pushes_35 ?_
  refine r_aload_n (pc := 38) C 0 rfl rfl dX12_pushes_38 ?_
  refine r_getI (pc := 39) C fl_RX12_137 m_s0 (by decide) m_k41 dX12_pushes_39 ?_
  obtain ⟨hi42, h⟩ := chk_inv h
  obtain ⟨M_42, hM_42, h⟩ := lt_inv h
  refine r_iast (pc := 42) C m_s22 (by decide) (by decide) hi42 rfl hM_42 dX12_pushes_42 ?_
  refine r_aload_n (pc := 43) C 0 rfl rfl dX12_pushes_43 ?_
  refine r_dup (pc := 44) C rfl dX12_pushes_44 ?_
  refine r_getI (pc := 45) C fl_RX12_128 m_s0 (by decide) m_k38 dX12_pushes_45 ?_
  refine r_iconst (pc := 48) C dX12_pushes_48 ?_
  refine r_iadd (pc := 49) C dX12_pushes_49 ?_
  obtain ⟨M_50, hM_50, h⟩ := lt_inv h
  refine r_putI (pc := 50) C fl_RX12_128 mw_ft m_w38 m_s0 (by decide) m_k38 hM_50 dX12_pushes_50 ?_
  have e := Option.some.inj h
  exact r_vret (pc := 53) C hr rfl e.symm dX12_pushes_53
set_option maxHeartbeats 4000000 in
set_option maxRecDepth 20000 in
theorem w_m_opens_B18 (C : mCX p s m args meth c cX12_opens 2 RX12 D E b) (hr : meth.sig.returnType = none) {M0 : Mem} {M : Mem} {v1 : Int} (h : m_opens_B18 v1 M = some M0) :
    mWX p l e 3 57 s m args below meth c 2 D E b none M0 M 18 [(0, vR b 0), (1, vI v1)] [] := by
  unfold m_opens_B18 at h
  refine r_aload_n (pc := 18) C 0 rfl rfl dX12_opens_18 ?_
  refine r_getI (pc := 19) C fl_RX12_36 m_s0 (by decide) m_k8 dX12_opens_19 ?_
  refine r_if_le (pc := 22) (tgt := 26) C h dX12_opens_22 (by decide) (fun hc22 h => ?_) (fun hc22 h => ?_)
  · refine r_aload_n (pc := 26) C 0 rfl rfl dX12_opens_26 ?_
    refine r_dup (pc := 27) C rfl dX12_opens_27 ?_
    refine r_getI (pc := 28) C fl_RX12_131 m_s0 (by decide) m_k39 dX12_opens_28 ?_
    refine r_iconst (pc := 31) C dX12_opens_31 ?_
    refine r_iadd (pc := 32) C dX12_opens_32 ?_
    obtain ⟨M_33, hM_33, h⟩ := lt_inv h
    refine r_putI (pc := 33) C fl_RX12_131 mw_ft m_w39 m_s0 (by decide) m_k39 hM_33 dX12_opens_33 ?_
    refine r_aload_n (pc := 36) C 0 rfl rfl dX12_opens_36 ?_
    obtain ⟨M1, hq1, h⟩ := bnd_inv h
    refine r_callV (pc := 37) (rest := []) (st1 := []) C (mExtOK b) [] (c_m_ahead l hq1) cl_RX12_250 m_s0 (by decide) rfl rfl rfl rfl ⟨Nat.le_of_ble_eq_true rfl, Nat.le_of_ble_eq_true rfl⟩ (Nat.le_of_ble_eq_true rfl) rfl rfl dX12_opens_37 ?_
    refine r_aload_n (pc := 40) C 0 rfl rfl dX12_opens_40 ?_
    refine r_iload_n (pc := 41) C 1 rfl rfl dX12_opens_41 ?_
    obtain ⟨M2, hq2, h⟩ := bnd_inv h
    refine r_callV (pc := 42) (rest := []) (st1 := []) C (mExtOK b) [vI v1] (c_m_pushes l hq2) cl_RX12_313 m_s0 (by decide) rfl rfl rfl rfl ⟨Nat.le_of_ble_eq_true rfl, Nat.le_of_ble_eq_true rfl⟩ (Nat.le_of_ble_eq_true rfl) rfl rfl dX12_opens_42 ?_
    have e := Option.some.inj h
    exact r_vret (pc := 45) C hr rfl e.symm dX12_opens_45
  · have e := Option.some.inj h
    exact r_vret (pc := 25) C hr rfl e.symm dX12_opens_25
set_option maxHeartbeats 4000000 in
set_option maxRecDepth 20000 in
theorem c_m_opens (l : Launch) {x1 : Int} {M : Mem} {M0 : Mem} (h : m_opens x1 M = some M0) : Ct l yX12_opens cX12_opens 2 none 3 57 vwCl mSh mN mRf mExt (fun b => [vR b 0, vI x1]) M (fun b => none) M0 := by
  refine Ct_of mExtOK (by decide) (fun b => Nat.le_of_ble_eq_true rfl) ?_
  intro p e s m args below meth c D E b C hr
  unfold m_opens at h
  refine (show mWX p l e 3 57 s m args below meth c 2 D E b none M0 M 0 [(0, vR b 0), (1, vI x1)] [] from ?_)
  refine r_aload_n (pc := 0) C 0 rfl rfl dX12_opens_0 ?_
  refine r_getI (pc := 1) C fl_RX12_131 m_s0 (by decide) m_k39 dX12_opens_1 ?_
  refine r_bipush (pc := 4) (j := 7) C (by decide +kernel) dX12_opens_4 ?_
  refine r_icmp_ne (pc := 6) (tgt := 18) C h dX12_opens_6 (by decide) (fun hc6 h => ?_) (fun hc6 h => ?_)
  · refine r_sub (lv' := [(0, vR b 0), (1, vI x1)]) [0, 1] rfl ?_
    exact w_m_opens_B18 C hr h
  · refine r_aload_n (pc := 9) C 0 rfl rfl dX12_opens_9 ?_
    refine r_iconst (pc := 10) C dX12_opens_10 ?_
    refine r_aload_n (pc := 11) C 0 rfl rfl dX12_opens_11 ?_
    refine r_getI (pc := 12) C fl_RX12_23 m_s0 (by decide) m_k4 dX12_opens_12 ?_
    obtain ⟨M3, hq3, h⟩ := bnd_inv h
    refine r_callV (pc := 15) (rest := []) (st1 := []) C (mExtOK b) [vI 5, vI (M 0 4)] (c_m_blame l hq3) cl_RX12_233 m_s0 (by decide) rfl rfl rfl rfl ⟨Nat.le_of_ble_eq_true rfl, Nat.le_of_ble_eq_true rfl⟩ (Nat.le_of_ble_eq_true rfl) rfl rfl dX12_opens_15 ?_
    refine r_sub (lv' := [(0, vR b 0), (1, vI x1)]) [0, 1] rfl ?_
    exact w_m_opens_B18 C hr h
set_option maxHeartbeats 4000000 in
set_option maxRecDepth 20000 in
theorem c_m_isTest (l : Launch) {x0 : Int} {M : Mem} {r0 : Bool} (h : m_isTest x0 = some r0) : Ct l yX12_isTest cX12_isTest 1 (some .boolean) 1 12 vwCl mSh mN mRf mExt (fun b => [vI x0]) M (fun b => (some (vB r0))) M := by
  refine Ct_of mExtOK (by decide) (fun b => Nat.le_of_ble_eq_true rfl) ?_
  intro p e s m args below meth c D E b C hr
  unfold m_isTest at h
  refine (show mWX p l e 1 12 s m args below meth c 1 D E b (some (vB r0)) M M 0 [(0, vI x0)] [] from ?_)
  refine r_iload_n (pc := 0) C 0 rfl rfl dX12_isTest_0 ?_
  refine r_iconst (pc := 1) C dX12_isTest_1 ?_
  refine r_icmp_eq (pc := 2) (tgt := 16) C h dX12_isTest_2 (by decide) (fun hc2 h => ?_) (fun hc2 h => ?_)
  · refine r_iconst (pc := 16) C dX12_isTest_16 ?_
    refine r_goto (pc := 17) (tgt := 21) C dX12_isTest_17 (by decide) ?_
    have e := Option.some.inj h
    exact r_zret (pc := 21) C hr (Or.inr rfl) (congrArg (fun z => some (vB z)) e.symm) rfl dX12_isTest_21
  · refine r_iload_n (pc := 5) C 0 rfl rfl dX12_isTest_5 ?_
    refine r_iconst (pc := 6) C dX12_isTest_6 ?_
    refine r_icmp_eq (pc := 7) (tgt := 16) C h dX12_isTest_7 (by decide) (fun hc7 h => ?_) (fun hc7 h => ?_)
    · refine r_iconst (pc := 16) C dX12_isTest_16 ?_
      refine r_goto (pc := 17) (tgt := 21) C dX12_isTest_17 (by decide) ?_
      have e := Option.some.inj h
      exact r_zret (pc := 21) C hr (Or.inr rfl) (congrArg (fun z => some (vB z)) e.symm) rfl dX12_isTest_21
    · refine r_iload_n (pc := 10) C 0 rfl rfl dX12_isTest_10 ?_
      refine r_bipush (pc := 11) (j := 6) C (by decide +kernel) dX12_isTest_11 ?_
      refine r_icmp_ne (pc := 13) (tgt := 20) C h dX12_isTest_13 (by decide) (fun hc13 h => ?_) (fun hc13 h => ?_)
      · refine r_iconst (pc := 20) C dX12_isTest_20 ?_
        have e := Option.some.inj h
        exact r_zret (pc := 21) C hr (Or.inl rfl) (congrArg (fun z => some (vB z)) e.symm) rfl dX12_isTest_21
      · refine r_iconst (pc := 16) C dX12_isTest_16 ?_
        refine r_goto (pc := 17) (tgt := 21) C dX12_isTest_17 (by decide) ?_
        have e := Option.some.inj h
        exact r_zret (pc := 21) C hr (Or.inr rfl) (congrArg (fun z => some (vB z)) e.symm) rfl dX12_isTest_21
set_option maxHeartbeats 4000000 in
set_option maxRecDepth 20000 in
theorem w_m_operand_B289 (C : mCX p s m args meth c cX12_operand 4 RX12 D E b) (hr : meth.sig.returnType = (some .boolean)) {r0 : Bool} {M0 : Mem} {M : Mem} {v3 : Int} {s1 : Int} (h : m_operand_B289 v3 s1 M = some (r0, M0)) :
    mWX p l e 4 78 s m args below meth c 4 D E b (some (vB r0)) M0 M 289 [(0, vR b 0), (3, vI v3)] [vI s1, vR b 0] := by
  unfold m_operand_B289 at h
  obtain ⟨M10, hq10, h⟩ := bnd_inv h
  refine r_callV (pc := 289) (rest := []) (st1 := []) C (mExtOK b) [vI s1] (c_m_opens l hq10) cl_RX12_326 m_s0 (by decide) rfl rfl rfl rfl ⟨Nat.le_of_ble_eq_true rfl, Nat.le_of_ble_eq_true rfl⟩ (Nat.le_of_ble_eq_true rfl) rfl rfl dX12_operand_289 ?_
  refine r_aload_n (pc := 292) C 0 rfl rfl dX12_operand_292 ?_
  refine r_getI (pc := 293) C fl_RX12_36 m_s0 (by decide) m_k8 dX12_operand_293 ?_
  refine r_if_ne (pc := 296) (tgt := 311) C h dX12_operand_296 (by decide) (fun hc296 h => ?_) (fun hc296 h => ?_)
  · refine r_iconst (pc := 311) C dX12_operand_311 ?_
    have e := Option.some.inj h
    exact r_zret (pc := 312) C hr (Or.inl rfl) (congrArg (fun z => some (vB z)) (Prod.mk.inj e).1.symm) (Prod.mk.inj e).2.symm dX12_operand_312
  · refine r_aload_n (pc := 299) C 0 rfl rfl dX12_operand_299 ?_
    refine r_getR (pc := 300) C fl_RX12_122 m_s0 (by decide) m_k36 m_r36 dX12_operand_300 ?_
    refine r_aload_n (pc := 303) C 0 rfl rfl dX12_operand_303 ?_
    refine r_getI (pc := 304) C fl_RX12_128 m_s0 (by decide) m_k38 dX12_operand_304 ?_
    refine r_iconst (pc := 307) C dX12_operand_307 ?_
    refine r_isub (pc := 308) C dX12_operand_308 ?_
    refine r_iload_n (pc := 309) C 1 rfl rfl dX12_operand_309 ?_
    obtain ⟨hi310, h⟩ := chk_inv h
    obtain ⟨M_310, hM_310, h⟩ := lt_inv h
    refine r_iast (pc := 310) C m_s21 (by decide) (by decide) hi310 rfl hM_310 dX12_operand_310 ?_
    refine r_iconst (pc := 311) C dX12_operand_311 ?_
    have e := Option.some.inj h
    exact r_zret (pc := 312) C hr (Or.inl rfl) (congrArg (fun z => some (vB z)) (Prod.mk.inj e).1.symm) (Prod.mk.inj e).2.symm dX12_operand_312
set_option maxHeartbeats 4000000 in
set_option maxRecDepth 20000 in
theorem w_m_operand_B276 (C : mCX p s m args meth c cX12_operand 4 RX12 D E b) (hr : meth.sig.returnType = (some .boolean)) {r0 : Bool} {M0 : Mem} {M : Mem} {v3 : Int} (h : m_operand_B276 v3 M = some (r0, M0)) :
    mWX p l e 4 78 s m args below meth c 4 D E b (some (vB r0)) M0 M 276 [(0, vR b 0), (3, vI v3)] [] := by
  unfold m_operand_B276 at h
  refine r_aload_n (pc := 276) C 0 rfl rfl dX12_operand_276 ?_
  refine r_iload_n (pc := 277) C 1 rfl rfl dX12_operand_277 ?_
  refine r_bipush (pc := 278) (j := 44) C (by decide +kernel) dX12_operand_278 ?_
  refine r_icmp_ne (pc := 280) (tgt := 288) C h dX12_operand_280 (by decide) (fun hc280 h => ?_) (fun hc280 h => ?_)
  · refine r_iconst (pc := 288) C dX12_operand_288 ?_
    refine r_sub (lv' := [(0, vR b 0), (3, vI v3)]) [0, 1] rfl ?_
    exact w_m_operand_B289 C hr h
  · refine r_bipush (pc := 283) (j := 6) C (by decide +kernel) dX12_operand_283 ?_
    refine r_goto (pc := 285) (tgt := 289) C dX12_operand_285 (by decide) ?_
    refine r_sub (lv' := [(0, vR b 0), (3, vI v3)]) [0, 1] rfl ?_
    exact w_m_operand_B289 C hr h
set_option maxHeartbeats 4000000 in
set_option maxRecDepth 20000 in
theorem w_m_operand_B249 (C : mCX p s m args meth c cX12_operand 4 RX12 D E b) (hr : meth.sig.returnType = (some .boolean)) {r0 : Bool} {M0 : Mem} {M : Mem} {s0 : Int} (h : m_operand_B249 s0 M = some (r0, M0)) :
    mWX p l e 4 78 s m args below meth c 4 D E b (some (vB r0)) M0 M 249 [(0, vR b 0)] [vI s0] := by
  unfold m_operand_B249 at h
  refine r_istore_n (pc := 249) (lv' := [(3, vI s0), (0, vR b 0)]) C rfl dX12_operand_249 (by decide) rfl ?_
  refine r_aload_n (pc := 250) C 1 rfl rfl dX12_operand_250 ?_
  obtain ⟨M7, hq7, h⟩ := bnd_inv h
  refine r_callV (pc := 251) (rest := []) (st1 := []) C (mExtOK b) [] (c_m_ahead l hq7) cl_RX12_250 m_s0 (by decide) rfl rfl rfl rfl ⟨Nat.le_of_ble_eq_true rfl, Nat.le_of_ble_eq_true rfl⟩ (Nat.le_of_ble_eq_true rfl) rfl rfl dX12_operand_251 ?_
  refine r_aload_n (pc := 254) C 1 rfl rfl dX12_operand_254 ?_
  obtain ⟨M8, hq8, h⟩ := bnd_inv h
  refine r_callV (pc := 255) (rest := []) (st1 := []) C (mExtOK b) [] (c_m_lex l hq8) cl_RX12_244 m_s0 (by decide) rfl rfl rfl rfl ⟨Nat.le_of_ble_eq_true rfl, Nat.le_of_ble_eq_true rfl⟩ (Nat.le_of_ble_eq_true rfl) rfl rfl dX12_operand_255 ?_
  refine r_aload_n (pc := 258) C 1 rfl rfl dX12_operand_258 ?_
  refine r_bipush (pc := 259) (j := 40) C (by decide +kernel) dX12_operand_259 ?_
  obtain ⟨r9, hq9, h⟩ := bnd_inv h
  refine r_callV (pc := 261) (rest := []) (st1 := [vB r9]) C (mExtOK b) [vI 40] (c_m_isSign l hq9) cl_RX12_247 m_s0 (by decide) rfl rfl rfl rfl ⟨Nat.le_of_ble_eq_true rfl, Nat.le_of_ble_eq_true rfl⟩ (Nat.le_of_ble_eq_true rfl) rfl rfl dX12_operand_261 ?_
  refine r_if_neB (pc := 264) (tgt := 276) C h dX12_operand_264 (by decide) (fun hc264 h => ?_) (fun hc264 h => ?_)
  · refine r_sub (lv' := [(0, vR b 0), (3, vI s0)]) [1, 0] rfl ?_
    exact w_m_operand_B276 C hr h
  · refine r_aload_n (pc := 267) C 1 rfl rfl dX12_operand_267 ?_
    refine r_iconst (pc := 268) C dX12_operand_268 ?_
    refine r_aload_n (pc := 269) C 1 rfl rfl dX12_operand_269 ?_
    refine r_getI (pc := 270) C fl_RX12_23 m_s0 (by decide) m_k4 dX12_operand_270 ?_
    obtain ⟨M11, hq11, h⟩ := bnd_inv h
    refine r_callV (pc := 273) (rest := []) (st1 := []) C (mExtOK b) [vI 1, vI (M8 0 4)] (c_m_blame l hq11) cl_RX12_233 m_s0 (by decide) rfl rfl rfl rfl ⟨Nat.le_of_ble_eq_true rfl, Nat.le_of_ble_eq_true rfl⟩ (Nat.le_of_ble_eq_true rfl) rfl rfl dX12_operand_273 ?_
    refine r_sub (lv' := [(0, vR b 0), (3, vI s0)]) [1, 0] rfl ?_
    exact w_m_operand_B276 C hr h
set_option maxHeartbeats 4000000 in
set_option maxRecDepth 20000 in
theorem w_m_operand_B217 (C : mCX p s m args meth c cX12_operand 4 RX12 D E b) (hr : meth.sig.returnType = (some .boolean)) {r0 : Bool} {M0 : Mem} {M : Mem} (h : m_operand_B217 M = some (r0, M0)) :
    mWX p l e 4 78 s m args below meth c 4 D E b (some (vB r0)) M0 M 217 [(0, vR b 0)] [] := by
  unfold m_operand_B217 at h
  refine r_aload_n (pc := 217) C 0 rfl rfl dX12_operand_217 ?_
  refine r_ldc2 (pc := 218) (j := 7170414) C (by decide +kernel) gk_RX12_295 dX12_operand_218 ?_
  obtain ⟨r5, hq5, h⟩ := bnd_inv h
  refine r_callV (pc := 221) (rest := []) (st1 := [vB r5]) C (mExtOK b) [vL 7170414] (c_m_isWord l hq5) cl_RX12_319 m_s0 (by decide) rfl rfl rfl rfl ⟨Nat.le_of_ble_eq_true rfl, Nat.le_of_ble_eq_true rfl⟩ (Nat.le_of_ble_eq_true rfl) rfl rfl dX12_operand_221 ?_
  refine r_if_eqB (pc := 224) (tgt := 232) C h dX12_operand_224 (by decide) (fun hc224 h => ?_) (fun hc224 h => ?_)
  · refine r_bipush (pc := 227) (j := 36) C (by decide +kernel) dX12_operand_227 ?_
    refine r_goto (pc := 229) (tgt := 249) C dX12_operand_229 (by decide) ?_
    refine r_sub (lv' := [(0, vR b 0)]) [0] rfl ?_
    exact w_m_operand_B249 C hr h
  · refine r_aload_n (pc := 232) C 0 rfl rfl dX12_operand_232 ?_
    refine r_ldc2 (pc := 233) (j := 7168376) C (by decide +kernel) gk_RX12_297 dX12_operand_233 ?_
    obtain ⟨r6, hq6, h⟩ := bnd_inv h
    refine r_callV (pc := 236) (rest := []) (st1 := [vB r6]) C (mExtOK b) [vL 7168376] (c_m_isWord l hq6) cl_RX12_319 m_s0 (by decide) rfl rfl rfl rfl ⟨Nat.le_of_ble_eq_true rfl, Nat.le_of_ble_eq_true rfl⟩ (Nat.le_of_ble_eq_true rfl) rfl rfl dX12_operand_236 ?_
    refine r_if_eqB (pc := 239) (tgt := 247) C h dX12_operand_239 (by decide) (fun hc239 h => ?_) (fun hc239 h => ?_)
    · refine r_bipush (pc := 242) (j := 37) C (by decide +kernel) dX12_operand_242 ?_
      refine r_goto (pc := 244) (tgt := 249) C dX12_operand_244 (by decide) ?_
      refine r_sub (lv' := [(0, vR b 0)]) [0] rfl ?_
      exact w_m_operand_B249 C hr h
    · refine r_bipush (pc := 247) (j := 44) C (by decide +kernel) dX12_operand_247 ?_
      refine r_sub (lv' := [(0, vR b 0)]) [0] rfl ?_
      exact w_m_operand_B249 C hr h
set_option maxHeartbeats 4000000 in
set_option maxRecDepth 20000 in
theorem w_m_operand_B471 (C : mCX p s m args meth c cX12_operand 4 RX12 D E b) (hr : meth.sig.returnType = (some .boolean)) {r0 : Bool} {M0 : Mem} {M : Mem} {v3 : Int} (h : m_operand_B471 v3 M = some (r0, M0)) :
    mWX p l e 4 78 s m args below meth c 4 D E b (some (vB r0)) M0 M 471 [(0, vR b 0), (3, vI v3)] [] := by
  unfold m_operand_B471 at h
  refine r_aload_n (pc := 471) C 0 rfl rfl dX12_operand_471 ?_
  refine r_getI (pc := 472) C fl_RX12_36 m_s0 (by decide) m_k8 dX12_operand_472 ?_
  refine r_if_le (pc := 475) (tgt := 480) C h dX12_operand_475 (by decide) (fun hc475 h => ?_) (fun hc475 h => ?_)
  · refine r_aload_n (pc := 480) C 0 rfl rfl dX12_operand_480 ?_
    refine r_iload_n (pc := 481) C 1 rfl rfl dX12_operand_481 ?_
    refine r_aload_n (pc := 482) C 0 rfl rfl dX12_operand_482 ?_
    refine r_getI (pc := 483) C fl_RX12_29 m_s0 (by decide) m_k6 dX12_operand_483 ?_
    obtain ⟨M22, hq22, h⟩ := bnd_inv h
    refine r_callV (pc := 486) (rest := []) (st1 := []) C (mExtOK b) [vI v3, vI (M 0 6)] (c_m_add l hq22) cl_RX12_310 m_s0 (by decide) rfl rfl rfl rfl ⟨Nat.le_of_ble_eq_true rfl, Nat.le_of_ble_eq_true rfl⟩ (Nat.le_of_ble_eq_true rfl) rfl rfl dX12_operand_486 ?_
    refine r_aload_n (pc := 489) C 0 rfl rfl dX12_operand_489 ?_
    obtain ⟨M23, hq23, h⟩ := bnd_inv h
    refine r_callV (pc := 490) (rest := []) (st1 := []) C (mExtOK b) [] (c_m_ahead l hq23) cl_RX12_250 m_s0 (by decide) rfl rfl rfl rfl ⟨Nat.le_of_ble_eq_true rfl, Nat.le_of_ble_eq_true rfl⟩ (Nat.le_of_ble_eq_true rfl) rfl rfl dX12_operand_490 ?_
    refine r_iconst (pc := 493) C dX12_operand_493 ?_
    have e := Option.some.inj h
    exact r_zret (pc := 494) C hr (Or.inr rfl) (congrArg (fun z => some (vB z)) (Prod.mk.inj e).1.symm) (Prod.mk.inj e).2.symm dX12_operand_494
  · refine r_iconst (pc := 478) C dX12_operand_478 ?_
    have e := Option.some.inj h
    exact r_zret (pc := 479) C hr (Or.inr rfl) (congrArg (fun z => some (vB z)) (Prod.mk.inj e).1.symm) (Prod.mk.inj e).2.symm dX12_operand_479
set_option maxHeartbeats 4000000 in
set_option maxRecDepth 20000 in
theorem w_m_operand_B457 (C : mCX p s m args meth c cX12_operand 4 RX12 D E b) (hr : meth.sig.returnType = (some .boolean)) {r0 : Bool} {M0 : Mem} {M : Mem} {v3 : Int} (h : m_operand_B457 v3 M = some (r0, M0)) :
    mWX p l e 4 78 s m args below meth c 4 D E b (some (vB r0)) M0 M 457 [(0, vR b 0), (3, vI v3)] [] := by
  unfold m_operand_B457 at h
  refine r_iload_n (pc := 457) C 1 rfl rfl dX12_operand_457 ?_
  refine r_iconst (pc := 458) C dX12_operand_458 ?_
  refine r_icmp_ne (pc := 459) (tgt := 471) C h dX12_operand_459 (by decide) (fun hc459 h => ?_) (fun hc459 h => ?_)
  · refine r_sub (lv' := [(0, vR b 0), (3, vI v3)]) [0, 1] rfl ?_
    exact w_m_operand_B471 C hr h
  · refine r_aload_n (pc := 462) C 0 rfl rfl dX12_operand_462 ?_
    refine r_iconst (pc := 463) C dX12_operand_463 ?_
    refine r_aload_n (pc := 464) C 0 rfl rfl dX12_operand_464 ?_
    refine r_getI (pc := 465) C fl_RX12_23 m_s0 (by decide) m_k4 dX12_operand_465 ?_
    obtain ⟨M24, hq24, h⟩ := bnd_inv h
    refine r_callV (pc := 468) (rest := []) (st1 := []) C (mExtOK b) [vI 1, vI (M 0 4)] (c_m_blame l hq24) cl_RX12_233 m_s0 (by decide) rfl rfl rfl rfl ⟨Nat.le_of_ble_eq_true rfl, Nat.le_of_ble_eq_true rfl⟩ (Nat.le_of_ble_eq_true rfl) rfl rfl dX12_operand_468 ?_
    refine r_sub (lv' := [(0, vR b 0), (3, vI v3)]) [0, 1] rfl ?_
    exact w_m_operand_B471 C hr h
set_option maxHeartbeats 4000000 in
set_option maxRecDepth 20000 in
theorem w_m_operand_B441 (C : mCX p s m args meth c cX12_operand 4 RX12 D E b) (hr : meth.sig.returnType = (some .boolean)) {r0 : Bool} {M0 : Mem} {M : Mem} {s0 : Int} (h : m_operand_B441 s0 M = some (r0, M0)) :
    mWX p l e 4 78 s m args below meth c 4 D E b (some (vB r0)) M0 M 441 [(0, vR b 0)] [vI s0] := by
  unfold m_operand_B441 at h
  refine r_istore_n (pc := 441) (lv' := [(3, vI s0), (0, vR b 0)]) C rfl dX12_operand_441 (by decide) rfl ?_
  refine r_iload_n (pc := 442) C 0 rfl rfl dX12_operand_442 ?_
  refine r_iconst (pc := 443) C dX12_operand_443 ?_
  refine r_icmp_lt (pc := 444) (tgt := 457) C h dX12_operand_444 (by decide) (fun hc444 h => ?_) (fun hc444 h => ?_)
  · refine r_sub (lv' := [(0, vR b 0), (3, vI s0)]) [1, 0] rfl ?_
    exact w_m_operand_B457 C hr h
  · refine r_aload_n (pc := 447) C 1 rfl rfl dX12_operand_447 ?_
    refine r_iload_n (pc := 448) C 0 rfl rfl dX12_operand_448 ?_
    obtain ⟨r25, hq25, h⟩ := bnd_inv h
    refine r_callV (pc := 449) (rest := []) (st1 := [vB r25]) C (mExtOK b) [vI s0] (c_m_isOf l hq25) cl_RX12_329 m_s0 (by decide) rfl rfl rfl rfl ⟨Nat.le_of_ble_eq_true rfl, Nat.le_of_ble_eq_true rfl⟩ (Nat.le_of_ble_eq_true rfl) rfl rfl dX12_operand_449 ?_
    refine r_if_neB (pc := 452) (tgt := 457) C h dX12_operand_452 (by decide) (fun hc452 h => ?_) (fun hc452 h => ?_)
    · refine r_sub (lv' := [(0, vR b 0), (3, vI s0)]) [1, 0] rfl ?_
      exact w_m_operand_B457 C hr h
    · refine r_iconst (pc := 455) C dX12_operand_455 ?_
      refine r_istore_n (pc := 456) (lv' := [(3, vI (-1)), (0, vR b 0)]) C rfl dX12_operand_456 (by decide) rfl ?_
      refine r_sub (lv' := [(0, vR b 0), (3, vI (-1))]) [1, 0] rfl ?_
      exact w_m_operand_B457 C hr h
set_option maxHeartbeats 4000000 in
set_option maxRecDepth 20000 in
theorem w_m_operand_B171 (C : mCX p s m args meth c cX12_operand 4 RX12 D E b) (hr : meth.sig.returnType = (some .boolean)) {r0 : Bool} {M0 : Mem} {M : Mem} (h : m_operand_B171 M = some (r0, M0)) :
    mWX p l e 4 78 s m args below meth c 4 D E b (some (vB r0)) M0 M 171 [(0, vR b 0)] [] := by
  unfold m_operand_B171 at h
  refine r_aload_n (pc := 171) C 0 rfl rfl dX12_operand_171 ?_
  refine r_bipush (pc := 172) (j := 40) C (by decide +kernel) dX12_operand_172 ?_
  obtain ⟨r3, hq3, h⟩ := bnd_inv h
  refine r_callV (pc := 174) (rest := []) (st1 := [vB r3]) C (mExtOK b) [vI 40] (c_m_isSign l hq3) cl_RX12_247 m_s0 (by decide) rfl rfl rfl rfl ⟨Nat.le_of_ble_eq_true rfl, Nat.le_of_ble_eq_true rfl⟩ (Nat.le_of_ble_eq_true rfl) rfl rfl dX12_operand_174 ?_
  refine r_if_eqB (pc := 177) (tgt := 187) C h dX12_operand_177 (by decide) (fun hc177 h => ?_) (fun hc177 h => ?_)
  · refine r_aload_n (pc := 180) C 0 rfl rfl dX12_operand_180 ?_
    refine r_iconst (pc := 181) C dX12_operand_181 ?_
    obtain ⟨M26, hq26, h⟩ := bnd_inv h
    refine r_callV (pc := 182) (rest := []) (st1 := []) C (mExtOK b) [vI 2] (c_m_opens l hq26) cl_RX12_326 m_s0 (by decide) rfl rfl rfl rfl ⟨Nat.le_of_ble_eq_true rfl, Nat.le_of_ble_eq_true rfl⟩ (Nat.le_of_ble_eq_true rfl) rfl rfl dX12_operand_182 ?_
    refine r_iconst (pc := 185) C dX12_operand_185 ?_
    have e := Option.some.inj h
    exact r_zret (pc := 186) C hr (Or.inl rfl) (congrArg (fun z => some (vB z)) (Prod.mk.inj e).1.symm) (Prod.mk.inj e).2.symm dX12_operand_186
  · refine r_aload_n (pc := 187) C 0 rfl rfl dX12_operand_187 ?_
    refine r_ldc2 (pc := 188) (j := 7170414) C (by decide +kernel) gk_RX12_295 dX12_operand_188 ?_
    obtain ⟨r4, hq4, h⟩ := bnd_inv h
    refine r_callV (pc := 191) (rest := []) (st1 := [vB r4]) C (mExtOK b) [vL 7170414] (c_m_isWord l hq4) cl_RX12_319 m_s0 (by decide) rfl rfl rfl rfl ⟨Nat.le_of_ble_eq_true rfl, Nat.le_of_ble_eq_true rfl⟩ (Nat.le_of_ble_eq_true rfl) rfl rfl dX12_operand_191 ?_
    refine r_if_neB (pc := 194) (tgt := 217) C h dX12_operand_194 (by decide) (fun hc194 h => ?_) (fun hc194 h => ?_)
    · refine r_sub (lv' := [(0, vR b 0)]) [0] rfl ?_
      exact w_m_operand_B217 C hr h
    · refine r_aload_n (pc := 197) C 0 rfl rfl dX12_operand_197 ?_
      refine r_ldc2 (pc := 198) (j := 7168376) C (by decide +kernel) gk_RX12_297 dX12_operand_198 ?_
      obtain ⟨r12, hq12, h⟩ := bnd_inv h
      refine r_callV (pc := 201) (rest := []) (st1 := [vB r12]) C (mExtOK b) [vL 7168376] (c_m_isWord l hq12) cl_RX12_319 m_s0 (by decide) rfl rfl rfl rfl ⟨Nat.le_of_ble_eq_true rfl, Nat.le_of_ble_eq_true rfl⟩ (Nat.le_of_ble_eq_true rfl) rfl rfl dX12_operand_201 ?_
      refine r_if_neB (pc := 204) (tgt := 217) C h dX12_operand_204 (by decide) (fun hc204 h => ?_) (fun hc204 h => ?_)
      · refine r_sub (lv' := [(0, vR b 0)]) [0] rfl ?_
        exact w_m_operand_B217 C hr h
      · refine r_aload_n (pc := 207) C 0 rfl rfl dX12_operand_207 ?_
        refine r_ldc2 (pc := 208) (j := 26982) C (by decide +kernel) gk_RX12_285 dX12_operand_208 ?_
        obtain ⟨r13, hq13, h⟩ := bnd_inv h
        refine r_callV (pc := 211) (rest := []) (st1 := [vB r13]) C (mExtOK b) [vL 26982] (c_m_isWord l hq13) cl_RX12_319 m_s0 (by decide) rfl rfl rfl rfl ⟨Nat.le_of_ble_eq_true rfl, Nat.le_of_ble_eq_true rfl⟩ (Nat.le_of_ble_eq_true rfl) rfl rfl dX12_operand_211 ?_
        refine r_if_eqB (pc := 214) (tgt := 313) C h dX12_operand_214 (by decide) (fun hc214 h => ?_) (fun hc214 h => ?_)
        · refine r_sub (lv' := [(0, vR b 0)]) [0] rfl ?_
          exact w_m_operand_B217 C hr h
        · refine r_aload_n (pc := 313) C 0 rfl rfl dX12_operand_313 ?_
          refine r_getI (pc := 314) C fl_RX12_20 m_s0 (by decide) m_k3 dX12_operand_314 ?_
          refine r_iconst (pc := 317) C dX12_operand_317 ?_
          refine r_icmp_ne (pc := 318) (tgt := 325) C h dX12_operand_318 (by decide) (fun hc318 h => ?_) (fun hc318 h => ?_)
          · refine r_aload_n (pc := 325) C 0 rfl rfl dX12_operand_325 ?_
            refine r_ldc2 (pc := 326) (j := 1953459813) C (by decide +kernel) gk_RX12_275 dX12_operand_326 ?_
            obtain ⟨r14, hq14, h⟩ := bnd_inv h
            refine r_callV (pc := 329) (rest := []) (st1 := [vB r14]) C (mExtOK b) [vL 1953459813] (c_m_isWord l hq14) cl_RX12_319 m_s0 (by decide) rfl rfl rfl rfl ⟨Nat.le_of_ble_eq_true rfl, Nat.le_of_ble_eq_true rfl⟩ (Nat.le_of_ble_eq_true rfl) rfl rfl dX12_operand_329 ?_
            refine r_if_eqB (pc := 332) (tgt := 339) C h dX12_operand_332 (by decide) (fun hc332 h => ?_) (fun hc332 h => ?_)
            · refine r_iconst (pc := 335) C dX12_operand_335 ?_
              refine r_goto (pc := 336) (tgt := 441) C dX12_operand_336 (by decide) ?_
              refine r_sub (lv' := [(0, vR b 0)]) [0] rfl ?_
              exact w_m_operand_B441 C hr h
            · refine r_aload_n (pc := 339) C 0 rfl rfl dX12_operand_339 ?_
              refine r_ldc2 (pc := 340) (j := 512735409267) C (by decide +kernel) gk_RX12_277 dX12_operand_340 ?_
              obtain ⟨r15, hq15, h⟩ := bnd_inv h
              refine r_callV (pc := 343) (rest := []) (st1 := [vB r15]) C (mExtOK b) [vL 512735409267] (c_m_isWord l hq15) cl_RX12_319 m_s0 (by decide) rfl rfl rfl rfl ⟨Nat.le_of_ble_eq_true rfl, Nat.le_of_ble_eq_true rfl⟩ (Nat.le_of_ble_eq_true rfl) rfl rfl dX12_operand_343 ?_
              refine r_if_eqB (pc := 346) (tgt := 353) C h dX12_operand_346 (by decide) (fun hc346 h => ?_) (fun hc346 h => ?_)
              · refine r_iconst (pc := 349) C dX12_operand_349 ?_
                refine r_goto (pc := 350) (tgt := 441) C dX12_operand_350 (by decide) ?_
                refine r_sub (lv' := [(0, vR b 0)]) [0] rfl ?_
                exact w_m_operand_B441 C hr h
              · refine r_aload_n (pc := 353) C 0 rfl rfl dX12_operand_353 ?_
                refine r_ldc2 (pc := 354) (j := 120299592184933) C (by decide +kernel) gk_RX12_279 dX12_operand_354 ?_
                obtain ⟨r16, hq16, h⟩ := bnd_inv h
                refine r_callV (pc := 357) (rest := []) (st1 := [vB r16]) C (mExtOK b) [vL 120299592184933] (c_m_isWord l hq16) cl_RX12_319 m_s0 (by decide) rfl rfl rfl rfl ⟨Nat.le_of_ble_eq_true rfl, Nat.le_of_ble_eq_true rfl⟩ (Nat.le_of_ble_eq_true rfl) rfl rfl dX12_operand_357 ?_
                refine r_if_eqB (pc := 360) (tgt := 367) C h dX12_operand_360 (by decide) (fun hc360 h => ?_) (fun hc360 h => ?_)
                · refine r_iconst (pc := 363) C dX12_operand_363 ?_
                  refine r_goto (pc := 364) (tgt := 441) C dX12_operand_364 (by decide) ?_
                  refine r_sub (lv' := [(0, vR b 0)]) [0] rfl ?_
                  exact w_m_operand_B441 C hr h
                · refine r_aload_n (pc := 367) C 0 rfl rfl dX12_operand_367 ?_
                  refine r_ldc2 (pc := 368) (j := 1819242087) C (by decide +kernel) gk_RX12_265 dX12_operand_368 ?_
                  obtain ⟨r17, hq17, h⟩ := bnd_inv h
                  refine r_callV (pc := 371) (rest := []) (st1 := [vB r17]) C (mExtOK b) [vL 1819242087] (c_m_isWord l hq17) cl_RX12_319 m_s0 (by decide) rfl rfl rfl rfl ⟨Nat.le_of_ble_eq_true rfl, Nat.le_of_ble_eq_true rfl⟩ (Nat.le_of_ble_eq_true rfl) rfl rfl dX12_operand_371 ?_
                  refine r_if_eqB (pc := 374) (tgt := 381) C h dX12_operand_374 (by decide) (fun hc374 h => ?_) (fun hc374 h => ?_)
                  · refine r_iconst (pc := 377) C dX12_operand_377 ?_
                    refine r_goto (pc := 378) (tgt := 441) C dX12_operand_378 (by decide) ?_
                    refine r_sub (lv' := [(0, vR b 0)]) [0] rfl ?_
                    exact w_m_operand_B441 C hr h
                  · refine r_aload_n (pc := 381) C 0 rfl rfl dX12_operand_381 ?_
                    refine r_ldc2 (pc := 382) (j := 482805572456) C (by decide +kernel) gk_RX12_255 dX12_operand_382 ?_
                    obtain ⟨r18, hq18, h⟩ := bnd_inv h
                    refine r_callV (pc := 385) (rest := []) (st1 := [vB r18]) C (mExtOK b) [vL 482805572456] (c_m_isWord l hq18) cl_RX12_319 m_s0 (by decide) rfl rfl rfl rfl ⟨Nat.le_of_ble_eq_true rfl, Nat.le_of_ble_eq_true rfl⟩ (Nat.le_of_ble_eq_true rfl) rfl rfl dX12_operand_385 ?_
                    refine r_if_eqB (pc := 388) (tgt := 395) C h dX12_operand_388 (by decide) (fun hc388 h => ?_) (fun hc388 h => ?_)
                    · refine r_iconst (pc := 391) C dX12_operand_391 ?_
                      refine r_goto (pc := 392) (tgt := 441) C dX12_operand_392 (by decide) ?_
                      refine r_sub (lv' := [(0, vR b 0)]) [0] rfl ?_
                      exact w_m_operand_B441 C hr h
                    · refine r_aload_n (pc := 395) C 0 rfl rfl dX12_operand_395 ?_
                      refine r_ldc2 (pc := 396) (j := 1819238756) C (by decide +kernel) gk_RX12_281 dX12_operand_396 ?_
                      obtain ⟨r19, hq19, h⟩ := bnd_inv h
                      refine r_callV (pc := 399) (rest := []) (st1 := [vB r19]) C (mExtOK b) [vL 1819238756] (c_m_isWord l hq19) cl_RX12_319 m_s0 (by decide) rfl rfl rfl rfl ⟨Nat.le_of_ble_eq_true rfl, Nat.le_of_ble_eq_true rfl⟩ (Nat.le_of_ble_eq_true rfl) rfl rfl dX12_operand_399 ?_
                      refine r_if_eqB (pc := 402) (tgt := 410) C h dX12_operand_402 (by decide) (fun hc402 h => ?_) (fun hc402 h => ?_)
                      · refine r_bipush (pc := 405) (j := 6) C (by decide +kernel) dX12_operand_405 ?_
                        refine r_goto (pc := 407) (tgt := 441) C dX12_operand_407 (by decide) ?_
                        refine r_sub (lv' := [(0, vR b 0)]) [0] rfl ?_
                        exact w_m_operand_B441 C hr h
                      · refine r_aload_n (pc := 410) C 0 rfl rfl dX12_operand_410 ?_
                        refine r_ldc2 (pc := 411) (j := 1651864441) C (by decide +kernel) gk_RX12_283 dX12_operand_411 ?_
                        obtain ⟨r20, hq20, h⟩ := bnd_inv h
                        refine r_callV (pc := 414) (rest := []) (st1 := [vB r20]) C (mExtOK b) [vL 1651864441] (c_m_isWord l hq20) cl_RX12_319 m_s0 (by decide) rfl rfl rfl rfl ⟨Nat.le_of_ble_eq_true rfl, Nat.le_of_ble_eq_true rfl⟩ (Nat.le_of_ble_eq_true rfl) rfl rfl dX12_operand_414 ?_
                        refine r_if_eqB (pc := 417) (tgt := 425) C h dX12_operand_417 (by decide) (fun hc417 h => ?_) (fun hc417 h => ?_)
                        · refine r_bipush (pc := 420) (j := 7) C (by decide +kernel) dX12_operand_420 ?_
                          refine r_goto (pc := 422) (tgt := 441) C dX12_operand_422 (by decide) ?_
                          refine r_sub (lv' := [(0, vR b 0)]) [0] rfl ?_
                          exact w_m_operand_B441 C hr h
                        · refine r_aload_n (pc := 425) C 0 rfl rfl dX12_operand_425 ?_
                          refine r_ldc2 (pc := 426) (j := 1667329133) C (by decide +kernel) gk_RX12_259 dX12_operand_426 ?_
                          obtain ⟨r21, hq21, h⟩ := bnd_inv h
                          refine r_callV (pc := 429) (rest := []) (st1 := [vB r21]) C (mExtOK b) [vL 1667329133] (c_m_isWord l hq21) cl_RX12_319 m_s0 (by decide) rfl rfl rfl rfl ⟨Nat.le_of_ble_eq_true rfl, Nat.le_of_ble_eq_true rfl⟩ (Nat.le_of_ble_eq_true rfl) rfl rfl dX12_operand_429 ?_
                          refine r_if_eqB (pc := 432) (tgt := 440) C h dX12_operand_432 (by decide) (fun hc432 h => ?_) (fun hc432 h => ?_)
                          · refine r_bipush (pc := 435) (j := 8) C (by decide +kernel) dX12_operand_435 ?_
                            refine r_goto (pc := 437) (tgt := 441) C dX12_operand_437 (by decide) ?_
                            refine r_sub (lv' := [(0, vR b 0)]) [0] rfl ?_
                            exact w_m_operand_B441 C hr h
                          · refine r_iconst (pc := 440) C dX12_operand_440 ?_
                            refine r_sub (lv' := [(0, vR b 0)]) [0] rfl ?_
                            exact w_m_operand_B441 C hr h
          · refine r_iconst (pc := 321) C dX12_operand_321 ?_
            refine r_goto (pc := 322) (tgt := 441) C dX12_operand_322 (by decide) ?_
            refine r_sub (lv' := [(0, vR b 0)]) [0] rfl ?_
            exact w_m_operand_B441 C hr h
set_option maxHeartbeats 4000000 in
set_option maxRecDepth 20000 in
theorem w_m_operand_B137 (C : mCX p s m args meth c cX12_operand 4 RX12 D E b) (hr : meth.sig.returnType = (some .boolean)) {r0 : Bool} {M0 : Mem} {M : Mem} {v1 : Int} {v2 : Int} (h : m_operand_B137 v1 v2 M = some (r0, M0)) :
    mWX p l e 4 78 s m args below meth c 4 D E b (some (vB r0)) M0 M 137 [(0, vR b 0), (1, vI v1), (2, vI v2)] [] := by
  unfold m_operand_B137 at h
  refine r_iload_n (pc := 137) C 2 rfl rfl dX12_operand_137 ?_
  refine r_if_eq (pc := 138) (tgt := 171) C h dX12_operand_138 (by decide) (fun hc138 h => ?_) (fun hc138 h => ?_)
  · refine r_sub (lv' := [(0, vR b 0)]) [0] rfl ?_
    exact w_m_operand_B171 C hr h
  · refine r_aload_n (pc := 141) C 0 rfl rfl dX12_operand_141 ?_
    refine r_ldc2 (pc := 142) (j := 6384748) C (by decide +kernel) gk_RX12_293 dX12_operand_142 ?_
    obtain ⟨r27, hq27, h⟩ := bnd_inv h
    refine r_callV (pc := 145) (rest := []) (st1 := [vB r27]) C (mExtOK b) [vL 6384748] (c_m_isWord l hq27) cl_RX12_319 m_s0 (by decide) rfl rfl rfl rfl ⟨Nat.le_of_ble_eq_true rfl, Nat.le_of_ble_eq_true rfl⟩ (Nat.le_of_ble_eq_true rfl) rfl rfl dX12_operand_145 ?_
    refine r_if_eqB (pc := 148) (tgt := 171) C h dX12_operand_148 (by decide) (fun hc148 h => ?_) (fun hc148 h => ?_)
    · refine r_aload_n (pc := 151) C 0 rfl rfl dX12_operand_151 ?_
      refine r_bipush (pc := 152) (j := 30) C (by decide +kernel) dX12_operand_152 ?_
      refine r_iconst (pc := 154) C dX12_operand_154 ?_
      obtain ⟨M28, hq28, h⟩ := bnd_inv h
      refine r_callV (pc := 155) (rest := []) (st1 := []) C (mExtOK b) [vI 30, vI 0] (c_m_add l hq28) cl_RX12_310 m_s0 (by decide) rfl rfl rfl rfl ⟨Nat.le_of_ble_eq_true rfl, Nat.le_of_ble_eq_true rfl⟩ (Nat.le_of_ble_eq_true rfl) rfl rfl dX12_operand_155 ?_
      refine r_aload_n (pc := 158) C 0 rfl rfl dX12_operand_158 ?_
      refine r_getR (pc := 159) C fl_RX12_115 m_s0 (by decide) m_k34 m_r34 dX12_operand_159 ?_
      refine r_iload_n (pc := 162) C 1 rfl rfl dX12_operand_162 ?_
      refine r_iconst (pc := 163) C dX12_operand_163 ?_
      obtain ⟨hi164, h⟩ := chk_inv h
      obtain ⟨M_164, hM_164, h⟩ := lt_inv h
      refine r_iast (pc := 164) C m_s19 (by decide) (by decide) hi164 rfl hM_164 dX12_operand_164 ?_
      refine r_aload_n (pc := 165) C 0 rfl rfl dX12_operand_165 ?_
      obtain ⟨M29, hq29, h⟩ := bnd_inv h
      refine r_callV (pc := 166) (rest := []) (st1 := []) C (mExtOK b) [] (c_m_ahead l hq29) cl_RX12_250 m_s0 (by decide) rfl rfl rfl rfl ⟨Nat.le_of_ble_eq_true rfl, Nat.le_of_ble_eq_true rfl⟩ (Nat.le_of_ble_eq_true rfl) rfl rfl dX12_operand_166 ?_
      refine r_iconst (pc := 169) C dX12_operand_169 ?_
      have e := Option.some.inj h
      exact r_zret (pc := 170) C hr (Or.inr rfl) (congrArg (fun z => some (vB z)) (Prod.mk.inj e).1.symm) (Prod.mk.inj e).2.symm dX12_operand_170
    · refine r_sub (lv' := [(0, vR b 0)]) [0] rfl ?_
      exact w_m_operand_B171 C hr h
set_option maxHeartbeats 4000000 in
set_option maxRecDepth 20000 in
theorem w_m_operand_B110 (C : mCX p s m args meth c cX12_operand 4 RX12 D E b) (hr : meth.sig.returnType = (some .boolean)) {r0 : Bool} {M0 : Mem} {M : Mem} {v1 : Int} {v2 : Int} (h : m_operand_B110 v1 v2 M = some (r0, M0)) :
    mWX p l e 4 78 s m args below meth c 4 D E b (some (vB r0)) M0 M 110 [(0, vR b 0), (1, vI v1), (2, vI v2)] [] := by
  unfold m_operand_B110 at h
  refine r_aload_n (pc := 110) C 0 rfl rfl dX12_operand_110 ?_
  refine r_getR (pc := 111) C fl_RX12_118 m_s0 (by decide) m_k35 m_r35 dX12_operand_111 ?_
  refine r_iload_n (pc := 114) C 1 rfl rfl dX12_operand_114 ?_
  refine r_iconst (pc := 115) C dX12_operand_115 ?_
  obtain ⟨hi116, h⟩ := chk_inv h
  obtain ⟨M_116, hM_116, h⟩ := lt_inv h
  refine r_zast (pc := 116) C m_s20 (by decide) (by decide) hi116 rfl (Or.inl rfl) hM_116 dX12_operand_116 ?_
  refine r_iload_n (pc := 117) C 2 rfl rfl dX12_operand_117 ?_
  refine r_if_eq (pc := 118) (tgt := 137) C h dX12_operand_118 (by decide) (fun hc118 h => ?_) (fun hc118 h => ?_)
  · refine r_sub (lv' := [(0, vR b 0), (1, vI v1), (2, vI v2)]) [0, 1, 2] rfl ?_
    exact w_m_operand_B137 C hr h
  · refine r_aload_n (pc := 121) C 0 rfl rfl dX12_operand_121 ?_
    refine r_bipush (pc := 122) (j := 91) C (by decide +kernel) dX12_operand_122 ?_
    obtain ⟨r30, hq30, h⟩ := bnd_inv h
    refine r_callV (pc := 124) (rest := []) (st1 := [vB r30]) C (mExtOK b) [vI 91] (c_m_isSign l hq30) cl_RX12_247 m_s0 (by decide) rfl rfl rfl rfl ⟨Nat.le_of_ble_eq_true rfl, Nat.le_of_ble_eq_true rfl⟩ (Nat.le_of_ble_eq_true rfl) rfl rfl dX12_operand_124 ?_
    refine r_if_eqB (pc := 127) (tgt := 137) C h dX12_operand_127 (by decide) (fun hc127 h => ?_) (fun hc127 h => ?_)
    · refine r_aload_n (pc := 130) C 0 rfl rfl dX12_operand_130 ?_
      refine r_iconst (pc := 131) C dX12_operand_131 ?_
      obtain ⟨M31, hq31, h⟩ := bnd_inv h
      refine r_callV (pc := 132) (rest := []) (st1 := []) C (mExtOK b) [vI 5] (c_m_opens l hq31) cl_RX12_326 m_s0 (by decide) rfl rfl rfl rfl ⟨Nat.le_of_ble_eq_true rfl, Nat.le_of_ble_eq_true rfl⟩ (Nat.le_of_ble_eq_true rfl) rfl rfl dX12_operand_132 ?_
      refine r_iconst (pc := 135) C dX12_operand_135 ?_
      have e := Option.some.inj h
      exact r_zret (pc := 136) C hr (Or.inl rfl) (congrArg (fun z => some (vB z)) (Prod.mk.inj e).1.symm) (Prod.mk.inj e).2.symm dX12_operand_136
    · refine r_sub (lv' := [(0, vR b 0), (1, vI v1), (2, vI v2)]) [0, 1, 2] rfl ?_
      exact w_m_operand_B137 C hr h
set_option maxHeartbeats 4000000 in
set_option maxRecDepth 20000 in
theorem w_m_operand_B79 (C : mCX p s m args meth c cX12_operand 4 RX12 D E b) (hr : meth.sig.returnType = (some .boolean)) {r0 : Bool} {M0 : Mem} {M : Mem} (h : m_operand_B79 M = some (r0, M0)) :
    mWX p l e 4 78 s m args below meth c 4 D E b (some (vB r0)) M0 M 79 [(0, vR b 0)] [] := by
  unfold m_operand_B79 at h
  refine r_aload_n (pc := 79) C 0 rfl rfl dX12_operand_79 ?_
  refine r_getI (pc := 80) C fl_RX12_36 m_s0 (by decide) m_k8 dX12_operand_80 ?_
  refine r_if_le (pc := 83) (tgt := 88) C h dX12_operand_83 (by decide) (fun hc83 h => ?_) (fun hc83 h => ?_)
  · refine r_aload_n (pc := 88) C 0 rfl rfl dX12_operand_88 ?_
    refine r_dup (pc := 89) C rfl dX12_operand_89 ?_
    refine r_getI (pc := 90) C fl_RX12_131 m_s0 (by decide) m_k39 dX12_operand_90 ?_
    refine r_iconst (pc := 93) C dX12_operand_93 ?_
    refine r_iadd (pc := 94) C dX12_operand_94 ?_
    obtain ⟨M_95, hM_95, h⟩ := lt_inv h
    refine r_putI (pc := 95) C fl_RX12_131 mw_ft m_w39 m_s0 (by decide) m_k39 hM_95 dX12_operand_95 ?_
    refine r_aload_n (pc := 98) C 0 rfl rfl dX12_operand_98 ?_
    refine r_bipush (pc := 99) (j := 43) C (by decide +kernel) dX12_operand_99 ?_
    obtain ⟨M33, hq33, h⟩ := bnd_inv h
    refine r_callV (pc := 101) (rest := []) (st1 := []) C (mExtOK b) [vI 43] (c_m_holdsBack l hq33) cl_RX12_323 m_s0 (by decide) rfl rfl rfl rfl ⟨Nat.le_of_ble_eq_true rfl, Nat.le_of_ble_eq_true rfl⟩ (Nat.le_of_ble_eq_true rfl) rfl rfl dX12_operand_101 ?_
    refine r_aload_n (pc := 104) C 0 rfl rfl dX12_operand_104 ?_
    obtain ⟨M34, hq34, h⟩ := bnd_inv h
    refine r_callV (pc := 105) (rest := []) (st1 := []) C (mExtOK b) [] (c_m_ahead l hq34) cl_RX12_250 m_s0 (by decide) rfl rfl rfl rfl ⟨Nat.le_of_ble_eq_true rfl, Nat.le_of_ble_eq_true rfl⟩ (Nat.le_of_ble_eq_true rfl) rfl rfl dX12_operand_105 ?_
    refine r_iconst (pc := 108) C dX12_operand_108 ?_
    have e := Option.some.inj h
    exact r_zret (pc := 109) C hr (Or.inl rfl) (congrArg (fun z => some (vB z)) (Prod.mk.inj e).1.symm) (Prod.mk.inj e).2.symm dX12_operand_109
  · refine r_iconst (pc := 86) C dX12_operand_86 ?_
    have e := Option.some.inj h
    exact r_zret (pc := 87) C hr (Or.inr rfl) (congrArg (fun z => some (vB z)) (Prod.mk.inj e).1.symm) (Prod.mk.inj e).2.symm dX12_operand_87
set_option maxHeartbeats 4000000 in
set_option maxRecDepth 20000 in
theorem w_m_operand_B46 (C : mCX p s m args meth c cX12_operand 4 RX12 D E b) (hr : meth.sig.returnType = (some .boolean)) {r0 : Bool} {M0 : Mem} {M : Mem} {v1 : Int} {s0 : Int} (h : m_operand_B46 v1 s0 M = some (r0, M0)) :
    mWX p l e 4 78 s m args below meth c 4 D E b (some (vB r0)) M0 M 46 [(0, vR b 0), (1, vI v1)] [vI s0] := by
  unfold m_operand_B46 at h
  refine r_istore_n (pc := 46) (lv' := [(2, vI s0), (0, vR b 0), (1, vI v1)]) C rfl dX12_operand_46 (by decide) rfl ?_
  refine r_iload_n (pc := 47) C 0 rfl rfl dX12_operand_47 ?_
  refine r_if_eq (pc := 48) (tgt := 110) C h dX12_operand_48 (by decide) (fun hc48 h => ?_) (fun hc48 h => ?_)
  · refine r_sub (lv' := [(0, vR b 0), (1, vI v1), (2, vI s0)]) [1, 2, 0] rfl ?_
    exact w_m_operand_B110 C hr h
  · refine r_aload_n (pc := 51) C 1 rfl rfl dX12_operand_51 ?_
    refine r_ldc2 (pc := 52) (j := 7237492) C (by decide +kernel) gk_RX12_291 dX12_operand_52 ?_
    obtain ⟨r32, hq32, h⟩ := bnd_inv h
    refine r_callV (pc := 55) (rest := []) (st1 := [vB r32]) C (mExtOK b) [vL 7237492] (c_m_isWord l hq32) cl_RX12_319 m_s0 (by decide) rfl rfl rfl rfl ⟨Nat.le_of_ble_eq_true rfl, Nat.le_of_ble_eq_true rfl⟩ (Nat.le_of_ble_eq_true rfl) rfl rfl dX12_operand_55 ?_
    refine r_if_eqB (pc := 58) (tgt := 110) C h dX12_operand_58 (by decide) (fun hc58 h => ?_) (fun hc58 h => ?_)
    · refine r_aload_n (pc := 61) C 1 rfl rfl dX12_operand_61 ?_
      refine r_getI (pc := 62) C fl_RX12_131 m_s0 (by decide) m_k39 dX12_operand_62 ?_
      refine r_bipush (pc := 65) (j := 7) C (by decide +kernel) dX12_operand_65 ?_
      refine r_icmp_ne (pc := 67) (tgt := 79) C h dX12_operand_67 (by decide) (fun hc67 h => ?_) (fun hc67 h => ?_)
      · refine r_sub (lv' := [(0, vR b 0)]) [1] rfl ?_
        exact w_m_operand_B79 C hr h
      · refine r_aload_n (pc := 70) C 1 rfl rfl dX12_operand_70 ?_
        refine r_iconst (pc := 71) C dX12_operand_71 ?_
        refine r_aload_n (pc := 72) C 1 rfl rfl dX12_operand_72 ?_
        refine r_getI (pc := 73) C fl_RX12_23 m_s0 (by decide) m_k4 dX12_operand_73 ?_
        obtain ⟨M35, hq35, h⟩ := bnd_inv h
        refine r_callV (pc := 76) (rest := []) (st1 := []) C (mExtOK b) [vI 5, vI (M 0 4)] (c_m_blame l hq35) cl_RX12_233 m_s0 (by decide) rfl rfl rfl rfl ⟨Nat.le_of_ble_eq_true rfl, Nat.le_of_ble_eq_true rfl⟩ (Nat.le_of_ble_eq_true rfl) rfl rfl dX12_operand_76 ?_
        refine r_sub (lv' := [(0, vR b 0)]) [1] rfl ?_
        exact w_m_operand_B79 C hr h
    · refine r_sub (lv' := [(0, vR b 0), (1, vI v1), (2, vI s0)]) [1, 2, 0] rfl ?_
      exact w_m_operand_B110 C hr h
set_option maxHeartbeats 4000000 in
set_option maxRecDepth 20000 in
theorem w_m_operand_B45 (C : mCX p s m args meth c cX12_operand 4 RX12 D E b) (hr : meth.sig.returnType = (some .boolean)) {r0 : Bool} {M0 : Mem} {M : Mem} {v1 : Int} (h : m_operand_B45 v1 M = some (r0, M0)) :
    mWX p l e 4 78 s m args below meth c 4 D E b (some (vB r0)) M0 M 45 [(0, vR b 0), (1, vI v1)] [] := by
  unfold m_operand_B45 at h
  refine r_iconst (pc := 45) C dX12_operand_45 ?_
  refine r_sub (lv' := [(0, vR b 0), (1, vI v1)]) [0, 1] rfl ?_
  exact w_m_operand_B46 C hr h
set_option maxHeartbeats 4000000 in
set_option maxRecDepth 20000 in
theorem c_m_operand (l : Launch) {M : Mem} {r0 : Bool} {M0 : Mem} (h : m_operand M = some (r0, M0)) : Ct l yX12_operand cX12_operand 4 (some .boolean) 4 78 vwCl mSh mN mRf mExt (fun b => [vR b 0]) M (fun b => (some (vB r0))) M0 := by
  refine Ct_of mExtOK (by decide) (fun b => Nat.le_of_ble_eq_true rfl) ?_
  intro p e s m args below meth c D E b C hr
  unfold m_operand at h
  refine (show mWX p l e 4 78 s m args below meth c 4 D E b (some (vB r0)) M0 M 0 [(0, vR b 0)] [] from ?_)
  refine r_aload_n (pc := 0) C 0 rfl rfl dX12_operand_0 ?_
  obtain ⟨M1, hq1, h⟩ := bnd_inv h
  refine r_callV (pc := 1) (rest := []) (st1 := []) C (mExtOK b) [] (c_m_lex l hq1) cl_RX12_244 m_s0 (by decide) rfl rfl rfl rfl ⟨Nat.le_of_ble_eq_true rfl, Nat.le_of_ble_eq_true rfl⟩ (Nat.le_of_ble_eq_true rfl) rfl rfl dX12_operand_1 ?_
  refine r_aload_n (pc := 4) C 0 rfl rfl dX12_operand_4 ?_
  refine r_getI (pc := 5) C fl_RX12_36 m_s0 (by decide) m_k8 dX12_operand_5 ?_
  refine r_if_le (pc := 8) (tgt := 13) C h dX12_operand_8 (by decide) (fun hc8 h => ?_) (fun hc8 h => ?_)
  · refine r_aload_n (pc := 13) C 0 rfl rfl dX12_operand_13 ?_
    refine r_getI (pc := 14) C fl_RX12_128 m_s0 (by decide) m_k38 dX12_operand_14 ?_
    refine r_iconst (pc := 17) C dX12_operand_17 ?_
    refine r_isub (pc := 18) C dX12_operand_18 ?_
    obtain ⟨v1_19, hv1_19, h⟩ := lt_inv h
    refine r_topI hv1_19 ?_
    refine r_istore_n (pc := 19) (lv' := [(1, vI v1_19), (0, vR b 0)]) C rfl dX12_operand_19 (by decide) rfl ?_
    refine r_aload_n (pc := 20) C 1 rfl rfl dX12_operand_20 ?_
    refine r_getR (pc := 21) C fl_RX12_112 m_s0 (by decide) m_k33 m_r33 dX12_operand_21 ?_
    refine r_iload_n (pc := 24) C 0 rfl rfl dX12_operand_24 ?_
    obtain ⟨hi25, h⟩ := chk_inv h
    refine r_iald (pc := 25) C m_s18 (by decide) (by decide) hi25 rfl dX12_operand_25 ?_
    obtain ⟨r2, hq2, h⟩ := bnd_inv h
    refine r_callS (pc := 26) (rest := []) (st1 := [vB r2]) C (mExtOK b) [vI (M1 18 v1_19.toNat)] (c_m_isTest l hq2) cl_RX12_316 rfl rfl ⟨Nat.le_of_ble_eq_true rfl, Nat.le_of_ble_eq_true rfl⟩ (Nat.le_of_ble_eq_true rfl) rfl rfl dX12_operand_26 ?_
    refine r_if_eqB (pc := 29) (tgt := 45) C h dX12_operand_29 (by decide) (fun hc29 h => ?_) (fun hc29 h => ?_)
    · refine r_aload_n (pc := 32) C 1 rfl rfl dX12_operand_32 ?_
      refine r_getR (pc := 33) C fl_RX12_118 m_s0 (by decide) m_k35 m_r35 dX12_operand_33 ?_
      refine r_iload_n (pc := 36) C 0 rfl rfl dX12_operand_36 ?_
      obtain ⟨hi37, h⟩ := chk_inv h
      refine r_zald (pc := 37) C m_s20 (by decide) (by decide) hi37 rfl dX12_operand_37 ?_
      refine r_if_eq (pc := 38) (tgt := 45) C h dX12_operand_38 (by decide) (fun hc38 h => ?_) (fun hc38 h => ?_)
      · refine r_sub (lv' := [(0, vR b 0), (1, vI v1_19)]) [1, 0] rfl ?_
        exact w_m_operand_B45 C hr h
      · refine r_iconst (pc := 41) C dX12_operand_41 ?_
        refine r_goto (pc := 42) (tgt := 46) C dX12_operand_42 (by decide) ?_
        refine r_sub (lv' := [(0, vR b 0), (1, vI v1_19)]) [1, 0] rfl ?_
        exact w_m_operand_B46 C hr h
    · refine r_sub (lv' := [(0, vR b 0), (1, vI v1_19)]) [1, 0] rfl ?_
      exact w_m_operand_B45 C hr h
  · refine r_iconst (pc := 11) C dX12_operand_11 ?_
    have e := Option.some.inj h
    exact r_zret (pc := 12) C hr (Or.inr rfl) (congrArg (fun z => some (vB z)) (Prod.mk.inj e).1.symm) (Prod.mk.inj e).2.symm dX12_operand_12
end
