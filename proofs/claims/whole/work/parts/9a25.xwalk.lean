theorem dX11_odds_0 : decode cX11_odds 0 = .ok (.iload_n 1, 1) := by decide +kernel
theorem dX11_odds_1 : decode cX11_odds 1 = .ok (.iconst (-1), 1) := by decide +kernel
theorem dX11_odds_2 : decode cX11_odds 2 = .ok (.if_icmp .eq 13, 3) := by decide +kernel
theorem dX11_odds_5 : decode cX11_odds 5 = .ok (.aload_n 0, 1) := by decide +kernel
theorem dX11_odds_6 : decode cX11_odds 6 = .ok (.iload_n 1, 1) := by decide +kernel
theorem dX11_odds_7 : decode cX11_odds 7 = .ok (.invokevirtual 189, 3) := by decide +kernel
theorem dX11_odds_10 : decode cX11_odds 10 = .ok (.ifCond .ne 5, 3) := by decide +kernel
theorem dX11_odds_13 : decode cX11_odds 13 = .ok (.iconst (-1), 1) := by decide +kernel
theorem dX11_odds_14 : decode cX11_odds 14 = .ok (.ireturn, 1) := by decide +kernel
theorem dX11_odds_15 : decode cX11_odds 15 = .ok (.aload_n 0, 1) := by decide +kernel
theorem dX11_odds_16 : decode cX11_odds 16 = .ok (.getfield 26, 3) := by decide +kernel
theorem dX11_odds_19 : decode cX11_odds 19 = .ok (.getfield 120, 3) := by decide +kernel
theorem dX11_odds_22 : decode cX11_odds 22 = .ok (.ifCond .eq 13, 3) := by decide +kernel
theorem dX11_odds_25 : decode cX11_odds 25 = .ok (.aload_n 0, 1) := by decide +kernel
theorem dX11_odds_26 : decode cX11_odds 26 = .ok (.iconst 1, 1) := by decide +kernel
theorem dX11_odds_27 : decode cX11_odds 27 = .ok (.iconst 1, 1) := by decide +kernel
theorem dX11_odds_28 : decode cX11_odds 28 = .ok (.iconst 1, 1) := by decide +kernel
theorem dX11_odds_29 : decode cX11_odds 29 = .ok (.invokevirtual 221, 3) := by decide +kernel
theorem dX11_odds_32 : decode cX11_odds 32 = .ok (.ifCond .ne 5, 3) := by decide +kernel
theorem dX11_odds_35 : decode cX11_odds 35 = .ok (.iconst (-1), 1) := by decide +kernel
theorem dX11_odds_36 : decode cX11_odds 36 = .ok (.ireturn, 1) := by decide +kernel
theorem dX11_odds_37 : decode cX11_odds 37 = .ok (.bipush 100, 2) := by decide +kernel
theorem dX11_odds_39 : decode cX11_odds 39 = .ok (.aload_n 0, 1) := by decide +kernel
theorem dX11_odds_40 : decode cX11_odds 40 = .ok (.getfield 26, 3) := by decide +kernel
theorem dX11_odds_43 : decode cX11_odds 43 = .ok (.getfield 120, 3) := by decide +kernel
theorem dX11_odds_46 : decode cX11_odds 46 = .ok (.imul, 1) := by decide +kernel
theorem dX11_odds_47 : decode cX11_odds 47 = .ok (.istore_n 2, 1) := by decide +kernel
theorem dX11_odds_48 : decode cX11_odds 48 = .ok (.iload_n 1, 1) := by decide +kernel
theorem dX11_odds_49 : decode cX11_odds 49 = .ok (.iconst (-1), 1) := by decide +kernel
theorem dX11_odds_50 : decode cX11_odds 50 = .ok (.if_icmp .ne 5, 3) := by decide +kernel
theorem dX11_odds_53 : decode cX11_odds 53 = .ok (.iload_n 2, 1) := by decide +kernel
theorem dX11_odds_54 : decode cX11_odds 54 = .ok (.ireturn, 1) := by decide +kernel
theorem dX11_odds_55 : decode cX11_odds 55 = .ok (.aload_n 0, 1) := by decide +kernel
theorem dX11_odds_56 : decode cX11_odds 56 = .ok (.getfield 35, 3) := by decide +kernel
theorem dX11_odds_59 : decode cX11_odds 59 = .ok (.getfield 201, 3) := by decide +kernel
theorem dX11_odds_62 : decode cX11_odds 62 = .ok (.iload_n 1, 1) := by decide +kernel
theorem dX11_odds_63 : decode cX11_odds 63 = .ok (.iaload, 1) := by decide +kernel
theorem dX11_odds_64 : decode cX11_odds 64 = .ok (.iconst 5, 1) := by decide +kernel
theorem dX11_odds_65 : decode cX11_odds 65 = .ok (.if_icmp .ne 5, 3) := by decide +kernel
theorem dX11_odds_68 : decode cX11_odds 68 = .ok (.iload_n 2, 1) := by decide +kernel
theorem dX11_odds_69 : decode cX11_odds 69 = .ok (.ireturn, 1) := by decide +kernel
theorem dX11_odds_70 : decode cX11_odds 70 = .ok (.aload_n 0, 1) := by decide +kernel
theorem dX11_odds_71 : decode cX11_odds 71 = .ok (.getfield 35, 3) := by decide +kernel
theorem dX11_odds_74 : decode cX11_odds 74 = .ok (.getfield 201, 3) := by decide +kernel
theorem dX11_odds_77 : decode cX11_odds 77 = .ok (.iload_n 1, 1) := by decide +kernel
theorem dX11_odds_78 : decode cX11_odds 78 = .ok (.iaload, 1) := by decide +kernel
theorem dX11_odds_79 : decode cX11_odds 79 = .ok (.iconst 2, 1) := by decide +kernel
theorem dX11_odds_80 : decode cX11_odds 80 = .ok (.if_icmp .ne 13, 3) := by decide +kernel
theorem dX11_odds_83 : decode cX11_odds 83 = .ok (.aload_n 0, 1) := by decide +kernel
theorem dX11_odds_84 : decode cX11_odds 84 = .ok (.getfield 26, 3) := by decide +kernel
theorem dX11_odds_87 : decode cX11_odds 87 = .ok (.getfield 258, 3) := by decide +kernel
theorem dX11_odds_90 : decode cX11_odds 90 = .ok (.goto 4, 3) := by decide +kernel
theorem dX11_odds_93 : decode cX11_odds 93 = .ok (.iconst 0, 1) := by decide +kernel
theorem dX11_odds_94 : decode cX11_odds 94 = .ok (.ireturn, 1) := by decide +kernel
theorem dX0_isRow_0 : decode cX0_isRow 0 = .ok (.iload_n 2, 1) := by decide +kernel
theorem dX0_isRow_1 : decode cX0_isRow 1 = .ok (.ifCond .lt 11, 3) := by decide +kernel
theorem dX0_isRow_4 : decode cX0_isRow 4 = .ok (.iload_n 2, 1) := by decide +kernel
theorem dX0_isRow_5 : decode cX0_isRow 5 = .ok (.iconst 2, 1) := by decide +kernel
theorem dX0_isRow_6 : decode cX0_isRow 6 = .ok (.iadd, 1) := by decide +kernel
theorem dX0_isRow_7 : decode cX0_isRow 7 = .ok (.aload_n 1, 1) := by decide +kernel
theorem dX0_isRow_8 : decode cX0_isRow 8 = .ok (.arraylength, 1) := by decide +kernel
theorem dX0_isRow_9 : decode cX0_isRow 9 = .ok (.if_icmp .lt 5, 3) := by decide +kernel
theorem dX0_isRow_12 : decode cX0_isRow 12 = .ok (.iconst 0, 1) := by decide +kernel
theorem dX0_isRow_13 : decode cX0_isRow 13 = .ok (.ireturn, 1) := by decide +kernel
theorem dX0_isRow_14 : decode cX0_isRow 14 = .ok (.aload_n 1, 1) := by decide +kernel
theorem dX0_isRow_15 : decode cX0_isRow 15 = .ok (.iload_n 2, 1) := by decide +kernel
theorem dX0_isRow_16 : decode cX0_isRow 16 = .ok (.iconst 2, 1) := by decide +kernel
theorem dX0_isRow_17 : decode cX0_isRow 17 = .ok (.iadd, 1) := by decide +kernel
theorem dX0_isRow_18 : decode cX0_isRow 18 = .ok (.iaload, 1) := by decide +kernel
theorem dX0_isRow_19 : decode cX0_isRow 19 = .ok (.aload_n 0, 1) := by decide +kernel
theorem dX0_isRow_20 : decode cX0_isRow 20 = .ok (.getfield 29, 3) := by decide +kernel
theorem dX0_isRow_23 : decode cX0_isRow 23 = .ok (.getfield 100, 3) := by decide +kernel
theorem dX0_isRow_26 : decode cX0_isRow 26 = .ok (.if_icmp .lt 14, 3) := by decide +kernel
theorem dX0_isRow_29 : decode cX0_isRow 29 = .ok (.aload_n 1, 1) := by decide +kernel
theorem dX0_isRow_30 : decode cX0_isRow 30 = .ok (.iload_n 2, 1) := by decide +kernel
theorem dX0_isRow_31 : decode cX0_isRow 31 = .ok (.iconst 2, 1) := by decide +kernel
theorem dX0_isRow_32 : decode cX0_isRow 32 = .ok (.iadd, 1) := by decide +kernel
theorem dX0_isRow_33 : decode cX0_isRow 33 = .ok (.iaload, 1) := by decide +kernel
theorem dX0_isRow_34 : decode cX0_isRow 34 = .ok (.sipush 255, 3) := by decide +kernel
theorem dX0_isRow_37 : decode cX0_isRow 37 = .ok (.if_icmp .ne 7, 3) := by decide +kernel
theorem dX0_isRow_40 : decode cX0_isRow 40 = .ok (.iconst 1, 1) := by decide +kernel
theorem dX0_isRow_41 : decode cX0_isRow 41 = .ok (.goto 4, 3) := by decide +kernel
theorem dX0_isRow_44 : decode cX0_isRow 44 = .ok (.iconst 0, 1) := by decide +kernel
theorem dX0_isRow_45 : decode cX0_isRow 45 = .ok (.istore_n 3, 1) := by decide +kernel
theorem dX0_isRow_46 : decode cX0_isRow 46 = .ok (.aload_n 1, 1) := by decide +kernel
theorem dX0_isRow_47 : decode cX0_isRow 47 = .ok (.iload_n 2, 1) := by decide +kernel
theorem dX0_isRow_48 : decode cX0_isRow 48 = .ok (.iaload, 1) := by decide +kernel
theorem dX0_isRow_49 : decode cX0_isRow 49 = .ok (.bipush 31, 2) := by decide +kernel
theorem dX0_isRow_51 : decode cX0_isRow 51 = .ok (.if_icmp .ge 26, 3) := by decide +kernel
theorem dX0_isRow_54 : decode cX0_isRow 54 = .ok (.aload_n 1, 1) := by decide +kernel
theorem dX0_isRow_55 : decode cX0_isRow 55 = .ok (.iload_n 2, 1) := by decide +kernel
theorem dX0_isRow_56 : decode cX0_isRow 56 = .ok (.iconst 1, 1) := by decide +kernel
theorem dX0_isRow_57 : decode cX0_isRow 57 = .ok (.iadd, 1) := by decide +kernel
theorem dX0_isRow_58 : decode cX0_isRow 58 = .ok (.iaload, 1) := by decide +kernel
theorem dX0_isRow_59 : decode cX0_isRow 59 = .ok (.aload_n 0, 1) := by decide +kernel
theorem dX0_isRow_60 : decode cX0_isRow 60 = .ok (.getfield 29, 3) := by decide +kernel
theorem dX0_isRow_63 : decode cX0_isRow 63 = .ok (.getfield 73, 3) := by decide +kernel
theorem dX0_isRow_66 : decode cX0_isRow 66 = .ok (.if_icmp .ge 11, 3) := by decide +kernel
theorem dX0_isRow_69 : decode cX0_isRow 69 = .ok (.iload_n 3, 1) := by decide +kernel
theorem dX0_isRow_70 : decode cX0_isRow 70 = .ok (.ifCond .eq 7, 3) := by decide +kernel
theorem dX0_isRow_73 : decode cX0_isRow 73 = .ok (.iconst 1, 1) := by decide +kernel
theorem dX0_isRow_74 : decode cX0_isRow 74 = .ok (.goto 4, 3) := by decide +kernel
theorem dX0_isRow_77 : decode cX0_isRow 77 = .ok (.iconst 0, 1) := by decide +kernel
theorem dX0_isRow_78 : decode cX0_isRow 78 = .ok (.ireturn, 1) := by decide +kernel
theorem dX0_take_0 : decode cX0_take 0 = .ok (.aload_n 1, 1) := by decide +kernel
theorem dX0_take_1 : decode cX0_take 1 = .ok (.getfield 44, 3) := by decide +kernel
theorem dX0_take_4 : decode cX0_take 4 = .ok (.iconst 3, 1) := by decide +kernel
theorem dX0_take_5 : decode cX0_take 5 = .ok (.idiv, 1) := by decide +kernel
theorem dX0_take_6 : decode cX0_take 6 = .ok (.istore_n 2, 1) := by decide +kernel
theorem dX0_take_7 : decode cX0_take 7 = .ok (.iload_n 2, 1) := by decide +kernel
theorem dX0_take_8 : decode cX0_take 8 = .ok (.iconst 3, 1) := by decide +kernel
theorem dX0_take_9 : decode cX0_take 9 = .ok (.imul, 1) := by decide +kernel
theorem dX0_take_10 : decode cX0_take 10 = .ok (.aload_n 1, 1) := by decide +kernel
theorem dX0_take_11 : decode cX0_take 11 = .ok (.getfield 44, 3) := by decide +kernel
theorem dX0_take_14 : decode cX0_take 14 = .ok (.if_icmp .ne 14, 3) := by decide +kernel
theorem dX0_take_17 : decode cX0_take 17 = .ok (.iload_n 2, 1) := by decide +kernel
theorem dX0_take_18 : decode cX0_take 18 = .ok (.iconst 1, 1) := by decide +kernel
theorem dX0_take_19 : decode cX0_take 19 = .ok (.if_icmp .lt 9, 3) := by decide +kernel
theorem dX0_take_22 : decode cX0_take 22 = .ok (.iload_n 2, 1) := by decide +kernel
theorem dX0_take_23 : decode cX0_take 23 = .ok (.bipush 16, 2) := by decide +kernel
theorem dX0_take_25 : decode cX0_take 25 = .ok (.if_icmp .le 5, 3) := by decide +kernel
theorem dX0_take_28 : decode cX0_take 28 = .ok (.iconst (-1), 1) := by decide +kernel
theorem dX0_take_29 : decode cX0_take 29 = .ok (.ireturn, 1) := by decide +kernel
theorem dX0_take_30 : decode cX0_take 30 = .ok (.iconst 0, 1) := by decide +kernel
theorem dX0_take_31 : decode cX0_take 31 = .ok (.istore_n 3, 1) := by decide +kernel
theorem dX0_take_32 : decode cX0_take 32 = .ok (.iload_n 3, 1) := by decide +kernel
theorem dX0_take_33 : decode cX0_take 33 = .ok (.iload_n 2, 1) := by decide +kernel
theorem dX0_take_34 : decode cX0_take 34 = .ok (.if_icmp .ge 25, 3) := by decide +kernel
theorem dX0_take_37 : decode cX0_take 37 = .ok (.aload_n 0, 1) := by decide +kernel
theorem dX0_take_38 : decode cX0_take 38 = .ok (.aload_n 1, 1) := by decide +kernel
theorem dX0_take_39 : decode cX0_take 39 = .ok (.getfield 49, 3) := by decide +kernel
theorem dX0_take_42 : decode cX0_take 42 = .ok (.iconst 3, 1) := by decide +kernel
theorem dX0_take_43 : decode cX0_take 43 = .ok (.iload_n 3, 1) := by decide +kernel
theorem dX0_take_44 : decode cX0_take 44 = .ok (.imul, 1) := by decide +kernel
theorem dX0_take_45 : decode cX0_take 45 = .ok (.invokevirtual 52, 3) := by decide +kernel
theorem dX0_take_48 : decode cX0_take 48 = .ok (.ifCond .ne 5, 3) := by decide +kernel
theorem dX0_take_51 : decode cX0_take 51 = .ok (.iconst (-1), 1) := by decide +kernel
theorem dX0_take_52 : decode cX0_take 52 = .ok (.ireturn, 1) := by decide +kernel
theorem dX0_take_53 : decode cX0_take 53 = .ok (.iinc 3 1, 3) := by decide +kernel
theorem dX0_take_56 : decode cX0_take 56 = .ok (.goto (-24), 3) := by decide +kernel
theorem dX0_take_59 : decode cX0_take 59 = .ok (.iconst 0, 1) := by decide +kernel
theorem dX0_take_60 : decode cX0_take 60 = .ok (.istore_n 3, 1) := by decide +kernel
theorem dX0_take_61 : decode cX0_take 61 = .ok (.iload_n 3, 1) := by decide +kernel
theorem dX0_take_62 : decode cX0_take 62 = .ok (.iload_n 2, 1) := by decide +kernel
theorem dX0_take_63 : decode cX0_take 63 = .ok (.if_icmp .ge 72, 3) := by decide +kernel
theorem dX0_take_66 : decode cX0_take 66 = .ok (.aload_n 0, 1) := by decide +kernel
theorem dX0_take_67 : decode cX0_take 67 = .ok (.getfield 11, 3) := by decide +kernel
theorem dX0_take_70 : decode cX0_take 70 = .ok (.iload_n 3, 1) := by decide +kernel
theorem dX0_take_71 : decode cX0_take 71 = .ok (.aload_n 1, 1) := by decide +kernel
theorem dX0_take_72 : decode cX0_take 72 = .ok (.getfield 49, 3) := by decide +kernel
theorem dX0_take_75 : decode cX0_take 75 = .ok (.iconst 3, 1) := by decide +kernel
theorem dX0_take_76 : decode cX0_take 76 = .ok (.iload_n 3, 1) := by decide +kernel
theorem dX0_take_77 : decode cX0_take 77 = .ok (.imul, 1) := by decide +kernel
theorem dX0_take_78 : decode cX0_take 78 = .ok (.iaload, 1) := by decide +kernel
theorem dX0_take_79 : decode cX0_take 79 = .ok (.iastore, 1) := by decide +kernel
theorem dX0_take_80 : decode cX0_take 80 = .ok (.aload_n 0, 1) := by decide +kernel
theorem dX0_take_81 : decode cX0_take 81 = .ok (.getfield 15, 3) := by decide +kernel
theorem dX0_take_84 : decode cX0_take 84 = .ok (.iload_n 3, 1) := by decide +kernel
theorem dX0_take_85 : decode cX0_take 85 = .ok (.aload_n 1, 1) := by decide +kernel
theorem dX0_take_86 : decode cX0_take 86 = .ok (.getfield 49, 3) := by decide +kernel
theorem dX0_take_89 : decode cX0_take 89 = .ok (.iconst 3, 1) := by decide +kernel
theorem dX0_take_90 : decode cX0_take 90 = .ok (.iload_n 3, 1) := by decide +kernel
theorem dX0_take_91 : decode cX0_take 91 = .ok (.imul, 1) := by decide +kernel
theorem dX0_take_92 : decode cX0_take 92 = .ok (.iconst 1, 1) := by decide +kernel
theorem dX0_take_93 : decode cX0_take 93 = .ok (.iadd, 1) := by decide +kernel
theorem dX0_take_94 : decode cX0_take 94 = .ok (.iaload, 1) := by decide +kernel
theorem dX0_take_95 : decode cX0_take 95 = .ok (.iastore, 1) := by decide +kernel
theorem dX0_take_96 : decode cX0_take 96 = .ok (.aload_n 1, 1) := by decide +kernel
theorem dX0_take_97 : decode cX0_take 97 = .ok (.getfield 49, 3) := by decide +kernel
theorem dX0_take_100 : decode cX0_take 100 = .ok (.iconst 3, 1) := by decide +kernel
theorem dX0_take_101 : decode cX0_take 101 = .ok (.iload_n 3, 1) := by decide +kernel
theorem dX0_take_102 : decode cX0_take 102 = .ok (.imul, 1) := by decide +kernel
theorem dX0_take_103 : decode cX0_take 103 = .ok (.iconst 2, 1) := by decide +kernel
theorem dX0_take_104 : decode cX0_take 104 = .ok (.iadd, 1) := by decide +kernel
theorem dX0_take_105 : decode cX0_take 105 = .ok (.iaload, 1) := by decide +kernel
theorem dX0_take_106 : decode cX0_take 106 = .ok (.istore 4, 2) := by decide +kernel
theorem dX0_take_108 : decode cX0_take 108 = .ok (.aload_n 0, 1) := by decide +kernel
theorem dX0_take_109 : decode cX0_take 109 = .ok (.getfield 18, 3) := by decide +kernel
theorem dX0_take_112 : decode cX0_take 112 = .ok (.iload_n 3, 1) := by decide +kernel
theorem dX0_take_113 : decode cX0_take 113 = .ok (.iload 4, 2) := by decide +kernel
theorem dX0_take_115 : decode cX0_take 115 = .ok (.sipush 255, 3) := by decide +kernel
theorem dX0_take_118 : decode cX0_take 118 = .ok (.if_icmp .ne 8, 3) := by decide +kernel
theorem dX0_take_121 : decode cX0_take 121 = .ok (.bipush 7, 2) := by decide +kernel
theorem dX0_take_123 : decode cX0_take 123 = .ok (.goto 5, 3) := by decide +kernel
theorem dX0_take_126 : decode cX0_take 126 = .ok (.iload 4, 2) := by decide +kernel
theorem dX0_take_128 : decode cX0_take 128 = .ok (.iastore, 1) := by decide +kernel
theorem dX0_take_129 : decode cX0_take 129 = .ok (.iinc 3 1, 3) := by decide +kernel
theorem dX0_take_132 : decode cX0_take 132 = .ok (.goto (-71), 3) := by decide +kernel
theorem dX0_take_135 : decode cX0_take 135 = .ok (.aload_n 0, 1) := by decide +kernel
theorem dX0_take_136 : decode cX0_take 136 = .ok (.iload_n 2, 1) := by decide +kernel
theorem dX0_take_137 : decode cX0_take 137 = .ok (.putfield 40, 3) := by decide +kernel
theorem dX0_take_140 : decode cX0_take 140 = .ok (.iload_n 2, 1) := by decide +kernel
theorem dX0_take_141 : decode cX0_take 141 = .ok (.ireturn, 1) := by decide +kernel
theorem dX11_hear_0 : decode cX11_hear 0 = .ok (.aload_n 0, 1) := by decide +kernel
theorem dX11_hear_1 : decode cX11_hear 1 = .ok (.getfield 63, 3) := by decide +kernel
theorem dX11_hear_4 : decode cX11_hear 4 = .ok (.aload_n 0, 1) := by decide +kernel
theorem dX11_hear_5 : decode cX11_hear 5 = .ok (.getfield 12, 3) := by decide +kernel
theorem dX11_hear_8 : decode cX11_hear 8 = .ok (.invokevirtual 261, 3) := by decide +kernel
theorem dX11_hear_11 : decode cX11_hear 11 = .ok (.istore_n 1, 1) := by decide +kernel
theorem dX11_hear_12 : decode cX11_hear 12 = .ok (.aload_n 0, 1) := by decide +kernel
theorem dX11_hear_13 : decode cX11_hear 13 = .ok (.getfield 12, 3) := by decide +kernel
theorem dX11_hear_16 : decode cX11_hear 16 = .ok (.iconst 0, 1) := by decide +kernel
theorem dX11_hear_17 : decode cX11_hear 17 = .ok (.putfield 82, 3) := by decide +kernel
theorem dX11_hear_20 : decode cX11_hear 20 = .ok (.iload_n 1, 1) := by decide +kernel
theorem dX11_hear_21 : decode cX11_hear 21 = .ok (.iconst (-1), 1) := by decide +kernel
theorem dX11_hear_22 : decode cX11_hear 22 = .ok (.if_icmp .ne 11, 3) := by decide +kernel
theorem dX11_hear_25 : decode cX11_hear 25 = .ok (.aload_n 0, 1) := by decide +kernel
theorem dX11_hear_26 : decode cX11_hear 26 = .ok (.iconst 5, 1) := by decide +kernel
theorem dX11_hear_27 : decode cX11_hear 27 = .ok (.invokevirtual 85, 3) := by decide +kernel
theorem dX11_hear_30 : decode cX11_hear 30 = .ok (.goto 4, 3) := by decide +kernel
theorem dX11_hear_33 : decode cX11_hear 33 = .ok (.iload_n 1, 1) := by decide +kernel
theorem dX11_hear_34 : decode cX11_hear 34 = .ok (.ireturn, 1) := by decide +kernel
theorem dX0_fits_0 : decode cX0_fits 0 = .ok (.iconst 0, 1) := by decide +kernel
theorem dX0_fits_1 : decode cX0_fits 1 = .ok (.istore_n 3, 1) := by decide +kernel
theorem dX0_fits_2 : decode cX0_fits 2 = .ok (.iload_n 3, 1) := by decide +kernel
theorem dX0_fits_3 : decode cX0_fits 3 = .ok (.aload_n 0, 1) := by decide +kernel
theorem dX0_fits_4 : decode cX0_fits 4 = .ok (.getfield 40, 3) := by decide +kernel
theorem dX0_fits_7 : decode cX0_fits 7 = .ok (.if_icmp .ge 61, 3) := by decide +kernel
theorem dX0_fits_10 : decode cX0_fits 10 = .ok (.iload_n 3, 1) := by decide +kernel
theorem dX0_fits_11 : decode cX0_fits 11 = .ok (.bipush 16, 2) := by decide +kernel
theorem dX0_fits_13 : decode cX0_fits 13 = .ok (.if_icmp .ge 55, 3) := by decide +kernel
theorem dX0_fits_16 : decode cX0_fits 16 = .ok (.aload_n 0, 1) := by decide +kernel
theorem dX0_fits_17 : decode cX0_fits 17 = .ok (.getfield 11, 3) := by decide +kernel
theorem dX0_fits_20 : decode cX0_fits 20 = .ok (.iload_n 3, 1) := by decide +kernel
theorem dX0_fits_21 : decode cX0_fits 21 = .ok (.iaload, 1) := by decide +kernel
theorem dX0_fits_22 : decode cX0_fits 22 = .ok (.iload_n 2, 1) := by decide +kernel
theorem dX0_fits_23 : decode cX0_fits 23 = .ok (.if_icmp .lt 5, 3) := by decide +kernel
theorem dX0_fits_26 : decode cX0_fits 26 = .ok (.iconst 0, 1) := by decide +kernel
theorem dX0_fits_27 : decode cX0_fits 27 = .ok (.ireturn, 1) := by decide +kernel
theorem dX0_fits_28 : decode cX0_fits 28 = .ok (.aload_n 0, 1) := by decide +kernel
theorem dX0_fits_29 : decode cX0_fits 29 = .ok (.getfield 23, 3) := by decide +kernel
theorem dX0_fits_32 : decode cX0_fits 32 = .ok (.iload_n 1, 1) := by decide +kernel
theorem dX0_fits_33 : decode cX0_fits 33 = .ok (.aaload, 1) := by decide +kernel
theorem dX0_fits_34 : decode cX0_fits 34 = .ok (.aload_n 0, 1) := by decide +kernel
theorem dX0_fits_35 : decode cX0_fits 35 = .ok (.getfield 11, 3) := by decide +kernel
theorem dX0_fits_38 : decode cX0_fits 38 = .ok (.iload_n 3, 1) := by decide +kernel
theorem dX0_fits_39 : decode cX0_fits 39 = .ok (.iaload, 1) := by decide +kernel
theorem dX0_fits_40 : decode cX0_fits 40 = .ok (.bipush 12, 2) := by decide +kernel
theorem dX0_fits_42 : decode cX0_fits 42 = .ok (.imul, 1) := by decide +kernel
theorem dX0_fits_43 : decode cX0_fits 43 = .ok (.aload_n 0, 1) := by decide +kernel
theorem dX0_fits_44 : decode cX0_fits 44 = .ok (.getfield 15, 3) := by decide +kernel
theorem dX0_fits_47 : decode cX0_fits 47 = .ok (.iload_n 3, 1) := by decide +kernel
theorem dX0_fits_48 : decode cX0_fits 48 = .ok (.iaload, 1) := by decide +kernel
theorem dX0_fits_49 : decode cX0_fits 49 = .ok (.iadd, 1) := by decide +kernel
theorem dX0_fits_50 : decode cX0_fits 50 = .ok (.iaload, 1) := by decide +kernel
theorem dX0_fits_51 : decode cX0_fits 51 = .ok (.aload_n 0, 1) := by decide +kernel
theorem dX0_fits_52 : decode cX0_fits 52 = .ok (.getfield 18, 3) := by decide +kernel
theorem dX0_fits_55 : decode cX0_fits 55 = .ok (.iload_n 3, 1) := by decide +kernel
theorem dX0_fits_56 : decode cX0_fits 56 = .ok (.iaload, 1) := by decide +kernel
theorem dX0_fits_57 : decode cX0_fits 57 = .ok (.if_icmp .eq 5, 3) := by decide +kernel
theorem dX0_fits_60 : decode cX0_fits 60 = .ok (.iconst 0, 1) := by decide +kernel
theorem dX0_fits_61 : decode cX0_fits 61 = .ok (.ireturn, 1) := by decide +kernel
theorem dX0_fits_62 : decode cX0_fits 62 = .ok (.iinc 3 1, 3) := by decide +kernel
theorem dX0_fits_65 : decode cX0_fits 65 = .ok (.goto (-63), 3) := by decide +kernel
theorem dX0_fits_68 : decode cX0_fits 68 = .ok (.iconst 1, 1) := by decide +kernel
theorem dX0_fits_69 : decode cX0_fits 69 = .ok (.ireturn, 1) := by decide +kernel
theorem dX0_minutesComing_0 : decode cX0_minutesComing 0 = .ok (.bipush 31, 2) := by decide +kernel
theorem dX0_minutesComing_2 : decode cX0_minutesComing 2 = .ok (.sipush 999, 3) := by decide +kernel
theorem dX0_minutesComing_5 : decode cX0_minutesComing 5 = .ok (.aload_n 0, 1) := by decide +kernel
theorem dX0_minutesComing_6 : decode cX0_minutesComing 6 = .ok (.getfield 33, 3) := by decide +kernel
theorem dX0_minutesComing_9 : decode cX0_minutesComing 9 = .ok (.getfield 93, 3) := by decide +kernel
theorem dX0_minutesComing_12 : decode cX0_minutesComing 12 = .ok (.isub, 1) := by decide +kernel
theorem dX0_minutesComing_13 : decode cX0_minutesComing 13 = .ok (.invokestatic 95, 3) := by decide +kernel
theorem dX0_minutesComing_16 : decode cX0_minutesComing 16 = .ok (.ireturn, 1) := by decide +kernel
theorem dX0_watch_0 : decode cX0_watch 0 = .ok (.aload_n 0, 1) := by decide +kernel
theorem dX0_watch_1 : decode cX0_watch 1 = .ok (.invokevirtual 56, 3) := by decide +kernel
theorem dX0_watch_4 : decode cX0_watch 4 = .ok (.istore_n 2, 1) := by decide +kernel
theorem dX0_watch_5 : decode cX0_watch 5 = .ok (.iconst 0, 1) := by decide +kernel
theorem dX0_watch_6 : decode cX0_watch 6 = .ok (.istore_n 3, 1) := by decide +kernel
theorem dX0_watch_7 : decode cX0_watch 7 = .ok (.iconst 0, 1) := by decide +kernel
theorem dX0_watch_8 : decode cX0_watch 8 = .ok (.istore 4, 2) := by decide +kernel
theorem dX0_watch_10 : decode cX0_watch 10 = .ok (.iload 4, 2) := by decide +kernel
theorem dX0_watch_12 : decode cX0_watch 12 = .ok (.bipush 10, 2) := by decide +kernel
theorem dX0_watch_14 : decode cX0_watch 14 = .ok (.if_icmp .ge 159, 3) := by decide +kernel
theorem dX0_watch_17 : decode cX0_watch 17 = .ok (.aload_n 0, 1) := by decide +kernel
theorem dX0_watch_18 : decode cX0_watch 18 = .ok (.getfield 37, 3) := by decide +kernel
theorem dX0_watch_21 : decode cX0_watch 21 = .ok (.aload_n 0, 1) := by decide +kernel
theorem dX0_watch_22 : decode cX0_watch 22 = .ok (.getfield 33, 3) := by decide +kernel
theorem dX0_watch_25 : decode cX0_watch 25 = .ok (.invokevirtual 60, 3) := by decide +kernel
theorem dX0_watch_28 : decode cX0_watch 28 = .ok (.aload_n 0, 1) := by decide +kernel
theorem dX0_watch_29 : decode cX0_watch 29 = .ok (.getfield 37, 3) := by decide +kernel
theorem dX0_watch_32 : decode cX0_watch 32 = .ok (.getfield 66, 3) := by decide +kernel
theorem dX0_watch_35 : decode cX0_watch 35 = .ok (.iload_n 1, 1) := by decide +kernel
theorem dX0_watch_36 : decode cX0_watch 36 = .ok (.iload 4, 2) := by decide +kernel
theorem dX0_watch_38 : decode cX0_watch 38 = .ok (.iastore, 1) := by decide +kernel
theorem dX0_watch_39 : decode cX0_watch 39 = .ok (.iconst 0, 1) := by decide +kernel
theorem dX0_watch_40 : decode cX0_watch 40 = .ok (.istore 5, 2) := by decide +kernel
theorem dX0_watch_42 : decode cX0_watch 42 = .ok (.iload 5, 2) := by decide +kernel
theorem dX0_watch_44 : decode cX0_watch 44 = .ok (.iload_n 2, 1) := by decide +kernel
theorem dX0_watch_45 : decode cX0_watch 45 = .ok (.if_icmp .ge 105, 3) := by decide +kernel
theorem dX0_watch_48 : decode cX0_watch 48 = .ok (.aload_n 0, 1) := by decide +kernel
theorem dX0_watch_49 : decode cX0_watch 49 = .ok (.getfield 37, 3) := by decide +kernel
theorem dX0_watch_52 : decode cX0_watch 52 = .ok (.bipush 127, 2) := by decide +kernel
theorem dX0_watch_54 : decode cX0_watch 54 = .ok (.invokevirtual 69, 3) := by decide +kernel
theorem dX0_watch_57 : decode cX0_watch 57 = .ok (.pop, 1) := by decide +kernel
theorem dX0_watch_58 : decode cX0_watch 58 = .ok (.iconst 0, 1) := by decide +kernel
theorem dX0_watch_59 : decode cX0_watch 59 = .ok (.istore 6, 2) := by decide +kernel
theorem dX0_watch_61 : decode cX0_watch 61 = .ok (.iload 6, 2) := by decide +kernel
theorem dX0_watch_63 : decode cX0_watch 63 = .ok (.aload_n 0, 1) := by decide +kernel
theorem dX0_watch_64 : decode cX0_watch 64 = .ok (.getfield 29, 3) := by decide +kernel
theorem dX0_watch_67 : decode cX0_watch 67 = .ok (.getfield 73, 3) := by decide +kernel
theorem dX0_watch_70 : decode cX0_watch 70 = .ok (.if_icmp .ge 66, 3) := by decide +kernel
theorem dX0_watch_73 : decode cX0_watch 73 = .ok (.aload_n 0, 1) := by decide +kernel
theorem dX0_watch_74 : decode cX0_watch 74 = .ok (.getfield 37, 3) := by decide +kernel
theorem dX0_watch_77 : decode cX0_watch 77 = .ok (.getfield 78, 3) := by decide +kernel
theorem dX0_watch_80 : decode cX0_watch 80 = .ok (.iload 6, 2) := by decide +kernel
theorem dX0_watch_82 : decode cX0_watch 82 = .ok (.iaload, 1) := by decide +kernel
theorem dX0_watch_83 : decode cX0_watch 83 = .ok (.iconst 2, 1) := by decide +kernel
theorem dX0_watch_84 : decode cX0_watch 84 = .ok (.if_icmp .ne 7, 3) := by decide +kernel
theorem dX0_watch_87 : decode cX0_watch 87 = .ok (.iconst 1, 1) := by decide +kernel
theorem dX0_watch_88 : decode cX0_watch 88 = .ok (.goto 4, 3) := by decide +kernel
theorem dX0_watch_91 : decode cX0_watch 91 = .ok (.iconst 0, 1) := by decide +kernel
theorem dX0_watch_92 : decode cX0_watch 92 = .ok (.istore 7, 2) := by decide +kernel
theorem dX0_watch_94 : decode cX0_watch 94 = .ok (.aload_n 0, 1) := by decide +kernel
theorem dX0_watch_95 : decode cX0_watch 95 = .ok (.getfield 23, 3) := by decide +kernel
theorem dX0_watch_98 : decode cX0_watch 98 = .ok (.iload 4, 2) := by decide +kernel
theorem dX0_watch_100 : decode cX0_watch 100 = .ok (.aaload, 1) := by decide +kernel
theorem dX0_watch_101 : decode cX0_watch 101 = .ok (.iload 5, 2) := by decide +kernel
theorem dX0_watch_103 : decode cX0_watch 103 = .ok (.bipush 12, 2) := by decide +kernel
theorem dX0_watch_105 : decode cX0_watch 105 = .ok (.imul, 1) := by decide +kernel
theorem dX0_watch_106 : decode cX0_watch 106 = .ok (.iload 6, 2) := by decide +kernel
theorem dX0_watch_108 : decode cX0_watch 108 = .ok (.iadd, 1) := by decide +kernel
theorem dX0_watch_109 : decode cX0_watch 109 = .ok (.iload 7, 2) := by decide +kernel
theorem dX0_watch_111 : decode cX0_watch 111 = .ok (.ifCond .eq 16, 3) := by decide +kernel
theorem dX0_watch_114 : decode cX0_watch 114 = .ok (.aload_n 0, 1) := by decide +kernel
theorem dX0_watch_115 : decode cX0_watch 115 = .ok (.getfield 37, 3) := by decide +kernel
theorem dX0_watch_118 : decode cX0_watch 118 = .ok (.getfield 81, 3) := by decide +kernel
theorem dX0_watch_121 : decode cX0_watch 121 = .ok (.iload 6, 2) := by decide +kernel
theorem dX0_watch_123 : decode cX0_watch 123 = .ok (.iaload, 1) := by decide +kernel
theorem dX0_watch_124 : decode cX0_watch 124 = .ok (.goto 5, 3) := by decide +kernel
theorem dX0_watch_127 : decode cX0_watch 127 = .ok (.bipush 7, 2) := by decide +kernel
theorem dX0_watch_129 : decode cX0_watch 129 = .ok (.iastore, 1) := by decide +kernel
theorem dX0_watch_130 : decode cX0_watch 130 = .ok (.iinc 6 1, 3) := by decide +kernel
theorem dX0_watch_133 : decode cX0_watch 133 = .ok (.goto (-72), 3) := by decide +kernel
theorem dX0_watch_136 : decode cX0_watch 136 = .ok (.aload_n 0, 1) := by decide +kernel
theorem dX0_watch_137 : decode cX0_watch 137 = .ok (.getfield 37, 3) := by decide +kernel
theorem dX0_watch_140 : decode cX0_watch 140 = .ok (.invokevirtual 82, 3) := by decide +kernel
theorem dX0_watch_143 : decode cX0_watch 143 = .ok (.pop, 1) := by decide +kernel
theorem dX0_watch_144 : decode cX0_watch 144 = .ok (.iinc 5 1, 3) := by decide +kernel
theorem dX0_watch_147 : decode cX0_watch 147 = .ok (.goto (-105), 3) := by decide +kernel
theorem dX0_watch_150 : decode cX0_watch 150 = .ok (.aload_n 0, 1) := by decide +kernel
theorem dX0_watch_151 : decode cX0_watch 151 = .ok (.iload 4, 2) := by decide +kernel
theorem dX0_watch_153 : decode cX0_watch 153 = .ok (.iload_n 2, 1) := by decide +kernel
theorem dX0_watch_154 : decode cX0_watch 154 = .ok (.invokevirtual 85, 3) := by decide +kernel
theorem dX0_watch_157 : decode cX0_watch 157 = .ok (.ifCond .eq 10, 3) := by decide +kernel
theorem dX0_watch_160 : decode cX0_watch 160 = .ok (.iload_n 3, 1) := by decide +kernel
theorem dX0_watch_161 : decode cX0_watch 161 = .ok (.iconst 1, 1) := by decide +kernel
theorem dX0_watch_162 : decode cX0_watch 162 = .ok (.iload 4, 2) := by decide +kernel
theorem dX0_watch_164 : decode cX0_watch 164 = .ok (.ishl, 1) := by decide +kernel
theorem dX0_watch_165 : decode cX0_watch 165 = .ok (.ior, 1) := by decide +kernel
theorem dX0_watch_166 : decode cX0_watch 166 = .ok (.istore_n 3, 1) := by decide +kernel
theorem dX0_watch_167 : decode cX0_watch 167 = .ok (.iinc 4 1, 3) := by decide +kernel
theorem dX0_watch_170 : decode cX0_watch 170 = .ok (.goto (-160), 3) := by decide +kernel
theorem dX0_watch_173 : decode cX0_watch 173 = .ok (.iload_n 3, 1) := by decide +kernel
theorem dX0_watch_174 : decode cX0_watch 174 = .ok (.ireturn, 1) := by decide +kernel
theorem dX11_pitches_0 : decode cX11_pitches 0 = .ok (.aload_n 0, 1) := by decide +kernel
theorem dX11_pitches_1 : decode cX11_pitches 1 = .ok (.iload_n 1, 1) := by decide +kernel
theorem dX11_pitches_2 : decode cX11_pitches 2 = .ok (.invokevirtual 149, 3) := by decide +kernel
theorem dX11_pitches_5 : decode cX11_pitches 5 = .ok (.ifCond .eq 14, 3) := by decide +kernel
theorem dX11_pitches_8 : decode cX11_pitches 8 = .ok (.aload_n 0, 1) := by decide +kernel
theorem dX11_pitches_9 : decode cX11_pitches 9 = .ok (.getfield 63, 3) := by decide +kernel
theorem dX11_pitches_12 : decode cX11_pitches 12 = .ok (.iload_n 1, 1) := by decide +kernel
theorem dX11_pitches_13 : decode cX11_pitches 13 = .ok (.invokevirtual 264, 3) := by decide +kernel
theorem dX11_pitches_16 : decode cX11_pitches 16 = .ok (.goto 4, 3) := by decide +kernel
theorem dX11_pitches_19 : decode cX11_pitches 19 = .ok (.iconst (-1), 1) := by decide +kernel
theorem dX11_pitches_20 : decode cX11_pitches 20 = .ok (.ireturn, 1) := by decide +kernel
theorem dX0_mostAlike_0 : decode cX0_mostAlike 0 = .ok (.aload_n 0, 1) := by decide +kernel
theorem dX0_mostAlike_1 : decode cX0_mostAlike 1 = .ok (.getfield 26, 3) := by decide +kernel
theorem dX0_mostAlike_4 : decode cX0_mostAlike 4 = .ok (.iconst 0, 1) := by decide +kernel
theorem dX0_mostAlike_5 : decode cX0_mostAlike 5 = .ok (.invokestatic 103, 3) := by decide +kernel
theorem dX0_mostAlike_8 : decode cX0_mostAlike 8 = .ok (.iconst 0, 1) := by decide +kernel
theorem dX0_mostAlike_9 : decode cX0_mostAlike 9 = .ok (.istore_n 3, 1) := by decide +kernel
theorem dX0_mostAlike_10 : decode cX0_mostAlike 10 = .ok (.iconst 0, 1) := by decide +kernel
theorem dX0_mostAlike_11 : decode cX0_mostAlike 11 = .ok (.istore 4, 2) := by decide +kernel
theorem dX0_mostAlike_13 : decode cX0_mostAlike 13 = .ok (.iload 4, 2) := by decide +kernel
theorem dX0_mostAlike_15 : decode cX0_mostAlike 15 = .ok (.bipush 10, 2) := by decide +kernel
theorem dX0_mostAlike_17 : decode cX0_mostAlike 17 = .ok (.if_icmp .ge 67, 3) := by decide +kernel
theorem dX0_mostAlike_20 : decode cX0_mostAlike 20 = .ok (.aload_n 0, 1) := by decide +kernel
theorem dX0_mostAlike_21 : decode cX0_mostAlike 21 = .ok (.getfield 23, 3) := by decide +kernel
theorem dX0_mostAlike_24 : decode cX0_mostAlike 24 = .ok (.iload 4, 2) := by decide +kernel
theorem dX0_mostAlike_26 : decode cX0_mostAlike 26 = .ok (.aaload, 1) := by decide +kernel
theorem dX0_mostAlike_27 : decode cX0_mostAlike 27 = .ok (.iload_n 2, 1) := by decide +kernel
theorem dX0_mostAlike_28 : decode cX0_mostAlike 28 = .ok (.iaload, 1) := by decide +kernel
theorem dX0_mostAlike_29 : decode cX0_mostAlike 29 = .ok (.istore 5, 2) := by decide +kernel
theorem dX0_mostAlike_31 : decode cX0_mostAlike 31 = .ok (.iload_n 1, 1) := by decide +kernel
theorem dX0_mostAlike_32 : decode cX0_mostAlike 32 = .ok (.iload 4, 2) := by decide +kernel
theorem dX0_mostAlike_34 : decode cX0_mostAlike 34 = .ok (.ishr, 1) := by decide +kernel
theorem dX0_mostAlike_35 : decode cX0_mostAlike 35 = .ok (.iconst 1, 1) := by decide +kernel
theorem dX0_mostAlike_36 : decode cX0_mostAlike 36 = .ok (.iand, 1) := by decide +kernel
theorem dX0_mostAlike_37 : decode cX0_mostAlike 37 = .ok (.ifCond .eq 41, 3) := by decide +kernel
theorem dX0_mostAlike_40 : decode cX0_mostAlike 40 = .ok (.iload 5, 2) := by decide +kernel
theorem dX0_mostAlike_42 : decode cX0_mostAlike 42 = .ok (.ifCond .lt 36, 3) := by decide +kernel
theorem dX0_mostAlike_45 : decode cX0_mostAlike 45 = .ok (.iload 5, 2) := by decide +kernel
theorem dX0_mostAlike_47 : decode cX0_mostAlike 47 = .ok (.aload_n 0, 1) := by decide +kernel
theorem dX0_mostAlike_48 : decode cX0_mostAlike 48 = .ok (.getfield 26, 3) := by decide +kernel
theorem dX0_mostAlike_51 : decode cX0_mostAlike 51 = .ok (.arraylength, 1) := by decide +kernel
theorem dX0_mostAlike_52 : decode cX0_mostAlike 52 = .ok (.if_icmp .ge 26, 3) := by decide +kernel
theorem dX0_mostAlike_55 : decode cX0_mostAlike 55 = .ok (.aload_n 0, 1) := by decide +kernel
theorem dX0_mostAlike_56 : decode cX0_mostAlike 56 = .ok (.getfield 26, 3) := by decide +kernel
theorem dX0_mostAlike_59 : decode cX0_mostAlike 59 = .ok (.iload 5, 2) := by decide +kernel
theorem dX0_mostAlike_61 : decode cX0_mostAlike 61 = .ok (.dup2, 1) := by decide +kernel
theorem dX0_mostAlike_62 : decode cX0_mostAlike 62 = .ok (.iaload, 1) := by decide +kernel
theorem dX0_mostAlike_63 : decode cX0_mostAlike 63 = .ok (.iconst 1, 1) := by decide +kernel
theorem dX0_mostAlike_64 : decode cX0_mostAlike 64 = .ok (.iadd, 1) := by decide +kernel
theorem dX0_mostAlike_65 : decode cX0_mostAlike 65 = .ok (.iastore, 1) := by decide +kernel
theorem dX0_mostAlike_66 : decode cX0_mostAlike 66 = .ok (.iload_n 3, 1) := by decide +kernel
theorem dX0_mostAlike_67 : decode cX0_mostAlike 67 = .ok (.aload_n 0, 1) := by decide +kernel
theorem dX0_mostAlike_68 : decode cX0_mostAlike 68 = .ok (.getfield 26, 3) := by decide +kernel
theorem dX0_mostAlike_71 : decode cX0_mostAlike 71 = .ok (.iload 5, 2) := by decide +kernel
theorem dX0_mostAlike_73 : decode cX0_mostAlike 73 = .ok (.iaload, 1) := by decide +kernel
theorem dX0_mostAlike_74 : decode cX0_mostAlike 74 = .ok (.invokestatic 109, 3) := by decide +kernel
theorem dX0_mostAlike_77 : decode cX0_mostAlike 77 = .ok (.istore_n 3, 1) := by decide +kernel
theorem dX0_mostAlike_78 : decode cX0_mostAlike 78 = .ok (.iinc 4 1, 3) := by decide +kernel
theorem dX0_mostAlike_81 : decode cX0_mostAlike 81 = .ok (.goto (-68), 3) := by decide +kernel
theorem dX0_mostAlike_84 : decode cX0_mostAlike 84 = .ok (.iload_n 3, 1) := by decide +kernel
theorem dX0_mostAlike_85 : decode cX0_mostAlike 85 = .ok (.ireturn, 1) := by decide +kernel
theorem dX0_telling_0 : decode cX0_telling 0 = .ok (.iload_n 1, 1) := by decide +kernel
theorem dX0_telling_1 : decode cX0_telling 1 = .ok (.ifCond .ne 5, 3) := by decide +kernel
theorem dX0_telling_4 : decode cX0_telling 4 = .ok (.iconst (-1), 1) := by decide +kernel
theorem dX0_telling_5 : decode cX0_telling 5 = .ok (.ireturn, 1) := by decide +kernel
theorem dX0_telling_6 : decode cX0_telling 6 = .ok (.aload_n 0, 1) := by decide +kernel
theorem dX0_telling_7 : decode cX0_telling 7 = .ok (.invokevirtual 56, 3) := by decide +kernel
theorem dX0_telling_10 : decode cX0_telling 10 = .ok (.istore_n 3, 1) := by decide +kernel
theorem dX0_telling_11 : decode cX0_telling 11 = .ok (.iconst (-1), 1) := by decide +kernel
theorem dX0_telling_12 : decode cX0_telling 12 = .ok (.istore 4, 2) := by decide +kernel
theorem dX0_telling_14 : decode cX0_telling 14 = .ok (.iconst (-1), 1) := by decide +kernel
theorem dX0_telling_15 : decode cX0_telling 15 = .ok (.istore 5, 2) := by decide +kernel
theorem dX0_telling_17 : decode cX0_telling 17 = .ok (.iconst (-1), 1) := by decide +kernel
theorem dX0_telling_18 : decode cX0_telling 18 = .ok (.istore 6, 2) := by decide +kernel
theorem dX0_telling_20 : decode cX0_telling 20 = .ok (.iconst 0, 1) := by decide +kernel
theorem dX0_telling_21 : decode cX0_telling 21 = .ok (.istore 7, 2) := by decide +kernel
theorem dX0_telling_23 : decode cX0_telling 23 = .ok (.iload 7, 2) := by decide +kernel
theorem dX0_telling_25 : decode cX0_telling 25 = .ok (.iload_n 3, 1) := by decide +kernel
theorem dX0_telling_26 : decode cX0_telling 26 = .ok (.if_icmp .ge 70, 3) := by decide +kernel
theorem dX0_telling_29 : decode cX0_telling 29 = .ok (.iconst 0, 1) := by decide +kernel
theorem dX0_telling_30 : decode cX0_telling 30 = .ok (.istore 8, 2) := by decide +kernel
theorem dX0_telling_32 : decode cX0_telling 32 = .ok (.iload 8, 2) := by decide +kernel
theorem dX0_telling_34 : decode cX0_telling 34 = .ok (.aload_n 0, 1) := by decide +kernel
theorem dX0_telling_35 : decode cX0_telling 35 = .ok (.getfield 29, 3) := by decide +kernel
theorem dX0_telling_38 : decode cX0_telling 38 = .ok (.getfield 73, 3) := by decide +kernel
theorem dX0_telling_41 : decode cX0_telling 41 = .ok (.if_icmp .ge 49, 3) := by decide +kernel
theorem dX0_telling_44 : decode cX0_telling 44 = .ok (.aload_n 0, 1) := by decide +kernel
theorem dX0_telling_45 : decode cX0_telling 45 = .ok (.iload_n 1, 1) := by decide +kernel
theorem dX0_telling_46 : decode cX0_telling 46 = .ok (.iload 7, 2) := by decide +kernel
theorem dX0_telling_48 : decode cX0_telling 48 = .ok (.bipush 12, 2) := by decide +kernel
theorem dX0_telling_50 : decode cX0_telling 50 = .ok (.imul, 1) := by decide +kernel
theorem dX0_telling_51 : decode cX0_telling 51 = .ok (.iload 8, 2) := by decide +kernel
theorem dX0_telling_53 : decode cX0_telling 53 = .ok (.iadd, 1) := by decide +kernel
theorem dX0_telling_54 : decode cX0_telling 54 = .ok (.invokevirtual 89, 3) := by decide +kernel
theorem dX0_telling_57 : decode cX0_telling 57 = .ok (.istore 9, 2) := by decide +kernel
theorem dX0_telling_59 : decode cX0_telling 59 = .ok (.iload 6, 2) := by decide +kernel
theorem dX0_telling_61 : decode cX0_telling 61 = .ok (.iconst (-1), 1) := by decide +kernel
theorem dX0_telling_62 : decode cX0_telling 62 = .ok (.if_icmp .eq 10, 3) := by decide +kernel
theorem dX0_telling_65 : decode cX0_telling 65 = .ok (.iload 9, 2) := by decide +kernel
theorem dX0_telling_67 : decode cX0_telling 67 = .ok (.iload 6, 2) := by decide +kernel
theorem dX0_telling_69 : decode cX0_telling 69 = .ok (.if_icmp .ge 15, 3) := by decide +kernel
theorem dX0_telling_72 : decode cX0_telling 72 = .ok (.iload 9, 2) := by decide +kernel
theorem dX0_telling_74 : decode cX0_telling 74 = .ok (.istore 6, 2) := by decide +kernel
theorem dX0_telling_76 : decode cX0_telling 76 = .ok (.iload 7, 2) := by decide +kernel
theorem dX0_telling_78 : decode cX0_telling 78 = .ok (.istore 4, 2) := by decide +kernel
theorem dX0_telling_80 : decode cX0_telling 80 = .ok (.iload 8, 2) := by decide +kernel
theorem dX0_telling_82 : decode cX0_telling 82 = .ok (.istore 5, 2) := by decide +kernel
theorem dX0_telling_84 : decode cX0_telling 84 = .ok (.iinc 8 1, 3) := by decide +kernel
theorem dX0_telling_87 : decode cX0_telling 87 = .ok (.goto (-55), 3) := by decide +kernel
theorem dX0_telling_90 : decode cX0_telling 90 = .ok (.iinc 7 1, 3) := by decide +kernel
theorem dX0_telling_93 : decode cX0_telling 93 = .ok (.goto (-70), 3) := by decide +kernel
theorem dX0_telling_96 : decode cX0_telling 96 = .ok (.iload_n 2, 1) := by decide +kernel
theorem dX0_telling_97 : decode cX0_telling 97 = .ok (.ifCond .ne 6, 3) := by decide +kernel
theorem dX0_telling_100 : decode cX0_telling 100 = .ok (.iload 4, 2) := by decide +kernel
theorem dX0_telling_102 : decode cX0_telling 102 = .ok (.ireturn, 1) := by decide +kernel
theorem dX0_telling_103 : decode cX0_telling 103 = .ok (.iload_n 2, 1) := by decide +kernel
theorem dX0_telling_104 : decode cX0_telling 104 = .ok (.iconst 1, 1) := by decide +kernel
theorem dX0_telling_105 : decode cX0_telling 105 = .ok (.if_icmp .ne 8, 3) := by decide +kernel
theorem dX0_telling_108 : decode cX0_telling 108 = .ok (.iload 5, 2) := by decide +kernel
theorem dX0_telling_110 : decode cX0_telling 110 = .ok (.goto 5, 3) := by decide +kernel
theorem dX0_telling_113 : decode cX0_telling 113 = .ok (.iload 6, 2) := by decide +kernel
theorem dX0_telling_115 : decode cX0_telling 115 = .ok (.ireturn, 1) := by decide +kernel
theorem dX11_tells_0 : decode cX11_tells 0 = .ok (.aload_n 0, 1) := by decide +kernel
theorem dX11_tells_1 : decode cX11_tells 1 = .ok (.iload_n 1, 1) := by decide +kernel
theorem dX11_tells_2 : decode cX11_tells 2 = .ok (.invokevirtual 149, 3) := by decide +kernel
theorem dX11_tells_5 : decode cX11_tells 5 = .ok (.ifCond .eq 12, 3) := by decide +kernel
theorem dX11_tells_8 : decode cX11_tells 8 = .ok (.iload_n 2, 1) := by decide +kernel
theorem dX11_tells_9 : decode cX11_tells 9 = .ok (.ifCond .lt 8, 3) := by decide +kernel
theorem dX11_tells_12 : decode cX11_tells 12 = .ok (.iload_n 2, 1) := by decide +kernel
theorem dX11_tells_13 : decode cX11_tells 13 = .ok (.iconst 2, 1) := by decide +kernel
theorem dX11_tells_14 : decode cX11_tells 14 = .ok (.if_icmp .le 5, 3) := by decide +kernel
theorem dX11_tells_17 : decode cX11_tells 17 = .ok (.iconst (-1), 1) := by decide +kernel
theorem dX11_tells_18 : decode cX11_tells 18 = .ok (.ireturn, 1) := by decide +kernel
theorem dX11_tells_19 : decode cX11_tells 19 = .ok (.aload_n 0, 1) := by decide +kernel
theorem dX11_tells_20 : decode cX11_tells 20 = .ok (.getfield 63, 3) := by decide +kernel
theorem dX11_tells_23 : decode cX11_tells 23 = .ok (.aload_n 0, 1) := by decide +kernel
theorem dX11_tells_24 : decode cX11_tells 24 = .ok (.getfield 63, 3) := by decide +kernel
theorem dX11_tells_27 : decode cX11_tells 27 = .ok (.iload_n 1, 1) := by decide +kernel
theorem dX11_tells_28 : decode cX11_tells 28 = .ok (.invokevirtual 264, 3) := by decide +kernel
theorem dX11_tells_31 : decode cX11_tells 31 = .ok (.iload_n 2, 1) := by decide +kernel
theorem dX11_tells_32 : decode cX11_tells 32 = .ok (.invokevirtual 267, 3) := by decide +kernel
theorem dX11_tells_35 : decode cX11_tells 35 = .ok (.ireturn, 1) := by decide +kernel
theorem dX2_keep_0 : decode cX2_keep 0 = .ok (.aload_n 0, 1) := by decide +kernel
theorem dX2_keep_1 : decode cX2_keep 1 = .ok (.getfield 22, 3) := by decide +kernel
theorem dX2_keep_4 : decode cX2_keep 4 = .ok (.ifCond .lt 24, 3) := by decide +kernel
theorem dX2_keep_7 : decode cX2_keep 7 = .ok (.aload_n 0, 1) := by decide +kernel
theorem dX2_keep_8 : decode cX2_keep 8 = .ok (.getfield 22, 3) := by decide +kernel
theorem dX2_keep_11 : decode cX2_keep 11 = .ok (.bipush 20, 2) := by decide +kernel
theorem dX2_keep_13 : decode cX2_keep 13 = .ok (.if_icmp .ge 15, 3) := by decide +kernel
theorem dX2_keep_16 : decode cX2_keep 16 = .ok (.aload_n 0, 1) := by decide +kernel
theorem dX2_keep_17 : decode cX2_keep 17 = .ok (.getfield 11, 3) := by decide +kernel
theorem dX2_keep_20 : decode cX2_keep 20 = .ok (.aload_n 0, 1) := by decide +kernel
theorem dX2_keep_21 : decode cX2_keep 21 = .ok (.getfield 22, 3) := by decide +kernel
theorem dX2_keep_24 : decode cX2_keep 24 = .ok (.aaload, 1) := by decide +kernel
theorem dX2_keep_25 : decode cX2_keep 25 = .ok (.ifnonnull 4, 3) := by decide +kernel
theorem dX2_keep_28 : decode cX2_keep 28 = .ok (.return_, 1) := by decide +kernel
theorem dX2_keep_29 : decode cX2_keep 29 = .ok (.aload_n 0, 1) := by decide +kernel
theorem dX2_keep_30 : decode cX2_keep 30 = .ok (.getfield 11, 3) := by decide +kernel
theorem dX2_keep_33 : decode cX2_keep 33 = .ok (.aload_n 0, 1) := by decide +kernel
theorem dX2_keep_34 : decode cX2_keep 34 = .ok (.getfield 22, 3) := by decide +kernel
theorem dX2_keep_37 : decode cX2_keep 37 = .ok (.aaload, 1) := by decide +kernel
theorem dX2_keep_38 : decode cX2_keep 38 = .ok (.aload_n 1, 1) := by decide +kernel
theorem dX2_keep_39 : decode cX2_keep 39 = .ok (.invokevirtual 25, 3) := by decide +kernel
theorem dX2_keep_42 : decode cX2_keep 42 = .ok (.aload_n 0, 1) := by decide +kernel
theorem dX2_keep_43 : decode cX2_keep 43 = .ok (.aload_n 0, 1) := by decide +kernel
theorem dX2_keep_44 : decode cX2_keep 44 = .ok (.getfield 22, 3) := by decide +kernel
theorem dX2_keep_47 : decode cX2_keep 47 = .ok (.iconst 1, 1) := by decide +kernel
theorem dX2_keep_48 : decode cX2_keep 48 = .ok (.iadd, 1) := by decide +kernel
theorem dX2_keep_49 : decode cX2_keep 49 = .ok (.bipush 20, 2) := by decide +kernel
theorem dX2_keep_51 : decode cX2_keep 51 = .ok (.if_icmp .ge 12, 3) := by decide +kernel
theorem dX2_keep_54 : decode cX2_keep 54 = .ok (.aload_n 0, 1) := by decide +kernel
theorem dX2_keep_55 : decode cX2_keep 55 = .ok (.getfield 22, 3) := by decide +kernel
theorem dX2_keep_58 : decode cX2_keep 58 = .ok (.iconst 1, 1) := by decide +kernel
theorem dX2_keep_59 : decode cX2_keep 59 = .ok (.iadd, 1) := by decide +kernel
theorem dX2_keep_60 : decode cX2_keep 60 = .ok (.goto 4, 3) := by decide +kernel
theorem dX2_keep_63 : decode cX2_keep 63 = .ok (.iconst 0, 1) := by decide +kernel
theorem dX2_keep_64 : decode cX2_keep 64 = .ok (.putfield 22, 3) := by decide +kernel
theorem dX2_keep_67 : decode cX2_keep 67 = .ok (.aload_n 0, 1) := by decide +kernel
theorem dX2_keep_68 : decode cX2_keep 68 = .ok (.bipush 20, 2) := by decide +kernel
theorem dX2_keep_70 : decode cX2_keep 70 = .ok (.aload_n 0, 1) := by decide +kernel
theorem dX2_keep_71 : decode cX2_keep 71 = .ok (.getfield 18, 3) := by decide +kernel
theorem dX2_keep_74 : decode cX2_keep 74 = .ok (.iconst 1, 1) := by decide +kernel
theorem dX2_keep_75 : decode cX2_keep 75 = .ok (.iadd, 1) := by decide +kernel
theorem dX2_keep_76 : decode cX2_keep 76 = .ok (.invokestatic 29, 3) := by decide +kernel
theorem dX2_keep_79 : decode cX2_keep 79 = .ok (.putfield 18, 3) := by decide +kernel
theorem dX2_keep_82 : decode cX2_keep 82 = .ok (.return_, 1) := by decide +kernel
theorem dX11_minutes_0 : decode cX11_minutes 0 = .ok (.aload_n 0, 1) := by decide +kernel
theorem dX11_minutes_1 : decode cX11_minutes 1 = .ok (.iload_n 1, 1) := by decide +kernel
theorem dX11_minutes_2 : decode cX11_minutes 2 = .ok (.iconst 1, 1) := by decide +kernel
theorem dX11_minutes_3 : decode cX11_minutes 3 = .ok (.bipush 60, 2) := by decide +kernel
theorem dX11_minutes_5 : decode cX11_minutes 5 = .ok (.invokevirtual 221, 3) := by decide +kernel
theorem dX11_minutes_8 : decode cX11_minutes 8 = .ok (.ifCond .ne 9, 3) := by decide +kernel
theorem dX11_minutes_11 : decode cX11_minutes 11 = .ok (.aload_n 0, 1) := by decide +kernel
theorem dX11_minutes_12 : decode cX11_minutes 12 = .ok (.iconst 2, 1) := by decide +kernel
theorem dX11_minutes_13 : decode cX11_minutes 13 = .ok (.invokevirtual 85, 3) := by decide +kernel
theorem dX11_minutes_16 : decode cX11_minutes 16 = .ok (.ireturn, 1) := by decide +kernel
theorem dX11_minutes_17 : decode cX11_minutes 17 = .ok (.aload_n 0, 1) := by decide +kernel
theorem dX11_minutes_18 : decode cX11_minutes 18 = .ok (.getfield 45, 3) := by decide +kernel
theorem dX11_minutes_21 : decode cX11_minutes 21 = .ok (.aload_n 0, 1) := by decide +kernel
theorem dX11_minutes_22 : decode cX11_minutes 22 = .ok (.getfield 35, 3) := by decide +kernel
theorem dX11_minutes_25 : decode cX11_minutes 25 = .ok (.invokevirtual 270, 3) := by decide +kernel
theorem dX11_minutes_28 : decode cX11_minutes 28 = .ok (.aload_n 0, 1) := by decide +kernel
theorem dX11_minutes_29 : decode cX11_minutes 29 = .ok (.getfield 35, 3) := by decide +kernel
theorem dX11_minutes_32 : decode cX11_minutes 32 = .ok (.iload_n 1, 1) := by decide +kernel
theorem dX11_minutes_33 : decode cX11_minutes 33 = .ok (.invokevirtual 229, 3) := by decide +kernel
theorem dX11_minutes_36 : decode cX11_minutes 36 = .ok (.ireturn, 1) := by decide +kernel
theorem dX11_draw_0 : decode cX11_draw 0 = .ok (.aload_n 0, 1) := by decide +kernel
theorem dX11_draw_1 : decode cX11_draw 1 = .ok (.ldc2_w 308, 3) := by decide +kernel
theorem dX11_draw_4 : decode cX11_draw 4 = .ok (.aload_n 0, 1) := by decide +kernel
theorem dX11_draw_5 : decode cX11_draw 5 = .ok (.getfield 78, 3) := by decide +kernel
theorem dX11_draw_8 : decode cX11_draw 8 = .ok (.i2l, 1) := by decide +kernel
theorem dX11_draw_9 : decode cX11_draw 9 = .ok (.lmul, 1) := by decide +kernel
theorem dX11_draw_10 : decode cX11_draw 10 = .ok (.ldc2_w 310, 3) := by decide +kernel
theorem dX11_draw_13 : decode cX11_draw 13 = .ok (.ladd, 1) := by decide +kernel
theorem dX11_draw_14 : decode cX11_draw 14 = .ok (.ldc2_w 312, 3) := by decide +kernel
theorem dX11_draw_17 : decode cX11_draw 17 = .ok (.land, 1) := by decide +kernel
theorem dX11_draw_18 : decode cX11_draw 18 = .ok (.l2i, 1) := by decide +kernel
theorem dX11_draw_19 : decode cX11_draw 19 = .ok (.putfield 78, 3) := by decide +kernel
theorem dX11_draw_22 : decode cX11_draw 22 = .ok (.iload_n 1, 1) := by decide +kernel
theorem dX11_draw_23 : decode cX11_draw 23 = .ok (.ifCond .le 15, 3) := by decide +kernel
theorem dX11_draw_26 : decode cX11_draw 26 = .ok (.aload_n 0, 1) := by decide +kernel
theorem dX11_draw_27 : decode cX11_draw 27 = .ok (.getfield 78, 3) := by decide +kernel
theorem dX11_draw_30 : decode cX11_draw 30 = .ok (.bipush 6, 2) := by decide +kernel
theorem dX11_draw_32 : decode cX11_draw 32 = .ok (.ishr, 1) := by decide +kernel
theorem dX11_draw_33 : decode cX11_draw 33 = .ok (.iload_n 1, 1) := by decide +kernel
theorem dX11_draw_34 : decode cX11_draw 34 = .ok (.irem, 1) := by decide +kernel
theorem dX11_draw_35 : decode cX11_draw 35 = .ok (.goto 4, 3) := by decide +kernel
theorem dX11_draw_38 : decode cX11_draw 38 = .ok (.iconst 0, 1) := by decide +kernel
theorem dX11_draw_39 : decode cX11_draw 39 = .ok (.ireturn, 1) := by decide +kernel
theorem dX11_strokeByDraw_0 : decode cX11_strokeByDraw 0 = .ok (.aload_n 0, 1) := by decide +kernel
theorem dX11_strokeByDraw_1 : decode cX11_strokeByDraw 1 = .ok (.bipush 100, 2) := by decide +kernel
theorem dX11_strokeByDraw_3 : decode cX11_strokeByDraw 3 = .ok (.invokevirtual 314, 3) := by decide +kernel
theorem dX11_strokeByDraw_6 : decode cX11_strokeByDraw 6 = .ok (.aload_n 0, 1) := by decide +kernel
theorem dX11_strokeByDraw_7 : decode cX11_strokeByDraw 7 = .ok (.getfield 26, 3) := by decide +kernel
theorem dX11_strokeByDraw_10 : decode cX11_strokeByDraw 10 = .ok (.getfield 258, 3) := by decide +kernel
theorem dX11_strokeByDraw_13 : decode cX11_strokeByDraw 13 = .ok (.if_icmp .ge 13, 3) := by decide +kernel
theorem dX11_strokeByDraw_16 : decode cX11_strokeByDraw 16 = .ok (.aload_n 0, 1) := by decide +kernel
theorem dX11_strokeByDraw_17 : decode cX11_strokeByDraw 17 = .ok (.getfield 26, 3) := by decide +kernel
theorem dX11_strokeByDraw_20 : decode cX11_strokeByDraw 20 = .ok (.getfield 120, 3) := by decide +kernel
theorem dX11_strokeByDraw_23 : decode cX11_strokeByDraw 23 = .ok (.ifCond .ne 5, 3) := by decide +kernel
theorem dX11_strokeByDraw_26 : decode cX11_strokeByDraw 26 = .ok (.iconst 0, 1) := by decide +kernel
theorem dX11_strokeByDraw_27 : decode cX11_strokeByDraw 27 = .ok (.ireturn, 1) := by decide +kernel
theorem dX11_strokeByDraw_28 : decode cX11_strokeByDraw 28 = .ok (.aload_n 0, 1) := by decide +kernel
theorem dX11_strokeByDraw_29 : decode cX11_strokeByDraw 29 = .ok (.aload_n 0, 1) := by decide +kernel
theorem dX11_strokeByDraw_30 : decode cX11_strokeByDraw 30 = .ok (.getfield 26, 3) := by decide +kernel
theorem dX11_strokeByDraw_33 : decode cX11_strokeByDraw 33 = .ok (.getfield 120, 3) := by decide +kernel
theorem dX11_strokeByDraw_36 : decode cX11_strokeByDraw 36 = .ok (.invokevirtual 314, 3) := by decide +kernel
theorem dX11_strokeByDraw_39 : decode cX11_strokeByDraw 39 = .ok (.istore_n 1, 1) := by decide +kernel
theorem dX11_strokeByDraw_40 : decode cX11_strokeByDraw 40 = .ok (.aload_n 0, 1) := by decide +kernel
theorem dX11_strokeByDraw_41 : decode cX11_strokeByDraw 41 = .ok (.iload_n 1, 1) := by decide +kernel
theorem dX11_strokeByDraw_42 : decode cX11_strokeByDraw 42 = .ok (.invokevirtual 149, 3) := by decide +kernel
theorem dX11_strokeByDraw_45 : decode cX11_strokeByDraw 45 = .ok (.ifCond .eq 15, 3) := by decide +kernel
theorem dX11_strokeByDraw_48 : decode cX11_strokeByDraw 48 = .ok (.aload_n 0, 1) := by decide +kernel
theorem dX11_strokeByDraw_49 : decode cX11_strokeByDraw 49 = .ok (.getfield 35, 3) := by decide +kernel
theorem dX11_strokeByDraw_52 : decode cX11_strokeByDraw 52 = .ok (.getfield 170, 3) := by decide +kernel
theorem dX11_strokeByDraw_55 : decode cX11_strokeByDraw 55 = .ok (.iload_n 1, 1) := by decide +kernel
theorem dX11_strokeByDraw_56 : decode cX11_strokeByDraw 56 = .ok (.iaload, 1) := by decide +kernel
theorem dX11_strokeByDraw_57 : decode cX11_strokeByDraw 57 = .ok (.ifCond .eq 5, 3) := by decide +kernel
theorem dX11_strokeByDraw_60 : decode cX11_strokeByDraw 60 = .ok (.iconst 0, 1) := by decide +kernel
theorem dX11_strokeByDraw_61 : decode cX11_strokeByDraw 61 = .ok (.ireturn, 1) := by decide +kernel
theorem dX11_strokeByDraw_62 : decode cX11_strokeByDraw 62 = .ok (.aload_n 0, 1) := by decide +kernel
theorem dX11_strokeByDraw_63 : decode cX11_strokeByDraw 63 = .ok (.getfield 35, 3) := by decide +kernel
theorem dX11_strokeByDraw_66 : decode cX11_strokeByDraw 66 = .ok (.iload_n 1, 1) := by decide +kernel
theorem dX11_strokeByDraw_67 : decode cX11_strokeByDraw 67 = .ok (.invokevirtual 252, 3) := by decide +kernel
theorem dX11_strokeByDraw_70 : decode cX11_strokeByDraw 70 = .ok (.iconst 1, 1) := by decide +kernel
theorem dX11_strokeByDraw_71 : decode cX11_strokeByDraw 71 = .ok (.ireturn, 1) := by decide +kernel
theorem dX11_chance_0 : decode cX11_chance 0 = .ok (.aload_n 0, 1) := by decide +kernel
theorem dX11_chance_1 : decode cX11_chance 1 = .ok (.iload_n 1, 1) := by decide +kernel
theorem dX11_chance_2 : decode cX11_chance 2 = .ok (.iconst 1, 1) := by decide +kernel
theorem dX11_chance_3 : decode cX11_chance 3 = .ok (.bipush 60, 2) := by decide +kernel
theorem dX11_chance_5 : decode cX11_chance 5 = .ok (.invokevirtual 221, 3) := by decide +kernel
theorem dX11_chance_8 : decode cX11_chance 8 = .ok (.ifCond .ne 9, 3) := by decide +kernel
theorem dX11_chance_11 : decode cX11_chance 11 = .ok (.aload_n 0, 1) := by decide +kernel
theorem dX11_chance_12 : decode cX11_chance 12 = .ok (.iconst 2, 1) := by decide +kernel
theorem dX11_chance_13 : decode cX11_chance 13 = .ok (.invokevirtual 85, 3) := by decide +kernel
theorem dX11_chance_16 : decode cX11_chance 16 = .ok (.ireturn, 1) := by decide +kernel
theorem dX11_chance_17 : decode cX11_chance 17 = .ok (.aload_n 0, 1) := by decide +kernel
theorem dX11_chance_18 : decode cX11_chance 18 = .ok (.getfield 45, 3) := by decide +kernel
theorem dX11_chance_21 : decode cX11_chance 21 = .ok (.aload_n 0, 1) := by decide +kernel
theorem dX11_chance_22 : decode cX11_chance 22 = .ok (.getfield 35, 3) := by decide +kernel
theorem dX11_chance_25 : decode cX11_chance 25 = .ok (.invokevirtual 270, 3) := by decide +kernel
theorem dX11_chance_28 : decode cX11_chance 28 = .ok (.iconst 0, 1) := by decide +kernel
theorem dX11_chance_29 : decode cX11_chance 29 = .ok (.istore_n 2, 1) := by decide +kernel
theorem dX11_chance_30 : decode cX11_chance 30 = .ok (.iconst 0, 1) := by decide +kernel
theorem dX11_chance_31 : decode cX11_chance 31 = .ok (.istore_n 3, 1) := by decide +kernel
theorem dX11_chance_32 : decode cX11_chance 32 = .ok (.iload_n 3, 1) := by decide +kernel
theorem dX11_chance_33 : decode cX11_chance 33 = .ok (.iload_n 1, 1) := by decide +kernel
theorem dX11_chance_34 : decode cX11_chance 34 = .ok (.if_icmp .ge 25, 3) := by decide +kernel
theorem dX11_chance_37 : decode cX11_chance 37 = .ok (.iload_n 2, 1) := by decide +kernel
theorem dX11_chance_38 : decode cX11_chance 38 = .ok (.aload_n 0, 1) := by decide +kernel
theorem dX11_chance_39 : decode cX11_chance 39 = .ok (.invokevirtual 274, 3) := by decide +kernel
theorem dX11_chance_42 : decode cX11_chance 42 = .ok (.iadd, 1) := by decide +kernel
theorem dX11_chance_43 : decode cX11_chance 43 = .ok (.istore_n 2, 1) := by decide +kernel
theorem dX11_chance_44 : decode cX11_chance 44 = .ok (.aload_n 0, 1) := by decide +kernel
theorem dX11_chance_45 : decode cX11_chance 45 = .ok (.getfield 35, 3) := by decide +kernel
theorem dX11_chance_48 : decode cX11_chance 48 = .ok (.iconst 1, 1) := by decide +kernel
theorem dX11_chance_49 : decode cX11_chance 49 = .ok (.invokevirtual 229, 3) := by decide +kernel
theorem dX11_chance_52 : decode cX11_chance 52 = .ok (.pop, 1) := by decide +kernel
theorem dX11_chance_53 : decode cX11_chance 53 = .ok (.iinc 3 1, 3) := by decide +kernel
theorem dX11_chance_56 : decode cX11_chance 56 = .ok (.goto (-24), 3) := by decide +kernel
theorem dX11_chance_59 : decode cX11_chance 59 = .ok (.iload_n 2, 1) := by decide +kernel
theorem dX11_chance_60 : decode cX11_chance 60 = .ok (.ireturn, 1) := by decide +kernel
theorem dX11_strike_0 : decode cX11_strike 0 = .ok (.aload_n 0, 1) := by decide +kernel
theorem dX11_strike_1 : decode cX11_strike 1 = .ok (.iload_n 1, 1) := by decide +kernel
theorem dX11_strike_2 : decode cX11_strike 2 = .ok (.invokevirtual 149, 3) := by decide +kernel
theorem dX11_strike_5 : decode cX11_strike 5 = .ok (.ifCond .eq 15, 3) := by decide +kernel
theorem dX11_strike_8 : decode cX11_strike 8 = .ok (.aload_n 0, 1) := by decide +kernel
theorem dX11_strike_9 : decode cX11_strike 9 = .ok (.getfield 35, 3) := by decide +kernel
theorem dX11_strike_12 : decode cX11_strike 12 = .ok (.getfield 170, 3) := by decide +kernel
theorem dX11_strike_15 : decode cX11_strike 15 = .ok (.iload_n 1, 1) := by decide +kernel
theorem dX11_strike_16 : decode cX11_strike 16 = .ok (.iaload, 1) := by decide +kernel
theorem dX11_strike_17 : decode cX11_strike 17 = .ok (.ifCond .eq 9, 3) := by decide +kernel
theorem dX11_strike_20 : decode cX11_strike 20 = .ok (.aload_n 0, 1) := by decide +kernel
theorem dX11_strike_21 : decode cX11_strike 21 = .ok (.iconst 3, 1) := by decide +kernel
theorem dX11_strike_22 : decode cX11_strike 22 = .ok (.invokevirtual 93, 3) := by decide +kernel
theorem dX11_strike_25 : decode cX11_strike 25 = .ok (.ireturn, 1) := by decide +kernel
theorem dX11_strike_26 : decode cX11_strike 26 = .ok (.aload_n 0, 1) := by decide +kernel
theorem dX11_strike_27 : decode cX11_strike 27 = .ok (.getfield 45, 3) := by decide +kernel
theorem dX11_strike_30 : decode cX11_strike 30 = .ok (.aload_n 0, 1) := by decide +kernel
theorem dX11_strike_31 : decode cX11_strike 31 = .ok (.getfield 35, 3) := by decide +kernel
theorem dX11_strike_34 : decode cX11_strike 34 = .ok (.invokevirtual 270, 3) := by decide +kernel
theorem dX11_strike_37 : decode cX11_strike 37 = .ok (.aload_n 0, 1) := by decide +kernel
theorem dX11_strike_38 : decode cX11_strike 38 = .ok (.getfield 35, 3) := by decide +kernel
theorem dX11_strike_41 : decode cX11_strike 41 = .ok (.iload_n 1, 1) := by decide +kernel
theorem dX11_strike_42 : decode cX11_strike 42 = .ok (.invokevirtual 252, 3) := by decide +kernel
theorem dX11_strike_45 : decode cX11_strike 45 = .ok (.iconst 1, 1) := by decide +kernel
theorem dX11_strike_46 : decode cX11_strike 46 = .ok (.ireturn, 1) := by decide +kernel
theorem dX11_heal_0 : decode cX11_heal 0 = .ok (.aload_n 0, 1) := by decide +kernel
theorem dX11_heal_1 : decode cX11_heal 1 = .ok (.iload_n 1, 1) := by decide +kernel
theorem dX11_heal_2 : decode cX11_heal 2 = .ok (.invokevirtual 149, 3) := by decide +kernel
theorem dX11_heal_5 : decode cX11_heal 5 = .ok (.ifCond .eq 15, 3) := by decide +kernel
theorem dX11_heal_8 : decode cX11_heal 8 = .ok (.aload_n 0, 1) := by decide +kernel
theorem dX11_heal_9 : decode cX11_heal 9 = .ok (.getfield 35, 3) := by decide +kernel
theorem dX11_heal_12 : decode cX11_heal 12 = .ok (.getfield 170, 3) := by decide +kernel
theorem dX11_heal_15 : decode cX11_heal 15 = .ok (.iload_n 1, 1) := by decide +kernel
theorem dX11_heal_16 : decode cX11_heal 16 = .ok (.iaload, 1) := by decide +kernel
theorem dX11_heal_17 : decode cX11_heal 17 = .ok (.ifCond .ne 9, 3) := by decide +kernel
theorem dX11_heal_20 : decode cX11_heal 20 = .ok (.aload_n 0, 1) := by decide +kernel
theorem dX11_heal_21 : decode cX11_heal 21 = .ok (.iconst 3, 1) := by decide +kernel
theorem dX11_heal_22 : decode cX11_heal 22 = .ok (.invokevirtual 93, 3) := by decide +kernel
theorem dX11_heal_25 : decode cX11_heal 25 = .ok (.ireturn, 1) := by decide +kernel
theorem dX11_heal_26 : decode cX11_heal 26 = .ok (.aload_n 0, 1) := by decide +kernel
theorem dX11_heal_27 : decode cX11_heal 27 = .ok (.getfield 45, 3) := by decide +kernel
theorem dX11_heal_30 : decode cX11_heal 30 = .ok (.aload_n 0, 1) := by decide +kernel
theorem dX11_heal_31 : decode cX11_heal 31 = .ok (.getfield 35, 3) := by decide +kernel
theorem dX11_heal_34 : decode cX11_heal 34 = .ok (.invokevirtual 270, 3) := by decide +kernel
theorem dX11_heal_37 : decode cX11_heal 37 = .ok (.aload_n 0, 1) := by decide +kernel
theorem dX11_heal_38 : decode cX11_heal 38 = .ok (.getfield 35, 3) := by decide +kernel
theorem dX11_heal_41 : decode cX11_heal 41 = .ok (.getfield 170, 3) := by decide +kernel
theorem dX11_heal_44 : decode cX11_heal 44 = .ok (.iload_n 1, 1) := by decide +kernel
theorem dX11_heal_45 : decode cX11_heal 45 = .ok (.iconst 0, 1) := by decide +kernel
theorem dX11_heal_46 : decode cX11_heal 46 = .ok (.iastore, 1) := by decide +kernel
theorem dX11_heal_47 : decode cX11_heal 47 = .ok (.iconst 1, 1) := by decide +kernel
theorem dX11_heal_48 : decode cX11_heal 48 = .ok (.ireturn, 1) := by decide +kernel
theorem dX11_train_0 : decode cX11_train 0 = .ok (.aload_n 0, 1) := by decide +kernel
theorem dX11_train_1 : decode cX11_train 1 = .ok (.iload_n 1, 1) := by decide +kernel
theorem dX11_train_2 : decode cX11_train 2 = .ok (.invokevirtual 149, 3) := by decide +kernel
theorem dX11_train_5 : decode cX11_train 5 = .ok (.ifCond .eq 13, 3) := by decide +kernel
theorem dX11_train_8 : decode cX11_train 8 = .ok (.iload_n 2, 1) := by decide +kernel
theorem dX11_train_9 : decode cX11_train 9 = .ok (.ifCond .lt 9, 3) := by decide +kernel
theorem dX11_train_12 : decode cX11_train 12 = .ok (.iload_n 2, 1) := by decide +kernel
theorem dX11_train_13 : decode cX11_train 13 = .ok (.bipush 10, 2) := by decide +kernel
theorem dX11_train_15 : decode cX11_train 15 = .ok (.if_icmp .lt 9, 3) := by decide +kernel
theorem dX11_train_18 : decode cX11_train 18 = .ok (.aload_n 0, 1) := by decide +kernel
theorem dX11_train_19 : decode cX11_train 19 = .ok (.iconst 3, 1) := by decide +kernel
theorem dX11_train_20 : decode cX11_train 20 = .ok (.invokevirtual 93, 3) := by decide +kernel
theorem dX11_train_23 : decode cX11_train 23 = .ok (.ireturn, 1) := by decide +kernel
theorem dX11_train_24 : decode cX11_train 24 = .ok (.aload_n 0, 1) := by decide +kernel
theorem dX11_train_25 : decode cX11_train 25 = .ok (.getfield 35, 3) := by decide +kernel
theorem dX11_train_28 : decode cX11_train 28 = .ok (.getfield 167, 3) := by decide +kernel
theorem dX11_train_31 : decode cX11_train 31 = .ok (.iload_n 1, 1) := by decide +kernel
theorem dX11_train_32 : decode cX11_train 32 = .ok (.iaload, 1) := by decide +kernel
theorem dX11_train_33 : decode cX11_train 33 = .ok (.iload_n 2, 1) := by decide +kernel
theorem dX11_train_34 : decode cX11_train 34 = .ok (.if_icmp .ne 9, 3) := by decide +kernel
theorem dX11_train_37 : decode cX11_train 37 = .ok (.aload_n 0, 1) := by decide +kernel
theorem dX11_train_38 : decode cX11_train 38 = .ok (.iconst 3, 1) := by decide +kernel
theorem dX11_train_39 : decode cX11_train 39 = .ok (.invokevirtual 93, 3) := by decide +kernel
theorem dX11_train_42 : decode cX11_train 42 = .ok (.ireturn, 1) := by decide +kernel
theorem dX11_train_43 : decode cX11_train 43 = .ok (.aload_n 0, 1) := by decide +kernel
theorem dX11_train_44 : decode cX11_train 44 = .ok (.getfield 45, 3) := by decide +kernel
theorem dX11_train_47 : decode cX11_train 47 = .ok (.aload_n 0, 1) := by decide +kernel
theorem dX11_train_48 : decode cX11_train 48 = .ok (.getfield 35, 3) := by decide +kernel
theorem dX11_train_51 : decode cX11_train 51 = .ok (.invokevirtual 270, 3) := by decide +kernel
theorem dX11_train_54 : decode cX11_train 54 = .ok (.aload_n 0, 1) := by decide +kernel
theorem dX11_train_55 : decode cX11_train 55 = .ok (.getfield 35, 3) := by decide +kernel
theorem dX11_train_58 : decode cX11_train 58 = .ok (.getfield 167, 3) := by decide +kernel
theorem dX11_train_61 : decode cX11_train 61 = .ok (.iload_n 1, 1) := by decide +kernel
theorem dX11_train_62 : decode cX11_train 62 = .ok (.iload_n 2, 1) := by decide +kernel
theorem dX11_train_63 : decode cX11_train 63 = .ok (.iastore, 1) := by decide +kernel
theorem dX11_train_64 : decode cX11_train 64 = .ok (.iconst 1, 1) := by decide +kernel
theorem dX11_train_65 : decode cX11_train 65 = .ok (.ireturn, 1) := by decide +kernel
theorem dX11_delay_0 : decode cX11_delay 0 = .ok (.aload_n 0, 1) := by decide +kernel
theorem dX11_delay_1 : decode cX11_delay 1 = .ok (.iload_n 1, 1) := by decide +kernel
theorem dX11_delay_2 : decode cX11_delay 2 = .ok (.invokevirtual 189, 3) := by decide +kernel
theorem dX11_delay_5 : decode cX11_delay 5 = .ok (.ifCond .eq 15, 3) := by decide +kernel
theorem dX11_delay_8 : decode cX11_delay 8 = .ok (.aload_n 0, 1) := by decide +kernel
theorem dX11_delay_9 : decode cX11_delay 9 = .ok (.getfield 35, 3) := by decide +kernel
theorem dX11_delay_12 : decode cX11_delay 12 = .ok (.getfield 201, 3) := by decide +kernel
theorem dX11_delay_15 : decode cX11_delay 15 = .ok (.iload_n 1, 1) := by decide +kernel
theorem dX11_delay_16 : decode cX11_delay 16 = .ok (.iaload, 1) := by decide +kernel
theorem dX11_delay_17 : decode cX11_delay 17 = .ok (.ifCond .eq 9, 3) := by decide +kernel
theorem dX11_delay_20 : decode cX11_delay 20 = .ok (.aload_n 0, 1) := by decide +kernel
theorem dX11_delay_21 : decode cX11_delay 21 = .ok (.iconst 3, 1) := by decide +kernel
theorem dX11_delay_22 : decode cX11_delay 22 = .ok (.invokevirtual 93, 3) := by decide +kernel
theorem dX11_delay_25 : decode cX11_delay 25 = .ok (.ireturn, 1) := by decide +kernel
theorem dX11_delay_26 : decode cX11_delay 26 = .ok (.iload_n 2, 1) := by decide +kernel
theorem dX11_delay_27 : decode cX11_delay 27 = .ok (.aload_n 0, 1) := by decide +kernel
theorem dX11_delay_28 : decode cX11_delay 28 = .ok (.getfield 35, 3) := by decide +kernel
theorem dX11_delay_31 : decode cX11_delay 31 = .ok (.getfield 129, 3) := by decide +kernel
theorem dX11_delay_34 : decode cX11_delay 34 = .ok (.if_icmp .lt 10, 3) := by decide +kernel
theorem dX11_delay_37 : decode cX11_delay 37 = .ok (.iload_n 2, 1) := by decide +kernel
theorem dX11_delay_38 : decode cX11_delay 38 = .ok (.sipush 999, 3) := by decide +kernel
theorem dX11_delay_41 : decode cX11_delay 41 = .ok (.if_icmp .le 9, 3) := by decide +kernel
theorem dX11_delay_44 : decode cX11_delay 44 = .ok (.aload_n 0, 1) := by decide +kernel
theorem dX11_delay_45 : decode cX11_delay 45 = .ok (.iconst 3, 1) := by decide +kernel
theorem dX11_delay_46 : decode cX11_delay 46 = .ok (.invokevirtual 93, 3) := by decide +kernel
theorem dX11_delay_49 : decode cX11_delay 49 = .ok (.ireturn, 1) := by decide +kernel
theorem dX11_delay_50 : decode cX11_delay 50 = .ok (.aload_n 0, 1) := by decide +kernel
theorem dX11_delay_51 : decode cX11_delay 51 = .ok (.getfield 35, 3) := by decide +kernel
theorem dX11_delay_54 : decode cX11_delay 54 = .ok (.getfield 195, 3) := by decide +kernel
theorem dX11_delay_57 : decode cX11_delay 57 = .ok (.iload_n 1, 1) := by decide +kernel
theorem dX11_delay_58 : decode cX11_delay 58 = .ok (.iaload, 1) := by decide +kernel
theorem dX11_delay_59 : decode cX11_delay 59 = .ok (.iload_n 2, 1) := by decide +kernel
theorem dX11_delay_60 : decode cX11_delay 60 = .ok (.if_icmp .ne 9, 3) := by decide +kernel
theorem dX11_delay_63 : decode cX11_delay 63 = .ok (.aload_n 0, 1) := by decide +kernel
theorem dX11_delay_64 : decode cX11_delay 64 = .ok (.iconst 3, 1) := by decide +kernel
theorem dX11_delay_65 : decode cX11_delay 65 = .ok (.invokevirtual 93, 3) := by decide +kernel
theorem dX11_delay_68 : decode cX11_delay 68 = .ok (.ireturn, 1) := by decide +kernel
theorem dX11_delay_69 : decode cX11_delay 69 = .ok (.aload_n 0, 1) := by decide +kernel
theorem dX11_delay_70 : decode cX11_delay 70 = .ok (.getfield 45, 3) := by decide +kernel
theorem dX11_delay_73 : decode cX11_delay 73 = .ok (.aload_n 0, 1) := by decide +kernel
theorem dX11_delay_74 : decode cX11_delay 74 = .ok (.getfield 35, 3) := by decide +kernel
theorem dX11_delay_77 : decode cX11_delay 77 = .ok (.invokevirtual 270, 3) := by decide +kernel
theorem dX11_delay_80 : decode cX11_delay 80 = .ok (.aload_n 0, 1) := by decide +kernel
theorem dX11_delay_81 : decode cX11_delay 81 = .ok (.getfield 35, 3) := by decide +kernel
theorem dX11_delay_84 : decode cX11_delay 84 = .ok (.getfield 195, 3) := by decide +kernel
theorem dX11_delay_87 : decode cX11_delay 87 = .ok (.iload_n 1, 1) := by decide +kernel
theorem dX11_delay_88 : decode cX11_delay 88 = .ok (.iload_n 2, 1) := by decide +kernel
theorem dX11_delay_89 : decode cX11_delay 89 = .ok (.iastore, 1) := by decide +kernel
theorem dX11_delay_90 : decode cX11_delay 90 = .ok (.iconst 1, 1) := by decide +kernel
theorem dX11_delay_91 : decode cX11_delay 91 = .ok (.ireturn, 1) := by decide +kernel
theorem dX2_giveBack_0 : decode cX2_giveBack 0 = .ok (.aload_n 0, 1) := by decide +kernel
theorem dX2_giveBack_1 : decode cX2_giveBack 1 = .ok (.getfield 18, 3) := by decide +kernel
theorem dX2_giveBack_4 : decode cX2_giveBack 4 = .ok (.ifCond .ne 5, 3) := by decide +kernel
theorem dX2_giveBack_7 : decode cX2_giveBack 7 = .ok (.iconst 0, 1) := by decide +kernel
theorem dX2_giveBack_8 : decode cX2_giveBack 8 = .ok (.ireturn, 1) := by decide +kernel
theorem dX2_giveBack_9 : decode cX2_giveBack 9 = .ok (.aload_n 0, 1) := by decide +kernel
theorem dX2_giveBack_10 : decode cX2_giveBack 10 = .ok (.aload_n 0, 1) := by decide +kernel
theorem dX2_giveBack_11 : decode cX2_giveBack 11 = .ok (.getfield 22, 3) := by decide +kernel
theorem dX2_giveBack_14 : decode cX2_giveBack 14 = .ok (.ifCond .le 12, 3) := by decide +kernel
theorem dX2_giveBack_17 : decode cX2_giveBack 17 = .ok (.aload_n 0, 1) := by decide +kernel
theorem dX2_giveBack_18 : decode cX2_giveBack 18 = .ok (.getfield 22, 3) := by decide +kernel
theorem dX2_giveBack_21 : decode cX2_giveBack 21 = .ok (.iconst 1, 1) := by decide +kernel
theorem dX2_giveBack_22 : decode cX2_giveBack 22 = .ok (.isub, 1) := by decide +kernel
theorem dX2_giveBack_23 : decode cX2_giveBack 23 = .ok (.goto 5, 3) := by decide +kernel
theorem dX2_giveBack_26 : decode cX2_giveBack 26 = .ok (.bipush 19, 2) := by decide +kernel
theorem dX2_giveBack_28 : decode cX2_giveBack 28 = .ok (.putfield 22, 3) := by decide +kernel
theorem dX2_giveBack_31 : decode cX2_giveBack 31 = .ok (.aload_n 0, 1) := by decide +kernel
theorem dX2_giveBack_32 : decode cX2_giveBack 32 = .ok (.getfield 22, 3) := by decide +kernel
theorem dX2_giveBack_35 : decode cX2_giveBack 35 = .ok (.ifCond .lt 24, 3) := by decide +kernel
theorem dX2_giveBack_38 : decode cX2_giveBack 38 = .ok (.aload_n 0, 1) := by decide +kernel
theorem dX2_giveBack_39 : decode cX2_giveBack 39 = .ok (.getfield 22, 3) := by decide +kernel
theorem dX2_giveBack_42 : decode cX2_giveBack 42 = .ok (.bipush 20, 2) := by decide +kernel
theorem dX2_giveBack_44 : decode cX2_giveBack 44 = .ok (.if_icmp .ge 15, 3) := by decide +kernel
theorem dX2_giveBack_47 : decode cX2_giveBack 47 = .ok (.aload_n 0, 1) := by decide +kernel
theorem dX2_giveBack_48 : decode cX2_giveBack 48 = .ok (.getfield 11, 3) := by decide +kernel
theorem dX2_giveBack_51 : decode cX2_giveBack 51 = .ok (.aload_n 0, 1) := by decide +kernel
theorem dX2_giveBack_52 : decode cX2_giveBack 52 = .ok (.getfield 22, 3) := by decide +kernel
theorem dX2_giveBack_55 : decode cX2_giveBack 55 = .ok (.aaload, 1) := by decide +kernel
theorem dX2_giveBack_56 : decode cX2_giveBack 56 = .ok (.ifnonnull 5, 3) := by decide +kernel
theorem dX2_giveBack_59 : decode cX2_giveBack 59 = .ok (.iconst 0, 1) := by decide +kernel
theorem dX2_giveBack_60 : decode cX2_giveBack 60 = .ok (.ireturn, 1) := by decide +kernel
theorem dX2_giveBack_61 : decode cX2_giveBack 61 = .ok (.aload_n 1, 1) := by decide +kernel
theorem dX2_giveBack_62 : decode cX2_giveBack 62 = .ok (.aload_n 0, 1) := by decide +kernel
theorem dX2_giveBack_63 : decode cX2_giveBack 63 = .ok (.getfield 11, 3) := by decide +kernel
theorem dX2_giveBack_66 : decode cX2_giveBack 66 = .ok (.aload_n 0, 1) := by decide +kernel
theorem dX2_giveBack_67 : decode cX2_giveBack 67 = .ok (.getfield 22, 3) := by decide +kernel
theorem dX2_giveBack_70 : decode cX2_giveBack 70 = .ok (.aaload, 1) := by decide +kernel
theorem dX2_giveBack_71 : decode cX2_giveBack 71 = .ok (.invokevirtual 25, 3) := by decide +kernel
theorem dX2_giveBack_74 : decode cX2_giveBack 74 = .ok (.aload_n 0, 1) := by decide +kernel
theorem dX2_giveBack_75 : decode cX2_giveBack 75 = .ok (.dup, 1) := by decide +kernel
theorem dX2_giveBack_76 : decode cX2_giveBack 76 = .ok (.getfield 18, 3) := by decide +kernel
theorem dX2_giveBack_79 : decode cX2_giveBack 79 = .ok (.iconst 1, 1) := by decide +kernel
theorem dX2_giveBack_80 : decode cX2_giveBack 80 = .ok (.isub, 1) := by decide +kernel
theorem dX2_giveBack_81 : decode cX2_giveBack 81 = .ok (.putfield 18, 3) := by decide +kernel
theorem dX2_giveBack_84 : decode cX2_giveBack 84 = .ok (.iconst 1, 1) := by decide +kernel
theorem dX2_giveBack_85 : decode cX2_giveBack 85 = .ok (.ireturn, 1) := by decide +kernel
theorem dX11_undo_0 : decode cX11_undo 0 = .ok (.aload_n 0, 1) := by decide +kernel
theorem dX11_undo_1 : decode cX11_undo 1 = .ok (.getfield 45, 3) := by decide +kernel
theorem dX11_undo_4 : decode cX11_undo 4 = .ok (.aload_n 0, 1) := by decide +kernel
theorem dX11_undo_5 : decode cX11_undo 5 = .ok (.getfield 35, 3) := by decide +kernel
theorem dX11_undo_8 : decode cX11_undo 8 = .ok (.invokevirtual 277, 3) := by decide +kernel
theorem dX11_undo_11 : decode cX11_undo 11 = .ok (.ifCond .ne 11, 3) := by decide +kernel
theorem dX11_undo_14 : decode cX11_undo 14 = .ok (.aload_n 0, 1) := by decide +kernel
theorem dX11_undo_15 : decode cX11_undo 15 = .ok (.iconst 4, 1) := by decide +kernel
theorem dX11_undo_16 : decode cX11_undo 16 = .ok (.invokevirtual 93, 3) := by decide +kernel
theorem dX11_undo_19 : decode cX11_undo 19 = .ok (.ifCond .eq 7, 3) := by decide +kernel
theorem dX11_undo_22 : decode cX11_undo 22 = .ok (.iconst 1, 1) := by decide +kernel
theorem dX11_undo_23 : decode cX11_undo 23 = .ok (.goto 4, 3) := by decide +kernel
theorem dX11_undo_26 : decode cX11_undo 26 = .ok (.iconst 0, 1) := by decide +kernel
theorem dX11_undo_27 : decode cX11_undo 27 = .ok (.ireturn, 1) := by decide +kernel
theorem dX11_seed_0 : decode cX11_seed 0 = .ok (.iload_n 1, 1) := by decide +kernel
theorem dX11_seed_1 : decode cX11_seed 1 = .ok (.ifCond .ge 9, 3) := by decide +kernel
theorem dX11_seed_4 : decode cX11_seed 4 = .ok (.aload_n 0, 1) := by decide +kernel
theorem dX11_seed_5 : decode cX11_seed 5 = .ok (.iconst 5, 1) := by decide +kernel
theorem dX11_seed_6 : decode cX11_seed 6 = .ok (.invokevirtual 93, 3) := by decide +kernel
theorem dX11_seed_9 : decode cX11_seed 9 = .ok (.ireturn, 1) := by decide +kernel
theorem dX11_seed_10 : decode cX11_seed 10 = .ok (.aload_n 0, 1) := by decide +kernel
theorem dX11_seed_11 : decode cX11_seed 11 = .ok (.iload_n 1, 1) := by decide +kernel
theorem dX11_seed_12 : decode cX11_seed 12 = .ok (.putfield 78, 3) := by decide +kernel
theorem dX11_seed_15 : decode cX11_seed 15 = .ok (.iconst 1, 1) := by decide +kernel
theorem dX11_seed_16 : decode cX11_seed 16 = .ok (.ireturn, 1) := by decide +kernel
theorem dX11_kept_0 : decode cX11_kept 0 = .ok (.iload_n 1, 1) := by decide +kernel
theorem dX11_kept_1 : decode cX11_kept 1 = .ok (.ifCond .lt 14, 3) := by decide +kernel
theorem dX11_kept_4 : decode cX11_kept 4 = .ok (.iload_n 1, 1) := by decide +kernel
theorem dX11_kept_5 : decode cX11_kept 5 = .ok (.aload_n 0, 1) := by decide +kernel
theorem dX11_kept_6 : decode cX11_kept 6 = .ok (.getfield 35, 3) := by decide +kernel
theorem dX11_kept_9 : decode cX11_kept 9 = .ok (.getfield 142, 3) := by decide +kernel
theorem dX11_kept_12 : decode cX11_kept 12 = .ok (.if_icmp .lt 5, 3) := by decide +kernel
theorem dX11_kept_15 : decode cX11_kept 15 = .ok (.iconst (-1), 1) := by decide +kernel
theorem dX11_kept_16 : decode cX11_kept 16 = .ok (.ireturn, 1) := by decide +kernel
theorem dX11_kept_17 : decode cX11_kept 17 = .ok (.iload_n 2, 1) := by decide +kernel
theorem dX11_kept_18 : decode cX11_kept 18 = .ok (.tableswitch 56 0 2 #[26, 36, 46], 26) := by decide +kernel
theorem dX11_kept_44 : decode cX11_kept 44 = .ok (.aload_n 0, 1) := by decide +kernel
theorem dX11_kept_45 : decode cX11_kept 45 = .ok (.getfield 35, 3) := by decide +kernel
theorem dX11_kept_48 : decode cX11_kept 48 = .ok (.getfield 281, 3) := by decide +kernel
theorem dX11_kept_51 : decode cX11_kept 51 = .ok (.iload_n 1, 1) := by decide +kernel
theorem dX11_kept_52 : decode cX11_kept 52 = .ok (.iaload, 1) := by decide +kernel
theorem dX11_kept_53 : decode cX11_kept 53 = .ok (.ireturn, 1) := by decide +kernel
theorem dX11_kept_54 : decode cX11_kept 54 = .ok (.aload_n 0, 1) := by decide +kernel
theorem dX11_kept_55 : decode cX11_kept 55 = .ok (.getfield 35, 3) := by decide +kernel
theorem dX11_kept_58 : decode cX11_kept 58 = .ok (.getfield 284, 3) := by decide +kernel
theorem dX11_kept_61 : decode cX11_kept 61 = .ok (.iload_n 1, 1) := by decide +kernel
theorem dX11_kept_62 : decode cX11_kept 62 = .ok (.iaload, 1) := by decide +kernel
theorem dX11_kept_63 : decode cX11_kept 63 = .ok (.ireturn, 1) := by decide +kernel
theorem dX11_kept_64 : decode cX11_kept 64 = .ok (.aload_n 0, 1) := by decide +kernel
theorem dX11_kept_65 : decode cX11_kept 65 = .ok (.getfield 35, 3) := by decide +kernel
theorem dX11_kept_68 : decode cX11_kept 68 = .ok (.getfield 287, 3) := by decide +kernel
theorem dX11_kept_71 : decode cX11_kept 71 = .ok (.iload_n 1, 1) := by decide +kernel
theorem dX11_kept_72 : decode cX11_kept 72 = .ok (.iaload, 1) := by decide +kernel
theorem dX11_kept_73 : decode cX11_kept 73 = .ok (.ireturn, 1) := by decide +kernel
theorem dX11_kept_74 : decode cX11_kept 74 = .ok (.iconst (-1), 1) := by decide +kernel
theorem dX11_kept_75 : decode cX11_kept 75 = .ok (.ireturn, 1) := by decide +kernel
theorem dX3_put_0 : decode cX3_put 0 = .ok (.aload_n 0, 1) := by decide +kernel
theorem dX3_put_1 : decode cX3_put 1 = .ok (.getfield 26, 3) := by decide +kernel
theorem dX3_put_4 : decode cX3_put 4 = .ok (.aload_n 0, 1) := by decide +kernel
theorem dX3_put_5 : decode cX3_put 5 = .ok (.getfield 11, 3) := by decide +kernel
theorem dX3_put_8 : decode cX3_put 8 = .ok (.arraylength, 1) := by decide +kernel
theorem dX3_put_9 : decode cX3_put 9 = .ok (.if_icmp .ge 23, 3) := by decide +kernel
theorem dX3_put_12 : decode cX3_put 12 = .ok (.aload_n 0, 1) := by decide +kernel
theorem dX3_put_13 : decode cX3_put 13 = .ok (.getfield 11, 3) := by decide +kernel
theorem dX3_put_16 : decode cX3_put 16 = .ok (.aload_n 0, 1) := by decide +kernel
theorem dX3_put_17 : decode cX3_put 17 = .ok (.getfield 26, 3) := by decide +kernel
theorem dX3_put_20 : decode cX3_put 20 = .ok (.iload_n 1, 1) := by decide +kernel
theorem dX3_put_21 : decode cX3_put 21 = .ok (.iastore, 1) := by decide +kernel
theorem dX3_put_22 : decode cX3_put 22 = .ok (.aload_n 0, 1) := by decide +kernel
theorem dX3_put_23 : decode cX3_put 23 = .ok (.dup, 1) := by decide +kernel
theorem dX3_put_24 : decode cX3_put 24 = .ok (.getfield 26, 3) := by decide +kernel
theorem dX3_put_27 : decode cX3_put 27 = .ok (.iconst 1, 1) := by decide +kernel
theorem dX3_put_28 : decode cX3_put 28 = .ok (.iadd, 1) := by decide +kernel
theorem dX3_put_29 : decode cX3_put 29 = .ok (.putfield 26, 3) := by decide +kernel
theorem dX3_put_32 : decode cX3_put 32 = .ok (.return_, 1) := by decide +kernel
theorem dX3_putPair_0 : decode cX3_putPair 0 = .ok (.aload_n 0, 1) := by decide +kernel
theorem dX3_putPair_1 : decode cX3_putPair 1 = .ok (.iload_n 1, 1) := by decide +kernel
theorem dX3_putPair_2 : decode cX3_putPair 2 = .ok (.bipush 8, 2) := by decide +kernel
theorem dX3_putPair_4 : decode cX3_putPair 4 = .ok (.ishr, 1) := by decide +kernel
theorem dX3_putPair_5 : decode cX3_putPair 5 = .ok (.invokevirtual 47, 3) := by decide +kernel
theorem dX3_putPair_8 : decode cX3_putPair 8 = .ok (.aload_n 0, 1) := by decide +kernel
theorem dX3_putPair_9 : decode cX3_putPair 9 = .ok (.iload_n 1, 1) := by decide +kernel
theorem dX3_putPair_10 : decode cX3_putPair 10 = .ok (.sipush 255, 3) := by decide +kernel
theorem dX3_putPair_13 : decode cX3_putPair 13 = .ok (.iand, 1) := by decide +kernel
theorem dX3_putPair_14 : decode cX3_putPair 14 = .ok (.invokevirtual 47, 3) := by decide +kernel
theorem dX3_putPair_17 : decode cX3_putPair 17 = .ok (.return_, 1) := by decide +kernel
theorem dX3_sealOf_0 : decode cX3_sealOf 0 = .ok (.sipush 199, 3) := by decide +kernel
theorem dX3_sealOf_3 : decode cX3_sealOf 3 = .ok (.istore_n 2, 1) := by decide +kernel
theorem dX3_sealOf_4 : decode cX3_sealOf 4 = .ok (.iconst 0, 1) := by decide +kernel
theorem dX3_sealOf_5 : decode cX3_sealOf 5 = .ok (.istore_n 3, 1) := by decide +kernel
theorem dX3_sealOf_6 : decode cX3_sealOf 6 = .ok (.iload_n 3, 1) := by decide +kernel
theorem dX3_sealOf_7 : decode cX3_sealOf 7 = .ok (.iload_n 1, 1) := by decide +kernel
theorem dX3_sealOf_8 : decode cX3_sealOf 8 = .ok (.if_icmp .ge 27, 3) := by decide +kernel
theorem dX3_sealOf_11 : decode cX3_sealOf 11 = .ok (.iload_n 3, 1) := by decide +kernel
theorem dX3_sealOf_12 : decode cX3_sealOf 12 = .ok (.aload_n 0, 1) := by decide +kernel
theorem dX3_sealOf_13 : decode cX3_sealOf 13 = .ok (.arraylength, 1) := by decide +kernel
theorem dX3_sealOf_14 : decode cX3_sealOf 14 = .ok (.if_icmp .ge 21, 3) := by decide +kernel
theorem dX3_sealOf_17 : decode cX3_sealOf 17 = .ok (.iconst 5, 1) := by decide +kernel
theorem dX3_sealOf_18 : decode cX3_sealOf 18 = .ok (.iload_n 2, 1) := by decide +kernel
theorem dX3_sealOf_19 : decode cX3_sealOf 19 = .ok (.imul, 1) := by decide +kernel
theorem dX3_sealOf_20 : decode cX3_sealOf 20 = .ok (.aload_n 0, 1) := by decide +kernel
theorem dX3_sealOf_21 : decode cX3_sealOf 21 = .ok (.iload_n 3, 1) := by decide +kernel
theorem dX3_sealOf_22 : decode cX3_sealOf 22 = .ok (.iaload, 1) := by decide +kernel
theorem dX3_sealOf_23 : decode cX3_sealOf 23 = .ok (.iadd, 1) := by decide +kernel
theorem dX3_sealOf_24 : decode cX3_sealOf 24 = .ok (.sipush 251, 3) := by decide +kernel
theorem dX3_sealOf_27 : decode cX3_sealOf 27 = .ok (.irem, 1) := by decide +kernel
theorem dX3_sealOf_28 : decode cX3_sealOf 28 = .ok (.istore_n 2, 1) := by decide +kernel
theorem dX3_sealOf_29 : decode cX3_sealOf 29 = .ok (.iinc 3 1, 3) := by decide +kernel
theorem dX3_sealOf_32 : decode cX3_sealOf 32 = .ok (.goto (-26), 3) := by decide +kernel
theorem dX3_sealOf_35 : decode cX3_sealOf 35 = .ok (.iload_n 2, 1) := by decide +kernel
theorem dX3_sealOf_36 : decode cX3_sealOf 36 = .ok (.ireturn, 1) := by decide +kernel
theorem dX3_write_0 : decode cX3_write 0 = .ok (.aload_n 0, 1) := by decide +kernel
theorem dX3_write_1 : decode cX3_write 1 = .ok (.iconst 0, 1) := by decide +kernel
theorem dX3_write_2 : decode cX3_write 2 = .ok (.putfield 26, 3) := by decide +kernel
theorem dX3_write_5 : decode cX3_write 5 = .ok (.aload_n 0, 1) := by decide +kernel
theorem dX3_write_6 : decode cX3_write 6 = .ok (.aload_n 0, 1) := by decide +kernel
theorem dX3_write_7 : decode cX3_write 7 = .ok (.getfield 19, 3) := by decide +kernel
theorem dX3_write_10 : decode cX3_write 10 = .ok (.getfield 30, 3) := by decide +kernel
theorem dX3_write_13 : decode cX3_write 13 = .ok (.invokevirtual 35, 3) := by decide +kernel
theorem dX3_write_16 : decode cX3_write 16 = .ok (.iconst 0, 1) := by decide +kernel
theorem dX3_write_17 : decode cX3_write 17 = .ok (.istore_n 1, 1) := by decide +kernel
theorem dX3_write_18 : decode cX3_write 18 = .ok (.iload_n 1, 1) := by decide +kernel
theorem dX3_write_19 : decode cX3_write 19 = .ok (.aload_n 0, 1) := by decide +kernel
theorem dX3_write_20 : decode cX3_write 20 = .ok (.getfield 15, 3) := by decide +kernel
theorem dX3_write_23 : decode cX3_write 23 = .ok (.getfield 39, 3) := by decide +kernel
theorem dX3_write_26 : decode cX3_write 26 = .ok (.if_icmp .ge 48, 3) := by decide +kernel
theorem dX3_write_29 : decode cX3_write 29 = .ok (.aload_n 0, 1) := by decide +kernel
theorem dX3_write_30 : decode cX3_write 30 = .ok (.aload_n 0, 1) := by decide +kernel
theorem dX3_write_31 : decode cX3_write 31 = .ok (.getfield 19, 3) := by decide +kernel
theorem dX3_write_34 : decode cX3_write 34 = .ok (.getfield 44, 3) := by decide +kernel
theorem dX3_write_37 : decode cX3_write 37 = .ok (.iload_n 1, 1) := by decide +kernel
theorem dX3_write_38 : decode cX3_write 38 = .ok (.iaload, 1) := by decide +kernel
theorem dX3_write_39 : decode cX3_write 39 = .ok (.invokevirtual 47, 3) := by decide +kernel
theorem dX3_write_42 : decode cX3_write 42 = .ok (.aload_n 0, 1) := by decide +kernel
theorem dX3_write_43 : decode cX3_write 43 = .ok (.aload_n 0, 1) := by decide +kernel
theorem dX3_write_44 : decode cX3_write 44 = .ok (.getfield 19, 3) := by decide +kernel
theorem dX3_write_47 : decode cX3_write 47 = .ok (.getfield 50, 3) := by decide +kernel
theorem dX3_write_50 : decode cX3_write 50 = .ok (.iload_n 1, 1) := by decide +kernel
theorem dX3_write_51 : decode cX3_write 51 = .ok (.iaload, 1) := by decide +kernel
theorem dX3_write_52 : decode cX3_write 52 = .ok (.invokevirtual 47, 3) := by decide +kernel
theorem dX3_write_55 : decode cX3_write 55 = .ok (.aload_n 0, 1) := by decide +kernel
theorem dX3_write_56 : decode cX3_write 56 = .ok (.aload_n 0, 1) := by decide +kernel
theorem dX3_write_57 : decode cX3_write 57 = .ok (.getfield 19, 3) := by decide +kernel
theorem dX3_write_60 : decode cX3_write 60 = .ok (.getfield 53, 3) := by decide +kernel
theorem dX3_write_63 : decode cX3_write 63 = .ok (.iload_n 1, 1) := by decide +kernel
theorem dX3_write_64 : decode cX3_write 64 = .ok (.iaload, 1) := by decide +kernel
theorem dX3_write_65 : decode cX3_write 65 = .ok (.invokevirtual 47, 3) := by decide +kernel
theorem dX3_write_68 : decode cX3_write 68 = .ok (.iinc 1 1, 3) := by decide +kernel
theorem dX3_write_71 : decode cX3_write 71 = .ok (.goto (-53), 3) := by decide +kernel
theorem dX3_write_74 : decode cX3_write 74 = .ok (.iconst 0, 1) := by decide +kernel
theorem dX3_write_75 : decode cX3_write 75 = .ok (.istore_n 1, 1) := by decide +kernel
theorem dX3_write_76 : decode cX3_write 76 = .ok (.iload_n 1, 1) := by decide +kernel
theorem dX3_write_77 : decode cX3_write 77 = .ok (.aload_n 0, 1) := by decide +kernel
theorem dX3_write_78 : decode cX3_write 78 = .ok (.getfield 15, 3) := by decide +kernel
theorem dX3_write_81 : decode cX3_write 81 = .ok (.getfield 56, 3) := by decide +kernel
theorem dX3_write_84 : decode cX3_write 84 = .ok (.if_icmp .ge 106, 3) := by decide +kernel
theorem dX3_write_87 : decode cX3_write 87 = .ok (.aload_n 0, 1) := by decide +kernel
theorem dX3_write_88 : decode cX3_write 88 = .ok (.aload_n 0, 1) := by decide +kernel
theorem dX3_write_89 : decode cX3_write 89 = .ok (.getfield 19, 3) := by decide +kernel
theorem dX3_write_92 : decode cX3_write 92 = .ok (.getfield 59, 3) := by decide +kernel
theorem dX3_write_95 : decode cX3_write 95 = .ok (.iload_n 1, 1) := by decide +kernel
theorem dX3_write_96 : decode cX3_write 96 = .ok (.iaload, 1) := by decide +kernel
theorem dX3_write_97 : decode cX3_write 97 = .ok (.invokevirtual 47, 3) := by decide +kernel
theorem dX3_write_100 : decode cX3_write 100 = .ok (.aload_n 0, 1) := by decide +kernel
theorem dX3_write_101 : decode cX3_write 101 = .ok (.aload_n 0, 1) := by decide +kernel
theorem dX3_write_102 : decode cX3_write 102 = .ok (.getfield 19, 3) := by decide +kernel
theorem dX3_write_105 : decode cX3_write 105 = .ok (.getfield 62, 3) := by decide +kernel
theorem dX3_write_108 : decode cX3_write 108 = .ok (.iload_n 1, 1) := by decide +kernel
theorem dX3_write_109 : decode cX3_write 109 = .ok (.iaload, 1) := by decide +kernel
theorem dX3_write_110 : decode cX3_write 110 = .ok (.invokevirtual 35, 3) := by decide +kernel
theorem dX3_write_113 : decode cX3_write 113 = .ok (.aload_n 0, 1) := by decide +kernel
theorem dX3_write_114 : decode cX3_write 114 = .ok (.aload_n 0, 1) := by decide +kernel
theorem dX3_write_115 : decode cX3_write 115 = .ok (.getfield 19, 3) := by decide +kernel
theorem dX3_write_118 : decode cX3_write 118 = .ok (.getfield 65, 3) := by decide +kernel
theorem dX3_write_121 : decode cX3_write 121 = .ok (.iload_n 1, 1) := by decide +kernel
theorem dX3_write_122 : decode cX3_write 122 = .ok (.iaload, 1) := by decide +kernel
theorem dX3_write_123 : decode cX3_write 123 = .ok (.invokevirtual 47, 3) := by decide +kernel
theorem dX3_write_126 : decode cX3_write 126 = .ok (.aload_n 0, 1) := by decide +kernel
theorem dX3_write_127 : decode cX3_write 127 = .ok (.aload_n 0, 1) := by decide +kernel
theorem dX3_write_128 : decode cX3_write 128 = .ok (.getfield 19, 3) := by decide +kernel
theorem dX3_write_131 : decode cX3_write 131 = .ok (.getfield 68, 3) := by decide +kernel
theorem dX3_write_134 : decode cX3_write 134 = .ok (.iload_n 1, 1) := by decide +kernel
theorem dX3_write_135 : decode cX3_write 135 = .ok (.iaload, 1) := by decide +kernel
theorem dX3_write_136 : decode cX3_write 136 = .ok (.iconst (-1), 1) := by decide +kernel
theorem dX3_write_137 : decode cX3_write 137 = .ok (.if_icmp .ne 9, 3) := by decide +kernel
theorem dX3_write_140 : decode cX3_write 140 = .ok (.sipush 255, 3) := by decide +kernel
theorem dX3_write_143 : decode cX3_write 143 = .ok (.goto 12, 3) := by decide +kernel
theorem dX3_write_146 : decode cX3_write 146 = .ok (.aload_n 0, 1) := by decide +kernel
theorem dX3_write_147 : decode cX3_write 147 = .ok (.getfield 19, 3) := by decide +kernel
theorem dX3_write_150 : decode cX3_write 150 = .ok (.getfield 68, 3) := by decide +kernel
theorem dX3_write_153 : decode cX3_write 153 = .ok (.iload_n 1, 1) := by decide +kernel
theorem dX3_write_154 : decode cX3_write 154 = .ok (.iaload, 1) := by decide +kernel
theorem dX3_write_155 : decode cX3_write 155 = .ok (.invokevirtual 47, 3) := by decide +kernel
theorem dX3_write_158 : decode cX3_write 158 = .ok (.aload_n 0, 1) := by decide +kernel
theorem dX3_write_159 : decode cX3_write 159 = .ok (.aload_n 0, 1) := by decide +kernel
theorem dX3_write_160 : decode cX3_write 160 = .ok (.getfield 19, 3) := by decide +kernel
theorem dX3_write_163 : decode cX3_write 163 = .ok (.getfield 71, 3) := by decide +kernel
theorem dX3_write_166 : decode cX3_write 166 = .ok (.iload_n 1, 1) := by decide +kernel
theorem dX3_write_167 : decode cX3_write 167 = .ok (.iaload, 1) := by decide +kernel
theorem dX3_write_168 : decode cX3_write 168 = .ok (.invokevirtual 47, 3) := by decide +kernel
theorem dX3_write_171 : decode cX3_write 171 = .ok (.aload_n 0, 1) := by decide +kernel
theorem dX3_write_172 : decode cX3_write 172 = .ok (.aload_n 0, 1) := by decide +kernel
theorem dX3_write_173 : decode cX3_write 173 = .ok (.getfield 19, 3) := by decide +kernel
theorem dX3_write_176 : decode cX3_write 176 = .ok (.getfield 74, 3) := by decide +kernel
theorem dX3_write_179 : decode cX3_write 179 = .ok (.iload_n 1, 1) := by decide +kernel
theorem dX3_write_180 : decode cX3_write 180 = .ok (.iaload, 1) := by decide +kernel
theorem dX3_write_181 : decode cX3_write 181 = .ok (.invokevirtual 47, 3) := by decide +kernel
theorem dX3_write_184 : decode cX3_write 184 = .ok (.iinc 1 1, 3) := by decide +kernel
theorem dX3_write_187 : decode cX3_write 187 = .ok (.goto (-111), 3) := by decide +kernel
theorem dX3_write_190 : decode cX3_write 190 = .ok (.aload_n 0, 1) := by decide +kernel
theorem dX3_write_191 : decode cX3_write 191 = .ok (.aload_n 0, 1) := by decide +kernel
theorem dX3_write_192 : decode cX3_write 192 = .ok (.getfield 11, 3) := by decide +kernel
theorem dX3_write_195 : decode cX3_write 195 = .ok (.aload_n 0, 1) := by decide +kernel
theorem dX3_write_196 : decode cX3_write 196 = .ok (.getfield 26, 3) := by decide +kernel
theorem dX3_write_199 : decode cX3_write 199 = .ok (.invokestatic 77, 3) := by decide +kernel
theorem dX3_write_202 : decode cX3_write 202 = .ok (.invokevirtual 47, 3) := by decide +kernel
theorem dX3_write_205 : decode cX3_write 205 = .ok (.aload_n 0, 1) := by decide +kernel
theorem dX3_write_206 : decode cX3_write 206 = .ok (.getfield 26, 3) := by decide +kernel
theorem dX3_write_209 : decode cX3_write 209 = .ok (.ireturn, 1) := by decide +kernel
theorem dX11_image_0 : decode cX11_image 0 = .ok (.aload_n 0, 1) := by decide +kernel
theorem dX11_image_1 : decode cX11_image 1 = .ok (.getfield 70, 3) := by decide +kernel
theorem dX11_image_4 : decode cX11_image 4 = .ok (.invokevirtual 290, 3) := by decide +kernel
theorem dX11_image_7 : decode cX11_image 7 = .ok (.ireturn, 1) := by decide +kernel
theorem dX11_octet_0 : decode cX11_octet 0 = .ok (.iload_n 1, 1) := by decide +kernel
theorem dX11_octet_1 : decode cX11_octet 1 = .ok (.ifCond .lt 26, 3) := by decide +kernel
theorem dX11_octet_4 : decode cX11_octet 4 = .ok (.iload_n 1, 1) := by decide +kernel
theorem dX11_octet_5 : decode cX11_octet 5 = .ok (.aload_n 0, 1) := by decide +kernel
theorem dX11_octet_6 : decode cX11_octet 6 = .ok (.getfield 70, 3) := by decide +kernel
theorem dX11_octet_9 : decode cX11_octet 9 = .ok (.getfield 293, 3) := by decide +kernel
theorem dX11_octet_12 : decode cX11_octet 12 = .ok (.if_icmp .ge 15, 3) := by decide +kernel
theorem dX11_octet_15 : decode cX11_octet 15 = .ok (.aload_n 0, 1) := by decide +kernel
theorem dX11_octet_16 : decode cX11_octet 16 = .ok (.getfield 70, 3) := by decide +kernel
theorem dX11_octet_19 : decode cX11_octet 19 = .ok (.getfield 294, 3) := by decide +kernel
theorem dX11_octet_22 : decode cX11_octet 22 = .ok (.iload_n 1, 1) := by decide +kernel
theorem dX11_octet_23 : decode cX11_octet 23 = .ok (.iaload, 1) := by decide +kernel
theorem dX11_octet_24 : decode cX11_octet 24 = .ok (.goto 4, 3) := by decide +kernel
theorem dX11_octet_27 : decode cX11_octet 27 = .ok (.iconst (-1), 1) := by decide +kernel
theorem dX11_octet_28 : decode cX11_octet 28 = .ok (.ireturn, 1) := by decide +kernel
section
variable {σ : Nat → Nat} {p : Program} {l : Launch} {e : Env} {s : State} {m : MethodId} {args : Array Value} {below : List Frame} {meth : Method} {c : Code} {D : va_G} {E : Nat → ClassId} {b : Nat}
set_option maxHeartbeats 4000000 in
set_option maxRecDepth 20000 in
theorem w_x_X_odds_B15 (C : xCX σ p s m args meth c cX11_odds 3 RX11 D E b) (hr : meth.sig.returnType = (some .int)) {r0 : Int} {M : Mem} {v1 : Int} (h : x_X_odds_B15 v1 M = some r0) :
    xWX p l e 2 35 s m args below meth c 3 D E b (some (vI r0)) M M 15 [(0, vR b 0), (1, vI v1)] [] := by
  unfold x_X_odds_B15 at h
  refine r_aload_n (pc := 15) C 0 rfl rfl dX11_odds_15 ?_
  refine r_getR (pc := 16) C fl_RX11_26 x_s0 (by decide) x_kX_2 x_r0_2 dX11_odds_16 ?_
  refine r_getI (pc := 19) C fl_RX11_120 x_s23 (by decide) x_kTown_0 dX11_odds_19 ?_
  refine r_if_eq (pc := 22) (tgt := 35) C h dX11_odds_22 (by decide) (fun hc22 h => ?_) (fun hc22 h => ?_)
  · refine r_iconst (pc := 35) C dX11_odds_35 ?_
    have e := Option.some.inj h
    exact r_iret (pc := 36) C hr (congrArg (fun z => some (vI z)) e.symm) rfl dX11_odds_36
  · refine r_aload_n (pc := 25) C 0 rfl rfl dX11_odds_25 ?_
    refine r_iconst (pc := 26) C dX11_odds_26 ?_
    refine r_iconst (pc := 27) C dX11_odds_27 ?_
    refine r_iconst (pc := 28) C dX11_odds_28 ?_
    obtain ⟨r1, hq1, h⟩ := bnd_inv h
    refine r_callV (pc := 29) (rest := []) (st1 := [vB r1]) C (xExtOK σ b) [vI 1, vI 1, vI 1] (c_x_X_comes l hq1) cl_RX11_221 x_s0 (by decide) rfl rfl rfl rfl ⟨Nat.le_of_ble_eq_true rfl, Nat.le_of_ble_eq_true rfl⟩ (Nat.le_of_ble_eq_true rfl) rfl rfl dX11_odds_29 ?_
    refine r_if_neB (pc := 32) (tgt := 37) C h dX11_odds_32 (by decide) (fun hc32 h => ?_) (fun hc32 h => ?_)
    · refine r_bipush (pc := 37) (j := 100) C (by decide +kernel) dX11_odds_37 ?_
      refine r_aload_n (pc := 39) C 0 rfl rfl dX11_odds_39 ?_
      refine r_getR (pc := 40) C fl_RX11_26 x_s0 (by decide) x_kX_2 x_r0_2 dX11_odds_40 ?_
      refine r_getI (pc := 43) C fl_RX11_120 x_s23 (by decide) x_kTown_0 dX11_odds_43 ?_
      refine r_imul (pc := 46) C dX11_odds_46 ?_
      obtain ⟨v2_47, hv2_47, h⟩ := lt_inv h
      refine r_topI hv2_47 ?_
      refine r_istore_n (pc := 47) (lv' := [(2, vI v2_47), (0, vR b 0), (1, vI v1)]) C rfl dX11_odds_47 (by decide) rfl ?_
      refine r_iload_n (pc := 48) C 2 rfl rfl dX11_odds_48 ?_
      refine r_iconst (pc := 49) C dX11_odds_49 ?_
      refine r_icmp_ne (pc := 50) (tgt := 55) C h dX11_odds_50 (by decide) (fun hc50 h => ?_) (fun hc50 h => ?_)
      · refine r_aload_n (pc := 55) C 1 rfl rfl dX11_odds_55 ?_
        refine r_getR (pc := 56) C fl_RX11_35 x_s0 (by decide) x_kX_3 x_r0_3 dX11_odds_56 ?_
        refine r_getR (pc := 59) C fl_RX11_201 x_s38 (by decide) x_kState_3 x_r38_3 dX11_odds_59 ?_
        refine r_iload_n (pc := 62) C 2 rfl rfl dX11_odds_62 ?_
        obtain ⟨hi63, h⟩ := chk_inv h
        refine r_iald (pc := 63) C x_s42 (by decide) (by decide) hi63 rfl dX11_odds_63 ?_
        refine r_iconst (pc := 64) C dX11_odds_64 ?_
        refine r_icmp_ne (pc := 65) (tgt := 70) C h dX11_odds_65 (by decide) (fun hc65 h => ?_) (fun hc65 h => ?_)
        · refine r_aload_n (pc := 70) C 1 rfl rfl dX11_odds_70 ?_
          refine r_getR (pc := 71) C fl_RX11_35 x_s0 (by decide) x_kX_3 x_r0_3 dX11_odds_71 ?_
          refine r_getR (pc := 74) C fl_RX11_201 x_s38 (by decide) x_kState_3 x_r38_3 dX11_odds_74 ?_
          refine r_iload_n (pc := 77) C 2 rfl rfl dX11_odds_77 ?_
          obtain ⟨hi78, h⟩ := chk_inv h
          refine r_iald (pc := 78) C x_s42 (by decide) (by decide) hi78 rfl dX11_odds_78 ?_
          refine r_iconst (pc := 79) C dX11_odds_79 ?_
          refine r_icmp_ne (pc := 80) (tgt := 93) C h dX11_odds_80 (by decide) (fun hc80 h => ?_) (fun hc80 h => ?_)
          · refine r_iconst (pc := 93) C dX11_odds_93 ?_
            have e := Option.some.inj h
            exact r_iret (pc := 94) C hr (congrArg (fun z => some (vI z)) e.symm) rfl dX11_odds_94
          · refine r_aload_n (pc := 83) C 1 rfl rfl dX11_odds_83 ?_
            refine r_getR (pc := 84) C fl_RX11_26 x_s0 (by decide) x_kX_2 x_r0_2 dX11_odds_84 ?_
            refine r_getI (pc := 87) C fl_RX11_258 x_s23 (by decide) x_kTown_3 dX11_odds_87 ?_
            refine r_goto (pc := 90) (tgt := 94) C dX11_odds_90 (by decide) ?_
            have e := Option.some.inj h
            exact r_iret (pc := 94) C hr (congrArg (fun z => some (vI z)) e.symm) rfl dX11_odds_94
        · refine r_iload_n (pc := 68) C 0 rfl rfl dX11_odds_68 ?_
          have e := Option.some.inj h
          exact r_iret (pc := 69) C hr (congrArg (fun z => some (vI z)) e.symm) rfl dX11_odds_69
      · refine r_iload_n (pc := 53) C 0 rfl rfl dX11_odds_53 ?_
        have e := Option.some.inj h
        exact r_iret (pc := 54) C hr (congrArg (fun z => some (vI z)) e.symm) rfl dX11_odds_54
    · refine r_iconst (pc := 35) C dX11_odds_35 ?_
      have e := Option.some.inj h
      exact r_iret (pc := 36) C hr (congrArg (fun z => some (vI z)) e.symm) rfl dX11_odds_36
set_option maxHeartbeats 4000000 in
set_option maxRecDepth 20000 in
theorem c_x_X_odds (l : Launch) {x1 : Int} {M : Mem} {r0 : Int} (h : x_X_odds x1 M = some r0) : Ct l yX11_odds cX11_odds 3 (some .int) 2 35 vwCl xSh xN xRf (xExt σ) (fun b => [vR b 0, vI x1]) M (fun b => (some (vI r0))) M := by
  refine Ct_of (xExtOK σ) (by decide) (fun b => Nat.le_of_ble_eq_true rfl) ?_
  intro p e s m args below meth c D E b C hr
  unfold x_X_odds at h
  refine (show xWX p l e 2 35 s m args below meth c 3 D E b (some (vI r0)) M M 0 [(0, vR b 0), (1, vI x1)] [] from ?_)
  refine r_iload_n (pc := 0) C 1 rfl rfl dX11_odds_0 ?_
  refine r_iconst (pc := 1) C dX11_odds_1 ?_
  refine r_icmp_eq (pc := 2) (tgt := 15) C h dX11_odds_2 (by decide) (fun hc2 h => ?_) (fun hc2 h => ?_)
  · refine r_sub (lv' := [(0, vR b 0), (1, vI x1)]) [0, 1] rfl ?_
    exact w_x_X_odds_B15 C hr h
  · refine r_aload_n (pc := 5) C 0 rfl rfl dX11_odds_5 ?_
    refine r_iload_n (pc := 6) C 1 rfl rfl dX11_odds_6 ?_
    obtain ⟨r2, hq2, h⟩ := bnd_inv h
    refine r_callV (pc := 7) (rest := []) (st1 := [vB r2]) C (xExtOK σ b) [vI x1] (c_x_X_isSaying l hq2) cl_RX11_189 x_s0 (by decide) rfl rfl rfl rfl ⟨Nat.le_of_ble_eq_true rfl, Nat.le_of_ble_eq_true rfl⟩ (Nat.le_of_ble_eq_true rfl) rfl rfl dX11_odds_7 ?_
    refine r_if_neB (pc := 10) (tgt := 15) C h dX11_odds_10 (by decide) (fun hc10 h => ?_) (fun hc10 h => ?_)
    · refine r_sub (lv' := [(0, vR b 0), (1, vI x1)]) [0, 1] rfl ?_
      exact w_x_X_odds_B15 C hr h
    · refine r_iconst (pc := 13) C dX11_odds_13 ?_
      have e := Option.some.inj h
      exact r_iret (pc := 14) C hr (congrArg (fun z => some (vI z)) e.symm) rfl dX11_odds_14
set_option maxHeartbeats 4000000 in
set_option maxRecDepth 20000 in
theorem w_x_Heard_isRow_B45 (C : xCX σ p s m args meth c cX0_isRow 4 RX0 D E b) (hr : meth.sig.returnType = (some .boolean)) {r0 : Bool} (a1 : Nat) (La1 : Nat) (ha1 : xSh a1 = (0, [La1])) (na1 : a1 < xN) (la1 : La1 ≤ 2147483647) {M : Mem} {v2 : Int} {s0 : Int} (h : x_Heard_isRow_B45 a1 La1 v2 s0 M = some r0) :
    xWX p l e 1 12 s m args below meth c 4 D E b (some (vB r0)) M M 45 [(0, vR b 354), (1, vR b a1), (2, vI v2)] [vI s0] := by
  unfold x_Heard_isRow_B45 at h
  refine r_istore_n (pc := 45) (lv' := [(3, vI s0), (0, vR b 354), (1, vR b a1), (2, vI v2)]) C rfl dX0_isRow_45 (by decide) rfl ?_
  refine r_aload_n (pc := 46) C 2 rfl rfl dX0_isRow_46 ?_
  refine r_iload_n (pc := 47) C 3 rfl rfl dX0_isRow_47 ?_
  obtain ⟨hi48, h⟩ := chk_inv h
  refine r_iald (pc := 48) C ha1 na1 la1 hi48 rfl dX0_isRow_48 ?_
  refine r_bipush (pc := 49) (j := 31) C (by decide +kernel) dX0_isRow_49 ?_
  refine r_icmp_ge (pc := 51) (tgt := 77) C h dX0_isRow_51 (by decide) (fun hc51 h => ?_) (fun hc51 h => ?_)
  · refine r_iconst (pc := 77) C dX0_isRow_77 ?_
    have e := Option.some.inj h
    exact r_zret (pc := 78) C hr (Or.inl rfl) (congrArg (fun z => some (vB z)) e.symm) rfl dX0_isRow_78
  · refine r_aload_n (pc := 54) C 2 rfl rfl dX0_isRow_54 ?_
    refine r_iload_n (pc := 55) C 3 rfl rfl dX0_isRow_55 ?_
    refine r_iconst (pc := 56) C dX0_isRow_56 ?_
    refine r_iadd (pc := 57) C dX0_isRow_57 ?_
    obtain ⟨hi58, h⟩ := chk_inv h
    refine r_iald (pc := 58) C ha1 na1 la1 hi58 rfl dX0_isRow_58 ?_
    refine r_aload_n (pc := 59) C 1 rfl rfl dX0_isRow_59 ?_
    refine r_getR (pc := 60) C fl_RX0_29 x_s354 (by decide) x_kHeard_1 x_r354_1 dX0_isRow_60 ?_
    refine r_getI (pc := 63) C fl_RX0_73 x_s23 (by decide) x_kTown_2 dX0_isRow_63 ?_
    refine r_icmp_ge (pc := 66) (tgt := 77) C h dX0_isRow_66 (by decide) (fun hc66 h => ?_) (fun hc66 h => ?_)
    · refine r_iconst (pc := 77) C dX0_isRow_77 ?_
      have e := Option.some.inj h
      exact r_zret (pc := 78) C hr (Or.inl rfl) (congrArg (fun z => some (vB z)) e.symm) rfl dX0_isRow_78
    · refine r_iload_n (pc := 69) C 0 rfl rfl dX0_isRow_69 ?_
      refine r_if_eq (pc := 70) (tgt := 77) C h dX0_isRow_70 (by decide) (fun hc70 h => ?_) (fun hc70 h => ?_)
      · refine r_iconst (pc := 77) C dX0_isRow_77 ?_
        have e := Option.some.inj h
        exact r_zret (pc := 78) C hr (Or.inl rfl) (congrArg (fun z => some (vB z)) e.symm) rfl dX0_isRow_78
      · refine r_iconst (pc := 73) C dX0_isRow_73 ?_
        refine r_goto (pc := 74) (tgt := 78) C dX0_isRow_74 (by decide) ?_
        have e := Option.some.inj h
        exact r_zret (pc := 78) C hr (Or.inr rfl) (congrArg (fun z => some (vB z)) e.symm) rfl dX0_isRow_78
set_option maxHeartbeats 4000000 in
set_option maxRecDepth 20000 in
theorem w_x_Heard_isRow_B40 (C : xCX σ p s m args meth c cX0_isRow 4 RX0 D E b) (hr : meth.sig.returnType = (some .boolean)) {r0 : Bool} (a1 : Nat) (La1 : Nat) (ha1 : xSh a1 = (0, [La1])) (na1 : a1 < xN) (la1 : La1 ≤ 2147483647) {M : Mem} {v2 : Int} (h : x_Heard_isRow_B40 a1 La1 v2 M = some r0) :
    xWX p l e 1 12 s m args below meth c 4 D E b (some (vB r0)) M M 40 [(0, vR b 354), (1, vR b a1), (2, vI v2)] [] := by
  unfold x_Heard_isRow_B40 at h
  refine r_iconst (pc := 40) C dX0_isRow_40 ?_
  refine r_goto (pc := 41) (tgt := 45) C dX0_isRow_41 (by decide) ?_
  refine r_sub (lv' := [(0, vR b 354), (1, vR b a1), (2, vI v2)]) [0, 1, 2] rfl ?_
  exact w_x_Heard_isRow_B45 C hr a1 La1 ha1 na1 la1 h
set_option maxHeartbeats 4000000 in
set_option maxRecDepth 20000 in
theorem c_x_Heard_isRow (l : Launch) (a1 : Nat) (La1 : Nat) (ha1 : xSh a1 = (0, [La1])) (na1 : a1 < xN) (la1 : La1 ≤ 2147483647) {x2 : Int} {M : Mem} {r0 : Bool} (h : x_Heard_isRow a1 La1 x2 M = some r0) : Ct l yX0_isRow cX0_isRow 4 (some .boolean) 1 12 vwCl xSh xN xRf (xExt σ) (fun b => [vR b 354, vR b a1, vI x2]) M (fun b => (some (vB r0))) M := by
  refine Ct_of (xExtOK σ) (by decide) (fun b => Nat.le_of_ble_eq_true rfl) ?_
  intro p e s m args below meth c D E b C hr
  unfold x_Heard_isRow at h
  refine (show xWX p l e 1 12 s m args below meth c 4 D E b (some (vB r0)) M M 0 [(0, vR b 354), (1, vR b a1), (2, vI x2)] [] from ?_)
  refine r_iload_n (pc := 0) C 2 rfl rfl dX0_isRow_0 ?_
  refine r_if_lt (pc := 1) (tgt := 12) C h dX0_isRow_1 (by decide) (fun hc1 h => ?_) (fun hc1 h => ?_)
  · refine r_iconst (pc := 12) C dX0_isRow_12 ?_
    have e := Option.some.inj h
    exact r_zret (pc := 13) C hr (Or.inl rfl) (congrArg (fun z => some (vB z)) e.symm) rfl dX0_isRow_13
  · refine r_iload_n (pc := 4) C 2 rfl rfl dX0_isRow_4 ?_
    refine r_iconst (pc := 5) C dX0_isRow_5 ?_
    refine r_iadd (pc := 6) C dX0_isRow_6 ?_
    refine r_aload_n (pc := 7) C 1 rfl rfl dX0_isRow_7 ?_
    refine r_alen (pc := 8) C ha1 na1 dX0_isRow_8 ?_
    refine r_icmp_lt (pc := 9) (tgt := 14) C h dX0_isRow_9 (by decide) (fun hc9 h => ?_) (fun hc9 h => ?_)
    · refine r_aload_n (pc := 14) C 1 rfl rfl dX0_isRow_14 ?_
      refine r_iload_n (pc := 15) C 2 rfl rfl dX0_isRow_15 ?_
      refine r_iconst (pc := 16) C dX0_isRow_16 ?_
      refine r_iadd (pc := 17) C dX0_isRow_17 ?_
      obtain ⟨hi18, h⟩ := chk_inv h
      refine r_iald (pc := 18) C ha1 na1 la1 hi18 rfl dX0_isRow_18 ?_
      refine r_aload_n (pc := 19) C 0 rfl rfl dX0_isRow_19 ?_
      refine r_getR (pc := 20) C fl_RX0_29 x_s354 (by decide) x_kHeard_1 x_r354_1 dX0_isRow_20 ?_
      refine r_getI (pc := 23) C fl_RX0_100 x_s23 (by decide) x_kTown_0 dX0_isRow_23 ?_
      refine r_icmp_lt (pc := 26) (tgt := 40) C h dX0_isRow_26 (by decide) (fun hc26 h => ?_) (fun hc26 h => ?_)
      · refine r_sub (lv' := [(0, vR b 354), (1, vR b a1), (2, vI x2)]) [0, 1, 2] rfl ?_
        exact w_x_Heard_isRow_B40 C hr a1 La1 ha1 na1 la1 h
      · refine r_aload_n (pc := 29) C 1 rfl rfl dX0_isRow_29 ?_
        refine r_iload_n (pc := 30) C 2 rfl rfl dX0_isRow_30 ?_
        refine r_iconst (pc := 31) C dX0_isRow_31 ?_
        refine r_iadd (pc := 32) C dX0_isRow_32 ?_
        obtain ⟨hi33, h⟩ := chk_inv h
        refine r_iald (pc := 33) C ha1 na1 la1 hi33 rfl dX0_isRow_33 ?_
        refine r_sipush (pc := 34) (j := 255) C (by decide +kernel) dX0_isRow_34 ?_
        refine r_icmp_ne (pc := 37) (tgt := 44) C h dX0_isRow_37 (by decide) (fun hc37 h => ?_) (fun hc37 h => ?_)
        · refine r_iconst (pc := 44) C dX0_isRow_44 ?_
          refine r_sub (lv' := [(0, vR b 354), (1, vR b a1), (2, vI x2)]) [0, 1, 2] rfl ?_
          exact w_x_Heard_isRow_B45 C hr a1 La1 ha1 na1 la1 h
        · refine r_sub (lv' := [(0, vR b 354), (1, vR b a1), (2, vI x2)]) [0, 1, 2] rfl ?_
          exact w_x_Heard_isRow_B40 C hr a1 La1 ha1 na1 la1 h
    · refine r_iconst (pc := 12) C dX0_isRow_12 ?_
      have e := Option.some.inj h
      exact r_zret (pc := 13) C hr (Or.inl rfl) (congrArg (fun z => some (vB z)) e.symm) rfl dX0_isRow_13
set_option maxHeartbeats 4000000 in
set_option maxRecDepth 20000 in
theorem w_x_Heard_take_L32_s (C : xCX σ p s m args meth c cX0_take 5 RX0 D E b) (hr : meth.sig.returnType = (some .int)) {r0 : Int} {M0 : Mem} {v2 : Int} {M : Mem} {v3 : Int} {q : (Int × Mem) ⊕ (Int)} {rec : Int → Option ((Int × Mem) ⊕ (Int))} (hrec : ∀ (v3 : Int), rec v3 = some q → xWX p l e 2 35 s m args below meth c 5 D E b (some (vI r0)) M0 M 32 [(0, vR b 354), (1, vR b 1), (2, vI v2), (3, vI v3)] []) (hret : ∀ r, q = .inl r → r = (r0, M0)) (hfol : ∀ (v3 : Int), q = .inr v3 → xWX p l e 2 35 s m args below meth c 5 D E b (some (vI r0)) M0 M 59 [(0, vR b 354), (1, vR b 1), (2, vI v2)] []) (h : x_Heard_take_L32 v2 M rec v3 = some q) :
    xWX p l e 2 35 s m args below meth c 5 D E b (some (vI r0)) M0 M 32 [(0, vR b 354), (1, vR b 1), (2, vI v2), (3, vI v3)] [] := by
  unfold x_Heard_take_L32 at h
  refine r_iload_n (pc := 32) C 3 rfl rfl dX0_take_32 ?_
  refine r_iload_n (pc := 33) C 2 rfl rfl dX0_take_33 ?_
  refine r_icmp_ge (pc := 34) (tgt := 59) C h dX0_take_34 (by decide) (fun hc34 h => ?_) (fun hc34 h => ?_)
  · refine r_sub (lv' := [(0, vR b 354), (1, vR b 1), (2, vI v2)]) [0, 1, 2] rfl ?_
    exact hfol _ (Option.some.inj h).symm
  · refine r_aload_n (pc := 37) C 0 rfl rfl dX0_take_37 ?_
    refine r_aload_n (pc := 38) C 1 rfl rfl dX0_take_38 ?_
    refine r_getR (pc := 39) C fl_RX0_49 x_s1 (by decide) x_kTape_0 x_r1_0 dX0_take_39 ?_
    refine r_iconst (pc := 42) C dX0_take_42 ?_
    refine r_iload_n (pc := 43) C 3 rfl rfl dX0_take_43 ?_
    refine r_imul (pc := 44) C dX0_take_44 ?_
    obtain ⟨r1, hq1, h⟩ := bnd_inv h
    refine r_callV (pc := 45) (rest := []) (st1 := [vB r1]) C (xExtOK σ b) [vR b 2, vI (3 * v3)] (c_x_Heard_isRow l 2 1600 x_s2 (by decide) (by decide) hq1) cl_RX0_52 x_s354 (by decide) rfl rfl rfl rfl ⟨Nat.le_of_ble_eq_true rfl, Nat.le_of_ble_eq_true rfl⟩ (Nat.le_of_ble_eq_true rfl) rfl rfl dX0_take_45 ?_
    refine r_if_neB (pc := 48) (tgt := 53) C h dX0_take_48 (by decide) (fun hc48 h => ?_) (fun hc48 h => ?_)
    · obtain ⟨v3_53, hv3_53, h⟩ := lt_inv h
      refine r_iincN (pc := 53) (y := v3_53) (lv' := [(3, vI v3_53), (0, vR b 354), (1, vR b 1), (2, vI v2)]) C 3 rfl hv3_53 dX0_take_53 (by decide) rfl ?_
      refine r_goto (pc := 56) (tgt := 32) C dX0_take_56 (by decide) ?_
      refine r_sub (lv' := [(0, vR b 354), (1, vR b 1), (2, vI v2), (3, vI v3_53)]) [1, 2, 3, 0] rfl ?_
      exact hrec _ h
    · refine r_iconst (pc := 51) C dX0_take_51 ?_
      have e := hret _ (Option.some.inj h).symm
      exact r_iret (pc := 52) C hr (congrArg (fun z => some (vI z)) (Prod.mk.inj e).1.symm) (Prod.mk.inj e).2.symm dX0_take_52
set_option maxHeartbeats 4000000 in
theorem w_x_Heard_take_L32 (C : xCX σ p s m args meth c cX0_take 5 RX0 D E b) (hr : meth.sig.returnType = (some .int)) {r0 : Int} {M0 : Mem} {v2 : Int} {M : Mem} {q : (Int × Mem) ⊕ (Int)} (hret : ∀ r, q = .inl r → r = (r0, M0)) (hfol : ∀ (v3 : Int), q = .inr v3 → xWX p l e 2 35 s m args below meth c 5 D E b (some (vI r0)) M0 M 59 [(0, vR b 354), (1, vR b 1), (2, vI v2)] []) : ∀ (n : Nat) (v3 : Int), itr1 (x_Heard_take_L32 v2 M) n v3 = some q →
    xWX p l e 2 35 s m args below meth c 5 D E b (some (vI r0)) M0 M 32 [(0, vR b 354), (1, vR b 1), (2, vI v2), (3, vI v3)] [] := by
  intro n
  induction n with
  | zero => exact fun _ h => itr_z h
  | succ n ih => exact fun _ h => w_x_Heard_take_L32_s C hr ih hret hfol h
set_option maxHeartbeats 4000000 in
set_option maxRecDepth 20000 in
theorem w_x_Heard_take_L61_s (C : xCX σ p s m args meth c cX0_take 5 RX0 D E b) (hr : meth.sig.returnType = (some .int)) {r0 : Int} {M0 : Mem} {v2 : Int} {v3 : Int} {M : Mem} {q : Int × Mem} {rec : Int → Mem → Option (Int × Mem)} (hrec : ∀ (v3 : Int) (M : Mem), rec v3 M = some q → xWX p l e 2 35 s m args below meth c 5 D E b (some (vI r0)) M0 M 61 [(0, vR b 354), (1, vR b 1), (2, vI v2), (3, vI v3)] []) (hfol : ∀ (v3 : Int) (M : Mem), q = (v3, M) → xWX p l e 2 35 s m args below meth c 5 D E b (some (vI r0)) M0 M 135 [(0, vR b 354), (2, vI v2)] []) (h : x_Heard_take_L61 v2 rec v3 M = some q) :
    xWX p l e 2 35 s m args below meth c 5 D E b (some (vI r0)) M0 M 61 [(0, vR b 354), (1, vR b 1), (2, vI v2), (3, vI v3)] [] := by
  unfold x_Heard_take_L61 at h
  refine r_iload_n (pc := 61) C 3 rfl rfl dX0_take_61 ?_
  refine r_iload_n (pc := 62) C 2 rfl rfl dX0_take_62 ?_
  refine r_icmp_ge (pc := 63) (tgt := 135) C h dX0_take_63 (by decide) (fun hc63 h => ?_) (fun hc63 h => ?_)
  · refine r_sub (lv' := [(0, vR b 354), (2, vI v2)]) [0, 2] rfl ?_
    exact hfol _ _ (Option.some.inj h).symm
  · refine r_aload_n (pc := 66) C 0 rfl rfl dX0_take_66 ?_
    refine r_getR (pc := 67) C fl_RX0_11 x_s354 (by decide) x_kHeard_4 x_r354_4 dX0_take_67 ?_
    refine r_iload_n (pc := 70) C 3 rfl rfl dX0_take_70 ?_
    refine r_aload_n (pc := 71) C 1 rfl rfl dX0_take_71 ?_
    refine r_getR (pc := 72) C fl_RX0_49 x_s1 (by decide) x_kTape_0 x_r1_0 dX0_take_72 ?_
    refine r_iconst (pc := 75) C dX0_take_75 ?_
    refine r_iload_n (pc := 76) C 3 rfl rfl dX0_take_76 ?_
    refine r_imul (pc := 77) C dX0_take_77 ?_
    obtain ⟨hi78, h⟩ := chk_inv h
    refine r_iald (pc := 78) C x_s2 (by decide) (by decide) hi78 rfl dX0_take_78 ?_
    obtain ⟨hi79, h⟩ := chk_inv h
    obtain ⟨M_79, hM_79, h⟩ := lt_inv h
    refine r_iast (pc := 79) C x_s355 (by decide) (by decide) hi79 rfl hM_79 dX0_take_79 ?_
    refine r_aload_n (pc := 80) C 0 rfl rfl dX0_take_80 ?_
    refine r_getR (pc := 81) C fl_RX0_15 x_s354 (by decide) x_kHeard_5 x_r354_5 dX0_take_81 ?_
    refine r_iload_n (pc := 84) C 3 rfl rfl dX0_take_84 ?_
    refine r_aload_n (pc := 85) C 1 rfl rfl dX0_take_85 ?_
    refine r_getR (pc := 86) C fl_RX0_49 x_s1 (by decide) x_kTape_0 x_r1_0 dX0_take_86 ?_
    refine r_iconst (pc := 89) C dX0_take_89 ?_
    refine r_iload_n (pc := 90) C 3 rfl rfl dX0_take_90 ?_
    refine r_imul (pc := 91) C dX0_take_91 ?_
    refine r_iconst (pc := 92) C dX0_take_92 ?_
    refine r_iadd (pc := 93) C dX0_take_93 ?_
    obtain ⟨hi94, h⟩ := chk_inv h
    refine r_iald (pc := 94) C x_s2 (by decide) (by decide) hi94 rfl dX0_take_94 ?_
    obtain ⟨hi95, h⟩ := chk_inv h
    obtain ⟨M_95, hM_95, h⟩ := lt_inv h
    refine r_iast (pc := 95) C x_s356 (by decide) (by decide) hi95 rfl hM_95 dX0_take_95 ?_
    refine r_aload_n (pc := 96) C 1 rfl rfl dX0_take_96 ?_
    refine r_getR (pc := 97) C fl_RX0_49 x_s1 (by decide) x_kTape_0 x_r1_0 dX0_take_97 ?_
    refine r_iconst (pc := 100) C dX0_take_100 ?_
    refine r_iload_n (pc := 101) C 3 rfl rfl dX0_take_101 ?_
    refine r_imul (pc := 102) C dX0_take_102 ?_
    refine r_iconst (pc := 103) C dX0_take_103 ?_
    refine r_iadd (pc := 104) C dX0_take_104 ?_
    obtain ⟨hi105, h⟩ := chk_inv h
    refine r_iald (pc := 105) C x_s2 (by decide) (by decide) hi105 rfl dX0_take_105 ?_
    obtain ⟨v4_106, hv4_106, h⟩ := lt_inv h
    refine r_topI hv4_106 ?_
    refine r_istore (pc := 106) (lv' := [(4, vI v4_106), (0, vR b 354), (1, vR b 1), (2, vI v2), (3, vI v3)]) C dX0_take_106 (by decide) rfl ?_
    refine r_aload_n (pc := 108) C 1 rfl rfl dX0_take_108 ?_
    refine r_getR (pc := 109) C fl_RX0_18 x_s354 (by decide) x_kHeard_6 x_r354_6 dX0_take_109 ?_
    refine r_iload_n (pc := 112) C 4 rfl rfl dX0_take_112 ?_
    refine r_iload (pc := 113) C 0 rfl dX0_take_113 ?_
    refine r_sipush (pc := 115) (j := 255) C (by decide +kernel) dX0_take_115 ?_
    refine r_icmp_ne (pc := 118) (tgt := 126) C h dX0_take_118 (by decide) (fun hc118 h => ?_) (fun hc118 h => ?_)
    · refine r_iload (pc := 126) C 0 rfl dX0_take_126 ?_
      obtain ⟨hi128, h⟩ := chk_inv h
      obtain ⟨M_128, hM_128, h⟩ := lt_inv h
      refine r_iast (pc := 128) C x_s357 (by decide) (by decide) hi128 rfl hM_128 dX0_take_128 ?_
      obtain ⟨v3_129, hv3_129, h⟩ := lt_inv h
      refine r_iincN (pc := 129) (y := v3_129) (lv' := [(3, vI v3_129), (4, vI v4_106), (0, vR b 354), (1, vR b 1), (2, vI v2)]) C 4 rfl hv3_129 dX0_take_129 (by decide) rfl ?_
      refine r_goto (pc := 132) (tgt := 61) C dX0_take_132 (by decide) ?_
      refine r_sub (lv' := [(0, vR b 354), (1, vR b 1), (2, vI v2), (3, vI v3_129)]) [2, 3, 4, 0] rfl ?_
      exact hrec _ _ h
    · refine r_bipush (pc := 121) (j := 7) C (by decide +kernel) dX0_take_121 ?_
      refine r_goto (pc := 123) (tgt := 128) C dX0_take_123 (by decide) ?_
      obtain ⟨hi128, h⟩ := chk_inv h
      obtain ⟨M_128, hM_128, h⟩ := lt_inv h
      refine r_iast (pc := 128) C x_s357 (by decide) (by decide) hi128 rfl hM_128 dX0_take_128 ?_
      obtain ⟨v3_129, hv3_129, h⟩ := lt_inv h
      refine r_iincN (pc := 129) (y := v3_129) (lv' := [(3, vI v3_129), (4, vI v4_106), (0, vR b 354), (1, vR b 1), (2, vI v2)]) C 4 rfl hv3_129 dX0_take_129 (by decide) rfl ?_
      refine r_goto (pc := 132) (tgt := 61) C dX0_take_132 (by decide) ?_
      refine r_sub (lv' := [(0, vR b 354), (1, vR b 1), (2, vI v2), (3, vI v3_129)]) [2, 3, 4, 0] rfl ?_
      exact hrec _ _ h
set_option maxHeartbeats 4000000 in
theorem w_x_Heard_take_L61 (C : xCX σ p s m args meth c cX0_take 5 RX0 D E b) (hr : meth.sig.returnType = (some .int)) {r0 : Int} {M0 : Mem} {v2 : Int} {q : Int × Mem} (hfol : ∀ (v3 : Int) (M : Mem), q = (v3, M) → xWX p l e 2 35 s m args below meth c 5 D E b (some (vI r0)) M0 M 135 [(0, vR b 354), (2, vI v2)] []) : ∀ (n : Nat) (v3 : Int) (M : Mem), itr2 (x_Heard_take_L61 v2) n v3 M = some q →
    xWX p l e 2 35 s m args below meth c 5 D E b (some (vI r0)) M0 M 61 [(0, vR b 354), (1, vR b 1), (2, vI v2), (3, vI v3)] [] := by
  intro n
  induction n with
  | zero => exact fun _ _ h => itr_z h
  | succ n ih => exact fun _ _ h => w_x_Heard_take_L61_s C hr ih hfol h
set_option maxHeartbeats 4000000 in
set_option maxRecDepth 20000 in
theorem c_x_Heard_take (l : Launch) {M : Mem} {r0 : Int} {M0 : Mem} (h : x_Heard_take M = some (r0, M0)) : Ct l yX0_take cX0_take 5 (some .int) 2 35 vwCl xSh xN xRf (xExt σ) (fun b => [vR b 354, vR b 1]) M (fun b => (some (vI r0))) M0 := by
  refine Ct_of (xExtOK σ) (by decide) (fun b => Nat.le_of_ble_eq_true rfl) ?_
  intro p e s m args below meth c D E b C hr
  unfold x_Heard_take at h
  refine (show xWX p l e 2 35 s m args below meth c 5 D E b (some (vI r0)) M0 M 0 [(0, vR b 354), (1, vR b 1)] [] from ?_)
  refine r_aload_n (pc := 0) C 1 rfl rfl dX0_take_0 ?_
  refine r_getI (pc := 1) C fl_RX0_44 x_s1 (by decide) x_kTape_1 dX0_take_1 ?_
  refine r_iconst (pc := 4) C dX0_take_4 ?_
  obtain ⟨hz5, h⟩ := chk_inv h
  refine r_idiv (pc := 5) C hz5 dX0_take_5 ?_
  obtain ⟨v2_6, hv2_6, h⟩ := lt_inv h
  refine r_topI hv2_6 ?_
  refine r_istore_n (pc := 6) (lv' := [(2, vI v2_6), (0, vR b 354), (1, vR b 1)]) C rfl dX0_take_6 (by decide) rfl ?_
  refine r_iload_n (pc := 7) C 0 rfl rfl dX0_take_7 ?_
  refine r_iconst (pc := 8) C dX0_take_8 ?_
  refine r_imul (pc := 9) C dX0_take_9 ?_
  refine r_aload_n (pc := 10) C 2 rfl rfl dX0_take_10 ?_
  refine r_getI (pc := 11) C fl_RX0_44 x_s1 (by decide) x_kTape_1 dX0_take_11 ?_
  refine r_icmp_ne (pc := 14) (tgt := 28) C h dX0_take_14 (by decide) (fun hc14 h => ?_) (fun hc14 h => ?_)
  · refine r_iconst (pc := 28) C dX0_take_28 ?_
    have e := Option.some.inj h
    exact r_iret (pc := 29) C hr (congrArg (fun z => some (vI z)) (Prod.mk.inj e).1.symm) (Prod.mk.inj e).2.symm dX0_take_29
  · refine r_iload_n (pc := 17) C 0 rfl rfl dX0_take_17 ?_
    refine r_iconst (pc := 18) C dX0_take_18 ?_
    refine r_icmp_lt (pc := 19) (tgt := 28) C h dX0_take_19 (by decide) (fun hc19 h => ?_) (fun hc19 h => ?_)
    · refine r_iconst (pc := 28) C dX0_take_28 ?_
      have e := Option.some.inj h
      exact r_iret (pc := 29) C hr (congrArg (fun z => some (vI z)) (Prod.mk.inj e).1.symm) (Prod.mk.inj e).2.symm dX0_take_29
    · refine r_iload_n (pc := 22) C 0 rfl rfl dX0_take_22 ?_
      refine r_bipush (pc := 23) (j := 16) C (by decide +kernel) dX0_take_23 ?_
      refine r_icmp_le (pc := 25) (tgt := 30) C h dX0_take_25 (by decide) (fun hc25 h => ?_) (fun hc25 h => ?_)
      · refine r_iconst (pc := 30) C dX0_take_30 ?_
        refine r_istore_n (pc := 31) (lv' := [(3, vI 0), (2, vI v2_6), (0, vR b 354), (1, vR b 1)]) C rfl dX0_take_31 (by decide) rfl ?_
        refine r_sub (lv' := [(0, vR b 354), (1, vR b 1), (2, vI v2_6), (3, vI 0)]) [2, 3, 1, 0] rfl ?_
        obtain ⟨q2, hl2, h⟩ := bnd_inv h
        refine w_x_Heard_take_L32 C hr (fun r hq => ?_) (fun v3_2 hq => ?_) FUEL _ hl2
        · have hq := hq.symm
          subst hq
          exact Option.some.inj h
        · have hq := hq.symm
          subst hq
          refine r_iconst (pc := 59) C dX0_take_59 ?_
          refine r_istore_n (pc := 60) (lv' := [(3, vI 0), (0, vR b 354), (1, vR b 1), (2, vI v2_6)]) C rfl dX0_take_60 (by decide) rfl ?_
          refine r_sub (lv' := [(0, vR b 354), (1, vR b 1), (2, vI v2_6), (3, vI 0)]) [1, 2, 3, 0] rfl ?_
          obtain ⟨q3, hl3, h⟩ := bnd_inv h
          refine w_x_Heard_take_L61 C hr (fun v3_3 M_3 hq => ?_) FUEL _ _ hl3
          have hq := hq.symm
          subst hq
          refine r_aload_n (pc := 135) C 0 rfl rfl dX0_take_135 ?_
          refine r_iload_n (pc := 136) C 1 rfl rfl dX0_take_136 ?_
          obtain ⟨M_137, hM_137, h⟩ := lt_inv h
          refine r_putI (pc := 137) C fl_RX0_40 x_ft0 x_w0_0 x_s354 (by decide) x_kHeard_0 hM_137 dX0_take_137 ?_
          refine r_iload_n (pc := 140) C 1 rfl rfl dX0_take_140 ?_
          have e := Option.some.inj h
          exact r_iret (pc := 141) C hr (congrArg (fun z => some (vI z)) (Prod.mk.inj e).1.symm) (Prod.mk.inj e).2.symm dX0_take_141
      · refine r_iconst (pc := 28) C dX0_take_28 ?_
        have e := Option.some.inj h
        exact r_iret (pc := 29) C hr (congrArg (fun z => some (vI z)) (Prod.mk.inj e).1.symm) (Prod.mk.inj e).2.symm dX0_take_29
set_option maxHeartbeats 4000000 in
set_option maxRecDepth 20000 in
theorem c_x_X_hear (l : Launch) {M : Mem} {r0 : Int} {M0 : Mem} (h : x_X_hear M = some (r0, M0)) : Ct l yX11_hear cX11_hear 2 (some .int) 3 59 vwCl xSh xN xRf (xExt σ) (fun b => [vR b 0]) M (fun b => (some (vI r0))) M0 := by
  refine Ct_of (xExtOK σ) (by decide) (fun b => Nat.le_of_ble_eq_true rfl) ?_
  intro p e s m args below meth c D E b C hr
  unfold x_X_hear at h
  refine (show xWX p l e 3 59 s m args below meth c 2 D E b (some (vI r0)) M0 M 0 [(0, vR b 0)] [] from ?_)
  refine r_aload_n (pc := 0) C 0 rfl rfl dX11_hear_0 ?_
  refine r_getR (pc := 1) C fl_RX11_63 x_s0 (by decide) x_kX_7 x_r0_7 dX11_hear_1 ?_
  refine r_aload_n (pc := 4) C 0 rfl rfl dX11_hear_4 ?_
  refine r_getR (pc := 5) C fl_RX11_12 x_s0 (by decide) x_kX_0 x_r0_0 dX11_hear_5 ?_
  obtain ⟨r1, M1, hq1, h⟩ := bnd2_inv h
  refine r_callV (pc := 8) (rest := []) (st1 := [vI r1]) C (xExtOK σ b) [vR b 1] (c_x_Heard_take l hq1) cl_RX11_261 x_s354 (by decide) rfl rfl rfl rfl ⟨Nat.le_of_ble_eq_true rfl, Nat.le_of_ble_eq_true rfl⟩ (Nat.le_of_ble_eq_true rfl) rfl rfl dX11_hear_8 ?_
  refine r_istore_n (pc := 11) (lv' := [(1, vI r1), (0, vR b 0)]) C rfl dX11_hear_11 (by decide) rfl ?_
  refine r_aload_n (pc := 12) C 1 rfl rfl dX11_hear_12 ?_
  refine r_getR (pc := 13) C fl_RX11_12 x_s0 (by decide) x_kX_0 x_r0_0 dX11_hear_13 ?_
  refine r_iconst (pc := 16) C dX11_hear_16 ?_
  obtain ⟨M_17, hM_17, h⟩ := lt_inv h
  refine r_putI (pc := 17) C fl_RX11_82 x_ft7 x_w7_1 x_s1 (by decide) x_kTape_1 hM_17 dX11_hear_17 ?_
  refine r_iload_n (pc := 20) C 0 rfl rfl dX11_hear_20 ?_
  refine r_iconst (pc := 21) C dX11_hear_21 ?_
  refine r_icmp_ne (pc := 22) (tgt := 33) C h dX11_hear_22 (by decide) (fun hc22 h => ?_) (fun hc22 h => ?_)
  · refine r_iload_n (pc := 33) C 0 rfl rfl dX11_hear_33 ?_
    have e := Option.some.inj h
    exact r_iret (pc := 34) C hr (congrArg (fun z => some (vI z)) (Prod.mk.inj e).1.symm) (Prod.mk.inj e).2.symm dX11_hear_34
  · refine r_aload_n (pc := 25) C 1 rfl rfl dX11_hear_25 ?_
    refine r_iconst (pc := 26) C dX11_hear_26 ?_
    obtain ⟨r2, M2, hq2, h⟩ := bnd2_inv h
    refine r_callV (pc := 27) (rest := []) (st1 := [vI r2]) C (xExtOK σ b) [vI 5] (c_x_X_none l hq2) cl_RX11_85 x_s0 (by decide) rfl rfl rfl rfl ⟨Nat.le_of_ble_eq_true rfl, Nat.le_of_ble_eq_true rfl⟩ (Nat.le_of_ble_eq_true rfl) rfl rfl dX11_hear_27 ?_
    refine r_goto (pc := 30) (tgt := 34) C dX11_hear_30 (by decide) ?_
    have e := Option.some.inj h
    exact r_iret (pc := 34) C hr (congrArg (fun z => some (vI z)) (Prod.mk.inj e).1.symm) (Prod.mk.inj e).2.symm dX11_hear_34
set_option maxHeartbeats 4000000 in
set_option maxRecDepth 20000 in
theorem w_x_Heard_fits_L2_s (C : xCX σ p s m args meth c cX0_fits 4 RX0 D E b) (hr : meth.sig.returnType = (some .boolean)) {r0 : Bool} {v1 : Int} {v2 : Int} {M : Mem} {v3 : Int} {q : (Bool) ⊕ (Int)} {rec : Int → Option ((Bool) ⊕ (Int))} (hrec : ∀ (v3 : Int), rec v3 = some q → xWX p l e 1 12 s m args below meth c 4 D E b (some (vB r0)) M M 2 [(0, vR b 354), (1, vI v1), (2, vI v2), (3, vI v3)] []) (hret : ∀ r, q = .inl r → r = r0) (hfol : ∀ (v3 : Int), q = .inr v3 → xWX p l e 1 12 s m args below meth c 4 D E b (some (vB r0)) M M 68 [] []) (h : x_Heard_fits_L2 v1 v2 M rec v3 = some q) :
    xWX p l e 1 12 s m args below meth c 4 D E b (some (vB r0)) M M 2 [(0, vR b 354), (1, vI v1), (2, vI v2), (3, vI v3)] [] := by
  unfold x_Heard_fits_L2 at h
  refine r_iload_n (pc := 2) C 3 rfl rfl dX0_fits_2 ?_
  refine r_aload_n (pc := 3) C 0 rfl rfl dX0_fits_3 ?_
  refine r_getI (pc := 4) C fl_RX0_40 x_s354 (by decide) x_kHeard_0 dX0_fits_4 ?_
  refine r_icmp_ge (pc := 7) (tgt := 68) C h dX0_fits_7 (by decide) (fun hc7 h => ?_) (fun hc7 h => ?_)
  · refine r_sub (lv' := []) [] rfl ?_
    exact hfol _ (Option.some.inj h).symm
  · refine r_iload_n (pc := 10) C 3 rfl rfl dX0_fits_10 ?_
    refine r_bipush (pc := 11) (j := 16) C (by decide +kernel) dX0_fits_11 ?_
    refine r_icmp_ge (pc := 13) (tgt := 68) C h dX0_fits_13 (by decide) (fun hc13 h => ?_) (fun hc13 h => ?_)
    · refine r_sub (lv' := []) [] rfl ?_
      exact hfol _ (Option.some.inj h).symm
    · refine r_aload_n (pc := 16) C 0 rfl rfl dX0_fits_16 ?_
      refine r_getR (pc := 17) C fl_RX0_11 x_s354 (by decide) x_kHeard_4 x_r354_4 dX0_fits_17 ?_
      refine r_iload_n (pc := 20) C 3 rfl rfl dX0_fits_20 ?_
      obtain ⟨hi21, h⟩ := chk_inv h
      refine r_iald (pc := 21) C x_s355 (by decide) (by decide) hi21 rfl dX0_fits_21 ?_
      refine r_iload_n (pc := 22) C 2 rfl rfl dX0_fits_22 ?_
      refine r_icmp_lt (pc := 23) (tgt := 28) C h dX0_fits_23 (by decide) (fun hc23 h => ?_) (fun hc23 h => ?_)
      · refine r_aload_n (pc := 28) C 0 rfl rfl dX0_fits_28 ?_
        refine r_getR (pc := 29) C fl_RX0_23 x_s354 (by decide) x_kHeard_7 x_r354_7 dX0_fits_29 ?_
        refine r_iload_n (pc := 32) C 1 rfl rfl dX0_fits_32 ?_
        obtain ⟨hi33, h⟩ := chk_inv h
        refine r_aald (pc := 33) (ty := .array .int) C x_s358 (by decide) (by decide) (fun _ => rfl) rfl hi33 rfl (x_qr358 (x_lt hi33 rfl)) dX0_fits_33 ?_
        refine r_aload_n (pc := 34) C 0 rfl rfl dX0_fits_34 ?_
        refine r_getR (pc := 35) C fl_RX0_11 x_s354 (by decide) x_kHeard_4 x_r354_4 dX0_fits_35 ?_
        refine r_iload_n (pc := 38) C 3 rfl rfl dX0_fits_38 ?_
        obtain ⟨hi39, h⟩ := chk_inv h
        refine r_iald (pc := 39) C x_s355 (by decide) (by decide) hi39 rfl dX0_fits_39 ?_
        refine r_bipush (pc := 40) (j := 12) C (by decide +kernel) dX0_fits_40 ?_
        refine r_imul (pc := 42) C dX0_fits_42 ?_
        refine r_aload_n (pc := 43) C 0 rfl rfl dX0_fits_43 ?_
        refine r_getR (pc := 44) C fl_RX0_15 x_s354 (by decide) x_kHeard_5 x_r354_5 dX0_fits_44 ?_
        refine r_iload_n (pc := 47) C 3 rfl rfl dX0_fits_47 ?_
        obtain ⟨hi48, h⟩ := chk_inv h
        refine r_iald (pc := 48) C x_s356 (by decide) (by decide) hi48 rfl dX0_fits_48 ?_
        refine r_iadd (pc := 49) C dX0_fits_49 ?_
        obtain ⟨hi50, h⟩ := chk_inv h
        refine r_iald (pc := 50) C (x_qs358 (x_lt hi33 rfl)) (x_qn358 (x_lt hi33 rfl)) (by decide) hi50 rfl dX0_fits_50 ?_
        refine r_aload_n (pc := 51) C 0 rfl rfl dX0_fits_51 ?_
        refine r_getR (pc := 52) C fl_RX0_18 x_s354 (by decide) x_kHeard_6 x_r354_6 dX0_fits_52 ?_
        refine r_iload_n (pc := 55) C 3 rfl rfl dX0_fits_55 ?_
        obtain ⟨hi56, h⟩ := chk_inv h
        refine r_iald (pc := 56) C x_s357 (by decide) (by decide) hi56 rfl dX0_fits_56 ?_
        refine r_icmp_eq (pc := 57) (tgt := 62) C h dX0_fits_57 (by decide) (fun hc57 h => ?_) (fun hc57 h => ?_)
        · obtain ⟨v3_62, hv3_62, h⟩ := lt_inv h
          refine r_iincN (pc := 62) (y := v3_62) (lv' := [(3, vI v3_62), (0, vR b 354), (1, vI v1), (2, vI v2)]) C 3 rfl hv3_62 dX0_fits_62 (by decide) rfl ?_
          refine r_goto (pc := 65) (tgt := 2) C dX0_fits_65 (by decide) ?_
          refine r_sub (lv' := [(0, vR b 354), (1, vI v1), (2, vI v2), (3, vI v3_62)]) [1, 2, 3, 0] rfl ?_
          exact hrec _ h
        · refine r_iconst (pc := 60) C dX0_fits_60 ?_
          have e := hret _ (Option.some.inj h).symm
          exact r_zret (pc := 61) C hr (Or.inl rfl) (congrArg (fun z => some (vB z)) e.symm) rfl dX0_fits_61
      · refine r_iconst (pc := 26) C dX0_fits_26 ?_
        have e := hret _ (Option.some.inj h).symm
        exact r_zret (pc := 27) C hr (Or.inl rfl) (congrArg (fun z => some (vB z)) e.symm) rfl dX0_fits_27
set_option maxHeartbeats 4000000 in
theorem w_x_Heard_fits_L2 (C : xCX σ p s m args meth c cX0_fits 4 RX0 D E b) (hr : meth.sig.returnType = (some .boolean)) {r0 : Bool} {v1 : Int} {v2 : Int} {M : Mem} {q : (Bool) ⊕ (Int)} (hret : ∀ r, q = .inl r → r = r0) (hfol : ∀ (v3 : Int), q = .inr v3 → xWX p l e 1 12 s m args below meth c 4 D E b (some (vB r0)) M M 68 [] []) : ∀ (n : Nat) (v3 : Int), itr1 (x_Heard_fits_L2 v1 v2 M) n v3 = some q →
    xWX p l e 1 12 s m args below meth c 4 D E b (some (vB r0)) M M 2 [(0, vR b 354), (1, vI v1), (2, vI v2), (3, vI v3)] [] := by
  intro n
  induction n with
  | zero => exact fun _ h => itr_z h
  | succ n ih => exact fun _ h => w_x_Heard_fits_L2_s C hr ih hret hfol h
set_option maxHeartbeats 4000000 in
set_option maxRecDepth 20000 in
theorem c_x_Heard_fits (l : Launch) {x1 : Int} {x2 : Int} {M : Mem} {r0 : Bool} (h : x_Heard_fits x1 x2 M = some r0) : Ct l yX0_fits cX0_fits 4 (some .boolean) 1 12 vwCl xSh xN xRf (xExt σ) (fun b => [vR b 354, vI x1, vI x2]) M (fun b => (some (vB r0))) M := by
  refine Ct_of (xExtOK σ) (by decide) (fun b => Nat.le_of_ble_eq_true rfl) ?_
  intro p e s m args below meth c D E b C hr
  unfold x_Heard_fits at h
  refine (show xWX p l e 1 12 s m args below meth c 4 D E b (some (vB r0)) M M 0 [(0, vR b 354), (1, vI x1), (2, vI x2)] [] from ?_)
  refine r_iconst (pc := 0) C dX0_fits_0 ?_
  refine r_istore_n (pc := 1) (lv' := [(3, vI 0), (0, vR b 354), (1, vI x1), (2, vI x2)]) C rfl dX0_fits_1 (by decide) rfl ?_
  refine r_sub (lv' := [(0, vR b 354), (1, vI x1), (2, vI x2), (3, vI 0)]) [1, 2, 3, 0] rfl ?_
  obtain ⟨q1, hl1, h⟩ := bnd_inv h
  refine w_x_Heard_fits_L2 C hr (fun r hq => ?_) (fun v3_1 hq => ?_) FUEL _ hl1
  · have hq := hq.symm
    subst hq
    exact Option.some.inj h
  · have hq := hq.symm
    subst hq
    refine r_iconst (pc := 68) C dX0_fits_68 ?_
    have e := Option.some.inj h
    exact r_zret (pc := 69) C hr (Or.inr rfl) (congrArg (fun z => some (vB z)) e.symm) rfl dX0_fits_69
set_option maxHeartbeats 4000000 in
set_option maxRecDepth 20000 in
theorem c_x_Heard_minutesComing (l : Launch) {M : Mem} {r0 : Int} (h : x_Heard_minutesComing M = some r0) : Ct l yX0_minutesComing cX0_minutesComing 1 (some .int) 2 33 vwCl xSh xN xRf (xExt σ) (fun b => [vR b 354]) M (fun b => (some (vI r0))) M := by
  refine Ct_of (xExtOK σ) (by decide) (fun b => Nat.le_of_ble_eq_true rfl) ?_
  intro p e s m args below meth c D E b C hr
  unfold x_Heard_minutesComing at h
  refine (show xWX p l e 2 33 s m args below meth c 1 D E b (some (vI r0)) M M 0 [(0, vR b 354)] [] from ?_)
  refine r_bipush (pc := 0) (j := 31) C (by decide +kernel) dX0_minutesComing_0 ?_
  refine r_sipush (pc := 2) (j := 999) C (by decide +kernel) dX0_minutesComing_2 ?_
  refine r_aload_n (pc := 5) C 0 rfl rfl dX0_minutesComing_5 ?_
  refine r_getR (pc := 6) C fl_RX0_33 x_s354 (by decide) x_kHeard_2 x_r354_2 dX0_minutesComing_6 ?_
  refine r_getI (pc := 9) C fl_RX0_93 x_s38 (by decide) x_kState_13 dX0_minutesComing_9 ?_
  refine r_isub (pc := 12) C dX0_minutesComing_12 ?_
  obtain ⟨r1, hq1, h⟩ := bnd_inv h
  refine r_callS (pc := 13) (rest := []) (st1 := [vI r1]) C (xExtOK σ b) [vI 31, vI (999 - (M 38 13))] (c_j_Math_min_7cf53 l hq1) cl_RX0_95 rfl rfl ⟨Nat.le_of_ble_eq_true rfl, Nat.le_of_ble_eq_true rfl⟩ (Nat.le_of_ble_eq_true rfl) rfl rfl dX0_minutesComing_13 ?_
  have e := Option.some.inj h
  exact r_iret (pc := 16) C hr (congrArg (fun z => some (vI z)) e.symm) rfl dX0_minutesComing_16
set_option maxHeartbeats 4000000 in
set_option maxRecDepth 20000 in
theorem w_x_Heard_watch_L61_B92 (C : xCX σ p s m args meth c cX0_watch 8 RX0 D E b) (hr : meth.sig.returnType = (some .int)) {r0 : Int} {M0 : Mem} {M : Mem} {v1 : Int} {v2 : Int} {v3 : Int} {v4 : Int} {v5 : Int} {v6 : Int} {s0 : Int} {q : Int × Mem} {rec : Int → Mem → Option (Int × Mem)} (hrec : ∀ (v6 : Int) (M : Mem), rec v6 M = some q → xWX p l e 7 154 s m args below meth c 8 D E b (some (vI r0)) M0 M 61 [(0, vR b 354), (1, vI v1), (2, vI v2), (3, vI v3), (4, vI v4), (5, vI v5), (6, vI v6)] []) (hfol : ∀ (v6 : Int) (M : Mem), q = (v6, M) → xWX p l e 7 154 s m args below meth c 8 D E b (some (vI r0)) M0 M 136 [(0, vR b 354), (1, vI v1), (2, vI v2), (3, vI v3), (4, vI v4), (5, vI v5)] []) (h : x_Heard_watch_L61_B92 rec v1 v2 v3 v4 v5 v6 s0 M = some q) :
    xWX p l e 7 154 s m args below meth c 8 D E b (some (vI r0)) M0 M 92 [(0, vR b 354), (1, vI v1), (2, vI v2), (3, vI v3), (4, vI v4), (5, vI v5), (6, vI v6)] [vI s0] := by
  unfold x_Heard_watch_L61_B92 at h
  refine r_istore (pc := 92) (lv' := [(7, vI s0), (0, vR b 354), (1, vI v1), (2, vI v2), (3, vI v3), (4, vI v4), (5, vI v5), (6, vI v6)]) C dX0_watch_92 (by decide) rfl ?_
  refine r_aload_n (pc := 94) C 1 rfl rfl dX0_watch_94 ?_
  refine r_getR (pc := 95) C fl_RX0_23 x_s354 (by decide) x_kHeard_7 x_r354_7 dX0_watch_95 ?_
  refine r_iload (pc := 98) C 5 rfl dX0_watch_98 ?_
  obtain ⟨hi100, h⟩ := chk_inv h
  refine r_aald (pc := 100) (ty := .array .int) C x_s358 (by decide) (by decide) (fun _ => rfl) rfl hi100 rfl (x_qr358 (x_lt hi100 rfl)) dX0_watch_100 ?_
  refine r_iload (pc := 101) C 6 rfl dX0_watch_101 ?_
  refine r_bipush (pc := 103) (j := 12) C (by decide +kernel) dX0_watch_103 ?_
  refine r_imul (pc := 105) C dX0_watch_105 ?_
  refine r_iload (pc := 106) C 7 rfl dX0_watch_106 ?_
  refine r_iadd (pc := 108) C dX0_watch_108 ?_
  refine r_iload (pc := 109) C 0 rfl dX0_watch_109 ?_
  refine r_if_eq (pc := 111) (tgt := 127) C h dX0_watch_111 (by decide) (fun hc111 h => ?_) (fun hc111 h => ?_)
  · refine r_bipush (pc := 127) (j := 7) C (by decide +kernel) dX0_watch_127 ?_
    obtain ⟨hi129, h⟩ := chk_inv h
    obtain ⟨M_129, hM_129, h⟩ := lt_inv h
    refine r_iast (pc := 129) C (x_qs358 (x_lt hi100 rfl)) (x_qn358 (x_lt hi100 rfl)) (by decide) hi129 rfl hM_129 dX0_watch_129 ?_
    obtain ⟨v6_130, hv6_130, h⟩ := lt_inv h
    refine r_iincN (pc := 130) (y := v6_130) (lv' := [(6, vI v6_130), (7, vI s0), (0, vR b 354), (1, vI v1), (2, vI v2), (3, vI v3), (4, vI v4), (5, vI v5)]) C 7 rfl hv6_130 dX0_watch_130 (by decide) rfl ?_
    refine r_goto (pc := 133) (tgt := 61) C dX0_watch_133 (by decide) ?_
    refine r_sub (lv' := [(0, vR b 354), (1, vI v1), (2, vI v2), (3, vI v3), (4, vI v4), (5, vI v5), (6, vI v6_130)]) [2, 3, 4, 5, 6, 7, 0] rfl ?_
    exact hrec _ _ h
  · refine r_aload_n (pc := 114) C 1 rfl rfl dX0_watch_114 ?_
    refine r_getR (pc := 115) C fl_RX0_37 x_s354 (by decide) x_kHeard_3 x_r354_3 dX0_watch_115 ?_
    refine r_getR (pc := 118) C fl_RX0_81 x_s51 (by decide) x_kState_6 x_r51_6 dX0_watch_118 ?_
    refine r_iload (pc := 121) C 7 rfl dX0_watch_121 ?_
    obtain ⟨hi123, h⟩ := chk_inv h
    refine r_iald (pc := 123) C x_s58 (by decide) (by decide) hi123 rfl dX0_watch_123 ?_
    refine r_goto (pc := 124) (tgt := 129) C dX0_watch_124 (by decide) ?_
    obtain ⟨hi129, h⟩ := chk_inv h
    obtain ⟨M_129, hM_129, h⟩ := lt_inv h
    refine r_iast (pc := 129) C (x_qs358 (x_lt hi100 rfl)) (x_qn358 (x_lt hi100 rfl)) (by decide) hi129 rfl hM_129 dX0_watch_129 ?_
    obtain ⟨v6_130, hv6_130, h⟩ := lt_inv h
    refine r_iincN (pc := 130) (y := v6_130) (lv' := [(6, vI v6_130), (7, vI s0), (0, vR b 354), (1, vI v1), (2, vI v2), (3, vI v3), (4, vI v4), (5, vI v5)]) C 7 rfl hv6_130 dX0_watch_130 (by decide) rfl ?_
    refine r_goto (pc := 133) (tgt := 61) C dX0_watch_133 (by decide) ?_
    refine r_sub (lv' := [(0, vR b 354), (1, vI v1), (2, vI v2), (3, vI v3), (4, vI v4), (5, vI v5), (6, vI v6_130)]) [2, 3, 4, 5, 6, 7, 0] rfl ?_
    exact hrec _ _ h
set_option maxHeartbeats 4000000 in
set_option maxRecDepth 20000 in
theorem w_x_Heard_watch_L61_s (C : xCX σ p s m args meth c cX0_watch 8 RX0 D E b) (hr : meth.sig.returnType = (some .int)) {r0 : Int} {M0 : Mem} {v1 : Int} {v2 : Int} {v3 : Int} {v4 : Int} {v5 : Int} {v6 : Int} {M : Mem} {q : Int × Mem} {rec : Int → Mem → Option (Int × Mem)} (hrec : ∀ (v6 : Int) (M : Mem), rec v6 M = some q → xWX p l e 7 154 s m args below meth c 8 D E b (some (vI r0)) M0 M 61 [(0, vR b 354), (1, vI v1), (2, vI v2), (3, vI v3), (4, vI v4), (5, vI v5), (6, vI v6)] []) (hfol : ∀ (v6 : Int) (M : Mem), q = (v6, M) → xWX p l e 7 154 s m args below meth c 8 D E b (some (vI r0)) M0 M 136 [(0, vR b 354), (1, vI v1), (2, vI v2), (3, vI v3), (4, vI v4), (5, vI v5)] []) (h : x_Heard_watch_L61 v1 v2 v3 v4 v5 rec v6 M = some q) :
    xWX p l e 7 154 s m args below meth c 8 D E b (some (vI r0)) M0 M 61 [(0, vR b 354), (1, vI v1), (2, vI v2), (3, vI v3), (4, vI v4), (5, vI v5), (6, vI v6)] [] := by
  unfold x_Heard_watch_L61 at h
  refine r_iload (pc := 61) C 6 rfl dX0_watch_61 ?_
  refine r_aload_n (pc := 63) C 0 rfl rfl dX0_watch_63 ?_
  refine r_getR (pc := 64) C fl_RX0_29 x_s354 (by decide) x_kHeard_1 x_r354_1 dX0_watch_64 ?_
  refine r_getI (pc := 67) C fl_RX0_73 x_s23 (by decide) x_kTown_2 dX0_watch_67 ?_
  refine r_icmp_ge (pc := 70) (tgt := 136) C h dX0_watch_70 (by decide) (fun hc70 h => ?_) (fun hc70 h => ?_)
  · refine r_sub (lv' := [(0, vR b 354), (1, vI v1), (2, vI v2), (3, vI v3), (4, vI v4), (5, vI v5)]) [0, 1, 2, 3, 4, 5] rfl ?_
    exact hfol _ _ (Option.some.inj h).symm
  · refine r_aload_n (pc := 73) C 0 rfl rfl dX0_watch_73 ?_
    refine r_getR (pc := 74) C fl_RX0_37 x_s354 (by decide) x_kHeard_3 x_r354_3 dX0_watch_74 ?_
    refine r_getR (pc := 77) C fl_RX0_78 x_s51 (by decide) x_kState_3 x_r51_3 dX0_watch_77 ?_
    refine r_iload (pc := 80) C 6 rfl dX0_watch_80 ?_
    obtain ⟨hi82, h⟩ := chk_inv h
    refine r_iald (pc := 82) C x_s55 (by decide) (by decide) hi82 rfl dX0_watch_82 ?_
    refine r_iconst (pc := 83) C dX0_watch_83 ?_
    refine r_icmp_ne (pc := 84) (tgt := 91) C h dX0_watch_84 (by decide) (fun hc84 h => ?_) (fun hc84 h => ?_)
    · refine r_iconst (pc := 91) C dX0_watch_91 ?_
      refine r_sub (lv' := [(0, vR b 354), (1, vI v1), (2, vI v2), (3, vI v3), (4, vI v4), (5, vI v5), (6, vI v6)]) [0, 1, 2, 3, 4, 5, 6] rfl ?_
      exact w_x_Heard_watch_L61_B92 C hr hrec hfol h
    · refine r_iconst (pc := 87) C dX0_watch_87 ?_
      refine r_goto (pc := 88) (tgt := 92) C dX0_watch_88 (by decide) ?_
      refine r_sub (lv' := [(0, vR b 354), (1, vI v1), (2, vI v2), (3, vI v3), (4, vI v4), (5, vI v5), (6, vI v6)]) [0, 1, 2, 3, 4, 5, 6] rfl ?_
      exact w_x_Heard_watch_L61_B92 C hr hrec hfol h
set_option maxHeartbeats 4000000 in
theorem w_x_Heard_watch_L61 (C : xCX σ p s m args meth c cX0_watch 8 RX0 D E b) (hr : meth.sig.returnType = (some .int)) {r0 : Int} {M0 : Mem} {v1 : Int} {v2 : Int} {v3 : Int} {v4 : Int} {v5 : Int} {q : Int × Mem} (hfol : ∀ (v6 : Int) (M : Mem), q = (v6, M) → xWX p l e 7 154 s m args below meth c 8 D E b (some (vI r0)) M0 M 136 [(0, vR b 354), (1, vI v1), (2, vI v2), (3, vI v3), (4, vI v4), (5, vI v5)] []) : ∀ (n : Nat) (v6 : Int) (M : Mem), itr2 (x_Heard_watch_L61 v1 v2 v3 v4 v5) n v6 M = some q →
    xWX p l e 7 154 s m args below meth c 8 D E b (some (vI r0)) M0 M 61 [(0, vR b 354), (1, vI v1), (2, vI v2), (3, vI v3), (4, vI v4), (5, vI v5), (6, vI v6)] [] := by
  intro n
  induction n with
  | zero => exact fun _ _ h => itr_z h
  | succ n ih => exact fun _ _ h => w_x_Heard_watch_L61_s C hr ih hfol h
set_option maxHeartbeats 4000000 in
set_option maxRecDepth 20000 in
theorem w_x_Heard_watch_L42_s (C : xCX σ p s m args meth c cX0_watch 8 RX0 D E b) (hr : meth.sig.returnType = (some .int)) {r0 : Int} {M0 : Mem} {v1 : Int} {v2 : Int} {v3 : Int} {v4 : Int} {v5 : Int} {M : Mem} {q : Int × Mem} {rec : Int → Mem → Option (Int × Mem)} (hrec : ∀ (v5 : Int) (M : Mem), rec v5 M = some q → xWX p l e 7 154 s m args below meth c 8 D E b (some (vI r0)) M0 M 42 [(0, vR b 354), (1, vI v1), (2, vI v2), (3, vI v3), (4, vI v4), (5, vI v5)] []) (hfol : ∀ (v5 : Int) (M : Mem), q = (v5, M) → xWX p l e 7 154 s m args below meth c 8 D E b (some (vI r0)) M0 M 150 [(0, vR b 354), (1, vI v1), (2, vI v2), (3, vI v3), (4, vI v4)] []) (h : x_Heard_watch_L42 v1 v2 v3 v4 rec v5 M = some q) :
    xWX p l e 7 154 s m args below meth c 8 D E b (some (vI r0)) M0 M 42 [(0, vR b 354), (1, vI v1), (2, vI v2), (3, vI v3), (4, vI v4), (5, vI v5)] [] := by
  unfold x_Heard_watch_L42 at h
  refine r_iload (pc := 42) C 5 rfl dX0_watch_42 ?_
  refine r_iload_n (pc := 44) C 2 rfl rfl dX0_watch_44 ?_
  refine r_icmp_ge (pc := 45) (tgt := 150) C h dX0_watch_45 (by decide) (fun hc45 h => ?_) (fun hc45 h => ?_)
  · refine r_sub (lv' := [(0, vR b 354), (1, vI v1), (2, vI v2), (3, vI v3), (4, vI v4)]) [0, 1, 2, 3, 4] rfl ?_
    exact hfol _ _ (Option.some.inj h).symm
  · refine r_aload_n (pc := 48) C 0 rfl rfl dX0_watch_48 ?_
    refine r_getR (pc := 49) C fl_RX0_37 x_s354 (by decide) x_kHeard_3 x_r354_3 dX0_watch_49 ?_
    refine r_bipush (pc := 52) (j := 127) C (by decide +kernel) dX0_watch_52 ?_
    obtain ⟨r3, M3, hq3, h⟩ := bnd2_inv h
    refine r_callV (pc := 54) (rest := []) (st1 := [vI r3]) C (xExtOK σ b) [vI 127] (c_x_State_begin l 51 x_m51 hq3) cl_RX0_69 x_s51 (by decide) rfl rfl rfl rfl ⟨Nat.le_of_ble_eq_true rfl, Nat.le_of_ble_eq_true rfl⟩ (Nat.le_of_ble_eq_true rfl) rfl rfl dX0_watch_54 ?_
    refine r_pop (pc := 57) C rfl dX0_watch_57 ?_
    refine r_iconst (pc := 58) C dX0_watch_58 ?_
    refine r_istore (pc := 59) (lv' := [(6, vI 0), (0, vR b 354), (1, vI v1), (2, vI v2), (3, vI v3), (4, vI v4), (5, vI v5)]) C dX0_watch_59 (by decide) rfl ?_
    refine r_sub (lv' := [(0, vR b 354), (1, vI v1), (2, vI v2), (3, vI v3), (4, vI v4), (5, vI v5), (6, vI 0)]) [1, 2, 3, 4, 5, 6, 0] rfl ?_
    obtain ⟨q4, hl4, h⟩ := bnd_inv h
    refine w_x_Heard_watch_L61 C hr (fun v6_4 M_4 hq => ?_) FUEL _ _ hl4
    have hq := hq.symm
    subst hq
    refine r_aload_n (pc := 136) C 0 rfl rfl dX0_watch_136 ?_
    refine r_getR (pc := 137) C fl_RX0_37 x_s354 (by decide) x_kHeard_3 x_r354_3 dX0_watch_137 ?_
    obtain ⟨r5, M5, hq5, h⟩ := bnd2_inv h
    refine r_callV (pc := 140) (rest := []) (st1 := [vI r5]) C (xExtOK σ b) [] (c_x_State_finish l 51 x_m51 hq5) cl_RX0_82 x_s51 (by decide) rfl rfl rfl rfl ⟨Nat.le_of_ble_eq_true rfl, Nat.le_of_ble_eq_true rfl⟩ (Nat.le_of_ble_eq_true rfl) rfl rfl dX0_watch_140 ?_
    refine r_pop (pc := 143) C rfl dX0_watch_143 ?_
    obtain ⟨v5_144, hv5_144, h⟩ := lt_inv h
    refine r_iincN (pc := 144) (y := v5_144) (lv' := [(5, vI v5_144), (0, vR b 354), (1, vI v1), (2, vI v2), (3, vI v3), (4, vI v4)]) C 5 rfl hv5_144 dX0_watch_144 (by decide) rfl ?_
    refine r_goto (pc := 147) (tgt := 42) C dX0_watch_147 (by decide) ?_
    refine r_sub (lv' := [(0, vR b 354), (1, vI v1), (2, vI v2), (3, vI v3), (4, vI v4), (5, vI v5_144)]) [1, 2, 3, 4, 5, 0] rfl ?_
    exact hrec _ _ h
set_option maxHeartbeats 4000000 in
theorem w_x_Heard_watch_L42 (C : xCX σ p s m args meth c cX0_watch 8 RX0 D E b) (hr : meth.sig.returnType = (some .int)) {r0 : Int} {M0 : Mem} {v1 : Int} {v2 : Int} {v3 : Int} {v4 : Int} {q : Int × Mem} (hfol : ∀ (v5 : Int) (M : Mem), q = (v5, M) → xWX p l e 7 154 s m args below meth c 8 D E b (some (vI r0)) M0 M 150 [(0, vR b 354), (1, vI v1), (2, vI v2), (3, vI v3), (4, vI v4)] []) : ∀ (n : Nat) (v5 : Int) (M : Mem), itr2 (x_Heard_watch_L42 v1 v2 v3 v4) n v5 M = some q →
    xWX p l e 7 154 s m args below meth c 8 D E b (some (vI r0)) M0 M 42 [(0, vR b 354), (1, vI v1), (2, vI v2), (3, vI v3), (4, vI v4), (5, vI v5)] [] := by
  intro n
  induction n with
  | zero => exact fun _ _ h => itr_z h
  | succ n ih => exact fun _ _ h => w_x_Heard_watch_L42_s C hr ih hfol h
set_option maxHeartbeats 4000000 in
set_option maxRecDepth 20000 in
theorem w_x_Heard_watch_L10_s (C : xCX σ p s m args meth c cX0_watch 8 RX0 D E b) (hr : meth.sig.returnType = (some .int)) {r0 : Int} {M0 : Mem} {v1 : Int} {v2 : Int} {v3 : Int} {v4 : Int} {M : Mem} {q : Int × Int × Mem} {rec : Int → Int → Mem → Option (Int × Int × Mem)} (hrec : ∀ (v3 : Int) (v4 : Int) (M : Mem), rec v3 v4 M = some q → xWX p l e 7 154 s m args below meth c 8 D E b (some (vI r0)) M0 M 10 [(0, vR b 354), (1, vI v1), (2, vI v2), (3, vI v3), (4, vI v4)] []) (hfol : ∀ (v3 : Int) (v4 : Int) (M : Mem), q = (v3, v4, M) → xWX p l e 7 154 s m args below meth c 8 D E b (some (vI r0)) M0 M 173 [(3, vI v3)] []) (h : x_Heard_watch_L10 v1 v2 rec v3 v4 M = some q) :
    xWX p l e 7 154 s m args below meth c 8 D E b (some (vI r0)) M0 M 10 [(0, vR b 354), (1, vI v1), (2, vI v2), (3, vI v3), (4, vI v4)] [] := by
  unfold x_Heard_watch_L10 at h
  refine r_iload (pc := 10) C 4 rfl dX0_watch_10 ?_
  refine r_bipush (pc := 12) (j := 10) C (by decide +kernel) dX0_watch_12 ?_
  refine r_icmp_ge (pc := 14) (tgt := 173) C h dX0_watch_14 (by decide) (fun hc14 h => ?_) (fun hc14 h => ?_)
  · refine r_sub (lv' := [(3, vI v3)]) [3] rfl ?_
    exact hfol _ _ _ (Option.some.inj h).symm
  · refine r_aload_n (pc := 17) C 0 rfl rfl dX0_watch_17 ?_
    refine r_getR (pc := 18) C fl_RX0_37 x_s354 (by decide) x_kHeard_3 x_r354_3 dX0_watch_18 ?_
    refine r_aload_n (pc := 21) C 0 rfl rfl dX0_watch_21 ?_
    refine r_getR (pc := 22) C fl_RX0_33 x_s354 (by decide) x_kHeard_2 x_r354_2 dX0_watch_22 ?_
    obtain ⟨M2, hq2, h⟩ := bnd_inv h
    refine r_callV (pc := 25) (rest := []) (st1 := []) C (xExtOK σ b) [vR b 38] (c_x_State_copyFrom l 51 38 x_m51 x_m38 hq2) cl_RX0_60 x_s51 (by decide) rfl rfl rfl rfl ⟨Nat.le_of_ble_eq_true rfl, Nat.le_of_ble_eq_true rfl⟩ (Nat.le_of_ble_eq_true rfl) rfl rfl dX0_watch_25 ?_
    refine r_aload_n (pc := 28) C 0 rfl rfl dX0_watch_28 ?_
    refine r_getR (pc := 29) C fl_RX0_37 x_s354 (by decide) x_kHeard_3 x_r354_3 dX0_watch_29 ?_
    refine r_getR (pc := 32) C fl_RX0_66 x_s51 (by decide) x_kState_0 x_r51_0 dX0_watch_32 ?_
    refine r_iload_n (pc := 35) C 1 rfl rfl dX0_watch_35 ?_
    refine r_iload (pc := 36) C 4 rfl dX0_watch_36 ?_
    obtain ⟨hi38, h⟩ := chk_inv h
    obtain ⟨M_38, hM_38, h⟩ := lt_inv h
    refine r_iast (pc := 38) C x_s52 (by decide) (by decide) hi38 rfl hM_38 dX0_watch_38 ?_
    refine r_iconst (pc := 39) C dX0_watch_39 ?_
    refine r_istore (pc := 40) (lv' := [(5, vI 0), (0, vR b 354), (1, vI v1), (2, vI v2), (3, vI v3), (4, vI v4)]) C dX0_watch_40 (by decide) rfl ?_
    refine r_sub (lv' := [(0, vR b 354), (1, vI v1), (2, vI v2), (3, vI v3), (4, vI v4), (5, vI 0)]) [1, 2, 3, 4, 5, 0] rfl ?_
    obtain ⟨q6, hl6, h⟩ := bnd_inv h
    refine w_x_Heard_watch_L42 C hr (fun v5_6 M_6 hq => ?_) FUEL _ _ hl6
    have hq := hq.symm
    subst hq
    refine r_aload_n (pc := 150) C 0 rfl rfl dX0_watch_150 ?_
    refine r_iload (pc := 151) C 4 rfl dX0_watch_151 ?_
    refine r_iload_n (pc := 153) C 2 rfl rfl dX0_watch_153 ?_
    obtain ⟨r7, hq7, h⟩ := bnd_inv h
    refine r_callV (pc := 154) (rest := []) (st1 := [vB r7]) C (xExtOK σ b) [vI v4, vI v2] (c_x_Heard_fits l hq7) cl_RX0_85 x_s354 (by decide) rfl rfl rfl rfl ⟨Nat.le_of_ble_eq_true rfl, Nat.le_of_ble_eq_true rfl⟩ (Nat.le_of_ble_eq_true rfl) rfl rfl dX0_watch_154 ?_
    refine r_if_eqB (pc := 157) (tgt := 167) C h dX0_watch_157 (by decide) (fun hc157 h => ?_) (fun hc157 h => ?_)
    · refine r_iload_n (pc := 160) C 3 rfl rfl dX0_watch_160 ?_
      refine r_iconst (pc := 161) C dX0_watch_161 ?_
      refine r_iload (pc := 162) C 4 rfl dX0_watch_162 ?_
      refine r_ishl (pc := 164) C dX0_watch_164 ?_
      refine r_ior (pc := 165) C dX0_watch_165 ?_
      obtain ⟨v3_166, hv3_166, h⟩ := lt_inv h
      refine r_topI hv3_166 ?_
      refine r_istore_n (pc := 166) (lv' := [(3, vI v3_166), (0, vR b 354), (1, vI v1), (2, vI v2), (4, vI v4)]) C rfl dX0_watch_166 (by decide) rfl ?_
      obtain ⟨v4_167, hv4_167, h⟩ := lt_inv h
      refine r_iincN (pc := 167) (y := v4_167) (lv' := [(4, vI v4_167), (3, vI v3_166), (0, vR b 354), (1, vI v1), (2, vI v2)]) C 4 rfl hv4_167 dX0_watch_167 (by decide) rfl ?_
      refine r_goto (pc := 170) (tgt := 10) C dX0_watch_170 (by decide) ?_
      refine r_sub (lv' := [(0, vR b 354), (1, vI v1), (2, vI v2), (3, vI v3_166), (4, vI v4_167)]) [2, 3, 4, 1, 0] rfl ?_
      exact hrec _ _ _ h
    · obtain ⟨v4_167, hv4_167, h⟩ := lt_inv h
      refine r_iincN (pc := 167) (y := v4_167) (lv' := [(4, vI v4_167), (0, vR b 354), (1, vI v1), (2, vI v2), (3, vI v3)]) C 4 rfl hv4_167 dX0_watch_167 (by decide) rfl ?_
      refine r_goto (pc := 170) (tgt := 10) C dX0_watch_170 (by decide) ?_
      refine r_sub (lv' := [(0, vR b 354), (1, vI v1), (2, vI v2), (3, vI v3), (4, vI v4_167)]) [1, 2, 3, 4, 0] rfl ?_
      exact hrec _ _ _ h
set_option maxHeartbeats 4000000 in
theorem w_x_Heard_watch_L10 (C : xCX σ p s m args meth c cX0_watch 8 RX0 D E b) (hr : meth.sig.returnType = (some .int)) {r0 : Int} {M0 : Mem} {v1 : Int} {v2 : Int} {q : Int × Int × Mem} (hfol : ∀ (v3 : Int) (v4 : Int) (M : Mem), q = (v3, v4, M) → xWX p l e 7 154 s m args below meth c 8 D E b (some (vI r0)) M0 M 173 [(3, vI v3)] []) : ∀ (n : Nat) (v3 : Int) (v4 : Int) (M : Mem), itr3 (x_Heard_watch_L10 v1 v2) n v3 v4 M = some q →
    xWX p l e 7 154 s m args below meth c 8 D E b (some (vI r0)) M0 M 10 [(0, vR b 354), (1, vI v1), (2, vI v2), (3, vI v3), (4, vI v4)] [] := by
  intro n
  induction n with
  | zero => exact fun _ _ _ h => itr_z h
  | succ n ih => exact fun _ _ _ h => w_x_Heard_watch_L10_s C hr ih hfol h
set_option maxHeartbeats 4000000 in
set_option maxRecDepth 20000 in
theorem c_x_Heard_watch (l : Launch) {x1 : Int} {M : Mem} {r0 : Int} {M0 : Mem} (h : x_Heard_watch x1 M = some (r0, M0)) : Ct l yX0_watch cX0_watch 8 (some .int) 7 154 vwCl xSh xN xRf (xExt σ) (fun b => [vR b 354, vI x1]) M (fun b => (some (vI r0))) M0 := by
  refine Ct_of (xExtOK σ) (by decide) (fun b => Nat.le_of_ble_eq_true rfl) ?_
  intro p e s m args below meth c D E b C hr
  unfold x_Heard_watch at h
  refine (show xWX p l e 7 154 s m args below meth c 8 D E b (some (vI r0)) M0 M 0 [(0, vR b 354), (1, vI x1)] [] from ?_)
  refine r_aload_n (pc := 0) C 0 rfl rfl dX0_watch_0 ?_
  obtain ⟨r1, hq1, h⟩ := bnd_inv h
  refine r_callV (pc := 1) (rest := []) (st1 := [vI r1]) C (xExtOK σ b) [] (c_x_Heard_minutesComing l hq1) cl_RX0_56 x_s354 (by decide) rfl rfl rfl rfl ⟨Nat.le_of_ble_eq_true rfl, Nat.le_of_ble_eq_true rfl⟩ (Nat.le_of_ble_eq_true rfl) rfl rfl dX0_watch_1 ?_
  refine r_istore_n (pc := 4) (lv' := [(2, vI r1), (0, vR b 354), (1, vI x1)]) C rfl dX0_watch_4 (by decide) rfl ?_
  refine r_iconst (pc := 5) C dX0_watch_5 ?_
  refine r_istore_n (pc := 6) (lv' := [(3, vI 0), (2, vI r1), (0, vR b 354), (1, vI x1)]) C rfl dX0_watch_6 (by decide) rfl ?_
  refine r_iconst (pc := 7) C dX0_watch_7 ?_
  refine r_istore (pc := 8) (lv' := [(4, vI 0), (3, vI 0), (2, vI r1), (0, vR b 354), (1, vI x1)]) C dX0_watch_8 (by decide) rfl ?_
  refine r_sub (lv' := [(0, vR b 354), (1, vI x1), (2, vI r1), (3, vI 0), (4, vI 0)]) [3, 4, 2, 1, 0] rfl ?_
  obtain ⟨q8, hl8, h⟩ := bnd_inv h
  refine w_x_Heard_watch_L10 C hr (fun v3_8 v4_8 M_8 hq => ?_) FUEL _ _ _ hl8
  have hq := hq.symm
  subst hq
  refine r_iload_n (pc := 173) C 0 rfl rfl dX0_watch_173 ?_
  have e := Option.some.inj h
  exact r_iret (pc := 174) C hr (congrArg (fun z => some (vI z)) (Prod.mk.inj e).1.symm) (Prod.mk.inj e).2.symm dX0_watch_174
set_option maxHeartbeats 4000000 in
set_option maxRecDepth 20000 in
theorem c_x_X_pitches (l : Launch) {x1 : Int} {M : Mem} {r0 : Int} {M0 : Mem} (h : x_X_pitches x1 M = some (r0, M0)) : Ct l yX11_pitches cX11_pitches 2 (some .int) 8 181 vwCl xSh xN xRf (xExt σ) (fun b => [vR b 0, vI x1]) M (fun b => (some (vI r0))) M0 := by
  refine Ct_of (xExtOK σ) (by decide) (fun b => Nat.le_of_ble_eq_true rfl) ?_
  intro p e s m args below meth c D E b C hr
  unfold x_X_pitches at h
  refine (show xWX p l e 8 181 s m args below meth c 2 D E b (some (vI r0)) M0 M 0 [(0, vR b 0), (1, vI x1)] [] from ?_)
  refine r_aload_n (pc := 0) C 0 rfl rfl dX11_pitches_0 ?_
  refine r_iload_n (pc := 1) C 1 rfl rfl dX11_pitches_1 ?_
  obtain ⟨r1, hq1, h⟩ := bnd_inv h
  refine r_callV (pc := 2) (rest := []) (st1 := [vB r1]) C (xExtOK σ b) [vI x1] (c_x_X_isVoice l hq1) cl_RX11_149 x_s0 (by decide) rfl rfl rfl rfl ⟨Nat.le_of_ble_eq_true rfl, Nat.le_of_ble_eq_true rfl⟩ (Nat.le_of_ble_eq_true rfl) rfl rfl dX11_pitches_2 ?_
  refine r_if_eqB (pc := 5) (tgt := 19) C h dX11_pitches_5 (by decide) (fun hc5 h => ?_) (fun hc5 h => ?_)
  · refine r_aload_n (pc := 8) C 0 rfl rfl dX11_pitches_8 ?_
    refine r_getR (pc := 9) C fl_RX11_63 x_s0 (by decide) x_kX_7 x_r0_7 dX11_pitches_9 ?_
    refine r_iload_n (pc := 12) C 1 rfl rfl dX11_pitches_12 ?_
    obtain ⟨r2, M2, hq2, h⟩ := bnd2_inv h
    refine r_callV (pc := 13) (rest := []) (st1 := [vI r2]) C (xExtOK σ b) [vI x1] (c_x_Heard_watch l hq2) cl_RX11_264 x_s354 (by decide) rfl rfl rfl rfl ⟨Nat.le_of_ble_eq_true rfl, Nat.le_of_ble_eq_true rfl⟩ (Nat.le_of_ble_eq_true rfl) rfl rfl dX11_pitches_13 ?_
    refine r_goto (pc := 16) (tgt := 20) C dX11_pitches_16 (by decide) ?_
    have e := Option.some.inj h
    exact r_iret (pc := 20) C hr (congrArg (fun z => some (vI z)) (Prod.mk.inj e).1.symm) (Prod.mk.inj e).2.symm dX11_pitches_20
  · refine r_iconst (pc := 19) C dX11_pitches_19 ?_
    have e := Option.some.inj h
    exact r_iret (pc := 20) C hr (congrArg (fun z => some (vI z)) (Prod.mk.inj e).1.symm) (Prod.mk.inj e).2.symm dX11_pitches_20
set_option maxHeartbeats 4000000 in
set_option maxRecDepth 20000 in
theorem w_x_Heard_mostAlike_L13_s (C : xCX σ p s m args meth c cX0_mostAlike 6 RX0 D E b) (hr : meth.sig.returnType = (some .int)) {r0 : Int} {M0 : Mem} {v1 : Int} {v2 : Int} {v3 : Int} {v4 : Int} {M : Mem} {q : Int × Int × Mem} {rec : Int → Int → Mem → Option (Int × Int × Mem)} (hrec : ∀ (v3 : Int) (v4 : Int) (M : Mem), rec v3 v4 M = some q → xWX p l e 2 35 s m args below meth c 6 D E b (some (vI r0)) M0 M 13 [(0, vR b 354), (1, vI v1), (2, vI v2), (3, vI v3), (4, vI v4)] []) (hfol : ∀ (v3 : Int) (v4 : Int) (M : Mem), q = (v3, v4, M) → xWX p l e 2 35 s m args below meth c 6 D E b (some (vI r0)) M0 M 84 [(3, vI v3)] []) (h : x_Heard_mostAlike_L13 v1 v2 rec v3 v4 M = some q) :
    xWX p l e 2 35 s m args below meth c 6 D E b (some (vI r0)) M0 M 13 [(0, vR b 354), (1, vI v1), (2, vI v2), (3, vI v3), (4, vI v4)] [] := by
  unfold x_Heard_mostAlike_L13 at h
  refine r_iload (pc := 13) C 4 rfl dX0_mostAlike_13 ?_
  refine r_bipush (pc := 15) (j := 10) C (by decide +kernel) dX0_mostAlike_15 ?_
  refine r_icmp_ge (pc := 17) (tgt := 84) C h dX0_mostAlike_17 (by decide) (fun hc17 h => ?_) (fun hc17 h => ?_)
  · refine r_sub (lv' := [(3, vI v3)]) [3] rfl ?_
    exact hfol _ _ _ (Option.some.inj h).symm
  · refine r_aload_n (pc := 20) C 0 rfl rfl dX0_mostAlike_20 ?_
    refine r_getR (pc := 21) C fl_RX0_23 x_s354 (by decide) x_kHeard_7 x_r354_7 dX0_mostAlike_21 ?_
    refine r_iload (pc := 24) C 4 rfl dX0_mostAlike_24 ?_
    obtain ⟨hi26, h⟩ := chk_inv h
    refine r_aald (pc := 26) (ty := .array .int) C x_s358 (by decide) (by decide) (fun _ => rfl) rfl hi26 rfl (x_qr358 (x_lt hi26 rfl)) dX0_mostAlike_26 ?_
    refine r_iload_n (pc := 27) C 2 rfl rfl dX0_mostAlike_27 ?_
    obtain ⟨hi28, h⟩ := chk_inv h
    refine r_iald (pc := 28) C (x_qs358 (x_lt hi26 rfl)) (x_qn358 (x_lt hi26 rfl)) (by decide) hi28 rfl dX0_mostAlike_28 ?_
    obtain ⟨v5_29, hv5_29, h⟩ := lt_inv h
    refine r_topI hv5_29 ?_
    refine r_istore (pc := 29) (lv' := [(5, vI v5_29), (0, vR b 354), (1, vI v1), (2, vI v2), (3, vI v3), (4, vI v4)]) C dX0_mostAlike_29 (by decide) rfl ?_
    refine r_iload_n (pc := 31) C 2 rfl rfl dX0_mostAlike_31 ?_
    refine r_iload (pc := 32) C 5 rfl dX0_mostAlike_32 ?_
    refine r_ishr (pc := 34) C dX0_mostAlike_34 ?_
    refine r_iconst (pc := 35) C dX0_mostAlike_35 ?_
    refine r_iand (pc := 36) C dX0_mostAlike_36 ?_
    refine r_if_eq (pc := 37) (tgt := 78) C h dX0_mostAlike_37 (by decide) (fun hc37 h => ?_) (fun hc37 h => ?_)
    · obtain ⟨v4_78, hv4_78, h⟩ := lt_inv h
      refine r_iincN (pc := 78) (y := v4_78) (lv' := [(4, vI v4_78), (5, vI v5_29), (0, vR b 354), (1, vI v1), (2, vI v2), (3, vI v3)]) C 5 rfl hv4_78 dX0_mostAlike_78 (by decide) rfl ?_
      refine r_goto (pc := 81) (tgt := 13) C dX0_mostAlike_81 (by decide) ?_
      refine r_sub (lv' := [(0, vR b 354), (1, vI v1), (2, vI v2), (3, vI v3), (4, vI v4_78)]) [2, 3, 4, 5, 0] rfl ?_
      exact hrec _ _ _ h
    · refine r_iload (pc := 40) C 0 rfl dX0_mostAlike_40 ?_
      refine r_if_lt (pc := 42) (tgt := 78) C h dX0_mostAlike_42 (by decide) (fun hc42 h => ?_) (fun hc42 h => ?_)
      · obtain ⟨v4_78, hv4_78, h⟩ := lt_inv h
        refine r_iincN (pc := 78) (y := v4_78) (lv' := [(4, vI v4_78), (5, vI v5_29), (0, vR b 354), (1, vI v1), (2, vI v2), (3, vI v3)]) C 5 rfl hv4_78 dX0_mostAlike_78 (by decide) rfl ?_
        refine r_goto (pc := 81) (tgt := 13) C dX0_mostAlike_81 (by decide) ?_
        refine r_sub (lv' := [(0, vR b 354), (1, vI v1), (2, vI v2), (3, vI v3), (4, vI v4_78)]) [2, 3, 4, 5, 0] rfl ?_
        exact hrec _ _ _ h
      · refine r_iload (pc := 45) C 0 rfl dX0_mostAlike_45 ?_
        refine r_aload_n (pc := 47) C 1 rfl rfl dX0_mostAlike_47 ?_
        refine r_getR (pc := 48) C fl_RX0_26 x_s354 (by decide) x_kHeard_8 x_r354_8 dX0_mostAlike_48 ?_
        refine r_alen (pc := 51) C x_s369 (by decide) dX0_mostAlike_51 ?_
        refine r_icmp_ge (pc := 52) (tgt := 78) C h dX0_mostAlike_52 (by decide) (fun hc52 h => ?_) (fun hc52 h => ?_)
        · obtain ⟨v4_78, hv4_78, h⟩ := lt_inv h
          refine r_iincN (pc := 78) (y := v4_78) (lv' := [(4, vI v4_78), (5, vI v5_29), (0, vR b 354), (1, vI v1), (2, vI v2), (3, vI v3)]) C 5 rfl hv4_78 dX0_mostAlike_78 (by decide) rfl ?_
          refine r_goto (pc := 81) (tgt := 13) C dX0_mostAlike_81 (by decide) ?_
          refine r_sub (lv' := [(0, vR b 354), (1, vI v1), (2, vI v2), (3, vI v3), (4, vI v4_78)]) [2, 3, 4, 5, 0] rfl ?_
          exact hrec _ _ _ h
        · refine r_aload_n (pc := 55) C 1 rfl rfl dX0_mostAlike_55 ?_
          refine r_getR (pc := 56) C fl_RX0_26 x_s354 (by decide) x_kHeard_8 x_r354_8 dX0_mostAlike_56 ?_
          refine r_iload (pc := 59) C 0 rfl dX0_mostAlike_59 ?_
          refine r_dup2 (pc := 61) C rfl rfl dX0_mostAlike_61 ?_
          obtain ⟨hi62, h⟩ := chk_inv h
          refine r_iald (pc := 62) C x_s369 (by decide) (by decide) hi62 rfl dX0_mostAlike_62 ?_
          refine r_iconst (pc := 63) C dX0_mostAlike_63 ?_
          refine r_iadd (pc := 64) C dX0_mostAlike_64 ?_
          obtain ⟨hi65, h⟩ := chk_inv h
          obtain ⟨M_65, hM_65, h⟩ := lt_inv h
          refine r_iast (pc := 65) C x_s369 (by decide) (by decide) hi65 rfl hM_65 dX0_mostAlike_65 ?_
          refine r_iload_n (pc := 66) C 4 rfl rfl dX0_mostAlike_66 ?_
          refine r_aload_n (pc := 67) C 1 rfl rfl dX0_mostAlike_67 ?_
          refine r_getR (pc := 68) C fl_RX0_26 x_s354 (by decide) x_kHeard_8 x_r354_8 dX0_mostAlike_68 ?_
          refine r_iload (pc := 71) C 0 rfl dX0_mostAlike_71 ?_
          obtain ⟨hi73, h⟩ := chk_inv h
          refine r_iald (pc := 73) C x_s369 (by decide) (by decide) hi73 rfl dX0_mostAlike_73 ?_
          obtain ⟨r2, hq2, h⟩ := bnd_inv h
          refine r_callS (pc := 74) (rest := []) (st1 := [vI r2]) C (xExtOK σ b) [vI v3, vI (M_65 369 v5_29.toNat)] (c_j_Math_max_7cf53 l hq2) cl_RX0_109 rfl rfl ⟨Nat.le_of_ble_eq_true rfl, Nat.le_of_ble_eq_true rfl⟩ (Nat.le_of_ble_eq_true rfl) rfl rfl dX0_mostAlike_74 ?_
          refine r_istore_n (pc := 77) (lv' := [(3, vI r2), (5, vI v5_29), (0, vR b 354), (1, vI v1), (2, vI v2), (4, vI v4)]) C rfl dX0_mostAlike_77 (by decide) rfl ?_
          obtain ⟨v4_78, hv4_78, h⟩ := lt_inv h
          refine r_iincN (pc := 78) (y := v4_78) (lv' := [(4, vI v4_78), (3, vI r2), (5, vI v5_29), (0, vR b 354), (1, vI v1), (2, vI v2)]) C 5 rfl hv4_78 dX0_mostAlike_78 (by decide) rfl ?_
          refine r_goto (pc := 81) (tgt := 13) C dX0_mostAlike_81 (by decide) ?_
          refine r_sub (lv' := [(0, vR b 354), (1, vI v1), (2, vI v2), (3, vI r2), (4, vI v4_78)]) [3, 4, 5, 1, 0] rfl ?_
          exact hrec _ _ _ h
set_option maxHeartbeats 4000000 in
theorem w_x_Heard_mostAlike_L13 (C : xCX σ p s m args meth c cX0_mostAlike 6 RX0 D E b) (hr : meth.sig.returnType = (some .int)) {r0 : Int} {M0 : Mem} {v1 : Int} {v2 : Int} {q : Int × Int × Mem} (hfol : ∀ (v3 : Int) (v4 : Int) (M : Mem), q = (v3, v4, M) → xWX p l e 2 35 s m args below meth c 6 D E b (some (vI r0)) M0 M 84 [(3, vI v3)] []) : ∀ (n : Nat) (v3 : Int) (v4 : Int) (M : Mem), itr3 (x_Heard_mostAlike_L13 v1 v2) n v3 v4 M = some q →
    xWX p l e 2 35 s m args below meth c 6 D E b (some (vI r0)) M0 M 13 [(0, vR b 354), (1, vI v1), (2, vI v2), (3, vI v3), (4, vI v4)] [] := by
  intro n
  induction n with
  | zero => exact fun _ _ _ h => itr_z h
  | succ n ih => exact fun _ _ _ h => w_x_Heard_mostAlike_L13_s C hr ih hfol h
set_option maxHeartbeats 4000000 in
set_option maxRecDepth 20000 in
theorem c_x_Heard_mostAlike (l : Launch) {x1 : Int} {x2 : Int} {M : Mem} {r0 : Int} {M0 : Mem} (h : x_Heard_mostAlike x1 x2 M = some (r0, M0)) : Ct l yX0_mostAlike cX0_mostAlike 6 (some .int) 2 35 vwCl xSh xN xRf (xExt σ) (fun b => [vR b 354, vI x1, vI x2]) M (fun b => (some (vI r0))) M0 := by
  refine Ct_of (xExtOK σ) (by decide) (fun b => Nat.le_of_ble_eq_true rfl) ?_
  intro p e s m args below meth c D E b C hr
  unfold x_Heard_mostAlike at h
  refine (show xWX p l e 2 35 s m args below meth c 6 D E b (some (vI r0)) M0 M 0 [(0, vR b 354), (1, vI x1), (2, vI x2)] [] from ?_)
  refine r_aload_n (pc := 0) C 0 rfl rfl dX0_mostAlike_0 ?_
  refine r_getR (pc := 1) C fl_RX0_26 x_s354 (by decide) x_kHeard_8 x_r354_8 dX0_mostAlike_1 ?_
  refine r_iconst (pc := 4) C dX0_mostAlike_4 ?_
  obtain ⟨M1, hq1, h⟩ := bnd_inv h
  refine r_callS (pc := 5) (rest := []) (st1 := []) C (xExtOK σ b) [vR b 369, vI 0] (c_j_Arrays_fill_53178 l 369 8 x_s369 (by decide) (by decide) hq1) cl_RX0_103 rfl rfl ⟨Nat.le_of_ble_eq_true rfl, Nat.le_of_ble_eq_true rfl⟩ (Nat.le_of_ble_eq_true rfl) rfl rfl dX0_mostAlike_5 ?_
  refine r_iconst (pc := 8) C dX0_mostAlike_8 ?_
  refine r_istore_n (pc := 9) (lv' := [(3, vI 0), (0, vR b 354), (1, vI x1), (2, vI x2)]) C rfl dX0_mostAlike_9 (by decide) rfl ?_
  refine r_iconst (pc := 10) C dX0_mostAlike_10 ?_
  refine r_istore (pc := 11) (lv' := [(4, vI 0), (3, vI 0), (0, vR b 354), (1, vI x1), (2, vI x2)]) C dX0_mostAlike_11 (by decide) rfl ?_
  refine r_sub (lv' := [(0, vR b 354), (1, vI x1), (2, vI x2), (3, vI 0), (4, vI 0)]) [2, 3, 4, 1, 0] rfl ?_
  obtain ⟨q3, hl3, h⟩ := bnd_inv h
  refine w_x_Heard_mostAlike_L13 C hr (fun v3_3 v4_3 M_3 hq => ?_) FUEL _ _ _ hl3
  have hq := hq.symm
  subst hq
  refine r_iload_n (pc := 84) C 0 rfl rfl dX0_mostAlike_84 ?_
  have e := Option.some.inj h
  exact r_iret (pc := 85) C hr (congrArg (fun z => some (vI z)) (Prod.mk.inj e).1.symm) (Prod.mk.inj e).2.symm dX0_mostAlike_85
set_option maxHeartbeats 4000000 in
set_option maxRecDepth 20000 in
theorem w_x_Heard_telling_L32_B72 (C : xCX σ p s m args meth c cX0_telling 10 RX0 D E b) (hr : meth.sig.returnType = (some .int)) {r0 : Int} {M0 : Mem} {M : Mem} {v1 : Int} {v2 : Int} {v3 : Int} {v7 : Int} {v8 : Int} {v9 : Int} {q : Int × Int × Int × Int × Mem} {rec : Int → Int → Int → Int → Mem → Option (Int × Int × Int × Int × Mem)} (hrec : ∀ (v4 : Int) (v5 : Int) (v6 : Int) (v8 : Int) (M : Mem), rec v4 v5 v6 v8 M = some q → xWX p l e 3 60 s m args below meth c 10 D E b (some (vI r0)) M0 M 32 [(0, vR b 354), (1, vI v1), (2, vI v2), (3, vI v3), (4, vI v4), (5, vI v5), (6, vI v6), (7, vI v7), (8, vI v8)] []) (hfol : ∀ (v4 : Int) (v5 : Int) (v6 : Int) (v8 : Int) (M : Mem), q = (v4, v5, v6, v8, M) → xWX p l e 3 60 s m args below meth c 10 D E b (some (vI r0)) M0 M 90 [(0, vR b 354), (1, vI v1), (2, vI v2), (3, vI v3), (4, vI v4), (5, vI v5), (6, vI v6), (7, vI v7)] []) (h : x_Heard_telling_L32_B72 rec v1 v2 v3 v7 v8 v9 M = some q) :
    xWX p l e 3 60 s m args below meth c 10 D E b (some (vI r0)) M0 M 72 [(0, vR b 354), (1, vI v1), (2, vI v2), (3, vI v3), (7, vI v7), (8, vI v8), (9, vI v9)] [] := by
  unfold x_Heard_telling_L32_B72 at h
  refine r_iload (pc := 72) C 6 rfl dX0_telling_72 ?_
  refine r_istore (pc := 74) (lv' := [(6, vI v9), (0, vR b 354), (1, vI v1), (2, vI v2), (3, vI v3), (7, vI v7), (8, vI v8), (9, vI v9)]) C dX0_telling_74 (by decide) rfl ?_
  refine r_iload (pc := 76) C 5 rfl dX0_telling_76 ?_
  refine r_istore (pc := 78) (lv' := [(4, vI v7), (6, vI v9), (0, vR b 354), (1, vI v1), (2, vI v2), (3, vI v3), (7, vI v7), (8, vI v8), (9, vI v9)]) C dX0_telling_78 (by decide) rfl ?_
  refine r_iload (pc := 80) C 7 rfl dX0_telling_80 ?_
  refine r_istore (pc := 82) (lv' := [(5, vI v8), (4, vI v7), (6, vI v9), (0, vR b 354), (1, vI v1), (2, vI v2), (3, vI v3), (7, vI v7), (8, vI v8), (9, vI v9)]) C dX0_telling_82 (by decide) rfl ?_
  obtain ⟨v8_84, hv8_84, h⟩ := lt_inv h
  refine r_iincN (pc := 84) (y := v8_84) (lv' := [(8, vI v8_84), (5, vI v8), (4, vI v7), (6, vI v9), (0, vR b 354), (1, vI v1), (2, vI v2), (3, vI v3), (7, vI v7), (9, vI v9)]) C 8 rfl hv8_84 dX0_telling_84 (by decide) rfl ?_
  refine r_goto (pc := 87) (tgt := 32) C dX0_telling_87 (by decide) ?_
  refine r_sub (lv' := [(0, vR b 354), (1, vI v1), (2, vI v2), (3, vI v3), (4, vI v7), (5, vI v8), (6, vI v9), (7, vI v7), (8, vI v8_84)]) [4, 5, 6, 7, 2, 1, 3, 8, 0] rfl ?_
  exact hrec _ _ _ _ _ h
set_option maxHeartbeats 4000000 in
set_option maxRecDepth 20000 in
theorem w_x_Heard_telling_L32_s (C : xCX σ p s m args meth c cX0_telling 10 RX0 D E b) (hr : meth.sig.returnType = (some .int)) {r0 : Int} {M0 : Mem} {v1 : Int} {v2 : Int} {v3 : Int} {v7 : Int} {v4 : Int} {v5 : Int} {v6 : Int} {v8 : Int} {M : Mem} {q : Int × Int × Int × Int × Mem} {rec : Int → Int → Int → Int → Mem → Option (Int × Int × Int × Int × Mem)} (hrec : ∀ (v4 : Int) (v5 : Int) (v6 : Int) (v8 : Int) (M : Mem), rec v4 v5 v6 v8 M = some q → xWX p l e 3 60 s m args below meth c 10 D E b (some (vI r0)) M0 M 32 [(0, vR b 354), (1, vI v1), (2, vI v2), (3, vI v3), (4, vI v4), (5, vI v5), (6, vI v6), (7, vI v7), (8, vI v8)] []) (hfol : ∀ (v4 : Int) (v5 : Int) (v6 : Int) (v8 : Int) (M : Mem), q = (v4, v5, v6, v8, M) → xWX p l e 3 60 s m args below meth c 10 D E b (some (vI r0)) M0 M 90 [(0, vR b 354), (1, vI v1), (2, vI v2), (3, vI v3), (4, vI v4), (5, vI v5), (6, vI v6), (7, vI v7)] []) (h : x_Heard_telling_L32 v1 v2 v3 v7 rec v4 v5 v6 v8 M = some q) :
    xWX p l e 3 60 s m args below meth c 10 D E b (some (vI r0)) M0 M 32 [(0, vR b 354), (1, vI v1), (2, vI v2), (3, vI v3), (4, vI v4), (5, vI v5), (6, vI v6), (7, vI v7), (8, vI v8)] [] := by
  unfold x_Heard_telling_L32 at h
  refine r_iload (pc := 32) C 8 rfl dX0_telling_32 ?_
  refine r_aload_n (pc := 34) C 0 rfl rfl dX0_telling_34 ?_
  refine r_getR (pc := 35) C fl_RX0_29 x_s354 (by decide) x_kHeard_1 x_r354_1 dX0_telling_35 ?_
  refine r_getI (pc := 38) C fl_RX0_73 x_s23 (by decide) x_kTown_2 dX0_telling_38 ?_
  refine r_icmp_ge (pc := 41) (tgt := 90) C h dX0_telling_41 (by decide) (fun hc41 h => ?_) (fun hc41 h => ?_)
  · refine r_sub (lv' := [(0, vR b 354), (1, vI v1), (2, vI v2), (3, vI v3), (4, vI v4), (5, vI v5), (6, vI v6), (7, vI v7)]) [0, 1, 2, 3, 4, 5, 6, 7] rfl ?_
    exact hfol _ _ _ _ _ (Option.some.inj h).symm
  · refine r_aload_n (pc := 44) C 0 rfl rfl dX0_telling_44 ?_
    refine r_iload_n (pc := 45) C 1 rfl rfl dX0_telling_45 ?_
    refine r_iload (pc := 46) C 7 rfl dX0_telling_46 ?_
    refine r_bipush (pc := 48) (j := 12) C (by decide +kernel) dX0_telling_48 ?_
    refine r_imul (pc := 50) C dX0_telling_50 ?_
    refine r_iload (pc := 51) C 8 rfl dX0_telling_51 ?_
    refine r_iadd (pc := 53) C dX0_telling_53 ?_
    obtain ⟨r2, M2, hq2, h⟩ := bnd2_inv h
    refine r_callV (pc := 54) (rest := []) (st1 := [vI r2]) C (xExtOK σ b) [vI v1, vI ((v7 * 12) + v8)] (c_x_Heard_mostAlike l hq2) cl_RX0_89 x_s354 (by decide) rfl rfl rfl rfl ⟨Nat.le_of_ble_eq_true rfl, Nat.le_of_ble_eq_true rfl⟩ (Nat.le_of_ble_eq_true rfl) rfl rfl dX0_telling_54 ?_
    refine r_istore (pc := 57) (lv' := [(9, vI r2), (0, vR b 354), (1, vI v1), (2, vI v2), (3, vI v3), (4, vI v4), (5, vI v5), (6, vI v6), (7, vI v7), (8, vI v8)]) C dX0_telling_57 (by decide) rfl ?_
    refine r_iload (pc := 59) C 7 rfl dX0_telling_59 ?_
    refine r_iconst (pc := 61) C dX0_telling_61 ?_
    refine r_icmp_eq (pc := 62) (tgt := 72) C h dX0_telling_62 (by decide) (fun hc62 h => ?_) (fun hc62 h => ?_)
    · refine r_sub (lv' := [(0, vR b 354), (1, vI v1), (2, vI v2), (3, vI v3), (7, vI v7), (8, vI v8), (9, vI r2)]) [1, 2, 3, 4, 8, 9, 0] rfl ?_
      exact w_x_Heard_telling_L32_B72 C hr hrec hfol h
    · refine r_iload (pc := 65) C 0 rfl dX0_telling_65 ?_
      refine r_iload (pc := 67) C 7 rfl dX0_telling_67 ?_
      refine r_icmp_ge (pc := 69) (tgt := 84) C h dX0_telling_69 (by decide) (fun hc69 h => ?_) (fun hc69 h => ?_)
      · obtain ⟨v8_84, hv8_84, h⟩ := lt_inv h
        refine r_iincN (pc := 84) (y := v8_84) (lv' := [(8, vI v8_84), (9, vI r2), (0, vR b 354), (1, vI v1), (2, vI v2), (3, vI v3), (4, vI v4), (5, vI v5), (6, vI v6), (7, vI v7)]) C 9 rfl hv8_84 dX0_telling_84 (by decide) rfl ?_
        refine r_goto (pc := 87) (tgt := 32) C dX0_telling_87 (by decide) ?_
        refine r_sub (lv' := [(0, vR b 354), (1, vI v1), (2, vI v2), (3, vI v3), (4, vI v4), (5, vI v5), (6, vI v6), (7, vI v7), (8, vI v8_84)]) [2, 3, 4, 5, 6, 7, 8, 9, 0] rfl ?_
        exact hrec _ _ _ _ _ h
      · refine r_sub (lv' := [(0, vR b 354), (1, vI v1), (2, vI v2), (3, vI v3), (7, vI v7), (8, vI v8), (9, vI r2)]) [1, 2, 3, 4, 8, 9, 0] rfl ?_
        exact w_x_Heard_telling_L32_B72 C hr hrec hfol h
set_option maxHeartbeats 4000000 in
theorem w_x_Heard_telling_L32 (C : xCX σ p s m args meth c cX0_telling 10 RX0 D E b) (hr : meth.sig.returnType = (some .int)) {r0 : Int} {M0 : Mem} {v1 : Int} {v2 : Int} {v3 : Int} {v7 : Int} {q : Int × Int × Int × Int × Mem} (hfol : ∀ (v4 : Int) (v5 : Int) (v6 : Int) (v8 : Int) (M : Mem), q = (v4, v5, v6, v8, M) → xWX p l e 3 60 s m args below meth c 10 D E b (some (vI r0)) M0 M 90 [(0, vR b 354), (1, vI v1), (2, vI v2), (3, vI v3), (4, vI v4), (5, vI v5), (6, vI v6), (7, vI v7)] []) : ∀ (n : Nat) (v4 : Int) (v5 : Int) (v6 : Int) (v8 : Int) (M : Mem), itr5 (x_Heard_telling_L32 v1 v2 v3 v7) n v4 v5 v6 v8 M = some q →
    xWX p l e 3 60 s m args below meth c 10 D E b (some (vI r0)) M0 M 32 [(0, vR b 354), (1, vI v1), (2, vI v2), (3, vI v3), (4, vI v4), (5, vI v5), (6, vI v6), (7, vI v7), (8, vI v8)] [] := by
  intro n
  induction n with
  | zero => exact fun _ _ _ _ _ h => itr_z h
  | succ n ih => exact fun _ _ _ _ _ h => w_x_Heard_telling_L32_s C hr ih hfol h
set_option maxHeartbeats 4000000 in
set_option maxRecDepth 20000 in
theorem w_x_Heard_telling_L23_s (C : xCX σ p s m args meth c cX0_telling 10 RX0 D E b) (hr : meth.sig.returnType = (some .int)) {r0 : Int} {M0 : Mem} {v1 : Int} {v2 : Int} {v3 : Int} {v4 : Int} {v5 : Int} {v6 : Int} {v7 : Int} {M : Mem} {q : Int × Int × Int × Int × Mem} {rec : Int → Int → Int → Int → Mem → Option (Int × Int × Int × Int × Mem)} (hrec : ∀ (v4 : Int) (v5 : Int) (v6 : Int) (v7 : Int) (M : Mem), rec v4 v5 v6 v7 M = some q → xWX p l e 3 60 s m args below meth c 10 D E b (some (vI r0)) M0 M 23 [(0, vR b 354), (1, vI v1), (2, vI v2), (3, vI v3), (4, vI v4), (5, vI v5), (6, vI v6), (7, vI v7)] []) (hfol : ∀ (v4 : Int) (v5 : Int) (v6 : Int) (v7 : Int) (M : Mem), q = (v4, v5, v6, v7, M) → xWX p l e 3 60 s m args below meth c 10 D E b (some (vI r0)) M0 M 96 [(2, vI v2), (4, vI v4), (5, vI v5), (6, vI v6)] []) (h : x_Heard_telling_L23 v1 v2 v3 rec v4 v5 v6 v7 M = some q) :
    xWX p l e 3 60 s m args below meth c 10 D E b (some (vI r0)) M0 M 23 [(0, vR b 354), (1, vI v1), (2, vI v2), (3, vI v3), (4, vI v4), (5, vI v5), (6, vI v6), (7, vI v7)] [] := by
  unfold x_Heard_telling_L23 at h
  refine r_iload (pc := 23) C 7 rfl dX0_telling_23 ?_
  refine r_iload_n (pc := 25) C 3 rfl rfl dX0_telling_25 ?_
  refine r_icmp_ge (pc := 26) (tgt := 96) C h dX0_telling_26 (by decide) (fun hc26 h => ?_) (fun hc26 h => ?_)
  · refine r_sub (lv' := [(2, vI v2), (4, vI v4), (5, vI v5), (6, vI v6)]) [2, 4, 5, 6] rfl ?_
    exact hfol _ _ _ _ _ (Option.some.inj h).symm
  · refine r_iconst (pc := 29) C dX0_telling_29 ?_
    refine r_istore (pc := 30) (lv' := [(8, vI 0), (0, vR b 354), (1, vI v1), (2, vI v2), (3, vI v3), (4, vI v4), (5, vI v5), (6, vI v6), (7, vI v7)]) C dX0_telling_30 (by decide) rfl ?_
    refine r_sub (lv' := [(0, vR b 354), (1, vI v1), (2, vI v2), (3, vI v3), (4, vI v4), (5, vI v5), (6, vI v6), (7, vI v7), (8, vI 0)]) [1, 2, 3, 4, 5, 6, 7, 8, 0] rfl ?_
    obtain ⟨q3, hl3, h⟩ := bnd_inv h
    refine w_x_Heard_telling_L32 C hr (fun v4_3 v5_3 v6_3 v8_3 M_3 hq => ?_) FUEL _ _ _ _ _ hl3
    have hq := hq.symm
    subst hq
    obtain ⟨v7_90, hv7_90, h⟩ := lt_inv h
    refine r_iincN (pc := 90) (y := v7_90) (lv' := [(7, vI v7_90), (0, vR b 354), (1, vI v1), (2, vI v2), (3, vI v3), (4, vI v4_3), (5, vI v5_3), (6, vI v6_3)]) C 7 rfl hv7_90 dX0_telling_90 (by decide) rfl ?_
    refine r_goto (pc := 93) (tgt := 23) C dX0_telling_93 (by decide) ?_
    refine r_sub (lv' := [(0, vR b 354), (1, vI v1), (2, vI v2), (3, vI v3), (4, vI v4_3), (5, vI v5_3), (6, vI v6_3), (7, vI v7_90)]) [1, 2, 3, 4, 5, 6, 7, 0] rfl ?_
    exact hrec _ _ _ _ _ h
set_option maxHeartbeats 4000000 in
theorem w_x_Heard_telling_L23 (C : xCX σ p s m args meth c cX0_telling 10 RX0 D E b) (hr : meth.sig.returnType = (some .int)) {r0 : Int} {M0 : Mem} {v1 : Int} {v2 : Int} {v3 : Int} {q : Int × Int × Int × Int × Mem} (hfol : ∀ (v4 : Int) (v5 : Int) (v6 : Int) (v7 : Int) (M : Mem), q = (v4, v5, v6, v7, M) → xWX p l e 3 60 s m args below meth c 10 D E b (some (vI r0)) M0 M 96 [(2, vI v2), (4, vI v4), (5, vI v5), (6, vI v6)] []) : ∀ (n : Nat) (v4 : Int) (v5 : Int) (v6 : Int) (v7 : Int) (M : Mem), itr5 (x_Heard_telling_L23 v1 v2 v3) n v4 v5 v6 v7 M = some q →
    xWX p l e 3 60 s m args below meth c 10 D E b (some (vI r0)) M0 M 23 [(0, vR b 354), (1, vI v1), (2, vI v2), (3, vI v3), (4, vI v4), (5, vI v5), (6, vI v6), (7, vI v7)] [] := by
  intro n
  induction n with
  | zero => exact fun _ _ _ _ _ h => itr_z h
  | succ n ih => exact fun _ _ _ _ _ h => w_x_Heard_telling_L23_s C hr ih hfol h
set_option maxHeartbeats 4000000 in
set_option maxRecDepth 20000 in
theorem c_x_Heard_telling (l : Launch) {x1 : Int} {x2 : Int} {M : Mem} {r0 : Int} {M0 : Mem} (h : x_Heard_telling x1 x2 M = some (r0, M0)) : Ct l yX0_telling cX0_telling 10 (some .int) 3 60 vwCl xSh xN xRf (xExt σ) (fun b => [vR b 354, vI x1, vI x2]) M (fun b => (some (vI r0))) M0 := by
  refine Ct_of (xExtOK σ) (by decide) (fun b => Nat.le_of_ble_eq_true rfl) ?_
  intro p e s m args below meth c D E b C hr
  unfold x_Heard_telling at h
  refine (show xWX p l e 3 60 s m args below meth c 10 D E b (some (vI r0)) M0 M 0 [(0, vR b 354), (1, vI x1), (2, vI x2)] [] from ?_)
  refine r_iload_n (pc := 0) C 1 rfl rfl dX0_telling_0 ?_
  refine r_if_ne (pc := 1) (tgt := 6) C h dX0_telling_1 (by decide) (fun hc1 h => ?_) (fun hc1 h => ?_)
  · refine r_aload_n (pc := 6) C 0 rfl rfl dX0_telling_6 ?_
    obtain ⟨r1, hq1, h⟩ := bnd_inv h
    refine r_callV (pc := 7) (rest := []) (st1 := [vI r1]) C (xExtOK σ b) [] (c_x_Heard_minutesComing l hq1) cl_RX0_56 x_s354 (by decide) rfl rfl rfl rfl ⟨Nat.le_of_ble_eq_true rfl, Nat.le_of_ble_eq_true rfl⟩ (Nat.le_of_ble_eq_true rfl) rfl rfl dX0_telling_7 ?_
    refine r_istore_n (pc := 10) (lv' := [(3, vI r1), (0, vR b 354), (1, vI x1), (2, vI x2)]) C rfl dX0_telling_10 (by decide) rfl ?_
    refine r_iconst (pc := 11) C dX0_telling_11 ?_
    refine r_istore (pc := 12) (lv' := [(4, vI (-1)), (3, vI r1), (0, vR b 354), (1, vI x1), (2, vI x2)]) C dX0_telling_12 (by decide) rfl ?_
    refine r_iconst (pc := 14) C dX0_telling_14 ?_
    refine r_istore (pc := 15) (lv' := [(5, vI (-1)), (4, vI (-1)), (3, vI r1), (0, vR b 354), (1, vI x1), (2, vI x2)]) C dX0_telling_15 (by decide) rfl ?_
    refine r_iconst (pc := 17) C dX0_telling_17 ?_
    refine r_istore (pc := 18) (lv' := [(6, vI (-1)), (5, vI (-1)), (4, vI (-1)), (3, vI r1), (0, vR b 354), (1, vI x1), (2, vI x2)]) C dX0_telling_18 (by decide) rfl ?_
    refine r_iconst (pc := 20) C dX0_telling_20 ?_
    refine r_istore (pc := 21) (lv' := [(7, vI 0), (6, vI (-1)), (5, vI (-1)), (4, vI (-1)), (3, vI r1), (0, vR b 354), (1, vI x1), (2, vI x2)]) C dX0_telling_21 (by decide) rfl ?_
    refine r_sub (lv' := [(0, vR b 354), (1, vI x1), (2, vI x2), (3, vI r1), (4, vI (-1)), (5, vI (-1)), (6, vI (-1)), (7, vI 0)]) [5, 6, 7, 4, 3, 2, 1, 0] rfl ?_
    obtain ⟨q4, hl4, h⟩ := bnd_inv h
    refine w_x_Heard_telling_L23 C hr (fun v4_4 v5_4 v6_4 v7_4 M_4 hq => ?_) FUEL _ _ _ _ _ hl4
    have hq := hq.symm
    subst hq
    refine r_iload_n (pc := 96) C 0 rfl rfl dX0_telling_96 ?_
    refine r_if_ne (pc := 97) (tgt := 103) C h dX0_telling_97 (by decide) (fun hc97 h => ?_) (fun hc97 h => ?_)
    · refine r_iload_n (pc := 103) C 0 rfl rfl dX0_telling_103 ?_
      refine r_iconst (pc := 104) C dX0_telling_104 ?_
      refine r_icmp_ne (pc := 105) (tgt := 113) C h dX0_telling_105 (by decide) (fun hc105 h => ?_) (fun hc105 h => ?_)
      · refine r_iload (pc := 113) C 3 rfl dX0_telling_113 ?_
        have e := Option.some.inj h
        exact r_iret (pc := 115) C hr (congrArg (fun z => some (vI z)) (Prod.mk.inj e).1.symm) (Prod.mk.inj e).2.symm dX0_telling_115
      · refine r_iload (pc := 108) C 2 rfl dX0_telling_108 ?_
        refine r_goto (pc := 110) (tgt := 115) C dX0_telling_110 (by decide) ?_
        have e := Option.some.inj h
        exact r_iret (pc := 115) C hr (congrArg (fun z => some (vI z)) (Prod.mk.inj e).1.symm) (Prod.mk.inj e).2.symm dX0_telling_115
    · refine r_iload (pc := 100) C 1 rfl dX0_telling_100 ?_
      have e := Option.some.inj h
      exact r_iret (pc := 102) C hr (congrArg (fun z => some (vI z)) (Prod.mk.inj e).1.symm) (Prod.mk.inj e).2.symm dX0_telling_102
  · refine r_iconst (pc := 4) C dX0_telling_4 ?_
    have e := Option.some.inj h
    exact r_iret (pc := 5) C hr (congrArg (fun z => some (vI z)) (Prod.mk.inj e).1.symm) (Prod.mk.inj e).2.symm dX0_telling_5
set_option maxHeartbeats 4000000 in
set_option maxRecDepth 20000 in
theorem c_x_X_tells (l : Launch) {x1 : Int} {x2 : Int} {M : Mem} {r0 : Int} {M0 : Mem} (h : x_X_tells x1 x2 M = some (r0, M0)) : Ct l yX11_tells cX11_tells 3 (some .int) 8 181 vwCl xSh xN xRf (xExt σ) (fun b => [vR b 0, vI x1, vI x2]) M (fun b => (some (vI r0))) M0 := by
  refine Ct_of (xExtOK σ) (by decide) (fun b => Nat.le_of_ble_eq_true rfl) ?_
  intro p e s m args below meth c D E b C hr
  unfold x_X_tells at h
  refine (show xWX p l e 8 181 s m args below meth c 3 D E b (some (vI r0)) M0 M 0 [(0, vR b 0), (1, vI x1), (2, vI x2)] [] from ?_)
  refine r_aload_n (pc := 0) C 0 rfl rfl dX11_tells_0 ?_
  refine r_iload_n (pc := 1) C 1 rfl rfl dX11_tells_1 ?_
  obtain ⟨r1, hq1, h⟩ := bnd_inv h
  refine r_callV (pc := 2) (rest := []) (st1 := [vB r1]) C (xExtOK σ b) [vI x1] (c_x_X_isVoice l hq1) cl_RX11_149 x_s0 (by decide) rfl rfl rfl rfl ⟨Nat.le_of_ble_eq_true rfl, Nat.le_of_ble_eq_true rfl⟩ (Nat.le_of_ble_eq_true rfl) rfl rfl dX11_tells_2 ?_
  refine r_if_eqB (pc := 5) (tgt := 17) C h dX11_tells_5 (by decide) (fun hc5 h => ?_) (fun hc5 h => ?_)
  · refine r_iload_n (pc := 8) C 2 rfl rfl dX11_tells_8 ?_
    refine r_if_lt (pc := 9) (tgt := 17) C h dX11_tells_9 (by decide) (fun hc9 h => ?_) (fun hc9 h => ?_)
    · refine r_iconst (pc := 17) C dX11_tells_17 ?_
      have e := Option.some.inj h
      exact r_iret (pc := 18) C hr (congrArg (fun z => some (vI z)) (Prod.mk.inj e).1.symm) (Prod.mk.inj e).2.symm dX11_tells_18
    · refine r_iload_n (pc := 12) C 2 rfl rfl dX11_tells_12 ?_
      refine r_iconst (pc := 13) C dX11_tells_13 ?_
      refine r_icmp_le (pc := 14) (tgt := 19) C h dX11_tells_14 (by decide) (fun hc14 h => ?_) (fun hc14 h => ?_)
      · refine r_aload_n (pc := 19) C 0 rfl rfl dX11_tells_19 ?_
        refine r_getR (pc := 20) C fl_RX11_63 x_s0 (by decide) x_kX_7 x_r0_7 dX11_tells_20 ?_
        refine r_aload_n (pc := 23) C 0 rfl rfl dX11_tells_23 ?_
        refine r_getR (pc := 24) C fl_RX11_63 x_s0 (by decide) x_kX_7 x_r0_7 dX11_tells_24 ?_
        refine r_iload_n (pc := 27) C 1 rfl rfl dX11_tells_27 ?_
        obtain ⟨r2, M2, hq2, h⟩ := bnd2_inv h
        refine r_callV (pc := 28) (rest := [vR b 354]) (st1 := [vI r2, vR b 354]) C (xExtOK σ b) [vI x1] (c_x_Heard_watch l hq2) cl_RX11_264 x_s354 (by decide) rfl rfl rfl rfl ⟨Nat.le_of_ble_eq_true rfl, Nat.le_of_ble_eq_true rfl⟩ (Nat.le_of_ble_eq_true rfl) rfl rfl dX11_tells_28 ?_
        refine r_iload_n (pc := 31) C 2 rfl rfl dX11_tells_31 ?_
        obtain ⟨r3, M3, hq3, h⟩ := bnd2_inv h
        refine r_callV (pc := 32) (rest := []) (st1 := [vI r3]) C (xExtOK σ b) [vI r2, vI x2] (c_x_Heard_telling l hq3) cl_RX11_267 x_s354 (by decide) rfl rfl rfl rfl ⟨Nat.le_of_ble_eq_true rfl, Nat.le_of_ble_eq_true rfl⟩ (Nat.le_of_ble_eq_true rfl) rfl rfl dX11_tells_32 ?_
        have e := Option.some.inj h
        exact r_iret (pc := 35) C hr (congrArg (fun z => some (vI z)) (Prod.mk.inj e).1.symm) (Prod.mk.inj e).2.symm dX11_tells_35
      · refine r_iconst (pc := 17) C dX11_tells_17 ?_
        have e := Option.some.inj h
        exact r_iret (pc := 18) C hr (congrArg (fun z => some (vI z)) (Prod.mk.inj e).1.symm) (Prod.mk.inj e).2.symm dX11_tells_18
  · refine r_iconst (pc := 17) C dX11_tells_17 ?_
    have e := Option.some.inj h
    exact r_iret (pc := 18) C hr (congrArg (fun z => some (vI z)) (Prod.mk.inj e).1.symm) (Prod.mk.inj e).2.symm dX11_tells_18
set_option maxHeartbeats 4000000 in
set_option maxRecDepth 20000 in
theorem w_x_Past_keep_B64 (C : xCX σ p s m args meth c cX2_keep 2 RX2 D E b) (hr : meth.sig.returnType = none) {M0 : Mem} (o1 : Nat) (ho1 : o1 ∈ xI_State) {M : Mem} {s1 : Int} (h : x_Past_keep_B64 o1 s1 M = some M0) :
    xWX p l e 3 105 s m args below meth c 2 D E b none M0 M 64 [(0, vR b 64)] [vI s1, vR b 64] := by
  unfold x_Past_keep_B64 at h
  obtain ⟨M_64, hM_64, h⟩ := lt_inv h
  refine r_putI (pc := 64) C fl_RX2_22 x_ft2 x_w2_2 x_s64 (by decide) x_kPast_2 hM_64 dX2_keep_64 ?_
  refine r_aload_n (pc := 67) C 0 rfl rfl dX2_keep_67 ?_
  refine r_bipush (pc := 68) (j := 20) C (by decide +kernel) dX2_keep_68 ?_
  refine r_aload_n (pc := 70) C 0 rfl rfl dX2_keep_70 ?_
  refine r_getI (pc := 71) C fl_RX2_18 x_s64 (by decide) x_kPast_0 dX2_keep_71 ?_
  refine r_iconst (pc := 74) C dX2_keep_74 ?_
  refine r_iadd (pc := 75) C dX2_keep_75 ?_
  obtain ⟨r2, hq2, h⟩ := bnd_inv h
  refine r_callS (pc := 76) (rest := [vR b 64]) (st1 := [vI r2, vR b 64]) C (xExtOK σ b) [vI 20, vI ((M_64 64 0) + 1)] (c_j_Math_min_7cf53 l hq2) cl_RX2_29 rfl rfl ⟨Nat.le_of_ble_eq_true rfl, Nat.le_of_ble_eq_true rfl⟩ (Nat.le_of_ble_eq_true rfl) rfl rfl dX2_keep_76 ?_
  obtain ⟨M_79, hM_79, h⟩ := lt_inv h
  refine r_putI (pc := 79) C fl_RX2_18 x_ft2 x_w2_0 x_s64 (by decide) x_kPast_0 hM_79 dX2_keep_79 ?_
  have e := Option.some.inj h
  exact r_vret (pc := 82) C hr rfl e.symm dX2_keep_82
set_option maxHeartbeats 4000000 in
set_option maxRecDepth 20000 in
theorem c_x_Past_keep (l : Launch) (o1 : Nat) (ho1 : o1 ∈ xI_State) {M : Mem} {M0 : Mem} (h : x_Past_keep o1 M = some M0) : Ct l yX2_keep cX2_keep 2 none 3 105 vwCl xSh xN xRf (xExt σ) (fun b => [vR b 64, vR b o1]) M (fun b => none) M0 := by
  refine Ct_of (xExtOK σ) (by decide) (fun b => Nat.le_of_ble_eq_true rfl) ?_
  intro p e s m args below meth c D E b C hr
  unfold x_Past_keep at h
  refine (show xWX p l e 3 105 s m args below meth c 2 D E b none M0 M 0 [(0, vR b 64), (1, vR b o1)] [] from ?_)
  refine r_aload_n (pc := 0) C 0 rfl rfl dX2_keep_0 ?_
  refine r_getI (pc := 1) C fl_RX2_22 x_s64 (by decide) x_kPast_2 dX2_keep_1 ?_
  refine r_if_lt (pc := 4) (tgt := 28) C h dX2_keep_4 (by decide) (fun hc4 h => ?_) (fun hc4 h => ?_)
  · have e := Option.some.inj h
    exact r_vret (pc := 28) C hr rfl e.symm dX2_keep_28
  · refine r_aload_n (pc := 7) C 0 rfl rfl dX2_keep_7 ?_
    refine r_getI (pc := 8) C fl_RX2_22 x_s64 (by decide) x_kPast_2 dX2_keep_8 ?_
    refine r_bipush (pc := 11) (j := 20) C (by decide +kernel) dX2_keep_11 ?_
    refine r_icmp_ge (pc := 13) (tgt := 28) C h dX2_keep_13 (by decide) (fun hc13 h => ?_) (fun hc13 h => ?_)
    · have e := Option.some.inj h
      exact r_vret (pc := 28) C hr rfl e.symm dX2_keep_28
    · refine r_aload_n (pc := 16) C 0 rfl rfl dX2_keep_16 ?_
      refine r_getR (pc := 17) C fl_RX2_11 x_s64 (by decide) x_kPast_1 x_r64_1 dX2_keep_17 ?_
      refine r_aload_n (pc := 20) C 0 rfl rfl dX2_keep_20 ?_
      refine r_getI (pc := 21) C fl_RX2_22 x_s64 (by decide) x_kPast_2 dX2_keep_21 ?_
      obtain ⟨hi24, h⟩ := chk_inv h
      refine r_aald (pc := 24) (ty := .object "ThrownVoices$State") C x_s65 (by decide) (by decide) (fun _ => rfl) rfl hi24 rfl (x_qr65 (x_lt hi24 rfl)) dX2_keep_24 ?_
      refine r_ifnonnull (pc := 25) (tgt := 29) C dX2_keep_25 (by decide) ?_
      refine r_aload_n (pc := 29) C 0 rfl rfl dX2_keep_29 ?_
      refine r_getR (pc := 30) C fl_RX2_11 x_s64 (by decide) x_kPast_1 x_r64_1 dX2_keep_30 ?_
      refine r_aload_n (pc := 33) C 0 rfl rfl dX2_keep_33 ?_
      refine r_getI (pc := 34) C fl_RX2_22 x_s64 (by decide) x_kPast_2 dX2_keep_34 ?_
      obtain ⟨hi37, h⟩ := chk_inv h
      refine r_aald (pc := 37) (ty := .object "ThrownVoices$State") C x_s65 (by decide) (by decide) (fun _ => rfl) rfl hi37 rfl (x_qr65 (x_lt hi37 rfl)) dX2_keep_37 ?_
      refine r_aload_n (pc := 38) C 1 rfl rfl dX2_keep_38 ?_
      obtain ⟨M1, hq1, h⟩ := bnd_inv h
      refine r_callV (pc := 39) (rest := []) (st1 := []) C (xExtOK σ b) [vR b o1] (c_x_State_copyFrom l (66 + 13 * (M 64 2).toNat) o1 (x_qm65 (x_lt hi37 rfl)) ho1 hq1) cl_RX2_25 (x_sI_State (x_qm65 (x_lt hi37 rfl))) (x_nI_State (x_qm65 (x_lt hi37 rfl))) rfl rfl rfl rfl ⟨Nat.le_of_ble_eq_true rfl, Nat.le_of_ble_eq_true rfl⟩ (Nat.le_of_ble_eq_true rfl) rfl rfl dX2_keep_39 ?_
      refine r_aload_n (pc := 42) C 0 rfl rfl dX2_keep_42 ?_
      refine r_aload_n (pc := 43) C 0 rfl rfl dX2_keep_43 ?_
      refine r_getI (pc := 44) C fl_RX2_22 x_s64 (by decide) x_kPast_2 dX2_keep_44 ?_
      refine r_iconst (pc := 47) C dX2_keep_47 ?_
      refine r_iadd (pc := 48) C dX2_keep_48 ?_
      refine r_bipush (pc := 49) (j := 20) C (by decide +kernel) dX2_keep_49 ?_
      refine r_icmp_ge (pc := 51) (tgt := 63) C h dX2_keep_51 (by decide) (fun hc51 h => ?_) (fun hc51 h => ?_)
      · refine r_iconst (pc := 63) C dX2_keep_63 ?_
        refine r_sub (lv' := [(0, vR b 64)]) [0] rfl ?_
        exact w_x_Past_keep_B64 C hr o1 ho1 h
      · refine r_aload_n (pc := 54) C 0 rfl rfl dX2_keep_54 ?_
        refine r_getI (pc := 55) C fl_RX2_22 x_s64 (by decide) x_kPast_2 dX2_keep_55 ?_
        refine r_iconst (pc := 58) C dX2_keep_58 ?_
        refine r_iadd (pc := 59) C dX2_keep_59 ?_
        refine r_goto (pc := 60) (tgt := 64) C dX2_keep_60 (by decide) ?_
        refine r_sub (lv' := [(0, vR b 64)]) [0] rfl ?_
        exact w_x_Past_keep_B64 C hr o1 ho1 h
set_option maxHeartbeats 4000000 in
set_option maxRecDepth 20000 in
theorem c_x_X_minutes (l : Launch) {x1 : Int} {M : Mem} {r0 : Int} {M0 : Mem} (h : x_X_minutes x1 M = some (r0, M0)) : Ct l yX11_minutes cX11_minutes 2 (some .int) 8 177 vwCl xSh xN xRf (xExt σ) (fun b => [vR b 0, vI x1]) M (fun b => (some (vI r0))) M0 := by
  refine Ct_of (xExtOK σ) (by decide) (fun b => Nat.le_of_ble_eq_true rfl) ?_
  intro p e s m args below meth c D E b C hr
  unfold x_X_minutes at h
  refine (show xWX p l e 8 177 s m args below meth c 2 D E b (some (vI r0)) M0 M 0 [(0, vR b 0), (1, vI x1)] [] from ?_)
  refine r_aload_n (pc := 0) C 0 rfl rfl dX11_minutes_0 ?_
  refine r_iload_n (pc := 1) C 1 rfl rfl dX11_minutes_1 ?_
  refine r_iconst (pc := 2) C dX11_minutes_2 ?_
  refine r_bipush (pc := 3) (j := 60) C (by decide +kernel) dX11_minutes_3 ?_
  obtain ⟨r1, hq1, h⟩ := bnd_inv h
  refine r_callV (pc := 5) (rest := []) (st1 := [vB r1]) C (xExtOK σ b) [vI x1, vI 1, vI 60] (c_x_X_comes l hq1) cl_RX11_221 x_s0 (by decide) rfl rfl rfl rfl ⟨Nat.le_of_ble_eq_true rfl, Nat.le_of_ble_eq_true rfl⟩ (Nat.le_of_ble_eq_true rfl) rfl rfl dX11_minutes_5 ?_
  refine r_if_neB (pc := 8) (tgt := 17) C h dX11_minutes_8 (by decide) (fun hc8 h => ?_) (fun hc8 h => ?_)
  · refine r_aload_n (pc := 17) C 0 rfl rfl dX11_minutes_17 ?_
    refine r_getR (pc := 18) C fl_RX11_45 x_s0 (by decide) x_kX_5 x_r0_5 dX11_minutes_18 ?_
    refine r_aload_n (pc := 21) C 0 rfl rfl dX11_minutes_21 ?_
    refine r_getR (pc := 22) C fl_RX11_35 x_s0 (by decide) x_kX_3 x_r0_3 dX11_minutes_22 ?_
    obtain ⟨M2, hq2, h⟩ := bnd_inv h
    refine r_callV (pc := 25) (rest := []) (st1 := []) C (xExtOK σ b) [vR b 38] (c_x_Past_keep l 38 x_m38 hq2) cl_RX11_270 x_s64 (by decide) rfl rfl rfl rfl ⟨Nat.le_of_ble_eq_true rfl, Nat.le_of_ble_eq_true rfl⟩ (Nat.le_of_ble_eq_true rfl) rfl rfl dX11_minutes_25 ?_
    refine r_aload_n (pc := 28) C 0 rfl rfl dX11_minutes_28 ?_
    refine r_getR (pc := 29) C fl_RX11_35 x_s0 (by decide) x_kX_3 x_r0_3 dX11_minutes_29 ?_
    refine r_iload_n (pc := 32) C 1 rfl rfl dX11_minutes_32 ?_
    obtain ⟨r3, M3, hq3, h⟩ := bnd2_inv h
    refine r_callV (pc := 33) (rest := []) (st1 := [vI r3]) C (xExtOK σ b) [vI x1] (c_x_State_pass l 38 x_m38 hq3) cl_RX11_229 x_s38 (by decide) rfl rfl rfl rfl ⟨Nat.le_of_ble_eq_true rfl, Nat.le_of_ble_eq_true rfl⟩ (Nat.le_of_ble_eq_true rfl) rfl rfl dX11_minutes_33 ?_
    have e := Option.some.inj h
    exact r_iret (pc := 36) C hr (congrArg (fun z => some (vI z)) (Prod.mk.inj e).1.symm) (Prod.mk.inj e).2.symm dX11_minutes_36
  · refine r_aload_n (pc := 11) C 0 rfl rfl dX11_minutes_11 ?_
    refine r_iconst (pc := 12) C dX11_minutes_12 ?_
    obtain ⟨r4, M4, hq4, h⟩ := bnd2_inv h
    refine r_callV (pc := 13) (rest := []) (st1 := [vI r4]) C (xExtOK σ b) [vI 2] (c_x_X_none l hq4) cl_RX11_85 x_s0 (by decide) rfl rfl rfl rfl ⟨Nat.le_of_ble_eq_true rfl, Nat.le_of_ble_eq_true rfl⟩ (Nat.le_of_ble_eq_true rfl) rfl rfl dX11_minutes_13 ?_
    have e := Option.some.inj h
    exact r_iret (pc := 16) C hr (congrArg (fun z => some (vI z)) (Prod.mk.inj e).1.symm) (Prod.mk.inj e).2.symm dX11_minutes_16
set_option maxHeartbeats 4000000 in
set_option maxRecDepth 20000 in
theorem c_x_X_draw (l : Launch) {x1 : Int} {M : Mem} {r0 : Int} {M0 : Mem} (h : x_X_draw x1 M = some (r0, M0)) : Ct l yX11_draw cX11_draw 2 (some .int) 1 12 vwCl xSh xN xRf (xExt σ) (fun b => [vR b 0, vI x1]) M (fun b => (some (vI r0))) M0 := by
  refine Ct_of (xExtOK σ) (by decide) (fun b => Nat.le_of_ble_eq_true rfl) ?_
  intro p e s m args below meth c D E b C hr
  unfold x_X_draw at h
  refine (show xWX p l e 1 12 s m args below meth c 2 D E b (some (vI r0)) M0 M 0 [(0, vR b 0), (1, vI x1)] [] from ?_)
  refine r_aload_n (pc := 0) C 0 rfl rfl dX11_draw_0 ?_
  refine r_ldc2 (pc := 1) (j := 1103515245) C (by decide +kernel) gk_RX11_308 dX11_draw_1 ?_
  refine r_aload_n (pc := 4) C 0 rfl rfl dX11_draw_4 ?_
  refine r_getI (pc := 5) C fl_RX11_78 x_s0 (by decide) x_kX_10 dX11_draw_5 ?_
  refine r_i2l (pc := 8) C dX11_draw_8 ?_
  refine r_lmul (pc := 9) C dX11_draw_9 ?_
  refine r_ldc2 (pc := 10) (j := 12345) C (by decide +kernel) gk_RX11_310 dX11_draw_10 ?_
  refine r_ladd (pc := 13) C dX11_draw_13 ?_
  refine r_ldc2 (pc := 14) (j := 2147483647) C (by decide +kernel) gk_RX11_312 dX11_draw_14 ?_
  refine r_land (pc := 17) C dX11_draw_17 ?_
  refine r_l2i (pc := 18) C dX11_draw_18 ?_
  obtain ⟨M_19, hM_19, h⟩ := lt_inv h
  refine r_putI (pc := 19) C fl_RX11_78 x_ft11 x_w11_10 x_s0 (by decide) x_kX_10 hM_19 dX11_draw_19 ?_
  refine r_iload_n (pc := 22) C 1 rfl rfl dX11_draw_22 ?_
  refine r_if_le (pc := 23) (tgt := 38) C h dX11_draw_23 (by decide) (fun hc23 h => ?_) (fun hc23 h => ?_)
  · refine r_iconst (pc := 38) C dX11_draw_38 ?_
    have e := Option.some.inj h
    exact r_iret (pc := 39) C hr (congrArg (fun z => some (vI z)) (Prod.mk.inj e).1.symm) (Prod.mk.inj e).2.symm dX11_draw_39
  · refine r_aload_n (pc := 26) C 0 rfl rfl dX11_draw_26 ?_
    refine r_getI (pc := 27) C fl_RX11_78 x_s0 (by decide) x_kX_10 dX11_draw_27 ?_
    refine r_bipush (pc := 30) (j := 6) C (by decide +kernel) dX11_draw_30 ?_
    refine r_ishr (pc := 32) C dX11_draw_32 ?_
    refine r_iload_n (pc := 33) C 1 rfl rfl dX11_draw_33 ?_
    obtain ⟨hz34, h⟩ := chk_inv h
    refine r_irem (pc := 34) C hz34 dX11_draw_34 ?_
    refine r_goto (pc := 35) (tgt := 39) C dX11_draw_35 (by decide) ?_
    have e := Option.some.inj h
    exact r_iret (pc := 39) C hr (congrArg (fun z => some (vI z)) (Prod.mk.inj e).1.symm) (Prod.mk.inj e).2.symm dX11_draw_39
set_option maxHeartbeats 4000000 in
set_option maxRecDepth 20000 in
theorem c_x_X_strokeByDraw (l : Launch) {M : Mem} {r0 : Int} {M0 : Mem} (h : x_X_strokeByDraw M = some (r0, M0)) : Ct l yX11_strokeByDraw cX11_strokeByDraw 2 (some .int) 3 56 vwCl xSh xN xRf (xExt σ) (fun b => [vR b 0]) M (fun b => (some (vI r0))) M0 := by
  refine Ct_of (xExtOK σ) (by decide) (fun b => Nat.le_of_ble_eq_true rfl) ?_
  intro p e s m args below meth c D E b C hr
  unfold x_X_strokeByDraw at h
  refine (show xWX p l e 3 56 s m args below meth c 2 D E b (some (vI r0)) M0 M 0 [(0, vR b 0)] [] from ?_)
  refine r_aload_n (pc := 0) C 0 rfl rfl dX11_strokeByDraw_0 ?_
  refine r_bipush (pc := 1) (j := 100) C (by decide +kernel) dX11_strokeByDraw_1 ?_
  obtain ⟨r1, M1, hq1, h⟩ := bnd2_inv h
  refine r_callV (pc := 3) (rest := []) (st1 := [vI r1]) C (xExtOK σ b) [vI 100] (c_x_X_draw l hq1) cl_RX11_314 x_s0 (by decide) rfl rfl rfl rfl ⟨Nat.le_of_ble_eq_true rfl, Nat.le_of_ble_eq_true rfl⟩ (Nat.le_of_ble_eq_true rfl) rfl rfl dX11_strokeByDraw_3 ?_
  refine r_aload_n (pc := 6) C 0 rfl rfl dX11_strokeByDraw_6 ?_
  refine r_getR (pc := 7) C fl_RX11_26 x_s0 (by decide) x_kX_2 x_r0_2 dX11_strokeByDraw_7 ?_
  refine r_getI (pc := 10) C fl_RX11_258 x_s23 (by decide) x_kTown_3 dX11_strokeByDraw_10 ?_
  refine r_icmp_ge (pc := 13) (tgt := 26) C h dX11_strokeByDraw_13 (by decide) (fun hc13 h => ?_) (fun hc13 h => ?_)
  · refine r_iconst (pc := 26) C dX11_strokeByDraw_26 ?_
    have e := Option.some.inj h
    exact r_iret (pc := 27) C hr (congrArg (fun z => some (vI z)) (Prod.mk.inj e).1.symm) (Prod.mk.inj e).2.symm dX11_strokeByDraw_27
  · refine r_aload_n (pc := 16) C 0 rfl rfl dX11_strokeByDraw_16 ?_
    refine r_getR (pc := 17) C fl_RX11_26 x_s0 (by decide) x_kX_2 x_r0_2 dX11_strokeByDraw_17 ?_
    refine r_getI (pc := 20) C fl_RX11_120 x_s23 (by decide) x_kTown_0 dX11_strokeByDraw_20 ?_
    refine r_if_ne (pc := 23) (tgt := 28) C h dX11_strokeByDraw_23 (by decide) (fun hc23 h => ?_) (fun hc23 h => ?_)
    · refine r_aload_n (pc := 28) C 0 rfl rfl dX11_strokeByDraw_28 ?_
      refine r_aload_n (pc := 29) C 0 rfl rfl dX11_strokeByDraw_29 ?_
      refine r_getR (pc := 30) C fl_RX11_26 x_s0 (by decide) x_kX_2 x_r0_2 dX11_strokeByDraw_30 ?_
      refine r_getI (pc := 33) C fl_RX11_120 x_s23 (by decide) x_kTown_0 dX11_strokeByDraw_33 ?_
      obtain ⟨r2, M2, hq2, h⟩ := bnd2_inv h
      refine r_callV (pc := 36) (rest := []) (st1 := [vI r2]) C (xExtOK σ b) [vI (M1 23 0)] (c_x_X_draw l hq2) cl_RX11_314 x_s0 (by decide) rfl rfl rfl rfl ⟨Nat.le_of_ble_eq_true rfl, Nat.le_of_ble_eq_true rfl⟩ (Nat.le_of_ble_eq_true rfl) rfl rfl dX11_strokeByDraw_36 ?_
      refine r_istore_n (pc := 39) (lv' := [(1, vI r2), (0, vR b 0)]) C rfl dX11_strokeByDraw_39 (by decide) rfl ?_
      refine r_aload_n (pc := 40) C 1 rfl rfl dX11_strokeByDraw_40 ?_
      refine r_iload_n (pc := 41) C 0 rfl rfl dX11_strokeByDraw_41 ?_
      obtain ⟨r3, hq3, h⟩ := bnd_inv h
      refine r_callV (pc := 42) (rest := []) (st1 := [vB r3]) C (xExtOK σ b) [vI r2] (c_x_X_isVoice l hq3) cl_RX11_149 x_s0 (by decide) rfl rfl rfl rfl ⟨Nat.le_of_ble_eq_true rfl, Nat.le_of_ble_eq_true rfl⟩ (Nat.le_of_ble_eq_true rfl) rfl rfl dX11_strokeByDraw_42 ?_
      refine r_if_eqB (pc := 45) (tgt := 60) C h dX11_strokeByDraw_45 (by decide) (fun hc45 h => ?_) (fun hc45 h => ?_)
      · refine r_aload_n (pc := 48) C 1 rfl rfl dX11_strokeByDraw_48 ?_
        refine r_getR (pc := 49) C fl_RX11_35 x_s0 (by decide) x_kX_3 x_r0_3 dX11_strokeByDraw_49 ?_
        refine r_getR (pc := 52) C fl_RX11_170 x_s38 (by decide) x_kState_1 x_r38_1 dX11_strokeByDraw_52 ?_
        refine r_iload_n (pc := 55) C 0 rfl rfl dX11_strokeByDraw_55 ?_
        obtain ⟨hi56, h⟩ := chk_inv h
        refine r_iald (pc := 56) C x_s40 (by decide) (by decide) hi56 rfl dX11_strokeByDraw_56 ?_
        refine r_if_eq (pc := 57) (tgt := 62) C h dX11_strokeByDraw_57 (by decide) (fun hc57 h => ?_) (fun hc57 h => ?_)
        · refine r_aload_n (pc := 62) C 1 rfl rfl dX11_strokeByDraw_62 ?_
          refine r_getR (pc := 63) C fl_RX11_35 x_s0 (by decide) x_kX_3 x_r0_3 dX11_strokeByDraw_63 ?_
          refine r_iload_n (pc := 66) C 0 rfl rfl dX11_strokeByDraw_66 ?_
          obtain ⟨M4, hq4, h⟩ := bnd_inv h
          refine r_callV (pc := 67) (rest := []) (st1 := []) C (xExtOK σ b) [vI r2] (c_x_State_breakVoice l 38 x_m38 hq4) cl_RX11_252 x_s38 (by decide) rfl rfl rfl rfl ⟨Nat.le_of_ble_eq_true rfl, Nat.le_of_ble_eq_true rfl⟩ (Nat.le_of_ble_eq_true rfl) rfl rfl dX11_strokeByDraw_67 ?_
          refine r_iconst (pc := 70) C dX11_strokeByDraw_70 ?_
          have e := Option.some.inj h
          exact r_iret (pc := 71) C hr (congrArg (fun z => some (vI z)) (Prod.mk.inj e).1.symm) (Prod.mk.inj e).2.symm dX11_strokeByDraw_71
        · refine r_iconst (pc := 60) C dX11_strokeByDraw_60 ?_
          have e := Option.some.inj h
          exact r_iret (pc := 61) C hr (congrArg (fun z => some (vI z)) (Prod.mk.inj e).1.symm) (Prod.mk.inj e).2.symm dX11_strokeByDraw_61
      · refine r_iconst (pc := 60) C dX11_strokeByDraw_60 ?_
        have e := Option.some.inj h
        exact r_iret (pc := 61) C hr (congrArg (fun z => some (vI z)) (Prod.mk.inj e).1.symm) (Prod.mk.inj e).2.symm dX11_strokeByDraw_61
    · refine r_iconst (pc := 26) C dX11_strokeByDraw_26 ?_
      have e := Option.some.inj h
      exact r_iret (pc := 27) C hr (congrArg (fun z => some (vI z)) (Prod.mk.inj e).1.symm) (Prod.mk.inj e).2.symm dX11_strokeByDraw_27
set_option maxHeartbeats 4000000 in
set_option maxRecDepth 20000 in
theorem w_x_X_chance_L32_s (C : xCX σ p s m args meth c cX11_chance 4 RX11 D E b) (hr : meth.sig.returnType = (some .int)) {r0 : Int} {M0 : Mem} {v1 : Int} {v2 : Int} {v3 : Int} {M : Mem} {q : Int × Int × Mem} {rec : Int → Int → Mem → Option (Int × Int × Mem)} (hrec : ∀ (v2 : Int) (v3 : Int) (M : Mem), rec v2 v3 M = some q → xWX p l e 8 177 s m args below meth c 4 D E b (some (vI r0)) M0 M 32 [(0, vR b 0), (1, vI v1), (2, vI v2), (3, vI v3)] []) (hfol : ∀ (v2 : Int) (v3 : Int) (M : Mem), q = (v2, v3, M) → xWX p l e 8 177 s m args below meth c 4 D E b (some (vI r0)) M0 M 59 [(2, vI v2)] []) (h : x_X_chance_L32 v1 rec v2 v3 M = some q) :
    xWX p l e 8 177 s m args below meth c 4 D E b (some (vI r0)) M0 M 32 [(0, vR b 0), (1, vI v1), (2, vI v2), (3, vI v3)] [] := by
  unfold x_X_chance_L32 at h
  refine r_iload_n (pc := 32) C 3 rfl rfl dX11_chance_32 ?_
  refine r_iload_n (pc := 33) C 1 rfl rfl dX11_chance_33 ?_
  refine r_icmp_ge (pc := 34) (tgt := 59) C h dX11_chance_34 (by decide) (fun hc34 h => ?_) (fun hc34 h => ?_)
  · refine r_sub (lv' := [(2, vI v2)]) [2] rfl ?_
    exact hfol _ _ _ (Option.some.inj h).symm
  · refine r_iload_n (pc := 37) C 2 rfl rfl dX11_chance_37 ?_
    refine r_aload_n (pc := 38) C 0 rfl rfl dX11_chance_38 ?_
    obtain ⟨r3, M3, hq3, h⟩ := bnd2_inv h
    refine r_callV (pc := 39) (rest := [vI v2]) (st1 := [vI r3, vI v2]) C (xExtOK σ b) [] (c_x_X_strokeByDraw l hq3) cl_RX11_274 x_s0 (by decide) rfl rfl rfl rfl ⟨Nat.le_of_ble_eq_true rfl, Nat.le_of_ble_eq_true rfl⟩ (Nat.le_of_ble_eq_true rfl) rfl rfl dX11_chance_39 ?_
    refine r_iadd (pc := 42) C dX11_chance_42 ?_
    obtain ⟨v2_43, hv2_43, h⟩ := lt_inv h
    refine r_topI hv2_43 ?_
    refine r_istore_n (pc := 43) (lv' := [(2, vI v2_43), (0, vR b 0), (1, vI v1), (3, vI v3)]) C rfl dX11_chance_43 (by decide) rfl ?_
    refine r_aload_n (pc := 44) C 1 rfl rfl dX11_chance_44 ?_
    refine r_getR (pc := 45) C fl_RX11_35 x_s0 (by decide) x_kX_3 x_r0_3 dX11_chance_45 ?_
    refine r_iconst (pc := 48) C dX11_chance_48 ?_
    obtain ⟨r4, M4, hq4, h⟩ := bnd2_inv h
    refine r_callV (pc := 49) (rest := []) (st1 := [vI r4]) C (xExtOK σ b) [vI 1] (c_x_State_pass l 38 x_m38 hq4) cl_RX11_229 x_s38 (by decide) rfl rfl rfl rfl ⟨Nat.le_of_ble_eq_true rfl, Nat.le_of_ble_eq_true rfl⟩ (Nat.le_of_ble_eq_true rfl) rfl rfl dX11_chance_49 ?_
    refine r_pop (pc := 52) C rfl dX11_chance_52 ?_
    obtain ⟨v3_53, hv3_53, h⟩ := lt_inv h
    refine r_iincN (pc := 53) (y := v3_53) (lv' := [(3, vI v3_53), (2, vI v2_43), (0, vR b 0), (1, vI v1)]) C 3 rfl hv3_53 dX11_chance_53 (by decide) rfl ?_
    refine r_goto (pc := 56) (tgt := 32) C dX11_chance_56 (by decide) ?_
    refine r_sub (lv' := [(0, vR b 0), (1, vI v1), (2, vI v2_43), (3, vI v3_53)]) [2, 3, 1, 0] rfl ?_
    exact hrec _ _ _ h
set_option maxHeartbeats 4000000 in
theorem w_x_X_chance_L32 (C : xCX σ p s m args meth c cX11_chance 4 RX11 D E b) (hr : meth.sig.returnType = (some .int)) {r0 : Int} {M0 : Mem} {v1 : Int} {q : Int × Int × Mem} (hfol : ∀ (v2 : Int) (v3 : Int) (M : Mem), q = (v2, v3, M) → xWX p l e 8 177 s m args below meth c 4 D E b (some (vI r0)) M0 M 59 [(2, vI v2)] []) : ∀ (n : Nat) (v2 : Int) (v3 : Int) (M : Mem), itr3 (x_X_chance_L32 v1) n v2 v3 M = some q →
    xWX p l e 8 177 s m args below meth c 4 D E b (some (vI r0)) M0 M 32 [(0, vR b 0), (1, vI v1), (2, vI v2), (3, vI v3)] [] := by
  intro n
  induction n with
  | zero => exact fun _ _ _ h => itr_z h
  | succ n ih => exact fun _ _ _ h => w_x_X_chance_L32_s C hr ih hfol h
set_option maxHeartbeats 4000000 in
set_option maxRecDepth 20000 in
theorem c_x_X_chance (l : Launch) {x1 : Int} {M : Mem} {r0 : Int} {M0 : Mem} (h : x_X_chance x1 M = some (r0, M0)) : Ct l yX11_chance cX11_chance 4 (some .int) 8 177 vwCl xSh xN xRf (xExt σ) (fun b => [vR b 0, vI x1]) M (fun b => (some (vI r0))) M0 := by
  refine Ct_of (xExtOK σ) (by decide) (fun b => Nat.le_of_ble_eq_true rfl) ?_
  intro p e s m args below meth c D E b C hr
  unfold x_X_chance at h
  refine (show xWX p l e 8 177 s m args below meth c 4 D E b (some (vI r0)) M0 M 0 [(0, vR b 0), (1, vI x1)] [] from ?_)
  refine r_aload_n (pc := 0) C 0 rfl rfl dX11_chance_0 ?_
  refine r_iload_n (pc := 1) C 1 rfl rfl dX11_chance_1 ?_
  refine r_iconst (pc := 2) C dX11_chance_2 ?_
  refine r_bipush (pc := 3) (j := 60) C (by decide +kernel) dX11_chance_3 ?_
  obtain ⟨r1, hq1, h⟩ := bnd_inv h
  refine r_callV (pc := 5) (rest := []) (st1 := [vB r1]) C (xExtOK σ b) [vI x1, vI 1, vI 60] (c_x_X_comes l hq1) cl_RX11_221 x_s0 (by decide) rfl rfl rfl rfl ⟨Nat.le_of_ble_eq_true rfl, Nat.le_of_ble_eq_true rfl⟩ (Nat.le_of_ble_eq_true rfl) rfl rfl dX11_chance_5 ?_
  refine r_if_neB (pc := 8) (tgt := 17) C h dX11_chance_8 (by decide) (fun hc8 h => ?_) (fun hc8 h => ?_)
  · refine r_aload_n (pc := 17) C 0 rfl rfl dX11_chance_17 ?_
    refine r_getR (pc := 18) C fl_RX11_45 x_s0 (by decide) x_kX_5 x_r0_5 dX11_chance_18 ?_
    refine r_aload_n (pc := 21) C 0 rfl rfl dX11_chance_21 ?_
    refine r_getR (pc := 22) C fl_RX11_35 x_s0 (by decide) x_kX_3 x_r0_3 dX11_chance_22 ?_
    obtain ⟨M2, hq2, h⟩ := bnd_inv h
    refine r_callV (pc := 25) (rest := []) (st1 := []) C (xExtOK σ b) [vR b 38] (c_x_Past_keep l 38 x_m38 hq2) cl_RX11_270 x_s64 (by decide) rfl rfl rfl rfl ⟨Nat.le_of_ble_eq_true rfl, Nat.le_of_ble_eq_true rfl⟩ (Nat.le_of_ble_eq_true rfl) rfl rfl dX11_chance_25 ?_
    refine r_iconst (pc := 28) C dX11_chance_28 ?_
    refine r_istore_n (pc := 29) (lv' := [(2, vI 0), (0, vR b 0), (1, vI x1)]) C rfl dX11_chance_29 (by decide) rfl ?_
    refine r_iconst (pc := 30) C dX11_chance_30 ?_
    refine r_istore_n (pc := 31) (lv' := [(3, vI 0), (2, vI 0), (0, vR b 0), (1, vI x1)]) C rfl dX11_chance_31 (by decide) rfl ?_
    refine r_sub (lv' := [(0, vR b 0), (1, vI x1), (2, vI 0), (3, vI 0)]) [2, 3, 1, 0] rfl ?_
    obtain ⟨q5, hl5, h⟩ := bnd_inv h
    refine w_x_X_chance_L32 C hr (fun v2_5 v3_5 M_5 hq => ?_) FUEL _ _ _ hl5
    have hq := hq.symm
    subst hq
    refine r_iload_n (pc := 59) C 0 rfl rfl dX11_chance_59 ?_
    have e := Option.some.inj h
    exact r_iret (pc := 60) C hr (congrArg (fun z => some (vI z)) (Prod.mk.inj e).1.symm) (Prod.mk.inj e).2.symm dX11_chance_60
  · refine r_aload_n (pc := 11) C 0 rfl rfl dX11_chance_11 ?_
    refine r_iconst (pc := 12) C dX11_chance_12 ?_
    obtain ⟨r6, M6, hq6, h⟩ := bnd2_inv h
    refine r_callV (pc := 13) (rest := []) (st1 := [vI r6]) C (xExtOK σ b) [vI 2] (c_x_X_none l hq6) cl_RX11_85 x_s0 (by decide) rfl rfl rfl rfl ⟨Nat.le_of_ble_eq_true rfl, Nat.le_of_ble_eq_true rfl⟩ (Nat.le_of_ble_eq_true rfl) rfl rfl dX11_chance_13 ?_
    have e := Option.some.inj h
    exact r_iret (pc := 16) C hr (congrArg (fun z => some (vI z)) (Prod.mk.inj e).1.symm) (Prod.mk.inj e).2.symm dX11_chance_16
set_option maxHeartbeats 4000000 in
set_option maxRecDepth 20000 in
theorem c_x_X_strike (l : Launch) {x1 : Int} {M : Mem} {r0 : Bool} {M0 : Mem} (h : x_X_strike x1 M = some (r0, M0)) : Ct l yX11_strike cX11_strike 2 (some .boolean) 4 126 vwCl xSh xN xRf (xExt σ) (fun b => [vR b 0, vI x1]) M (fun b => (some (vB r0))) M0 := by
  refine Ct_of (xExtOK σ) (by decide) (fun b => Nat.le_of_ble_eq_true rfl) ?_
  intro p e s m args below meth c D E b C hr
  unfold x_X_strike at h
  refine (show xWX p l e 4 126 s m args below meth c 2 D E b (some (vB r0)) M0 M 0 [(0, vR b 0), (1, vI x1)] [] from ?_)
  refine r_aload_n (pc := 0) C 0 rfl rfl dX11_strike_0 ?_
  refine r_iload_n (pc := 1) C 1 rfl rfl dX11_strike_1 ?_
  obtain ⟨r1, hq1, h⟩ := bnd_inv h
  refine r_callV (pc := 2) (rest := []) (st1 := [vB r1]) C (xExtOK σ b) [vI x1] (c_x_X_isVoice l hq1) cl_RX11_149 x_s0 (by decide) rfl rfl rfl rfl ⟨Nat.le_of_ble_eq_true rfl, Nat.le_of_ble_eq_true rfl⟩ (Nat.le_of_ble_eq_true rfl) rfl rfl dX11_strike_2 ?_
  refine r_if_eqB (pc := 5) (tgt := 20) C h dX11_strike_5 (by decide) (fun hc5 h => ?_) (fun hc5 h => ?_)
  · refine r_aload_n (pc := 8) C 0 rfl rfl dX11_strike_8 ?_
    refine r_getR (pc := 9) C fl_RX11_35 x_s0 (by decide) x_kX_3 x_r0_3 dX11_strike_9 ?_
    refine r_getR (pc := 12) C fl_RX11_170 x_s38 (by decide) x_kState_1 x_r38_1 dX11_strike_12 ?_
    refine r_iload_n (pc := 15) C 1 rfl rfl dX11_strike_15 ?_
    obtain ⟨hi16, h⟩ := chk_inv h
    refine r_iald (pc := 16) C x_s40 (by decide) (by decide) hi16 rfl dX11_strike_16 ?_
    refine r_if_eq (pc := 17) (tgt := 26) C h dX11_strike_17 (by decide) (fun hc17 h => ?_) (fun hc17 h => ?_)
    · refine r_aload_n (pc := 26) C 0 rfl rfl dX11_strike_26 ?_
      refine r_getR (pc := 27) C fl_RX11_45 x_s0 (by decide) x_kX_5 x_r0_5 dX11_strike_27 ?_
      refine r_aload_n (pc := 30) C 0 rfl rfl dX11_strike_30 ?_
      refine r_getR (pc := 31) C fl_RX11_35 x_s0 (by decide) x_kX_3 x_r0_3 dX11_strike_31 ?_
      obtain ⟨M3, hq3, h⟩ := bnd_inv h
      refine r_callV (pc := 34) (rest := []) (st1 := []) C (xExtOK σ b) [vR b 38] (c_x_Past_keep l 38 x_m38 hq3) cl_RX11_270 x_s64 (by decide) rfl rfl rfl rfl ⟨Nat.le_of_ble_eq_true rfl, Nat.le_of_ble_eq_true rfl⟩ (Nat.le_of_ble_eq_true rfl) rfl rfl dX11_strike_34 ?_
      refine r_aload_n (pc := 37) C 0 rfl rfl dX11_strike_37 ?_
      refine r_getR (pc := 38) C fl_RX11_35 x_s0 (by decide) x_kX_3 x_r0_3 dX11_strike_38 ?_
      refine r_iload_n (pc := 41) C 1 rfl rfl dX11_strike_41 ?_
      obtain ⟨M4, hq4, h⟩ := bnd_inv h
      refine r_callV (pc := 42) (rest := []) (st1 := []) C (xExtOK σ b) [vI x1] (c_x_State_breakVoice l 38 x_m38 hq4) cl_RX11_252 x_s38 (by decide) rfl rfl rfl rfl ⟨Nat.le_of_ble_eq_true rfl, Nat.le_of_ble_eq_true rfl⟩ (Nat.le_of_ble_eq_true rfl) rfl rfl dX11_strike_42 ?_
      refine r_iconst (pc := 45) C dX11_strike_45 ?_
      have e := Option.some.inj h
      exact r_zret (pc := 46) C hr (Or.inr rfl) (congrArg (fun z => some (vB z)) (Prod.mk.inj e).1.symm) (Prod.mk.inj e).2.symm dX11_strike_46
    · refine r_aload_n (pc := 20) C 0 rfl rfl dX11_strike_20 ?_
      refine r_iconst (pc := 21) C dX11_strike_21 ?_
      obtain ⟨r5, M5, hq5, h⟩ := bnd2_inv h
      refine r_callV (pc := 22) (rest := []) (st1 := [vB r5]) C (xExtOK σ b) [vI 3] (c_x_X_no l hq5) cl_RX11_93 x_s0 (by decide) rfl rfl rfl rfl ⟨Nat.le_of_ble_eq_true rfl, Nat.le_of_ble_eq_true rfl⟩ (Nat.le_of_ble_eq_true rfl) rfl rfl dX11_strike_22 ?_
      have e := Option.some.inj h
      exact r_zret (pc := 25) C hr (b2i01 _) (congrArg (fun z => some (vB z)) (Prod.mk.inj e).1.symm) (Prod.mk.inj e).2.symm dX11_strike_25
  · refine r_aload_n (pc := 20) C 0 rfl rfl dX11_strike_20 ?_
    refine r_iconst (pc := 21) C dX11_strike_21 ?_
    obtain ⟨r2, M2, hq2, h⟩ := bnd2_inv h
    refine r_callV (pc := 22) (rest := []) (st1 := [vB r2]) C (xExtOK σ b) [vI 3] (c_x_X_no l hq2) cl_RX11_93 x_s0 (by decide) rfl rfl rfl rfl ⟨Nat.le_of_ble_eq_true rfl, Nat.le_of_ble_eq_true rfl⟩ (Nat.le_of_ble_eq_true rfl) rfl rfl dX11_strike_22 ?_
    have e := Option.some.inj h
    exact r_zret (pc := 25) C hr (b2i01 _) (congrArg (fun z => some (vB z)) (Prod.mk.inj e).1.symm) (Prod.mk.inj e).2.symm dX11_strike_25
set_option maxHeartbeats 4000000 in
set_option maxRecDepth 20000 in
theorem c_x_X_heal (l : Launch) {x1 : Int} {M : Mem} {r0 : Bool} {M0 : Mem} (h : x_X_heal x1 M = some (r0, M0)) : Ct l yX11_heal cX11_heal 2 (some .boolean) 4 126 vwCl xSh xN xRf (xExt σ) (fun b => [vR b 0, vI x1]) M (fun b => (some (vB r0))) M0 := by
  refine Ct_of (xExtOK σ) (by decide) (fun b => Nat.le_of_ble_eq_true rfl) ?_
  intro p e s m args below meth c D E b C hr
  unfold x_X_heal at h
  refine (show xWX p l e 4 126 s m args below meth c 2 D E b (some (vB r0)) M0 M 0 [(0, vR b 0), (1, vI x1)] [] from ?_)
  refine r_aload_n (pc := 0) C 0 rfl rfl dX11_heal_0 ?_
  refine r_iload_n (pc := 1) C 1 rfl rfl dX11_heal_1 ?_
  obtain ⟨r1, hq1, h⟩ := bnd_inv h
  refine r_callV (pc := 2) (rest := []) (st1 := [vB r1]) C (xExtOK σ b) [vI x1] (c_x_X_isVoice l hq1) cl_RX11_149 x_s0 (by decide) rfl rfl rfl rfl ⟨Nat.le_of_ble_eq_true rfl, Nat.le_of_ble_eq_true rfl⟩ (Nat.le_of_ble_eq_true rfl) rfl rfl dX11_heal_2 ?_
  refine r_if_eqB (pc := 5) (tgt := 20) C h dX11_heal_5 (by decide) (fun hc5 h => ?_) (fun hc5 h => ?_)
  · refine r_aload_n (pc := 8) C 0 rfl rfl dX11_heal_8 ?_
    refine r_getR (pc := 9) C fl_RX11_35 x_s0 (by decide) x_kX_3 x_r0_3 dX11_heal_9 ?_
    refine r_getR (pc := 12) C fl_RX11_170 x_s38 (by decide) x_kState_1 x_r38_1 dX11_heal_12 ?_
    refine r_iload_n (pc := 15) C 1 rfl rfl dX11_heal_15 ?_
    obtain ⟨hi16, h⟩ := chk_inv h
    refine r_iald (pc := 16) C x_s40 (by decide) (by decide) hi16 rfl dX11_heal_16 ?_
    refine r_if_ne (pc := 17) (tgt := 26) C h dX11_heal_17 (by decide) (fun hc17 h => ?_) (fun hc17 h => ?_)
    · refine r_aload_n (pc := 26) C 0 rfl rfl dX11_heal_26 ?_
      refine r_getR (pc := 27) C fl_RX11_45 x_s0 (by decide) x_kX_5 x_r0_5 dX11_heal_27 ?_
      refine r_aload_n (pc := 30) C 0 rfl rfl dX11_heal_30 ?_
      refine r_getR (pc := 31) C fl_RX11_35 x_s0 (by decide) x_kX_3 x_r0_3 dX11_heal_31 ?_
      obtain ⟨M3, hq3, h⟩ := bnd_inv h
      refine r_callV (pc := 34) (rest := []) (st1 := []) C (xExtOK σ b) [vR b 38] (c_x_Past_keep l 38 x_m38 hq3) cl_RX11_270 x_s64 (by decide) rfl rfl rfl rfl ⟨Nat.le_of_ble_eq_true rfl, Nat.le_of_ble_eq_true rfl⟩ (Nat.le_of_ble_eq_true rfl) rfl rfl dX11_heal_34 ?_
      refine r_aload_n (pc := 37) C 0 rfl rfl dX11_heal_37 ?_
      refine r_getR (pc := 38) C fl_RX11_35 x_s0 (by decide) x_kX_3 x_r0_3 dX11_heal_38 ?_
      refine r_getR (pc := 41) C fl_RX11_170 x_s38 (by decide) x_kState_1 x_r38_1 dX11_heal_41 ?_
      refine r_iload_n (pc := 44) C 1 rfl rfl dX11_heal_44 ?_
      refine r_iconst (pc := 45) C dX11_heal_45 ?_
      obtain ⟨hi46, h⟩ := chk_inv h
      obtain ⟨M_46, hM_46, h⟩ := lt_inv h
      refine r_iast (pc := 46) C x_s40 (by decide) (by decide) hi46 rfl hM_46 dX11_heal_46 ?_
      refine r_iconst (pc := 47) C dX11_heal_47 ?_
      have e := Option.some.inj h
      exact r_zret (pc := 48) C hr (Or.inr rfl) (congrArg (fun z => some (vB z)) (Prod.mk.inj e).1.symm) (Prod.mk.inj e).2.symm dX11_heal_48
    · refine r_aload_n (pc := 20) C 0 rfl rfl dX11_heal_20 ?_
      refine r_iconst (pc := 21) C dX11_heal_21 ?_
      obtain ⟨r4, M4, hq4, h⟩ := bnd2_inv h
      refine r_callV (pc := 22) (rest := []) (st1 := [vB r4]) C (xExtOK σ b) [vI 3] (c_x_X_no l hq4) cl_RX11_93 x_s0 (by decide) rfl rfl rfl rfl ⟨Nat.le_of_ble_eq_true rfl, Nat.le_of_ble_eq_true rfl⟩ (Nat.le_of_ble_eq_true rfl) rfl rfl dX11_heal_22 ?_
      have e := Option.some.inj h
      exact r_zret (pc := 25) C hr (b2i01 _) (congrArg (fun z => some (vB z)) (Prod.mk.inj e).1.symm) (Prod.mk.inj e).2.symm dX11_heal_25
  · refine r_aload_n (pc := 20) C 0 rfl rfl dX11_heal_20 ?_
    refine r_iconst (pc := 21) C dX11_heal_21 ?_
    obtain ⟨r2, M2, hq2, h⟩ := bnd2_inv h
    refine r_callV (pc := 22) (rest := []) (st1 := [vB r2]) C (xExtOK σ b) [vI 3] (c_x_X_no l hq2) cl_RX11_93 x_s0 (by decide) rfl rfl rfl rfl ⟨Nat.le_of_ble_eq_true rfl, Nat.le_of_ble_eq_true rfl⟩ (Nat.le_of_ble_eq_true rfl) rfl rfl dX11_heal_22 ?_
    have e := Option.some.inj h
    exact r_zret (pc := 25) C hr (b2i01 _) (congrArg (fun z => some (vB z)) (Prod.mk.inj e).1.symm) (Prod.mk.inj e).2.symm dX11_heal_25
set_option maxHeartbeats 4000000 in
set_option maxRecDepth 20000 in
theorem c_x_X_train (l : Launch) {x1 : Int} {x2 : Int} {M : Mem} {r0 : Bool} {M0 : Mem} (h : x_X_train x1 x2 M = some (r0, M0)) : Ct l yX11_train cX11_train 3 (some .boolean) 4 126 vwCl xSh xN xRf (xExt σ) (fun b => [vR b 0, vI x1, vI x2]) M (fun b => (some (vB r0))) M0 := by
  refine Ct_of (xExtOK σ) (by decide) (fun b => Nat.le_of_ble_eq_true rfl) ?_
  intro p e s m args below meth c D E b C hr
  unfold x_X_train at h
  refine (show xWX p l e 4 126 s m args below meth c 3 D E b (some (vB r0)) M0 M 0 [(0, vR b 0), (1, vI x1), (2, vI x2)] [] from ?_)
  refine r_aload_n (pc := 0) C 0 rfl rfl dX11_train_0 ?_
  refine r_iload_n (pc := 1) C 1 rfl rfl dX11_train_1 ?_
  obtain ⟨r1, hq1, h⟩ := bnd_inv h
  refine r_callV (pc := 2) (rest := []) (st1 := [vB r1]) C (xExtOK σ b) [vI x1] (c_x_X_isVoice l hq1) cl_RX11_149 x_s0 (by decide) rfl rfl rfl rfl ⟨Nat.le_of_ble_eq_true rfl, Nat.le_of_ble_eq_true rfl⟩ (Nat.le_of_ble_eq_true rfl) rfl rfl dX11_train_2 ?_
  refine r_if_eqB (pc := 5) (tgt := 18) C h dX11_train_5 (by decide) (fun hc5 h => ?_) (fun hc5 h => ?_)
  · refine r_iload_n (pc := 8) C 2 rfl rfl dX11_train_8 ?_
    refine r_if_lt (pc := 9) (tgt := 18) C h dX11_train_9 (by decide) (fun hc9 h => ?_) (fun hc9 h => ?_)
    · refine r_aload_n (pc := 18) C 0 rfl rfl dX11_train_18 ?_
      refine r_iconst (pc := 19) C dX11_train_19 ?_
      obtain ⟨r3, M3, hq3, h⟩ := bnd2_inv h
      refine r_callV (pc := 20) (rest := []) (st1 := [vB r3]) C (xExtOK σ b) [vI 3] (c_x_X_no l hq3) cl_RX11_93 x_s0 (by decide) rfl rfl rfl rfl ⟨Nat.le_of_ble_eq_true rfl, Nat.le_of_ble_eq_true rfl⟩ (Nat.le_of_ble_eq_true rfl) rfl rfl dX11_train_20 ?_
      have e := Option.some.inj h
      exact r_zret (pc := 23) C hr (b2i01 _) (congrArg (fun z => some (vB z)) (Prod.mk.inj e).1.symm) (Prod.mk.inj e).2.symm dX11_train_23
    · refine r_iload_n (pc := 12) C 2 rfl rfl dX11_train_12 ?_
      refine r_bipush (pc := 13) (j := 10) C (by decide +kernel) dX11_train_13 ?_
      refine r_icmp_lt (pc := 15) (tgt := 24) C h dX11_train_15 (by decide) (fun hc15 h => ?_) (fun hc15 h => ?_)
      · refine r_aload_n (pc := 24) C 0 rfl rfl dX11_train_24 ?_
        refine r_getR (pc := 25) C fl_RX11_35 x_s0 (by decide) x_kX_3 x_r0_3 dX11_train_25 ?_
        refine r_getR (pc := 28) C fl_RX11_167 x_s38 (by decide) x_kState_0 x_r38_0 dX11_train_28 ?_
        refine r_iload_n (pc := 31) C 1 rfl rfl dX11_train_31 ?_
        obtain ⟨hi32, h⟩ := chk_inv h
        refine r_iald (pc := 32) C x_s39 (by decide) (by decide) hi32 rfl dX11_train_32 ?_
        refine r_iload_n (pc := 33) C 2 rfl rfl dX11_train_33 ?_
        refine r_icmp_ne (pc := 34) (tgt := 43) C h dX11_train_34 (by decide) (fun hc34 h => ?_) (fun hc34 h => ?_)
        · refine r_aload_n (pc := 43) C 0 rfl rfl dX11_train_43 ?_
          refine r_getR (pc := 44) C fl_RX11_45 x_s0 (by decide) x_kX_5 x_r0_5 dX11_train_44 ?_
          refine r_aload_n (pc := 47) C 0 rfl rfl dX11_train_47 ?_
          refine r_getR (pc := 48) C fl_RX11_35 x_s0 (by decide) x_kX_3 x_r0_3 dX11_train_48 ?_
          obtain ⟨M4, hq4, h⟩ := bnd_inv h
          refine r_callV (pc := 51) (rest := []) (st1 := []) C (xExtOK σ b) [vR b 38] (c_x_Past_keep l 38 x_m38 hq4) cl_RX11_270 x_s64 (by decide) rfl rfl rfl rfl ⟨Nat.le_of_ble_eq_true rfl, Nat.le_of_ble_eq_true rfl⟩ (Nat.le_of_ble_eq_true rfl) rfl rfl dX11_train_51 ?_
          refine r_aload_n (pc := 54) C 0 rfl rfl dX11_train_54 ?_
          refine r_getR (pc := 55) C fl_RX11_35 x_s0 (by decide) x_kX_3 x_r0_3 dX11_train_55 ?_
          refine r_getR (pc := 58) C fl_RX11_167 x_s38 (by decide) x_kState_0 x_r38_0 dX11_train_58 ?_
          refine r_iload_n (pc := 61) C 1 rfl rfl dX11_train_61 ?_
          refine r_iload_n (pc := 62) C 2 rfl rfl dX11_train_62 ?_
          obtain ⟨hi63, h⟩ := chk_inv h
          obtain ⟨M_63, hM_63, h⟩ := lt_inv h
          refine r_iast (pc := 63) C x_s39 (by decide) (by decide) hi63 rfl hM_63 dX11_train_63 ?_
          refine r_iconst (pc := 64) C dX11_train_64 ?_
          have e := Option.some.inj h
          exact r_zret (pc := 65) C hr (Or.inr rfl) (congrArg (fun z => some (vB z)) (Prod.mk.inj e).1.symm) (Prod.mk.inj e).2.symm dX11_train_65
        · refine r_aload_n (pc := 37) C 0 rfl rfl dX11_train_37 ?_
          refine r_iconst (pc := 38) C dX11_train_38 ?_
          obtain ⟨r5, M5, hq5, h⟩ := bnd2_inv h
          refine r_callV (pc := 39) (rest := []) (st1 := [vB r5]) C (xExtOK σ b) [vI 3] (c_x_X_no l hq5) cl_RX11_93 x_s0 (by decide) rfl rfl rfl rfl ⟨Nat.le_of_ble_eq_true rfl, Nat.le_of_ble_eq_true rfl⟩ (Nat.le_of_ble_eq_true rfl) rfl rfl dX11_train_39 ?_
          have e := Option.some.inj h
          exact r_zret (pc := 42) C hr (b2i01 _) (congrArg (fun z => some (vB z)) (Prod.mk.inj e).1.symm) (Prod.mk.inj e).2.symm dX11_train_42
      · refine r_aload_n (pc := 18) C 0 rfl rfl dX11_train_18 ?_
        refine r_iconst (pc := 19) C dX11_train_19 ?_
        obtain ⟨r6, M6, hq6, h⟩ := bnd2_inv h
        refine r_callV (pc := 20) (rest := []) (st1 := [vB r6]) C (xExtOK σ b) [vI 3] (c_x_X_no l hq6) cl_RX11_93 x_s0 (by decide) rfl rfl rfl rfl ⟨Nat.le_of_ble_eq_true rfl, Nat.le_of_ble_eq_true rfl⟩ (Nat.le_of_ble_eq_true rfl) rfl rfl dX11_train_20 ?_
        have e := Option.some.inj h
        exact r_zret (pc := 23) C hr (b2i01 _) (congrArg (fun z => some (vB z)) (Prod.mk.inj e).1.symm) (Prod.mk.inj e).2.symm dX11_train_23
  · refine r_aload_n (pc := 18) C 0 rfl rfl dX11_train_18 ?_
    refine r_iconst (pc := 19) C dX11_train_19 ?_
    obtain ⟨r2, M2, hq2, h⟩ := bnd2_inv h
    refine r_callV (pc := 20) (rest := []) (st1 := [vB r2]) C (xExtOK σ b) [vI 3] (c_x_X_no l hq2) cl_RX11_93 x_s0 (by decide) rfl rfl rfl rfl ⟨Nat.le_of_ble_eq_true rfl, Nat.le_of_ble_eq_true rfl⟩ (Nat.le_of_ble_eq_true rfl) rfl rfl dX11_train_20 ?_
    have e := Option.some.inj h
    exact r_zret (pc := 23) C hr (b2i01 _) (congrArg (fun z => some (vB z)) (Prod.mk.inj e).1.symm) (Prod.mk.inj e).2.symm dX11_train_23
set_option maxHeartbeats 4000000 in
set_option maxRecDepth 20000 in
theorem c_x_X_delay (l : Launch) {x1 : Int} {x2 : Int} {M : Mem} {r0 : Bool} {M0 : Mem} (h : x_X_delay x1 x2 M = some (r0, M0)) : Ct l yX11_delay cX11_delay 3 (some .boolean) 4 126 vwCl xSh xN xRf (xExt σ) (fun b => [vR b 0, vI x1, vI x2]) M (fun b => (some (vB r0))) M0 := by
  refine Ct_of (xExtOK σ) (by decide) (fun b => Nat.le_of_ble_eq_true rfl) ?_
  intro p e s m args below meth c D E b C hr
  unfold x_X_delay at h
  refine (show xWX p l e 4 126 s m args below meth c 3 D E b (some (vB r0)) M0 M 0 [(0, vR b 0), (1, vI x1), (2, vI x2)] [] from ?_)
  refine r_aload_n (pc := 0) C 0 rfl rfl dX11_delay_0 ?_
  refine r_iload_n (pc := 1) C 1 rfl rfl dX11_delay_1 ?_
  obtain ⟨r1, hq1, h⟩ := bnd_inv h
  refine r_callV (pc := 2) (rest := []) (st1 := [vB r1]) C (xExtOK σ b) [vI x1] (c_x_X_isSaying l hq1) cl_RX11_189 x_s0 (by decide) rfl rfl rfl rfl ⟨Nat.le_of_ble_eq_true rfl, Nat.le_of_ble_eq_true rfl⟩ (Nat.le_of_ble_eq_true rfl) rfl rfl dX11_delay_2 ?_
  refine r_if_eqB (pc := 5) (tgt := 20) C h dX11_delay_5 (by decide) (fun hc5 h => ?_) (fun hc5 h => ?_)
  · refine r_aload_n (pc := 8) C 0 rfl rfl dX11_delay_8 ?_
    refine r_getR (pc := 9) C fl_RX11_35 x_s0 (by decide) x_kX_3 x_r0_3 dX11_delay_9 ?_
    refine r_getR (pc := 12) C fl_RX11_201 x_s38 (by decide) x_kState_3 x_r38_3 dX11_delay_12 ?_
    refine r_iload_n (pc := 15) C 1 rfl rfl dX11_delay_15 ?_
    obtain ⟨hi16, h⟩ := chk_inv h
    refine r_iald (pc := 16) C x_s42 (by decide) (by decide) hi16 rfl dX11_delay_16 ?_
    refine r_if_eq (pc := 17) (tgt := 26) C h dX11_delay_17 (by decide) (fun hc17 h => ?_) (fun hc17 h => ?_)
    · refine r_iload_n (pc := 26) C 2 rfl rfl dX11_delay_26 ?_
      refine r_aload_n (pc := 27) C 0 rfl rfl dX11_delay_27 ?_
      refine r_getR (pc := 28) C fl_RX11_35 x_s0 (by decide) x_kX_3 x_r0_3 dX11_delay_28 ?_
      refine r_getI (pc := 31) C fl_RX11_129 x_s38 (by decide) x_kState_13 dX11_delay_31 ?_
      refine r_icmp_lt (pc := 34) (tgt := 44) C h dX11_delay_34 (by decide) (fun hc34 h => ?_) (fun hc34 h => ?_)
      · refine r_aload_n (pc := 44) C 0 rfl rfl dX11_delay_44 ?_
        refine r_iconst (pc := 45) C dX11_delay_45 ?_
        obtain ⟨r3, M3, hq3, h⟩ := bnd2_inv h
        refine r_callV (pc := 46) (rest := []) (st1 := [vB r3]) C (xExtOK σ b) [vI 3] (c_x_X_no l hq3) cl_RX11_93 x_s0 (by decide) rfl rfl rfl rfl ⟨Nat.le_of_ble_eq_true rfl, Nat.le_of_ble_eq_true rfl⟩ (Nat.le_of_ble_eq_true rfl) rfl rfl dX11_delay_46 ?_
        have e := Option.some.inj h
        exact r_zret (pc := 49) C hr (b2i01 _) (congrArg (fun z => some (vB z)) (Prod.mk.inj e).1.symm) (Prod.mk.inj e).2.symm dX11_delay_49
      · refine r_iload_n (pc := 37) C 2 rfl rfl dX11_delay_37 ?_
        refine r_sipush (pc := 38) (j := 999) C (by decide +kernel) dX11_delay_38 ?_
        refine r_icmp_le (pc := 41) (tgt := 50) C h dX11_delay_41 (by decide) (fun hc41 h => ?_) (fun hc41 h => ?_)
        · refine r_aload_n (pc := 50) C 0 rfl rfl dX11_delay_50 ?_
          refine r_getR (pc := 51) C fl_RX11_35 x_s0 (by decide) x_kX_3 x_r0_3 dX11_delay_51 ?_
          refine r_getR (pc := 54) C fl_RX11_195 x_s38 (by decide) x_kState_4 x_r38_4 dX11_delay_54 ?_
          refine r_iload_n (pc := 57) C 1 rfl rfl dX11_delay_57 ?_
          obtain ⟨hi58, h⟩ := chk_inv h
          refine r_iald (pc := 58) C x_s43 (by decide) (by decide) hi58 rfl dX11_delay_58 ?_
          refine r_iload_n (pc := 59) C 2 rfl rfl dX11_delay_59 ?_
          refine r_icmp_ne (pc := 60) (tgt := 69) C h dX11_delay_60 (by decide) (fun hc60 h => ?_) (fun hc60 h => ?_)
          · refine r_aload_n (pc := 69) C 0 rfl rfl dX11_delay_69 ?_
            refine r_getR (pc := 70) C fl_RX11_45 x_s0 (by decide) x_kX_5 x_r0_5 dX11_delay_70 ?_
            refine r_aload_n (pc := 73) C 0 rfl rfl dX11_delay_73 ?_
            refine r_getR (pc := 74) C fl_RX11_35 x_s0 (by decide) x_kX_3 x_r0_3 dX11_delay_74 ?_
            obtain ⟨M4, hq4, h⟩ := bnd_inv h
            refine r_callV (pc := 77) (rest := []) (st1 := []) C (xExtOK σ b) [vR b 38] (c_x_Past_keep l 38 x_m38 hq4) cl_RX11_270 x_s64 (by decide) rfl rfl rfl rfl ⟨Nat.le_of_ble_eq_true rfl, Nat.le_of_ble_eq_true rfl⟩ (Nat.le_of_ble_eq_true rfl) rfl rfl dX11_delay_77 ?_
            refine r_aload_n (pc := 80) C 0 rfl rfl dX11_delay_80 ?_
            refine r_getR (pc := 81) C fl_RX11_35 x_s0 (by decide) x_kX_3 x_r0_3 dX11_delay_81 ?_
            refine r_getR (pc := 84) C fl_RX11_195 x_s38 (by decide) x_kState_4 x_r38_4 dX11_delay_84 ?_
            refine r_iload_n (pc := 87) C 1 rfl rfl dX11_delay_87 ?_
            refine r_iload_n (pc := 88) C 2 rfl rfl dX11_delay_88 ?_
            obtain ⟨hi89, h⟩ := chk_inv h
            obtain ⟨M_89, hM_89, h⟩ := lt_inv h
            refine r_iast (pc := 89) C x_s43 (by decide) (by decide) hi89 rfl hM_89 dX11_delay_89 ?_
            refine r_iconst (pc := 90) C dX11_delay_90 ?_
            have e := Option.some.inj h
            exact r_zret (pc := 91) C hr (Or.inr rfl) (congrArg (fun z => some (vB z)) (Prod.mk.inj e).1.symm) (Prod.mk.inj e).2.symm dX11_delay_91
          · refine r_aload_n (pc := 63) C 0 rfl rfl dX11_delay_63 ?_
            refine r_iconst (pc := 64) C dX11_delay_64 ?_
            obtain ⟨r5, M5, hq5, h⟩ := bnd2_inv h
            refine r_callV (pc := 65) (rest := []) (st1 := [vB r5]) C (xExtOK σ b) [vI 3] (c_x_X_no l hq5) cl_RX11_93 x_s0 (by decide) rfl rfl rfl rfl ⟨Nat.le_of_ble_eq_true rfl, Nat.le_of_ble_eq_true rfl⟩ (Nat.le_of_ble_eq_true rfl) rfl rfl dX11_delay_65 ?_
            have e := Option.some.inj h
            exact r_zret (pc := 68) C hr (b2i01 _) (congrArg (fun z => some (vB z)) (Prod.mk.inj e).1.symm) (Prod.mk.inj e).2.symm dX11_delay_68
        · refine r_aload_n (pc := 44) C 0 rfl rfl dX11_delay_44 ?_
          refine r_iconst (pc := 45) C dX11_delay_45 ?_
          obtain ⟨r6, M6, hq6, h⟩ := bnd2_inv h
          refine r_callV (pc := 46) (rest := []) (st1 := [vB r6]) C (xExtOK σ b) [vI 3] (c_x_X_no l hq6) cl_RX11_93 x_s0 (by decide) rfl rfl rfl rfl ⟨Nat.le_of_ble_eq_true rfl, Nat.le_of_ble_eq_true rfl⟩ (Nat.le_of_ble_eq_true rfl) rfl rfl dX11_delay_46 ?_
          have e := Option.some.inj h
          exact r_zret (pc := 49) C hr (b2i01 _) (congrArg (fun z => some (vB z)) (Prod.mk.inj e).1.symm) (Prod.mk.inj e).2.symm dX11_delay_49
    · refine r_aload_n (pc := 20) C 0 rfl rfl dX11_delay_20 ?_
      refine r_iconst (pc := 21) C dX11_delay_21 ?_
      obtain ⟨r7, M7, hq7, h⟩ := bnd2_inv h
      refine r_callV (pc := 22) (rest := []) (st1 := [vB r7]) C (xExtOK σ b) [vI 3] (c_x_X_no l hq7) cl_RX11_93 x_s0 (by decide) rfl rfl rfl rfl ⟨Nat.le_of_ble_eq_true rfl, Nat.le_of_ble_eq_true rfl⟩ (Nat.le_of_ble_eq_true rfl) rfl rfl dX11_delay_22 ?_
      have e := Option.some.inj h
      exact r_zret (pc := 25) C hr (b2i01 _) (congrArg (fun z => some (vB z)) (Prod.mk.inj e).1.symm) (Prod.mk.inj e).2.symm dX11_delay_25
  · refine r_aload_n (pc := 20) C 0 rfl rfl dX11_delay_20 ?_
    refine r_iconst (pc := 21) C dX11_delay_21 ?_
    obtain ⟨r2, M2, hq2, h⟩ := bnd2_inv h
    refine r_callV (pc := 22) (rest := []) (st1 := [vB r2]) C (xExtOK σ b) [vI 3] (c_x_X_no l hq2) cl_RX11_93 x_s0 (by decide) rfl rfl rfl rfl ⟨Nat.le_of_ble_eq_true rfl, Nat.le_of_ble_eq_true rfl⟩ (Nat.le_of_ble_eq_true rfl) rfl rfl dX11_delay_22 ?_
    have e := Option.some.inj h
    exact r_zret (pc := 25) C hr (b2i01 _) (congrArg (fun z => some (vB z)) (Prod.mk.inj e).1.symm) (Prod.mk.inj e).2.symm dX11_delay_25
set_option maxHeartbeats 4000000 in
set_option maxRecDepth 20000 in
theorem w_x_Past_giveBack_B28 (C : xCX σ p s m args meth c cX2_giveBack 2 RX2 D E b) (hr : meth.sig.returnType = (some .boolean)) {r0 : Bool} {M0 : Mem} (o1 : Nat) (ho1 : o1 ∈ xI_State) {M : Mem} {s1 : Int} (h : x_Past_giveBack_B28 o1 s1 M = some (r0, M0)) :
    xWX p l e 3 105 s m args below meth c 2 D E b (some (vB r0)) M0 M 28 [(0, vR b 64), (1, vR b o1)] [vI s1, vR b 64] := by
  unfold x_Past_giveBack_B28 at h
  obtain ⟨M_28, hM_28, h⟩ := lt_inv h
  refine r_putI (pc := 28) C fl_RX2_22 x_ft2 x_w2_2 x_s64 (by decide) x_kPast_2 hM_28 dX2_giveBack_28 ?_
  refine r_aload_n (pc := 31) C 0 rfl rfl dX2_giveBack_31 ?_
  refine r_getI (pc := 32) C fl_RX2_22 x_s64 (by decide) x_kPast_2 dX2_giveBack_32 ?_
  refine r_if_lt (pc := 35) (tgt := 59) C h dX2_giveBack_35 (by decide) (fun hc35 h => ?_) (fun hc35 h => ?_)
  · refine r_iconst (pc := 59) C dX2_giveBack_59 ?_
    have e := Option.some.inj h
    exact r_zret (pc := 60) C hr (Or.inl rfl) (congrArg (fun z => some (vB z)) (Prod.mk.inj e).1.symm) (Prod.mk.inj e).2.symm dX2_giveBack_60
  · refine r_aload_n (pc := 38) C 0 rfl rfl dX2_giveBack_38 ?_
    refine r_getI (pc := 39) C fl_RX2_22 x_s64 (by decide) x_kPast_2 dX2_giveBack_39 ?_
    refine r_bipush (pc := 42) (j := 20) C (by decide +kernel) dX2_giveBack_42 ?_
    refine r_icmp_ge (pc := 44) (tgt := 59) C h dX2_giveBack_44 (by decide) (fun hc44 h => ?_) (fun hc44 h => ?_)
    · refine r_iconst (pc := 59) C dX2_giveBack_59 ?_
      have e := Option.some.inj h
      exact r_zret (pc := 60) C hr (Or.inl rfl) (congrArg (fun z => some (vB z)) (Prod.mk.inj e).1.symm) (Prod.mk.inj e).2.symm dX2_giveBack_60
    · refine r_aload_n (pc := 47) C 0 rfl rfl dX2_giveBack_47 ?_
      refine r_getR (pc := 48) C fl_RX2_11 x_s64 (by decide) x_kPast_1 x_r64_1 dX2_giveBack_48 ?_
      refine r_aload_n (pc := 51) C 0 rfl rfl dX2_giveBack_51 ?_
      refine r_getI (pc := 52) C fl_RX2_22 x_s64 (by decide) x_kPast_2 dX2_giveBack_52 ?_
      obtain ⟨hi55, h⟩ := chk_inv h
      refine r_aald (pc := 55) (ty := .object "ThrownVoices$State") C x_s65 (by decide) (by decide) (fun _ => rfl) rfl hi55 rfl (x_qr65 (x_lt hi55 rfl)) dX2_giveBack_55 ?_
      refine r_ifnonnull (pc := 56) (tgt := 61) C dX2_giveBack_56 (by decide) ?_
      refine r_aload_n (pc := 61) C 1 rfl rfl dX2_giveBack_61 ?_
      refine r_aload_n (pc := 62) C 0 rfl rfl dX2_giveBack_62 ?_
      refine r_getR (pc := 63) C fl_RX2_11 x_s64 (by decide) x_kPast_1 x_r64_1 dX2_giveBack_63 ?_
      refine r_aload_n (pc := 66) C 0 rfl rfl dX2_giveBack_66 ?_
      refine r_getI (pc := 67) C fl_RX2_22 x_s64 (by decide) x_kPast_2 dX2_giveBack_67 ?_
      obtain ⟨hi70, h⟩ := chk_inv h
      refine r_aald (pc := 70) (ty := .object "ThrownVoices$State") C x_s65 (by decide) (by decide) (fun _ => rfl) rfl hi70 rfl (x_qr65 (x_lt hi70 rfl)) dX2_giveBack_70 ?_
      obtain ⟨M1, hq1, h⟩ := bnd_inv h
      refine r_callV (pc := 71) (rest := []) (st1 := []) C (xExtOK σ b) [vR b (66 + 13 * (M_28 64 2).toNat)] (c_x_State_copyFrom l o1 (66 + 13 * (M_28 64 2).toNat) ho1 (x_qm65 (x_lt hi70 rfl)) hq1) cl_RX2_25 (x_sI_State ho1) (x_nI_State ho1) rfl rfl rfl rfl ⟨Nat.le_of_ble_eq_true rfl, Nat.le_of_ble_eq_true rfl⟩ (Nat.le_of_ble_eq_true rfl) rfl rfl dX2_giveBack_71 ?_
      refine r_aload_n (pc := 74) C 0 rfl rfl dX2_giveBack_74 ?_
      refine r_dup (pc := 75) C rfl dX2_giveBack_75 ?_
      refine r_getI (pc := 76) C fl_RX2_18 x_s64 (by decide) x_kPast_0 dX2_giveBack_76 ?_
      refine r_iconst (pc := 79) C dX2_giveBack_79 ?_
      refine r_isub (pc := 80) C dX2_giveBack_80 ?_
      obtain ⟨M_81, hM_81, h⟩ := lt_inv h
      refine r_putI (pc := 81) C fl_RX2_18 x_ft2 x_w2_0 x_s64 (by decide) x_kPast_0 hM_81 dX2_giveBack_81 ?_
      refine r_iconst (pc := 84) C dX2_giveBack_84 ?_
      have e := Option.some.inj h
      exact r_zret (pc := 85) C hr (Or.inr rfl) (congrArg (fun z => some (vB z)) (Prod.mk.inj e).1.symm) (Prod.mk.inj e).2.symm dX2_giveBack_85
set_option maxHeartbeats 4000000 in
set_option maxRecDepth 20000 in
theorem c_x_Past_giveBack (l : Launch) (o1 : Nat) (ho1 : o1 ∈ xI_State) {M : Mem} {r0 : Bool} {M0 : Mem} (h : x_Past_giveBack o1 M = some (r0, M0)) : Ct l yX2_giveBack cX2_giveBack 2 (some .boolean) 3 105 vwCl xSh xN xRf (xExt σ) (fun b => [vR b 64, vR b o1]) M (fun b => (some (vB r0))) M0 := by
  refine Ct_of (xExtOK σ) (by decide) (fun b => Nat.le_of_ble_eq_true rfl) ?_
  intro p e s m args below meth c D E b C hr
  unfold x_Past_giveBack at h
  refine (show xWX p l e 3 105 s m args below meth c 2 D E b (some (vB r0)) M0 M 0 [(0, vR b 64), (1, vR b o1)] [] from ?_)
  refine r_aload_n (pc := 0) C 0 rfl rfl dX2_giveBack_0 ?_
  refine r_getI (pc := 1) C fl_RX2_18 x_s64 (by decide) x_kPast_0 dX2_giveBack_1 ?_
  refine r_if_ne (pc := 4) (tgt := 9) C h dX2_giveBack_4 (by decide) (fun hc4 h => ?_) (fun hc4 h => ?_)
  · refine r_aload_n (pc := 9) C 0 rfl rfl dX2_giveBack_9 ?_
    refine r_aload_n (pc := 10) C 0 rfl rfl dX2_giveBack_10 ?_
    refine r_getI (pc := 11) C fl_RX2_22 x_s64 (by decide) x_kPast_2 dX2_giveBack_11 ?_
    refine r_if_le (pc := 14) (tgt := 26) C h dX2_giveBack_14 (by decide) (fun hc14 h => ?_) (fun hc14 h => ?_)
    · refine r_bipush (pc := 26) (j := 19) C (by decide +kernel) dX2_giveBack_26 ?_
      refine r_sub (lv' := [(0, vR b 64), (1, vR b o1)]) [0, 1] rfl ?_
      exact w_x_Past_giveBack_B28 C hr o1 ho1 h
    · refine r_aload_n (pc := 17) C 0 rfl rfl dX2_giveBack_17 ?_
      refine r_getI (pc := 18) C fl_RX2_22 x_s64 (by decide) x_kPast_2 dX2_giveBack_18 ?_
      refine r_iconst (pc := 21) C dX2_giveBack_21 ?_
      refine r_isub (pc := 22) C dX2_giveBack_22 ?_
      refine r_goto (pc := 23) (tgt := 28) C dX2_giveBack_23 (by decide) ?_
      refine r_sub (lv' := [(0, vR b 64), (1, vR b o1)]) [0, 1] rfl ?_
      exact w_x_Past_giveBack_B28 C hr o1 ho1 h
  · refine r_iconst (pc := 7) C dX2_giveBack_7 ?_
    have e := Option.some.inj h
    exact r_zret (pc := 8) C hr (Or.inl rfl) (congrArg (fun z => some (vB z)) (Prod.mk.inj e).1.symm) (Prod.mk.inj e).2.symm dX2_giveBack_8
set_option maxHeartbeats 4000000 in
set_option maxRecDepth 20000 in
theorem c_x_X_undo (l : Launch) {M : Mem} {r0 : Bool} {M0 : Mem} (h : x_X_undo M = some (r0, M0)) : Ct l yX11_undo cX11_undo 1 (some .boolean) 4 126 vwCl xSh xN xRf (xExt σ) (fun b => [vR b 0]) M (fun b => (some (vB r0))) M0 := by
  refine Ct_of (xExtOK σ) (by decide) (fun b => Nat.le_of_ble_eq_true rfl) ?_
  intro p e s m args below meth c D E b C hr
  unfold x_X_undo at h
  refine (show xWX p l e 4 126 s m args below meth c 1 D E b (some (vB r0)) M0 M 0 [(0, vR b 0)] [] from ?_)
  refine r_aload_n (pc := 0) C 0 rfl rfl dX11_undo_0 ?_
  refine r_getR (pc := 1) C fl_RX11_45 x_s0 (by decide) x_kX_5 x_r0_5 dX11_undo_1 ?_
  refine r_aload_n (pc := 4) C 0 rfl rfl dX11_undo_4 ?_
  refine r_getR (pc := 5) C fl_RX11_35 x_s0 (by decide) x_kX_3 x_r0_3 dX11_undo_5 ?_
  obtain ⟨r1, M1, hq1, h⟩ := bnd2_inv h
  refine r_callV (pc := 8) (rest := []) (st1 := [vB r1]) C (xExtOK σ b) [vR b 38] (c_x_Past_giveBack l 38 x_m38 hq1) cl_RX11_277 x_s64 (by decide) rfl rfl rfl rfl ⟨Nat.le_of_ble_eq_true rfl, Nat.le_of_ble_eq_true rfl⟩ (Nat.le_of_ble_eq_true rfl) rfl rfl dX11_undo_8 ?_
  refine r_if_neB (pc := 11) (tgt := 22) C h dX11_undo_11 (by decide) (fun hc11 h => ?_) (fun hc11 h => ?_)
  · refine r_iconst (pc := 22) C dX11_undo_22 ?_
    refine r_goto (pc := 23) (tgt := 27) C dX11_undo_23 (by decide) ?_
    have e := Option.some.inj h
    exact r_zret (pc := 27) C hr (Or.inr rfl) (congrArg (fun z => some (vB z)) (Prod.mk.inj e).1.symm) (Prod.mk.inj e).2.symm dX11_undo_27
  · refine r_aload_n (pc := 14) C 0 rfl rfl dX11_undo_14 ?_
    refine r_iconst (pc := 15) C dX11_undo_15 ?_
    obtain ⟨r2, M2, hq2, h⟩ := bnd2_inv h
    refine r_callV (pc := 16) (rest := []) (st1 := [vB r2]) C (xExtOK σ b) [vI 4] (c_x_X_no l hq2) cl_RX11_93 x_s0 (by decide) rfl rfl rfl rfl ⟨Nat.le_of_ble_eq_true rfl, Nat.le_of_ble_eq_true rfl⟩ (Nat.le_of_ble_eq_true rfl) rfl rfl dX11_undo_16 ?_
    refine r_if_eqB (pc := 19) (tgt := 26) C h dX11_undo_19 (by decide) (fun hc19 h => ?_) (fun hc19 h => ?_)
    · refine r_iconst (pc := 22) C dX11_undo_22 ?_
      refine r_goto (pc := 23) (tgt := 27) C dX11_undo_23 (by decide) ?_
      have e := Option.some.inj h
      exact r_zret (pc := 27) C hr (Or.inr rfl) (congrArg (fun z => some (vB z)) (Prod.mk.inj e).1.symm) (Prod.mk.inj e).2.symm dX11_undo_27
    · refine r_iconst (pc := 26) C dX11_undo_26 ?_
      have e := Option.some.inj h
      exact r_zret (pc := 27) C hr (Or.inl rfl) (congrArg (fun z => some (vB z)) (Prod.mk.inj e).1.symm) (Prod.mk.inj e).2.symm dX11_undo_27
set_option maxHeartbeats 4000000 in
set_option maxRecDepth 20000 in
theorem c_x_X_seed (l : Launch) {x1 : Int} {M : Mem} {r0 : Bool} {M0 : Mem} (h : x_X_seed x1 M = some (r0, M0)) : Ct l yX11_seed cX11_seed 2 (some .boolean) 2 33 vwCl xSh xN xRf (xExt σ) (fun b => [vR b 0, vI x1]) M (fun b => (some (vB r0))) M0 := by
  refine Ct_of (xExtOK σ) (by decide) (fun b => Nat.le_of_ble_eq_true rfl) ?_
  intro p e s m args below meth c D E b C hr
  unfold x_X_seed at h
  refine (show xWX p l e 2 33 s m args below meth c 2 D E b (some (vB r0)) M0 M 0 [(0, vR b 0), (1, vI x1)] [] from ?_)
  refine r_iload_n (pc := 0) C 1 rfl rfl dX11_seed_0 ?_
  refine r_if_ge (pc := 1) (tgt := 10) C h dX11_seed_1 (by decide) (fun hc1 h => ?_) (fun hc1 h => ?_)
  · refine r_aload_n (pc := 10) C 0 rfl rfl dX11_seed_10 ?_
    refine r_iload_n (pc := 11) C 1 rfl rfl dX11_seed_11 ?_
    obtain ⟨M_12, hM_12, h⟩ := lt_inv h
    refine r_putI (pc := 12) C fl_RX11_78 x_ft11 x_w11_10 x_s0 (by decide) x_kX_10 hM_12 dX11_seed_12 ?_
    refine r_iconst (pc := 15) C dX11_seed_15 ?_
    have e := Option.some.inj h
    exact r_zret (pc := 16) C hr (Or.inr rfl) (congrArg (fun z => some (vB z)) (Prod.mk.inj e).1.symm) (Prod.mk.inj e).2.symm dX11_seed_16
  · refine r_aload_n (pc := 4) C 0 rfl rfl dX11_seed_4 ?_
    refine r_iconst (pc := 5) C dX11_seed_5 ?_
    obtain ⟨r1, M1, hq1, h⟩ := bnd2_inv h
    refine r_callV (pc := 6) (rest := []) (st1 := [vB r1]) C (xExtOK σ b) [vI 5] (c_x_X_no l hq1) cl_RX11_93 x_s0 (by decide) rfl rfl rfl rfl ⟨Nat.le_of_ble_eq_true rfl, Nat.le_of_ble_eq_true rfl⟩ (Nat.le_of_ble_eq_true rfl) rfl rfl dX11_seed_6 ?_
    have e := Option.some.inj h
    exact r_zret (pc := 9) C hr (b2i01 _) (congrArg (fun z => some (vB z)) (Prod.mk.inj e).1.symm) (Prod.mk.inj e).2.symm dX11_seed_9
set_option maxHeartbeats 4000000 in
set_option maxRecDepth 20000 in
theorem c_x_X_kept (l : Launch) {x1 : Int} {x2 : Int} {M : Mem} {r0 : Int} (h : x_X_kept x1 x2 M = some r0) : Ct l yX11_kept cX11_kept 3 (some .int) 1 12 vwCl xSh xN xRf (xExt σ) (fun b => [vR b 0, vI x1, vI x2]) M (fun b => (some (vI r0))) M := by
  refine Ct_of (xExtOK σ) (by decide) (fun b => Nat.le_of_ble_eq_true rfl) ?_
  intro p e s m args below meth c D E b C hr
  unfold x_X_kept at h
  refine (show xWX p l e 1 12 s m args below meth c 3 D E b (some (vI r0)) M M 0 [(0, vR b 0), (1, vI x1), (2, vI x2)] [] from ?_)
  refine r_iload_n (pc := 0) C 1 rfl rfl dX11_kept_0 ?_
  refine r_if_lt (pc := 1) (tgt := 15) C h dX11_kept_1 (by decide) (fun hc1 h => ?_) (fun hc1 h => ?_)
  · refine r_iconst (pc := 15) C dX11_kept_15 ?_
    have e := Option.some.inj h
    exact r_iret (pc := 16) C hr (congrArg (fun z => some (vI z)) e.symm) rfl dX11_kept_16
  · refine r_iload_n (pc := 4) C 1 rfl rfl dX11_kept_4 ?_
    refine r_aload_n (pc := 5) C 0 rfl rfl dX11_kept_5 ?_
    refine r_getR (pc := 6) C fl_RX11_35 x_s0 (by decide) x_kX_3 x_r0_3 dX11_kept_6 ?_
    refine r_getI (pc := 9) C fl_RX11_142 x_s38 (by decide) x_kState_12 dX11_kept_9 ?_
    refine r_icmp_lt (pc := 12) (tgt := 17) C h dX11_kept_12 (by decide) (fun hc12 h => ?_) (fun hc12 h => ?_)
    · refine r_iload_n (pc := 17) C 2 rfl rfl dX11_kept_17 ?_
      refine ite_split h (fun hc18_0 h => ?_) (fun hn18_0 h => ?_)
      · refine r_tabI (pc := 18) (tgt := 44) C hc18_0 (by decide) (by decide) rfl dX11_kept_18 (by decide) ?_
        refine r_aload_n (pc := 44) C 0 rfl rfl dX11_kept_44 ?_
        refine r_getR (pc := 45) C fl_RX11_35 x_s0 (by decide) x_kX_3 x_r0_3 dX11_kept_45 ?_
        refine r_getR (pc := 48) C fl_RX11_281 x_s38 (by decide) x_kState_9 x_r38_9 dX11_kept_48 ?_
        refine r_iload_n (pc := 51) C 1 rfl rfl dX11_kept_51 ?_
        obtain ⟨hi52, h⟩ := chk_inv h
        refine r_iald (pc := 52) C x_s48 (by decide) (by decide) hi52 rfl dX11_kept_52 ?_
        have e := Option.some.inj h
        exact r_iret (pc := 53) C hr (congrArg (fun z => some (vI z)) e.symm) rfl dX11_kept_53
      refine ite_split h (fun hc18_1 h => ?_) (fun hn18_1 h => ?_)
      · refine r_tabI (pc := 18) (tgt := 54) C hc18_1 (by decide) (by decide) rfl dX11_kept_18 (by decide) ?_
        refine r_aload_n (pc := 54) C 0 rfl rfl dX11_kept_54 ?_
        refine r_getR (pc := 55) C fl_RX11_35 x_s0 (by decide) x_kX_3 x_r0_3 dX11_kept_55 ?_
        refine r_getR (pc := 58) C fl_RX11_284 x_s38 (by decide) x_kState_10 x_r38_10 dX11_kept_58 ?_
        refine r_iload_n (pc := 61) C 1 rfl rfl dX11_kept_61 ?_
        obtain ⟨hi62, h⟩ := chk_inv h
        refine r_iald (pc := 62) C x_s49 (by decide) (by decide) hi62 rfl dX11_kept_62 ?_
        have e := Option.some.inj h
        exact r_iret (pc := 63) C hr (congrArg (fun z => some (vI z)) e.symm) rfl dX11_kept_63
      refine ite_split h (fun hc18_2 h => ?_) (fun hn18_2 h => ?_)
      · refine r_tabI (pc := 18) (tgt := 64) C hc18_2 (by decide) (by decide) rfl dX11_kept_18 (by decide) ?_
        refine r_aload_n (pc := 64) C 0 rfl rfl dX11_kept_64 ?_
        refine r_getR (pc := 65) C fl_RX11_35 x_s0 (by decide) x_kX_3 x_r0_3 dX11_kept_65 ?_
        refine r_getR (pc := 68) C fl_RX11_287 x_s38 (by decide) x_kState_11 x_r38_11 dX11_kept_68 ?_
        refine r_iload_n (pc := 71) C 1 rfl rfl dX11_kept_71 ?_
        obtain ⟨hi72, h⟩ := chk_inv h
        refine r_iald (pc := 72) C x_s50 (by decide) (by decide) hi72 rfl dX11_kept_72 ?_
        have e := Option.some.inj h
        exact r_iret (pc := 73) C hr (congrArg (fun z => some (vI z)) e.symm) rfl dX11_kept_73
      refine r_tabO (pc := 18) (tgt := 74) C (by have hx := w32_rng x2; omega) dX11_kept_18 (by decide) ?_
      refine r_iconst (pc := 74) C dX11_kept_74 ?_
      have e := Option.some.inj h
      exact r_iret (pc := 75) C hr (congrArg (fun z => some (vI z)) e.symm) rfl dX11_kept_75
    · refine r_iconst (pc := 15) C dX11_kept_15 ?_
      have e := Option.some.inj h
      exact r_iret (pc := 16) C hr (congrArg (fun z => some (vI z)) e.symm) rfl dX11_kept_16
set_option maxHeartbeats 4000000 in
set_option maxRecDepth 20000 in
theorem c_x_Picture_put (l : Launch) {x1 : Int} {M : Mem} {M0 : Mem} (h : x_Picture_put x1 M = some M0) : Ct l yX3_put cX3_put 2 none 1 12 vwCl xSh xN xRf (xExt σ) (fun b => [vR b 370, vI x1]) M (fun b => none) M0 := by
  refine Ct_of (xExtOK σ) (by decide) (fun b => Nat.le_of_ble_eq_true rfl) ?_
  intro p e s m args below meth c D E b C hr
  unfold x_Picture_put at h
  refine (show xWX p l e 1 12 s m args below meth c 2 D E b none M0 M 0 [(0, vR b 370), (1, vI x1)] [] from ?_)
  refine r_aload_n (pc := 0) C 0 rfl rfl dX3_put_0 ?_
  refine r_getI (pc := 1) C fl_RX3_26 x_s370 (by decide) x_kPicture_1 dX3_put_1 ?_
  refine r_aload_n (pc := 4) C 0 rfl rfl dX3_put_4 ?_
  refine r_getR (pc := 5) C fl_RX3_11 x_s370 (by decide) x_kPicture_0 x_r370_0 dX3_put_5 ?_
  refine r_alen (pc := 8) C x_s371 (by decide) dX3_put_8 ?_
  refine r_icmp_ge (pc := 9) (tgt := 32) C h dX3_put_9 (by decide) (fun hc9 h => ?_) (fun hc9 h => ?_)
  · have e := Option.some.inj h
    exact r_vret (pc := 32) C hr rfl e.symm dX3_put_32
  · refine r_aload_n (pc := 12) C 0 rfl rfl dX3_put_12 ?_
    refine r_getR (pc := 13) C fl_RX3_11 x_s370 (by decide) x_kPicture_0 x_r370_0 dX3_put_13 ?_
    refine r_aload_n (pc := 16) C 0 rfl rfl dX3_put_16 ?_
    refine r_getI (pc := 17) C fl_RX3_26 x_s370 (by decide) x_kPicture_1 dX3_put_17 ?_
    refine r_iload_n (pc := 20) C 1 rfl rfl dX3_put_20 ?_
    obtain ⟨hi21, h⟩ := chk_inv h
    obtain ⟨M_21, hM_21, h⟩ := lt_inv h
    refine r_iast (pc := 21) C x_s371 (by decide) (by decide) hi21 rfl hM_21 dX3_put_21 ?_
    refine r_aload_n (pc := 22) C 0 rfl rfl dX3_put_22 ?_
    refine r_dup (pc := 23) C rfl dX3_put_23 ?_
    refine r_getI (pc := 24) C fl_RX3_26 x_s370 (by decide) x_kPicture_1 dX3_put_24 ?_
    refine r_iconst (pc := 27) C dX3_put_27 ?_
    refine r_iadd (pc := 28) C dX3_put_28 ?_
    obtain ⟨M_29, hM_29, h⟩ := lt_inv h
    refine r_putI (pc := 29) C fl_RX3_26 x_ft3 x_w3_1 x_s370 (by decide) x_kPicture_1 hM_29 dX3_put_29 ?_
    have e := Option.some.inj h
    exact r_vret (pc := 32) C hr rfl e.symm dX3_put_32
set_option maxHeartbeats 4000000 in
set_option maxRecDepth 20000 in
theorem c_x_Picture_putPair (l : Launch) {x1 : Int} {M : Mem} {M0 : Mem} (h : x_Picture_putPair x1 M = some M0) : Ct l yX3_putPair cX3_putPair 2 none 2 33 vwCl xSh xN xRf (xExt σ) (fun b => [vR b 370, vI x1]) M (fun b => none) M0 := by
  refine Ct_of (xExtOK σ) (by decide) (fun b => Nat.le_of_ble_eq_true rfl) ?_
  intro p e s m args below meth c D E b C hr
  unfold x_Picture_putPair at h
  refine (show xWX p l e 2 33 s m args below meth c 2 D E b none M0 M 0 [(0, vR b 370), (1, vI x1)] [] from ?_)
  refine r_aload_n (pc := 0) C 0 rfl rfl dX3_putPair_0 ?_
  refine r_iload_n (pc := 1) C 1 rfl rfl dX3_putPair_1 ?_
  refine r_bipush (pc := 2) (j := 8) C (by decide +kernel) dX3_putPair_2 ?_
  refine r_ishr (pc := 4) C dX3_putPair_4 ?_
  obtain ⟨M1, hq1, h⟩ := bnd_inv h
  refine r_callV (pc := 5) (rest := []) (st1 := []) C (xExtOK σ b) [vI (shr32 x1 8)] (c_x_Picture_put l hq1) cl_RX3_47 x_s370 (by decide) rfl rfl rfl rfl ⟨Nat.le_of_ble_eq_true rfl, Nat.le_of_ble_eq_true rfl⟩ (Nat.le_of_ble_eq_true rfl) rfl rfl dX3_putPair_5 ?_
  refine r_aload_n (pc := 8) C 0 rfl rfl dX3_putPair_8 ?_
  refine r_iload_n (pc := 9) C 1 rfl rfl dX3_putPair_9 ?_
  refine r_sipush (pc := 10) (j := 255) C (by decide +kernel) dX3_putPair_10 ?_
  refine r_iand (pc := 13) C dX3_putPair_13 ?_
  obtain ⟨M2, hq2, h⟩ := bnd_inv h
  refine r_callV (pc := 14) (rest := []) (st1 := []) C (xExtOK σ b) [vI (and32 x1 255)] (c_x_Picture_put l hq2) cl_RX3_47 x_s370 (by decide) rfl rfl rfl rfl ⟨Nat.le_of_ble_eq_true rfl, Nat.le_of_ble_eq_true rfl⟩ (Nat.le_of_ble_eq_true rfl) rfl rfl dX3_putPair_14 ?_
  have e := Option.some.inj h
  exact r_vret (pc := 17) C hr rfl e.symm dX3_putPair_17
set_option maxHeartbeats 4000000 in
set_option maxRecDepth 20000 in
theorem w_x_Picture_sealOf_L6_s (C : xCX σ p s m args meth c cX3_sealOf 4 RX3 D E b) (hr : meth.sig.returnType = (some .int)) {r0 : Int} (a0 : Nat) (La0 : Nat) (ha0 : xSh a0 = (0, [La0])) (na0 : a0 < xN) (la0 : La0 ≤ 2147483647) {v1 : Int} {M : Mem} {v2 : Int} {v3 : Int} {q : Int × Int} {rec : Int → Int → Option (Int × Int)} (hrec : ∀ (v2 : Int) (v3 : Int), rec v2 v3 = some q → xWX p l e 1 12 s m args below meth c 4 D E b (some (vI r0)) M M 6 [(0, vR b a0), (1, vI v1), (2, vI v2), (3, vI v3)] []) (hfol : ∀ (v2 : Int) (v3 : Int), q = (v2, v3) → xWX p l e 1 12 s m args below meth c 4 D E b (some (vI r0)) M M 35 [(2, vI v2)] []) (h : x_Picture_sealOf_L6 a0 La0 v1 M rec v2 v3 = some q) :
    xWX p l e 1 12 s m args below meth c 4 D E b (some (vI r0)) M M 6 [(0, vR b a0), (1, vI v1), (2, vI v2), (3, vI v3)] [] := by
  unfold x_Picture_sealOf_L6 at h
  refine r_iload_n (pc := 6) C 3 rfl rfl dX3_sealOf_6 ?_
  refine r_iload_n (pc := 7) C 1 rfl rfl dX3_sealOf_7 ?_
  refine r_icmp_ge (pc := 8) (tgt := 35) C h dX3_sealOf_8 (by decide) (fun hc8 h => ?_) (fun hc8 h => ?_)
  · refine r_sub (lv' := [(2, vI v2)]) [2] rfl ?_
    exact hfol _ _ (Option.some.inj h).symm
  · refine r_iload_n (pc := 11) C 3 rfl rfl dX3_sealOf_11 ?_
    refine r_aload_n (pc := 12) C 0 rfl rfl dX3_sealOf_12 ?_
    refine r_alen (pc := 13) C ha0 na0 dX3_sealOf_13 ?_
    refine r_icmp_ge (pc := 14) (tgt := 35) C h dX3_sealOf_14 (by decide) (fun hc14 h => ?_) (fun hc14 h => ?_)
    · refine r_sub (lv' := [(2, vI v2)]) [2] rfl ?_
      exact hfol _ _ (Option.some.inj h).symm
    · refine r_iconst (pc := 17) C dX3_sealOf_17 ?_
      refine r_iload_n (pc := 18) C 2 rfl rfl dX3_sealOf_18 ?_
      refine r_imul (pc := 19) C dX3_sealOf_19 ?_
      refine r_aload_n (pc := 20) C 0 rfl rfl dX3_sealOf_20 ?_
      refine r_iload_n (pc := 21) C 3 rfl rfl dX3_sealOf_21 ?_
      obtain ⟨hi22, h⟩ := chk_inv h
      refine r_iald (pc := 22) C ha0 na0 la0 hi22 rfl dX3_sealOf_22 ?_
      refine r_iadd (pc := 23) C dX3_sealOf_23 ?_
      refine r_sipush (pc := 24) (j := 251) C (by decide +kernel) dX3_sealOf_24 ?_
      obtain ⟨hz27, h⟩ := chk_inv h
      refine r_irem (pc := 27) C hz27 dX3_sealOf_27 ?_
      obtain ⟨v2_28, hv2_28, h⟩ := lt_inv h
      refine r_topI hv2_28 ?_
      refine r_istore_n (pc := 28) (lv' := [(2, vI v2_28), (0, vR b a0), (1, vI v1), (3, vI v3)]) C rfl dX3_sealOf_28 (by decide) rfl ?_
      obtain ⟨v3_29, hv3_29, h⟩ := lt_inv h
      refine r_iincN (pc := 29) (y := v3_29) (lv' := [(3, vI v3_29), (2, vI v2_28), (0, vR b a0), (1, vI v1)]) C 3 rfl hv3_29 dX3_sealOf_29 (by decide) rfl ?_
      refine r_goto (pc := 32) (tgt := 6) C dX3_sealOf_32 (by decide) ?_
      refine r_sub (lv' := [(0, vR b a0), (1, vI v1), (2, vI v2_28), (3, vI v3_29)]) [2, 3, 1, 0] rfl ?_
      exact hrec _ _ h
set_option maxHeartbeats 4000000 in
theorem w_x_Picture_sealOf_L6 (C : xCX σ p s m args meth c cX3_sealOf 4 RX3 D E b) (hr : meth.sig.returnType = (some .int)) {r0 : Int} (a0 : Nat) (La0 : Nat) (ha0 : xSh a0 = (0, [La0])) (na0 : a0 < xN) (la0 : La0 ≤ 2147483647) {v1 : Int} {M : Mem} {q : Int × Int} (hfol : ∀ (v2 : Int) (v3 : Int), q = (v2, v3) → xWX p l e 1 12 s m args below meth c 4 D E b (some (vI r0)) M M 35 [(2, vI v2)] []) : ∀ (n : Nat) (v2 : Int) (v3 : Int), itr2 (x_Picture_sealOf_L6 a0 La0 v1 M) n v2 v3 = some q →
    xWX p l e 1 12 s m args below meth c 4 D E b (some (vI r0)) M M 6 [(0, vR b a0), (1, vI v1), (2, vI v2), (3, vI v3)] [] := by
  intro n
  induction n with
  | zero => exact fun _ _ h => itr_z h
  | succ n ih => exact fun _ _ h => w_x_Picture_sealOf_L6_s C hr a0 La0 ha0 na0 la0 ih hfol h
set_option maxHeartbeats 4000000 in
set_option maxRecDepth 20000 in
theorem c_x_Picture_sealOf (l : Launch) (a0 : Nat) (La0 : Nat) (ha0 : xSh a0 = (0, [La0])) (na0 : a0 < xN) (la0 : La0 ≤ 2147483647) {x1 : Int} {M : Mem} {r0 : Int} (h : x_Picture_sealOf a0 La0 x1 M = some r0) : Ct l yX3_sealOf cX3_sealOf 4 (some .int) 1 12 vwCl xSh xN xRf (xExt σ) (fun b => [vR b a0, vI x1]) M (fun b => (some (vI r0))) M := by
  refine Ct_of (xExtOK σ) (by decide) (fun b => Nat.le_of_ble_eq_true rfl) ?_
  intro p e s m args below meth c D E b C hr
  unfold x_Picture_sealOf at h
  refine (show xWX p l e 1 12 s m args below meth c 4 D E b (some (vI r0)) M M 0 [(0, vR b a0), (1, vI x1)] [] from ?_)
  refine r_sipush (pc := 0) (j := 199) C (by decide +kernel) dX3_sealOf_0 ?_
  refine r_istore_n (pc := 3) (lv' := [(2, vI 199), (0, vR b a0), (1, vI x1)]) C rfl dX3_sealOf_3 (by decide) rfl ?_
  refine r_iconst (pc := 4) C dX3_sealOf_4 ?_
  refine r_istore_n (pc := 5) (lv' := [(3, vI 0), (2, vI 199), (0, vR b a0), (1, vI x1)]) C rfl dX3_sealOf_5 (by decide) rfl ?_
  refine r_sub (lv' := [(0, vR b a0), (1, vI x1), (2, vI 199), (3, vI 0)]) [2, 3, 1, 0] rfl ?_
  obtain ⟨q1, hl1, h⟩ := bnd_inv h
  refine w_x_Picture_sealOf_L6 C hr a0 La0 ha0 na0 la0 (fun v2_1 v3_1 hq => ?_) FUEL _ _ hl1
  have hq := hq.symm
  subst hq
  refine r_iload_n (pc := 35) C 0 rfl rfl dX3_sealOf_35 ?_
  have e := Option.some.inj h
  exact r_iret (pc := 36) C hr (congrArg (fun z => some (vI z)) e.symm) rfl dX3_sealOf_36
set_option maxHeartbeats 4000000 in
set_option maxRecDepth 20000 in
theorem w_x_Picture_write_L18_s (C : xCX σ p s m args meth c cX3_write 2 RX3 D E b) (hr : meth.sig.returnType = (some .int)) {r0 : Int} {M0 : Mem} {v1 : Int} {M : Mem} {q : Int × Mem} {rec : Int → Mem → Option (Int × Mem)} (hrec : ∀ (v1 : Int) (M : Mem), rec v1 M = some q → xWX p l e 3 54 s m args below meth c 2 D E b (some (vI r0)) M0 M 18 [(0, vR b 370), (1, vI v1)] []) (hfol : ∀ (v1 : Int) (M : Mem), q = (v1, M) → xWX p l e 3 54 s m args below meth c 2 D E b (some (vI r0)) M0 M 74 [(0, vR b 370)] []) (h : x_Picture_write_L18 rec v1 M = some q) :
    xWX p l e 3 54 s m args below meth c 2 D E b (some (vI r0)) M0 M 18 [(0, vR b 370), (1, vI v1)] [] := by
  unfold x_Picture_write_L18 at h
  refine r_iload_n (pc := 18) C 1 rfl rfl dX3_write_18 ?_
  refine r_aload_n (pc := 19) C 0 rfl rfl dX3_write_19 ?_
  refine r_getR (pc := 20) C fl_RX3_15 x_s370 (by decide) x_kPicture_2 x_r370_2 dX3_write_20 ?_
  refine r_getI (pc := 23) C fl_RX3_39 x_s23 (by decide) x_kTown_0 dX3_write_23 ?_
  refine r_icmp_ge (pc := 26) (tgt := 74) C h dX3_write_26 (by decide) (fun hc26 h => ?_) (fun hc26 h => ?_)
  · refine r_sub (lv' := [(0, vR b 370)]) [0] rfl ?_
    exact hfol _ _ (Option.some.inj h).symm
  · refine r_aload_n (pc := 29) C 0 rfl rfl dX3_write_29 ?_
    refine r_aload_n (pc := 30) C 0 rfl rfl dX3_write_30 ?_
    refine r_getR (pc := 31) C fl_RX3_19 x_s370 (by decide) x_kPicture_3 x_r370_3 dX3_write_31 ?_
    refine r_getR (pc := 34) C fl_RX3_44 x_s38 (by decide) x_kState_0 x_r38_0 dX3_write_34 ?_
    refine r_iload_n (pc := 37) C 1 rfl rfl dX3_write_37 ?_
    obtain ⟨hi38, h⟩ := chk_inv h
    refine r_iald (pc := 38) C x_s39 (by decide) (by decide) hi38 rfl dX3_write_38 ?_
    obtain ⟨M2, hq2, h⟩ := bnd_inv h
    refine r_callV (pc := 39) (rest := []) (st1 := []) C (xExtOK σ b) [vI (M 39 v1.toNat)] (c_x_Picture_put l hq2) cl_RX3_47 x_s370 (by decide) rfl rfl rfl rfl ⟨Nat.le_of_ble_eq_true rfl, Nat.le_of_ble_eq_true rfl⟩ (Nat.le_of_ble_eq_true rfl) rfl rfl dX3_write_39 ?_
    refine r_aload_n (pc := 42) C 0 rfl rfl dX3_write_42 ?_
    refine r_aload_n (pc := 43) C 0 rfl rfl dX3_write_43 ?_
    refine r_getR (pc := 44) C fl_RX3_19 x_s370 (by decide) x_kPicture_3 x_r370_3 dX3_write_44 ?_
    refine r_getR (pc := 47) C fl_RX3_50 x_s38 (by decide) x_kState_1 x_r38_1 dX3_write_47 ?_
    refine r_iload_n (pc := 50) C 1 rfl rfl dX3_write_50 ?_
    obtain ⟨hi51, h⟩ := chk_inv h
    refine r_iald (pc := 51) C x_s40 (by decide) (by decide) hi51 rfl dX3_write_51 ?_
    obtain ⟨M3, hq3, h⟩ := bnd_inv h
    refine r_callV (pc := 52) (rest := []) (st1 := []) C (xExtOK σ b) [vI (M2 40 v1.toNat)] (c_x_Picture_put l hq3) cl_RX3_47 x_s370 (by decide) rfl rfl rfl rfl ⟨Nat.le_of_ble_eq_true rfl, Nat.le_of_ble_eq_true rfl⟩ (Nat.le_of_ble_eq_true rfl) rfl rfl dX3_write_52 ?_
    refine r_aload_n (pc := 55) C 0 rfl rfl dX3_write_55 ?_
    refine r_aload_n (pc := 56) C 0 rfl rfl dX3_write_56 ?_
    refine r_getR (pc := 57) C fl_RX3_19 x_s370 (by decide) x_kPicture_3 x_r370_3 dX3_write_57 ?_
    refine r_getR (pc := 60) C fl_RX3_53 x_s38 (by decide) x_kState_2 x_r38_2 dX3_write_60 ?_
    refine r_iload_n (pc := 63) C 1 rfl rfl dX3_write_63 ?_
    obtain ⟨hi64, h⟩ := chk_inv h
    refine r_iald (pc := 64) C x_s41 (by decide) (by decide) hi64 rfl dX3_write_64 ?_
    obtain ⟨M4, hq4, h⟩ := bnd_inv h
    refine r_callV (pc := 65) (rest := []) (st1 := []) C (xExtOK σ b) [vI (M3 41 v1.toNat)] (c_x_Picture_put l hq4) cl_RX3_47 x_s370 (by decide) rfl rfl rfl rfl ⟨Nat.le_of_ble_eq_true rfl, Nat.le_of_ble_eq_true rfl⟩ (Nat.le_of_ble_eq_true rfl) rfl rfl dX3_write_65 ?_
    obtain ⟨v1_68, hv1_68, h⟩ := lt_inv h
    refine r_iincN (pc := 68) (y := v1_68) (lv' := [(1, vI v1_68), (0, vR b 370)]) C 1 rfl hv1_68 dX3_write_68 (by decide) rfl ?_
    refine r_goto (pc := 71) (tgt := 18) C dX3_write_71 (by decide) ?_
    refine r_sub (lv' := [(0, vR b 370), (1, vI v1_68)]) [1, 0] rfl ?_
    exact hrec _ _ h
set_option maxHeartbeats 4000000 in
theorem w_x_Picture_write_L18 (C : xCX σ p s m args meth c cX3_write 2 RX3 D E b) (hr : meth.sig.returnType = (some .int)) {r0 : Int} {M0 : Mem} {q : Int × Mem} (hfol : ∀ (v1 : Int) (M : Mem), q = (v1, M) → xWX p l e 3 54 s m args below meth c 2 D E b (some (vI r0)) M0 M 74 [(0, vR b 370)] []) : ∀ (n : Nat) (v1 : Int) (M : Mem), itr2 (x_Picture_write_L18) n v1 M = some q →
    xWX p l e 3 54 s m args below meth c 2 D E b (some (vI r0)) M0 M 18 [(0, vR b 370), (1, vI v1)] [] := by
  intro n
  induction n with
  | zero => exact fun _ _ h => itr_z h
  | succ n ih => exact fun _ _ h => w_x_Picture_write_L18_s C hr ih hfol h
set_option maxHeartbeats 4000000 in
set_option maxRecDepth 20000 in
theorem w_x_Picture_write_L76_B155 (C : xCX σ p s m args meth c cX3_write 2 RX3 D E b) (hr : meth.sig.returnType = (some .int)) {r0 : Int} {M0 : Mem} {M : Mem} {v1 : Int} {s1 : Int} {q : Int × Mem} {rec : Int → Mem → Option (Int × Mem)} (hrec : ∀ (v1 : Int) (M : Mem), rec v1 M = some q → xWX p l e 3 54 s m args below meth c 2 D E b (some (vI r0)) M0 M 76 [(0, vR b 370), (1, vI v1)] []) (hfol : ∀ (v1 : Int) (M : Mem), q = (v1, M) → xWX p l e 3 54 s m args below meth c 2 D E b (some (vI r0)) M0 M 190 [(0, vR b 370)] []) (h : x_Picture_write_L76_B155 rec v1 s1 M = some q) :
    xWX p l e 3 54 s m args below meth c 2 D E b (some (vI r0)) M0 M 155 [(0, vR b 370), (1, vI v1)] [vI s1, vR b 370] := by
  unfold x_Picture_write_L76_B155 at h
  obtain ⟨M9, hq9, h⟩ := bnd_inv h
  refine r_callV (pc := 155) (rest := []) (st1 := []) C (xExtOK σ b) [vI s1] (c_x_Picture_put l hq9) cl_RX3_47 x_s370 (by decide) rfl rfl rfl rfl ⟨Nat.le_of_ble_eq_true rfl, Nat.le_of_ble_eq_true rfl⟩ (Nat.le_of_ble_eq_true rfl) rfl rfl dX3_write_155 ?_
  refine r_aload_n (pc := 158) C 0 rfl rfl dX3_write_158 ?_
  refine r_aload_n (pc := 159) C 0 rfl rfl dX3_write_159 ?_
  refine r_getR (pc := 160) C fl_RX3_19 x_s370 (by decide) x_kPicture_3 x_r370_3 dX3_write_160 ?_
  refine r_getR (pc := 163) C fl_RX3_71 x_s38 (by decide) x_kState_7 x_r38_7 dX3_write_163 ?_
  refine r_iload_n (pc := 166) C 1 rfl rfl dX3_write_166 ?_
  obtain ⟨hi167, h⟩ := chk_inv h
  refine r_iald (pc := 167) C x_s46 (by decide) (by decide) hi167 rfl dX3_write_167 ?_
  obtain ⟨M10, hq10, h⟩ := bnd_inv h
  refine r_callV (pc := 168) (rest := []) (st1 := []) C (xExtOK σ b) [vI (M9 46 v1.toNat)] (c_x_Picture_put l hq10) cl_RX3_47 x_s370 (by decide) rfl rfl rfl rfl ⟨Nat.le_of_ble_eq_true rfl, Nat.le_of_ble_eq_true rfl⟩ (Nat.le_of_ble_eq_true rfl) rfl rfl dX3_write_168 ?_
  refine r_aload_n (pc := 171) C 0 rfl rfl dX3_write_171 ?_
  refine r_aload_n (pc := 172) C 0 rfl rfl dX3_write_172 ?_
  refine r_getR (pc := 173) C fl_RX3_19 x_s370 (by decide) x_kPicture_3 x_r370_3 dX3_write_173 ?_
  refine r_getR (pc := 176) C fl_RX3_74 x_s38 (by decide) x_kState_8 x_r38_8 dX3_write_176 ?_
  refine r_iload_n (pc := 179) C 1 rfl rfl dX3_write_179 ?_
  obtain ⟨hi180, h⟩ := chk_inv h
  refine r_iald (pc := 180) C x_s47 (by decide) (by decide) hi180 rfl dX3_write_180 ?_
  obtain ⟨M11, hq11, h⟩ := bnd_inv h
  refine r_callV (pc := 181) (rest := []) (st1 := []) C (xExtOK σ b) [vI (M10 47 v1.toNat)] (c_x_Picture_put l hq11) cl_RX3_47 x_s370 (by decide) rfl rfl rfl rfl ⟨Nat.le_of_ble_eq_true rfl, Nat.le_of_ble_eq_true rfl⟩ (Nat.le_of_ble_eq_true rfl) rfl rfl dX3_write_181 ?_
  obtain ⟨v1_184, hv1_184, h⟩ := lt_inv h
  refine r_iincN (pc := 184) (y := v1_184) (lv' := [(1, vI v1_184), (0, vR b 370)]) C 1 rfl hv1_184 dX3_write_184 (by decide) rfl ?_
  refine r_goto (pc := 187) (tgt := 76) C dX3_write_187 (by decide) ?_
  refine r_sub (lv' := [(0, vR b 370), (1, vI v1_184)]) [1, 0] rfl ?_
  exact hrec _ _ h
set_option maxHeartbeats 4000000 in
set_option maxRecDepth 20000 in
theorem w_x_Picture_write_L76_s (C : xCX σ p s m args meth c cX3_write 2 RX3 D E b) (hr : meth.sig.returnType = (some .int)) {r0 : Int} {M0 : Mem} {v1 : Int} {M : Mem} {q : Int × Mem} {rec : Int → Mem → Option (Int × Mem)} (hrec : ∀ (v1 : Int) (M : Mem), rec v1 M = some q → xWX p l e 3 54 s m args below meth c 2 D E b (some (vI r0)) M0 M 76 [(0, vR b 370), (1, vI v1)] []) (hfol : ∀ (v1 : Int) (M : Mem), q = (v1, M) → xWX p l e 3 54 s m args below meth c 2 D E b (some (vI r0)) M0 M 190 [(0, vR b 370)] []) (h : x_Picture_write_L76 rec v1 M = some q) :
    xWX p l e 3 54 s m args below meth c 2 D E b (some (vI r0)) M0 M 76 [(0, vR b 370), (1, vI v1)] [] := by
  unfold x_Picture_write_L76 at h
  refine r_iload_n (pc := 76) C 1 rfl rfl dX3_write_76 ?_
  refine r_aload_n (pc := 77) C 0 rfl rfl dX3_write_77 ?_
  refine r_getR (pc := 78) C fl_RX3_15 x_s370 (by decide) x_kPicture_2 x_r370_2 dX3_write_78 ?_
  refine r_getI (pc := 81) C fl_RX3_56 x_s23 (by decide) x_kTown_2 dX3_write_81 ?_
  refine r_icmp_ge (pc := 84) (tgt := 190) C h dX3_write_84 (by decide) (fun hc84 h => ?_) (fun hc84 h => ?_)
  · refine r_sub (lv' := [(0, vR b 370)]) [0] rfl ?_
    exact hfol _ _ (Option.some.inj h).symm
  · refine r_aload_n (pc := 87) C 0 rfl rfl dX3_write_87 ?_
    refine r_aload_n (pc := 88) C 0 rfl rfl dX3_write_88 ?_
    refine r_getR (pc := 89) C fl_RX3_19 x_s370 (by decide) x_kPicture_3 x_r370_3 dX3_write_89 ?_
    refine r_getR (pc := 92) C fl_RX3_59 x_s38 (by decide) x_kState_3 x_r38_3 dX3_write_92 ?_
    refine r_iload_n (pc := 95) C 1 rfl rfl dX3_write_95 ?_
    obtain ⟨hi96, h⟩ := chk_inv h
    refine r_iald (pc := 96) C x_s42 (by decide) (by decide) hi96 rfl dX3_write_96 ?_
    obtain ⟨M6, hq6, h⟩ := bnd_inv h
    refine r_callV (pc := 97) (rest := []) (st1 := []) C (xExtOK σ b) [vI (M 42 v1.toNat)] (c_x_Picture_put l hq6) cl_RX3_47 x_s370 (by decide) rfl rfl rfl rfl ⟨Nat.le_of_ble_eq_true rfl, Nat.le_of_ble_eq_true rfl⟩ (Nat.le_of_ble_eq_true rfl) rfl rfl dX3_write_97 ?_
    refine r_aload_n (pc := 100) C 0 rfl rfl dX3_write_100 ?_
    refine r_aload_n (pc := 101) C 0 rfl rfl dX3_write_101 ?_
    refine r_getR (pc := 102) C fl_RX3_19 x_s370 (by decide) x_kPicture_3 x_r370_3 dX3_write_102 ?_
    refine r_getR (pc := 105) C fl_RX3_62 x_s38 (by decide) x_kState_4 x_r38_4 dX3_write_105 ?_
    refine r_iload_n (pc := 108) C 1 rfl rfl dX3_write_108 ?_
    obtain ⟨hi109, h⟩ := chk_inv h
    refine r_iald (pc := 109) C x_s43 (by decide) (by decide) hi109 rfl dX3_write_109 ?_
    obtain ⟨M7, hq7, h⟩ := bnd_inv h
    refine r_callV (pc := 110) (rest := []) (st1 := []) C (xExtOK σ b) [vI (M6 43 v1.toNat)] (c_x_Picture_putPair l hq7) cl_RX3_35 x_s370 (by decide) rfl rfl rfl rfl ⟨Nat.le_of_ble_eq_true rfl, Nat.le_of_ble_eq_true rfl⟩ (Nat.le_of_ble_eq_true rfl) rfl rfl dX3_write_110 ?_
    refine r_aload_n (pc := 113) C 0 rfl rfl dX3_write_113 ?_
    refine r_aload_n (pc := 114) C 0 rfl rfl dX3_write_114 ?_
    refine r_getR (pc := 115) C fl_RX3_19 x_s370 (by decide) x_kPicture_3 x_r370_3 dX3_write_115 ?_
    refine r_getR (pc := 118) C fl_RX3_65 x_s38 (by decide) x_kState_5 x_r38_5 dX3_write_118 ?_
    refine r_iload_n (pc := 121) C 1 rfl rfl dX3_write_121 ?_
    obtain ⟨hi122, h⟩ := chk_inv h
    refine r_iald (pc := 122) C x_s44 (by decide) (by decide) hi122 rfl dX3_write_122 ?_
    obtain ⟨M8, hq8, h⟩ := bnd_inv h
    refine r_callV (pc := 123) (rest := []) (st1 := []) C (xExtOK σ b) [vI (M7 44 v1.toNat)] (c_x_Picture_put l hq8) cl_RX3_47 x_s370 (by decide) rfl rfl rfl rfl ⟨Nat.le_of_ble_eq_true rfl, Nat.le_of_ble_eq_true rfl⟩ (Nat.le_of_ble_eq_true rfl) rfl rfl dX3_write_123 ?_
    refine r_aload_n (pc := 126) C 0 rfl rfl dX3_write_126 ?_
    refine r_aload_n (pc := 127) C 0 rfl rfl dX3_write_127 ?_
    refine r_getR (pc := 128) C fl_RX3_19 x_s370 (by decide) x_kPicture_3 x_r370_3 dX3_write_128 ?_
    refine r_getR (pc := 131) C fl_RX3_68 x_s38 (by decide) x_kState_6 x_r38_6 dX3_write_131 ?_
    refine r_iload_n (pc := 134) C 1 rfl rfl dX3_write_134 ?_
    obtain ⟨hi135, h⟩ := chk_inv h
    refine r_iald (pc := 135) C x_s45 (by decide) (by decide) hi135 rfl dX3_write_135 ?_
    refine r_iconst (pc := 136) C dX3_write_136 ?_
    refine r_icmp_ne (pc := 137) (tgt := 146) C h dX3_write_137 (by decide) (fun hc137 h => ?_) (fun hc137 h => ?_)
    · refine r_aload_n (pc := 146) C 0 rfl rfl dX3_write_146 ?_
      refine r_getR (pc := 147) C fl_RX3_19 x_s370 (by decide) x_kPicture_3 x_r370_3 dX3_write_147 ?_
      refine r_getR (pc := 150) C fl_RX3_68 x_s38 (by decide) x_kState_6 x_r38_6 dX3_write_150 ?_
      refine r_iload_n (pc := 153) C 1 rfl rfl dX3_write_153 ?_
      obtain ⟨hi154, h⟩ := chk_inv h
      refine r_iald (pc := 154) C x_s45 (by decide) (by decide) hi154 rfl dX3_write_154 ?_
      refine r_sub (lv' := [(0, vR b 370), (1, vI v1)]) [0, 1] rfl ?_
      exact w_x_Picture_write_L76_B155 C hr hrec hfol h
    · refine r_sipush (pc := 140) (j := 255) C (by decide +kernel) dX3_write_140 ?_
      refine r_goto (pc := 143) (tgt := 155) C dX3_write_143 (by decide) ?_
      refine r_sub (lv' := [(0, vR b 370), (1, vI v1)]) [0, 1] rfl ?_
      exact w_x_Picture_write_L76_B155 C hr hrec hfol h
set_option maxHeartbeats 4000000 in
theorem w_x_Picture_write_L76 (C : xCX σ p s m args meth c cX3_write 2 RX3 D E b) (hr : meth.sig.returnType = (some .int)) {r0 : Int} {M0 : Mem} {q : Int × Mem} (hfol : ∀ (v1 : Int) (M : Mem), q = (v1, M) → xWX p l e 3 54 s m args below meth c 2 D E b (some (vI r0)) M0 M 190 [(0, vR b 370)] []) : ∀ (n : Nat) (v1 : Int) (M : Mem), itr2 (x_Picture_write_L76) n v1 M = some q →
    xWX p l e 3 54 s m args below meth c 2 D E b (some (vI r0)) M0 M 76 [(0, vR b 370), (1, vI v1)] [] := by
  intro n
  induction n with
  | zero => exact fun _ _ h => itr_z h
  | succ n ih => exact fun _ _ h => w_x_Picture_write_L76_s C hr ih hfol h
set_option maxHeartbeats 4000000 in
set_option maxRecDepth 20000 in
theorem c_x_Picture_write (l : Launch) {M : Mem} {r0 : Int} {M0 : Mem} (h : x_Picture_write M = some (r0, M0)) : Ct l yX3_write cX3_write 2 (some .int) 3 54 vwCl xSh xN xRf (xExt σ) (fun b => [vR b 370]) M (fun b => (some (vI r0))) M0 := by
  refine Ct_of (xExtOK σ) (by decide) (fun b => Nat.le_of_ble_eq_true rfl) ?_
  intro p e s m args below meth c D E b C hr
  unfold x_Picture_write at h
  refine (show xWX p l e 3 54 s m args below meth c 2 D E b (some (vI r0)) M0 M 0 [(0, vR b 370)] [] from ?_)
  refine r_aload_n (pc := 0) C 0 rfl rfl dX3_write_0 ?_
  refine r_iconst (pc := 1) C dX3_write_1 ?_
  obtain ⟨M_2, hM_2, h⟩ := lt_inv h
  refine r_putI (pc := 2) C fl_RX3_26 x_ft3 x_w3_1 x_s370 (by decide) x_kPicture_1 hM_2 dX3_write_2 ?_
  refine r_aload_n (pc := 5) C 0 rfl rfl dX3_write_5 ?_
  refine r_aload_n (pc := 6) C 0 rfl rfl dX3_write_6 ?_
  refine r_getR (pc := 7) C fl_RX3_19 x_s370 (by decide) x_kPicture_3 x_r370_3 dX3_write_7 ?_
  refine r_getI (pc := 10) C fl_RX3_30 x_s38 (by decide) x_kState_13 dX3_write_10 ?_
  obtain ⟨M1, hq1, h⟩ := bnd_inv h
  refine r_callV (pc := 13) (rest := []) (st1 := []) C (xExtOK σ b) [vI (M_2 38 13)] (c_x_Picture_putPair l hq1) cl_RX3_35 x_s370 (by decide) rfl rfl rfl rfl ⟨Nat.le_of_ble_eq_true rfl, Nat.le_of_ble_eq_true rfl⟩ (Nat.le_of_ble_eq_true rfl) rfl rfl dX3_write_13 ?_
  refine r_iconst (pc := 16) C dX3_write_16 ?_
  refine r_istore_n (pc := 17) (lv' := [(1, vI 0), (0, vR b 370)]) C rfl dX3_write_17 (by decide) rfl ?_
  refine r_sub (lv' := [(0, vR b 370), (1, vI 0)]) [1, 0] rfl ?_
  obtain ⟨q5, hl5, h⟩ := bnd_inv h
  refine w_x_Picture_write_L18 C hr (fun v1_5 M_5 hq => ?_) FUEL _ _ hl5
  have hq := hq.symm
  subst hq
  refine r_iconst (pc := 74) C dX3_write_74 ?_
  refine r_istore_n (pc := 75) (lv' := [(1, vI 0), (0, vR b 370)]) C rfl dX3_write_75 (by decide) rfl ?_
  refine r_sub (lv' := [(0, vR b 370), (1, vI 0)]) [1, 0] rfl ?_
  obtain ⟨q12, hl12, h⟩ := bnd_inv h
  refine w_x_Picture_write_L76 C hr (fun v1_12 M_12 hq => ?_) FUEL _ _ hl12
  have hq := hq.symm
  subst hq
  refine r_aload_n (pc := 190) C 0 rfl rfl dX3_write_190 ?_
  refine r_aload_n (pc := 191) C 0 rfl rfl dX3_write_191 ?_
  refine r_getR (pc := 192) C fl_RX3_11 x_s370 (by decide) x_kPicture_0 x_r370_0 dX3_write_192 ?_
  refine r_aload_n (pc := 195) C 0 rfl rfl dX3_write_195 ?_
  refine r_getI (pc := 196) C fl_RX3_26 x_s370 (by decide) x_kPicture_1 dX3_write_196 ?_
  obtain ⟨r13, hq13, h⟩ := bnd_inv h
  refine r_callS (pc := 199) (rest := [vR b 370]) (st1 := [vI r13, vR b 370]) C (xExtOK σ b) [vR b 371, vI (M_12 370 1)] (c_x_Picture_sealOf l 371 108 x_s371 (by decide) (by decide) hq13) cl_RX3_77 rfl rfl ⟨Nat.le_of_ble_eq_true rfl, Nat.le_of_ble_eq_true rfl⟩ (Nat.le_of_ble_eq_true rfl) rfl rfl dX3_write_199 ?_
  obtain ⟨M14, hq14, h⟩ := bnd_inv h
  refine r_callV (pc := 202) (rest := []) (st1 := []) C (xExtOK σ b) [vI r13] (c_x_Picture_put l hq14) cl_RX3_47 x_s370 (by decide) rfl rfl rfl rfl ⟨Nat.le_of_ble_eq_true rfl, Nat.le_of_ble_eq_true rfl⟩ (Nat.le_of_ble_eq_true rfl) rfl rfl dX3_write_202 ?_
  refine r_aload_n (pc := 205) C 0 rfl rfl dX3_write_205 ?_
  refine r_getI (pc := 206) C fl_RX3_26 x_s370 (by decide) x_kPicture_1 dX3_write_206 ?_
  have e := Option.some.inj h
  exact r_iret (pc := 209) C hr (congrArg (fun z => some (vI z)) (Prod.mk.inj e).1.symm) (Prod.mk.inj e).2.symm dX3_write_209
set_option maxHeartbeats 4000000 in
set_option maxRecDepth 20000 in
theorem c_x_X_image (l : Launch) {M : Mem} {r0 : Int} {M0 : Mem} (h : x_X_image M = some (r0, M0)) : Ct l yX11_image cX11_image 1 (some .int) 4 75 vwCl xSh xN xRf (xExt σ) (fun b => [vR b 0]) M (fun b => (some (vI r0))) M0 := by
  refine Ct_of (xExtOK σ) (by decide) (fun b => Nat.le_of_ble_eq_true rfl) ?_
  intro p e s m args below meth c D E b C hr
  unfold x_X_image at h
  refine (show xWX p l e 4 75 s m args below meth c 1 D E b (some (vI r0)) M0 M 0 [(0, vR b 0)] [] from ?_)
  refine r_aload_n (pc := 0) C 0 rfl rfl dX11_image_0 ?_
  refine r_getR (pc := 1) C fl_RX11_70 x_s0 (by decide) x_kX_8 x_r0_8 dX11_image_1 ?_
  obtain ⟨r1, M1, hq1, h⟩ := bnd2_inv h
  refine r_callV (pc := 4) (rest := []) (st1 := [vI r1]) C (xExtOK σ b) [] (c_x_Picture_write l hq1) cl_RX11_290 x_s370 (by decide) rfl rfl rfl rfl ⟨Nat.le_of_ble_eq_true rfl, Nat.le_of_ble_eq_true rfl⟩ (Nat.le_of_ble_eq_true rfl) rfl rfl dX11_image_4 ?_
  have e := Option.some.inj h
  exact r_iret (pc := 7) C hr (congrArg (fun z => some (vI z)) (Prod.mk.inj e).1.symm) (Prod.mk.inj e).2.symm dX11_image_7
set_option maxHeartbeats 4000000 in
set_option maxRecDepth 20000 in
theorem c_x_X_octet (l : Launch) {x1 : Int} {M : Mem} {r0 : Int} (h : x_X_octet x1 M = some r0) : Ct l yX11_octet cX11_octet 2 (some .int) 1 12 vwCl xSh xN xRf (xExt σ) (fun b => [vR b 0, vI x1]) M (fun b => (some (vI r0))) M := by
  refine Ct_of (xExtOK σ) (by decide) (fun b => Nat.le_of_ble_eq_true rfl) ?_
  intro p e s m args below meth c D E b C hr
  unfold x_X_octet at h
  refine (show xWX p l e 1 12 s m args below meth c 2 D E b (some (vI r0)) M M 0 [(0, vR b 0), (1, vI x1)] [] from ?_)
  refine r_iload_n (pc := 0) C 1 rfl rfl dX11_octet_0 ?_
  refine r_if_lt (pc := 1) (tgt := 27) C h dX11_octet_1 (by decide) (fun hc1 h => ?_) (fun hc1 h => ?_)
  · refine r_iconst (pc := 27) C dX11_octet_27 ?_
    have e := Option.some.inj h
    exact r_iret (pc := 28) C hr (congrArg (fun z => some (vI z)) e.symm) rfl dX11_octet_28
  · refine r_iload_n (pc := 4) C 1 rfl rfl dX11_octet_4 ?_
    refine r_aload_n (pc := 5) C 0 rfl rfl dX11_octet_5 ?_
    refine r_getR (pc := 6) C fl_RX11_70 x_s0 (by decide) x_kX_8 x_r0_8 dX11_octet_6 ?_
    refine r_getI (pc := 9) C fl_RX11_293 x_s370 (by decide) x_kPicture_1 dX11_octet_9 ?_
    refine r_icmp_ge (pc := 12) (tgt := 27) C h dX11_octet_12 (by decide) (fun hc12 h => ?_) (fun hc12 h => ?_)
    · refine r_iconst (pc := 27) C dX11_octet_27 ?_
      have e := Option.some.inj h
      exact r_iret (pc := 28) C hr (congrArg (fun z => some (vI z)) e.symm) rfl dX11_octet_28
    · refine r_aload_n (pc := 15) C 0 rfl rfl dX11_octet_15 ?_
      refine r_getR (pc := 16) C fl_RX11_70 x_s0 (by decide) x_kX_8 x_r0_8 dX11_octet_16 ?_
      refine r_getR (pc := 19) C fl_RX11_294 x_s370 (by decide) x_kPicture_0 x_r370_0 dX11_octet_19 ?_
      refine r_iload_n (pc := 22) C 1 rfl rfl dX11_octet_22 ?_
      obtain ⟨hi23, h⟩ := chk_inv h
      refine r_iald (pc := 23) C x_s371 (by decide) (by decide) hi23 rfl dX11_octet_23 ?_
      refine r_goto (pc := 24) (tgt := 28) C dX11_octet_24 (by decide) ?_
      have e := Option.some.inj h
      exact r_iret (pc := 28) C hr (congrArg (fun z => some (vI z)) e.symm) rfl dX11_octet_28
end
