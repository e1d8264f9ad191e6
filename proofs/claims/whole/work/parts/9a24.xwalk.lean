theorem dX11_fresh_0 : decode cX11_fresh 0 = .ok (.aload_n 0, 1) := by decide +kernel
theorem dX11_fresh_1 : decode cX11_fresh 1 = .ok (.getfield 39, 3) := by decide +kernel
theorem dX11_fresh_4 : decode cX11_fresh 4 = .ok (.aload_n 0, 1) := by decide +kernel
theorem dX11_fresh_5 : decode cX11_fresh 5 = .ok (.getfield 35, 3) := by decide +kernel
theorem dX11_fresh_8 : decode cX11_fresh 8 = .ok (.invokevirtual 300, 3) := by decide +kernel
theorem dX11_fresh_11 : decode cX11_fresh 11 = .ok (.aload_n 0, 1) := by decide +kernel
theorem dX11_fresh_12 : decode cX11_fresh 12 = .ok (.getfield 39, 3) := by decide +kernel
theorem dX11_fresh_15 : decode cX11_fresh 15 = .ok (.areturn, 1) := by decide +kernel
theorem dX6_conclude_0 : decode cX6_conclude 0 = .ok (.aload_n 0, 1) := by decide +kernel
theorem dX6_conclude_1 : decode cX6_conclude 1 = .ok (.getfield 21, 3) := by decide +kernel
theorem dX6_conclude_4 : decode cX6_conclude 4 = .ok (.iload_n 1, 1) := by decide +kernel
theorem dX6_conclude_5 : decode cX6_conclude 5 = .ok (.iload_n 2, 1) := by decide +kernel
theorem dX6_conclude_6 : decode cX6_conclude 6 = .ok (.iastore, 1) := by decide +kernel
theorem dX6_conclude_7 : decode cX6_conclude 7 = .ok (.aload_n 0, 1) := by decide +kernel
theorem dX6_conclude_8 : decode cX6_conclude 8 = .ok (.getfield 33, 3) := by decide +kernel
theorem dX6_conclude_11 : decode cX6_conclude 11 = .ok (.iload_n 1, 1) := by decide +kernel
theorem dX6_conclude_12 : decode cX6_conclude 12 = .ok (.iconst 0, 1) := by decide +kernel
theorem dX6_conclude_13 : decode cX6_conclude 13 = .ok (.iastore, 1) := by decide +kernel
theorem dX6_conclude_14 : decode cX6_conclude 14 = .ok (.aload_n 0, 1) := by decide +kernel
theorem dX6_conclude_15 : decode cX6_conclude 15 = .ok (.getfield 72, 3) := by decide +kernel
theorem dX6_conclude_18 : decode cX6_conclude 18 = .ok (.bipush 12, 2) := by decide +kernel
theorem dX6_conclude_20 : decode cX6_conclude 20 = .ok (.if_icmp .ge 46, 3) := by decide +kernel
theorem dX6_conclude_23 : decode cX6_conclude 23 = .ok (.aload_n 0, 1) := by decide +kernel
theorem dX6_conclude_24 : decode cX6_conclude 24 = .ok (.getfield 39, 3) := by decide +kernel
theorem dX6_conclude_27 : decode cX6_conclude 27 = .ok (.aload_n 0, 1) := by decide +kernel
theorem dX6_conclude_28 : decode cX6_conclude 28 = .ok (.getfield 72, 3) := by decide +kernel
theorem dX6_conclude_31 : decode cX6_conclude 31 = .ok (.aload_n 0, 1) := by decide +kernel
theorem dX6_conclude_32 : decode cX6_conclude 32 = .ok (.getfield 76, 3) := by decide +kernel
theorem dX6_conclude_35 : decode cX6_conclude 35 = .ok (.iastore, 1) := by decide +kernel
theorem dX6_conclude_36 : decode cX6_conclude 36 = .ok (.aload_n 0, 1) := by decide +kernel
theorem dX6_conclude_37 : decode cX6_conclude 37 = .ok (.getfield 42, 3) := by decide +kernel
theorem dX6_conclude_40 : decode cX6_conclude 40 = .ok (.aload_n 0, 1) := by decide +kernel
theorem dX6_conclude_41 : decode cX6_conclude 41 = .ok (.getfield 72, 3) := by decide +kernel
theorem dX6_conclude_44 : decode cX6_conclude 44 = .ok (.iload_n 1, 1) := by decide +kernel
theorem dX6_conclude_45 : decode cX6_conclude 45 = .ok (.iastore, 1) := by decide +kernel
theorem dX6_conclude_46 : decode cX6_conclude 46 = .ok (.aload_n 0, 1) := by decide +kernel
theorem dX6_conclude_47 : decode cX6_conclude 47 = .ok (.getfield 45, 3) := by decide +kernel
theorem dX6_conclude_50 : decode cX6_conclude 50 = .ok (.aload_n 0, 1) := by decide +kernel
theorem dX6_conclude_51 : decode cX6_conclude 51 = .ok (.getfield 72, 3) := by decide +kernel
theorem dX6_conclude_54 : decode cX6_conclude 54 = .ok (.iload_n 2, 1) := by decide +kernel
theorem dX6_conclude_55 : decode cX6_conclude 55 = .ok (.iastore, 1) := by decide +kernel
theorem dX6_conclude_56 : decode cX6_conclude 56 = .ok (.aload_n 0, 1) := by decide +kernel
theorem dX6_conclude_57 : decode cX6_conclude 57 = .ok (.dup, 1) := by decide +kernel
theorem dX6_conclude_58 : decode cX6_conclude 58 = .ok (.getfield 72, 3) := by decide +kernel
theorem dX6_conclude_61 : decode cX6_conclude 61 = .ok (.iconst 1, 1) := by decide +kernel
theorem dX6_conclude_62 : decode cX6_conclude 62 = .ok (.iadd, 1) := by decide +kernel
theorem dX6_conclude_63 : decode cX6_conclude 63 = .ok (.putfield 72, 3) := by decide +kernel
theorem dX6_conclude_66 : decode cX6_conclude 66 = .ok (.return_, 1) := by decide +kernel
theorem dX6_isFree_0 : decode cX6_isFree 0 = .ok (.aload_n 0, 1) := by decide +kernel
theorem dX6_isFree_1 : decode cX6_isFree 1 = .ok (.getfield 15, 3) := by decide +kernel
theorem dX6_isFree_4 : decode cX6_isFree 4 = .ok (.iload_n 1, 1) := by decide +kernel
theorem dX6_isFree_5 : decode cX6_isFree 5 = .ok (.iaload, 1) := by decide +kernel
theorem dX6_isFree_6 : decode cX6_isFree 6 = .ok (.ifCond .ne 16, 3) := by decide +kernel
theorem dX6_isFree_9 : decode cX6_isFree 9 = .ok (.aload_n 0, 1) := by decide +kernel
theorem dX6_isFree_10 : decode cX6_isFree 10 = .ok (.iload_n 1, 1) := by decide +kernel
theorem dX6_isFree_11 : decode cX6_isFree 11 = .ok (.invokevirtual 89, 3) := by decide +kernel
theorem dX6_isFree_14 : decode cX6_isFree 14 = .ok (.iconst (-1), 1) := by decide +kernel
theorem dX6_isFree_15 : decode cX6_isFree 15 = .ok (.if_icmp .ne 7, 3) := by decide +kernel
theorem dX6_isFree_18 : decode cX6_isFree 18 = .ok (.iconst 1, 1) := by decide +kernel
theorem dX6_isFree_19 : decode cX6_isFree 19 = .ok (.goto 4, 3) := by decide +kernel
theorem dX6_isFree_22 : decode cX6_isFree 22 = .ok (.iconst 0, 1) := by decide +kernel
theorem dX6_isFree_23 : decode cX6_isFree 23 = .ok (.ireturn, 1) := by decide +kernel
theorem dX6_isMixed_0 : decode cX6_isMixed 0 = .ok (.aload_n 0, 1) := by decide +kernel
theorem dX6_isMixed_1 : decode cX6_isMixed 1 = .ok (.getfield 48, 3) := by decide +kernel
theorem dX6_isMixed_4 : decode cX6_isMixed 4 = .ok (.getfield 92, 3) := by decide +kernel
theorem dX6_isMixed_7 : decode cX6_isMixed 7 = .ok (.iconst 1, 1) := by decide +kernel
theorem dX6_isMixed_8 : decode cX6_isMixed 8 = .ok (.invokevirtual 96, 3) := by decide +kernel
theorem dX6_isMixed_11 : decode cX6_isMixed 11 = .ok (.ifCond .ne 5, 3) := by decide +kernel
theorem dX6_isMixed_14 : decode cX6_isMixed 14 = .ok (.iconst 0, 1) := by decide +kernel
theorem dX6_isMixed_15 : decode cX6_isMixed 15 = .ok (.ireturn, 1) := by decide +kernel
theorem dX6_isMixed_16 : decode cX6_isMixed 16 = .ok (.aload_n 0, 1) := by decide +kernel
theorem dX6_isMixed_17 : decode cX6_isMixed 17 = .ok (.iload_n 1, 1) := by decide +kernel
theorem dX6_isMixed_18 : decode cX6_isMixed 18 = .ok (.invokevirtual 110, 3) := by decide +kernel
theorem dX6_isMixed_21 : decode cX6_isMixed 21 = .ok (.aload_n 0, 1) := by decide +kernel
theorem dX6_isMixed_22 : decode cX6_isMixed 22 = .ok (.getfield 48, 3) := by decide +kernel
theorem dX6_isMixed_25 : decode cX6_isMixed 25 = .ok (.getfield 92, 3) := by decide +kernel
theorem dX6_isMixed_28 : decode cX6_isMixed 28 = .ok (.getfield 114, 3) := by decide +kernel
theorem dX6_isMixed_31 : decode cX6_isMixed 31 = .ok (.bipush 7, 2) := by decide +kernel
theorem dX6_isMixed_33 : decode cX6_isMixed 33 = .ok (.aload_n 0, 1) := by decide +kernel
theorem dX6_isMixed_34 : decode cX6_isMixed 34 = .ok (.getfield 9, 3) := by decide +kernel
theorem dX6_isMixed_37 : decode cX6_isMixed 37 = .ok (.iload_n 2, 1) := by decide +kernel
theorem dX6_isMixed_38 : decode cX6_isMixed 38 = .ok (.iaload, 1) := by decide +kernel
theorem dX6_isMixed_39 : decode cX6_isMixed 39 = .ok (.iastore, 1) := by decide +kernel
theorem dX6_isMixed_40 : decode cX6_isMixed 40 = .ok (.aload_n 0, 1) := by decide +kernel
theorem dX6_isMixed_41 : decode cX6_isMixed 41 = .ok (.getfield 48, 3) := by decide +kernel
theorem dX6_isMixed_44 : decode cX6_isMixed 44 = .ok (.getfield 92, 3) := by decide +kernel
theorem dX6_isMixed_47 : decode cX6_isMixed 47 = .ok (.getfield 114, 3) := by decide +kernel
theorem dX6_isMixed_50 : decode cX6_isMixed 50 = .ok (.bipush 15, 2) := by decide +kernel
theorem dX6_isMixed_52 : decode cX6_isMixed 52 = .ok (.aload_n 0, 1) := by decide +kernel
theorem dX6_isMixed_53 : decode cX6_isMixed 53 = .ok (.invokevirtual 156, 3) := by decide +kernel
theorem dX6_isMixed_56 : decode cX6_isMixed 56 = .ok (.iastore, 1) := by decide +kernel
theorem dX6_isMixed_57 : decode cX6_isMixed 57 = .ok (.aload_n 0, 1) := by decide +kernel
theorem dX6_isMixed_58 : decode cX6_isMixed 58 = .ok (.getfield 48, 3) := by decide +kernel
theorem dX6_isMixed_61 : decode cX6_isMixed 61 = .ok (.getfield 92, 3) := by decide +kernel
theorem dX6_isMixed_64 : decode cX6_isMixed 64 = .ok (.iconst 1, 1) := by decide +kernel
theorem dX6_isMixed_65 : decode cX6_isMixed 65 = .ok (.invokevirtual 119, 3) := by decide +kernel
theorem dX6_isMixed_68 : decode cX6_isMixed 68 = .ok (.ifCond .eq 7, 3) := by decide +kernel
theorem dX6_isMixed_71 : decode cX6_isMixed 71 = .ok (.iconst 1, 1) := by decide +kernel
theorem dX6_isMixed_72 : decode cX6_isMixed 72 = .ok (.goto 4, 3) := by decide +kernel
theorem dX6_isMixed_75 : decode cX6_isMixed 75 = .ok (.iconst 0, 1) := by decide +kernel
theorem dX6_isMixed_76 : decode cX6_isMixed 76 = .ok (.ireturn, 1) := by decide +kernel
theorem dX6_give_0 : decode cX6_give 0 = .ok (.iconst (-1), 1) := by decide +kernel
theorem dX6_give_1 : decode cX6_give 1 = .ok (.istore_n 3, 1) := by decide +kernel
theorem dX6_give_2 : decode cX6_give 2 = .ok (.iconst 0, 1) := by decide +kernel
theorem dX6_give_3 : decode cX6_give 3 = .ok (.istore 4, 2) := by decide +kernel
theorem dX6_give_5 : decode cX6_give 5 = .ok (.iconst 0, 1) := by decide +kernel
theorem dX6_give_6 : decode cX6_give 6 = .ok (.istore 5, 2) := by decide +kernel
theorem dX6_give_8 : decode cX6_give 8 = .ok (.iload 5, 2) := by decide +kernel
theorem dX6_give_10 : decode cX6_give 10 = .ok (.aload_n 0, 1) := by decide +kernel
theorem dX6_give_11 : decode cX6_give 11 = .ok (.getfield 48, 3) := by decide +kernel
theorem dX6_give_14 : decode cX6_give 14 = .ok (.getfield 82, 3) := by decide +kernel
theorem dX6_give_17 : decode cX6_give 17 = .ok (.if_icmp .ge 50, 3) := by decide +kernel
theorem dX6_give_20 : decode cX6_give 20 = .ok (.iload_n 2, 1) := by decide +kernel
theorem dX6_give_21 : decode cX6_give 21 = .ok (.iload 5, 2) := by decide +kernel
theorem dX6_give_23 : decode cX6_give 23 = .ok (.ishr, 1) := by decide +kernel
theorem dX6_give_24 : decode cX6_give 24 = .ok (.iconst 1, 1) := by decide +kernel
theorem dX6_give_25 : decode cX6_give 25 = .ok (.iand, 1) := by decide +kernel
theorem dX6_give_26 : decode cX6_give 26 = .ok (.ifCond .eq 35, 3) := by decide +kernel
theorem dX6_give_29 : decode cX6_give 29 = .ok (.aload_n 0, 1) := by decide +kernel
theorem dX6_give_30 : decode cX6_give 30 = .ok (.iload 5, 2) := by decide +kernel
theorem dX6_give_32 : decode cX6_give 32 = .ok (.invokevirtual 143, 3) := by decide +kernel
theorem dX6_give_35 : decode cX6_give 35 = .ok (.ifCond .eq 26, 3) := by decide +kernel
theorem dX6_give_38 : decode cX6_give 38 = .ok (.aload_n 0, 1) := by decide +kernel
theorem dX6_give_39 : decode cX6_give 39 = .ok (.iload_n 1, 1) := by decide +kernel
theorem dX6_give_40 : decode cX6_give 40 = .ok (.iload 5, 2) := by decide +kernel
theorem dX6_give_42 : decode cX6_give 42 = .ok (.invokevirtual 146, 3) := by decide +kernel
theorem dX6_give_45 : decode cX6_give 45 = .ok (.istore 6, 2) := by decide +kernel
theorem dX6_give_47 : decode cX6_give 47 = .ok (.iload 6, 2) := by decide +kernel
theorem dX6_give_49 : decode cX6_give 49 = .ok (.iload 4, 2) := by decide +kernel
theorem dX6_give_51 : decode cX6_give 51 = .ok (.if_icmp .le 10, 3) := by decide +kernel
theorem dX6_give_54 : decode cX6_give 54 = .ok (.iload 6, 2) := by decide +kernel
theorem dX6_give_56 : decode cX6_give 56 = .ok (.istore 4, 2) := by decide +kernel
theorem dX6_give_58 : decode cX6_give 58 = .ok (.iload 5, 2) := by decide +kernel
theorem dX6_give_60 : decode cX6_give 60 = .ok (.istore_n 3, 1) := by decide +kernel
theorem dX6_give_61 : decode cX6_give 61 = .ok (.iinc 5 1, 3) := by decide +kernel
theorem dX6_give_64 : decode cX6_give 64 = .ok (.goto (-56), 3) := by decide +kernel
theorem dX6_give_67 : decode cX6_give 67 = .ok (.iload_n 3, 1) := by decide +kernel
theorem dX6_give_68 : decode cX6_give 68 = .ok (.iconst (-1), 1) := by decide +kernel
theorem dX6_give_69 : decode cX6_give 69 = .ok (.if_icmp .ne 4, 3) := by decide +kernel
theorem dX6_give_72 : decode cX6_give 72 = .ok (.return_, 1) := by decide +kernel
theorem dX6_give_73 : decode cX6_give 73 = .ok (.aload_n 0, 1) := by decide +kernel
theorem dX6_give_74 : decode cX6_give 74 = .ok (.getfield 21, 3) := by decide +kernel
theorem dX6_give_77 : decode cX6_give 77 = .ok (.iload_n 1, 1) := by decide +kernel
theorem dX6_give_78 : decode cX6_give 78 = .ok (.iconst 2, 1) := by decide +kernel
theorem dX6_give_79 : decode cX6_give 79 = .ok (.iastore, 1) := by decide +kernel
theorem dX6_give_80 : decode cX6_give 80 = .ok (.aload_n 0, 1) := by decide +kernel
theorem dX6_give_81 : decode cX6_give 81 = .ok (.getfield 30, 3) := by decide +kernel
theorem dX6_give_84 : decode cX6_give 84 = .ok (.iload_n 1, 1) := by decide +kernel
theorem dX6_give_85 : decode cX6_give 85 = .ok (.iload_n 3, 1) := by decide +kernel
theorem dX6_give_86 : decode cX6_give 86 = .ok (.iastore, 1) := by decide +kernel
theorem dX6_give_87 : decode cX6_give 87 = .ok (.aload_n 0, 1) := by decide +kernel
theorem dX6_give_88 : decode cX6_give 88 = .ok (.getfield 33, 3) := by decide +kernel
theorem dX6_give_91 : decode cX6_give 91 = .ok (.iload_n 1, 1) := by decide +kernel
theorem dX6_give_92 : decode cX6_give 92 = .ok (.aload_n 0, 1) := by decide +kernel
theorem dX6_give_93 : decode cX6_give 93 = .ok (.getfield 48, 3) := by decide +kernel
theorem dX6_give_96 : decode cX6_give 96 = .ok (.getfield 149, 3) := by decide +kernel
theorem dX6_give_99 : decode cX6_give 99 = .ok (.iload_n 1, 1) := by decide +kernel
theorem dX6_give_100 : decode cX6_give 100 = .ok (.iaload, 1) := by decide +kernel
theorem dX6_give_101 : decode cX6_give 101 = .ok (.iastore, 1) := by decide +kernel
theorem dX6_give_102 : decode cX6_give 102 = .ok (.aload_n 0, 1) := by decide +kernel
theorem dX6_give_103 : decode cX6_give 103 = .ok (.getfield 18, 3) := by decide +kernel
theorem dX6_give_106 : decode cX6_give 106 = .ok (.iload_n 3, 1) := by decide +kernel
theorem dX6_give_107 : decode cX6_give 107 = .ok (.bipush 99, 2) := by decide +kernel
theorem dX6_give_109 : decode cX6_give 109 = .ok (.aload_n 0, 1) := by decide +kernel
theorem dX6_give_110 : decode cX6_give 110 = .ok (.getfield 18, 3) := by decide +kernel
theorem dX6_give_113 : decode cX6_give 113 = .ok (.iload_n 3, 1) := by decide +kernel
theorem dX6_give_114 : decode cX6_give 114 = .ok (.iaload, 1) := by decide +kernel
theorem dX6_give_115 : decode cX6_give 115 = .ok (.iconst 1, 1) := by decide +kernel
theorem dX6_give_116 : decode cX6_give 116 = .ok (.iadd, 1) := by decide +kernel
theorem dX6_give_117 : decode cX6_give 117 = .ok (.invokestatic 139, 3) := by decide +kernel
theorem dX6_give_120 : decode cX6_give 120 = .ok (.iastore, 1) := by decide +kernel
theorem dX6_give_121 : decode cX6_give 121 = .ok (.aload_n 0, 1) := by decide +kernel
theorem dX6_give_122 : decode cX6_give 122 = .ok (.getfield 36, 3) := by decide +kernel
theorem dX6_give_125 : decode cX6_give 125 = .ok (.iload_n 1, 1) := by decide +kernel
theorem dX6_give_126 : decode cX6_give 126 = .ok (.aload_n 0, 1) := by decide +kernel
theorem dX6_give_127 : decode cX6_give 127 = .ok (.iload_n 1, 1) := by decide +kernel
theorem dX6_give_128 : decode cX6_give 128 = .ok (.iload_n 3, 1) := by decide +kernel
theorem dX6_give_129 : decode cX6_give 129 = .ok (.invokevirtual 152, 3) := by decide +kernel
theorem dX6_give_132 : decode cX6_give 132 = .ok (.ifCond .eq 7, 3) := by decide +kernel
theorem dX6_give_135 : decode cX6_give 135 = .ok (.iconst 1, 1) := by decide +kernel
theorem dX6_give_136 : decode cX6_give 136 = .ok (.goto 4, 3) := by decide +kernel
theorem dX6_give_139 : decode cX6_give 139 = .ok (.iconst 0, 1) := by decide +kernel
theorem dX6_give_140 : decode cX6_give 140 = .ok (.iastore, 1) := by decide +kernel
theorem dX6_give_141 : decode cX6_give 141 = .ok (.return_, 1) := by decide +kernel
theorem dX9_calmOf_0 : decode cX9_calmOf 0 = .ok (.aload_n 0, 1) := by decide +kernel
theorem dX9_calmOf_1 : decode cX9_calmOf 1 = .ok (.getfield 27, 3) := by decide +kernel
theorem dX9_calmOf_4 : decode cX9_calmOf 4 = .ok (.iload_n 1, 1) := by decide +kernel
theorem dX9_calmOf_5 : decode cX9_calmOf 5 = .ok (.iaload, 1) := by decide +kernel
theorem dX9_calmOf_6 : decode cX9_calmOf 6 = .ok (.istore_n 2, 1) := by decide +kernel
theorem dX9_calmOf_7 : decode cX9_calmOf 7 = .ok (.iload_n 2, 1) := by decide +kernel
theorem dX9_calmOf_8 : decode cX9_calmOf 8 = .ok (.ifCond .lt 18, 3) := by decide +kernel
theorem dX9_calmOf_11 : decode cX9_calmOf 11 = .ok (.iload_n 2, 1) := by decide +kernel
theorem dX9_calmOf_12 : decode cX9_calmOf 12 = .ok (.bipush 8, 2) := by decide +kernel
theorem dX9_calmOf_14 : decode cX9_calmOf 14 = .ok (.if_icmp .ge 12, 3) := by decide +kernel
theorem dX9_calmOf_17 : decode cX9_calmOf 17 = .ok (.aload_n 0, 1) := by decide +kernel
theorem dX9_calmOf_18 : decode cX9_calmOf 18 = .ok (.getfield 24, 3) := by decide +kernel
theorem dX9_calmOf_21 : decode cX9_calmOf 21 = .ok (.iload_n 2, 1) := by decide +kernel
theorem dX9_calmOf_22 : decode cX9_calmOf 22 = .ok (.iaload, 1) := by decide +kernel
theorem dX9_calmOf_23 : decode cX9_calmOf 23 = .ok (.goto 4, 3) := by decide +kernel
theorem dX9_calmOf_26 : decode cX9_calmOf 26 = .ok (.iconst 0, 1) := by decide +kernel
theorem dX9_calmOf_27 : decode cX9_calmOf 27 = .ok (.ireturn, 1) := by decide +kernel
theorem dX6_isHushed_0 : decode cX6_isHushed 0 = .ok (.aload_n 0, 1) := by decide +kernel
theorem dX6_isHushed_1 : decode cX6_isHushed 1 = .ok (.getfield 27, 3) := by decide +kernel
theorem dX6_isHushed_4 : decode cX6_isHushed 4 = .ok (.iload_n 1, 1) := by decide +kernel
theorem dX6_isHushed_5 : decode cX6_isHushed 5 = .ok (.bipush 99, 2) := by decide +kernel
theorem dX6_isHushed_7 : decode cX6_isHushed 7 = .ok (.aload_n 0, 1) := by decide +kernel
theorem dX6_isHushed_8 : decode cX6_isHushed 8 = .ok (.getfield 27, 3) := by decide +kernel
theorem dX6_isHushed_11 : decode cX6_isHushed 11 = .ok (.iload_n 1, 1) := by decide +kernel
theorem dX6_isHushed_12 : decode cX6_isHushed 12 = .ok (.iaload, 1) := by decide +kernel
theorem dX6_isHushed_13 : decode cX6_isHushed 13 = .ok (.iconst 1, 1) := by decide +kernel
theorem dX6_isHushed_14 : decode cX6_isHushed 14 = .ok (.iadd, 1) := by decide +kernel
theorem dX6_isHushed_15 : decode cX6_isHushed 15 = .ok (.invokestatic 139, 3) := by decide +kernel
theorem dX6_isHushed_18 : decode cX6_isHushed 18 = .ok (.iastore, 1) := by decide +kernel
theorem dX6_isHushed_19 : decode cX6_isHushed 19 = .ok (.aload_n 0, 1) := by decide +kernel
theorem dX6_isHushed_20 : decode cX6_isHushed 20 = .ok (.getfield 48, 3) := by decide +kernel
theorem dX6_isHushed_23 : decode cX6_isHushed 23 = .ok (.getfield 92, 3) := by decide +kernel
theorem dX6_isHushed_26 : decode cX6_isHushed 26 = .ok (.iconst 2, 1) := by decide +kernel
theorem dX6_isHushed_27 : decode cX6_isHushed 27 = .ok (.invokevirtual 96, 3) := by decide +kernel
theorem dX6_isHushed_30 : decode cX6_isHushed 30 = .ok (.ifCond .ne 26, 3) := by decide +kernel
theorem dX6_isHushed_33 : decode cX6_isHushed 33 = .ok (.aload_n 0, 1) := by decide +kernel
theorem dX6_isHushed_34 : decode cX6_isHushed 34 = .ok (.getfield 27, 3) := by decide +kernel
theorem dX6_isHushed_37 : decode cX6_isHushed 37 = .ok (.iload_n 1, 1) := by decide +kernel
theorem dX6_isHushed_38 : decode cX6_isHushed 38 = .ok (.iaload, 1) := by decide +kernel
theorem dX6_isHushed_39 : decode cX6_isHushed 39 = .ok (.aload_n 0, 1) := by decide +kernel
theorem dX6_isHushed_40 : decode cX6_isHushed 40 = .ok (.getfield 48, 3) := by decide +kernel
theorem dX6_isHushed_43 : decode cX6_isHushed 43 = .ok (.iload_n 1, 1) := by decide +kernel
theorem dX6_isHushed_44 : decode cX6_isHushed 44 = .ok (.invokevirtual 159, 3) := by decide +kernel
theorem dX6_isHushed_47 : decode cX6_isHushed 47 = .ok (.if_icmp .le 7, 3) := by decide +kernel
theorem dX6_isHushed_50 : decode cX6_isHushed 50 = .ok (.iconst 1, 1) := by decide +kernel
theorem dX6_isHushed_51 : decode cX6_isHushed 51 = .ok (.goto 4, 3) := by decide +kernel
theorem dX6_isHushed_54 : decode cX6_isHushed 54 = .ok (.iconst 0, 1) := by decide +kernel
theorem dX6_isHushed_55 : decode cX6_isHushed 55 = .ok (.ireturn, 1) := by decide +kernel
theorem dX6_isHushed_56 : decode cX6_isHushed 56 = .ok (.aload_n 0, 1) := by decide +kernel
theorem dX6_isHushed_57 : decode cX6_isHushed 57 = .ok (.iload_n 1, 1) := by decide +kernel
theorem dX6_isHushed_58 : decode cX6_isHushed 58 = .ok (.invokevirtual 110, 3) := by decide +kernel
theorem dX6_isHushed_61 : decode cX6_isHushed 61 = .ok (.aload_n 0, 1) := by decide +kernel
theorem dX6_isHushed_62 : decode cX6_isHushed 62 = .ok (.getfield 48, 3) := by decide +kernel
theorem dX6_isHushed_65 : decode cX6_isHushed 65 = .ok (.getfield 92, 3) := by decide +kernel
theorem dX6_isHushed_68 : decode cX6_isHushed 68 = .ok (.getfield 114, 3) := by decide +kernel
theorem dX6_isHushed_71 : decode cX6_isHushed 71 = .ok (.bipush 8, 2) := by decide +kernel
theorem dX6_isHushed_73 : decode cX6_isHushed 73 = .ok (.aload_n 0, 1) := by decide +kernel
theorem dX6_isHushed_74 : decode cX6_isHushed 74 = .ok (.getfield 48, 3) := by decide +kernel
theorem dX6_isHushed_77 : decode cX6_isHushed 77 = .ok (.iload_n 1, 1) := by decide +kernel
theorem dX6_isHushed_78 : decode cX6_isHushed 78 = .ok (.invokevirtual 159, 3) := by decide +kernel
theorem dX6_isHushed_81 : decode cX6_isHushed 81 = .ok (.iastore, 1) := by decide +kernel
theorem dX6_isHushed_82 : decode cX6_isHushed 82 = .ok (.aload_n 0, 1) := by decide +kernel
theorem dX6_isHushed_83 : decode cX6_isHushed 83 = .ok (.getfield 48, 3) := by decide +kernel
theorem dX6_isHushed_86 : decode cX6_isHushed 86 = .ok (.getfield 92, 3) := by decide +kernel
theorem dX6_isHushed_89 : decode cX6_isHushed 89 = .ok (.iconst 2, 1) := by decide +kernel
theorem dX6_isHushed_90 : decode cX6_isHushed 90 = .ok (.invokevirtual 119, 3) := by decide +kernel
theorem dX6_isHushed_93 : decode cX6_isHushed 93 = .ok (.ifCond .eq 7, 3) := by decide +kernel
theorem dX6_isHushed_96 : decode cX6_isHushed 96 = .ok (.iconst 1, 1) := by decide +kernel
theorem dX6_isHushed_97 : decode cX6_isHushed 97 = .ok (.goto 4, 3) := by decide +kernel
theorem dX6_isHushed_100 : decode cX6_isHushed 100 = .ok (.iconst 0, 1) := by decide +kernel
theorem dX6_isHushed_101 : decode cX6_isHushed 101 = .ok (.ireturn, 1) := by decide +kernel
theorem dX6_begin_0 : decode cX6_begin 0 = .ok (.iconst 0, 1) := by decide +kernel
theorem dX6_begin_1 : decode cX6_begin 1 = .ok (.istore_n 2, 1) := by decide +kernel
theorem dX6_begin_2 : decode cX6_begin 2 = .ok (.iload_n 2, 1) := by decide +kernel
theorem dX6_begin_3 : decode cX6_begin 3 = .ok (.aload_n 0, 1) := by decide +kernel
theorem dX6_begin_4 : decode cX6_begin 4 = .ok (.getfield 48, 3) := by decide +kernel
theorem dX6_begin_7 : decode cX6_begin 7 = .ok (.getfield 79, 3) := by decide +kernel
theorem dX6_begin_10 : decode cX6_begin 10 = .ok (.if_icmp .ge 38, 3) := by decide +kernel
theorem dX6_begin_13 : decode cX6_begin 13 = .ok (.aload_n 0, 1) := by decide +kernel
theorem dX6_begin_14 : decode cX6_begin 14 = .ok (.getfield 21, 3) := by decide +kernel
theorem dX6_begin_17 : decode cX6_begin 17 = .ok (.iload_n 2, 1) := by decide +kernel
theorem dX6_begin_18 : decode cX6_begin 18 = .ok (.iaload, 1) := by decide +kernel
theorem dX6_begin_19 : decode cX6_begin 19 = .ok (.ifCond .ne 23, 3) := by decide +kernel
theorem dX6_begin_22 : decode cX6_begin 22 = .ok (.aload_n 0, 1) := by decide +kernel
theorem dX6_begin_23 : decode cX6_begin 23 = .ok (.getfield 24, 3) := by decide +kernel
theorem dX6_begin_26 : decode cX6_begin 26 = .ok (.iload_n 2, 1) := by decide +kernel
theorem dX6_begin_27 : decode cX6_begin 27 = .ok (.iaload, 1) := by decide +kernel
theorem dX6_begin_28 : decode cX6_begin 28 = .ok (.aload_n 0, 1) := by decide +kernel
theorem dX6_begin_29 : decode cX6_begin 29 = .ok (.getfield 76, 3) := by decide +kernel
theorem dX6_begin_32 : decode cX6_begin 32 = .ok (.if_icmp .gt 10, 3) := by decide +kernel
theorem dX6_begin_35 : decode cX6_begin 35 = .ok (.aload_n 0, 1) := by decide +kernel
theorem dX6_begin_36 : decode cX6_begin 36 = .ok (.getfield 21, 3) := by decide +kernel
theorem dX6_begin_39 : decode cX6_begin 39 = .ok (.iload_n 2, 1) := by decide +kernel
theorem dX6_begin_40 : decode cX6_begin 40 = .ok (.iconst 1, 1) := by decide +kernel
theorem dX6_begin_41 : decode cX6_begin 41 = .ok (.iastore, 1) := by decide +kernel
theorem dX6_begin_42 : decode cX6_begin 42 = .ok (.iinc 2 1, 3) := by decide +kernel
theorem dX6_begin_45 : decode cX6_begin 45 = .ok (.goto (-43), 3) := by decide +kernel
theorem dX6_begin_48 : decode cX6_begin 48 = .ok (.iconst 0, 1) := by decide +kernel
theorem dX6_begin_49 : decode cX6_begin 49 = .ok (.istore_n 2, 1) := by decide +kernel
theorem dX6_begin_50 : decode cX6_begin 50 = .ok (.iload_n 2, 1) := by decide +kernel
theorem dX6_begin_51 : decode cX6_begin 51 = .ok (.aload_n 0, 1) := by decide +kernel
theorem dX6_begin_52 : decode cX6_begin 52 = .ok (.getfield 48, 3) := by decide +kernel
theorem dX6_begin_55 : decode cX6_begin 55 = .ok (.getfield 79, 3) := by decide +kernel
theorem dX6_begin_58 : decode cX6_begin 58 = .ok (.if_icmp .ge 25, 3) := by decide +kernel
theorem dX6_begin_61 : decode cX6_begin 61 = .ok (.aload_n 0, 1) := by decide +kernel
theorem dX6_begin_62 : decode cX6_begin 62 = .ok (.getfield 21, 3) := by decide +kernel
theorem dX6_begin_65 : decode cX6_begin 65 = .ok (.iload_n 2, 1) := by decide +kernel
theorem dX6_begin_66 : decode cX6_begin 66 = .ok (.iaload, 1) := by decide +kernel
theorem dX6_begin_67 : decode cX6_begin 67 = .ok (.iconst 1, 1) := by decide +kernel
theorem dX6_begin_68 : decode cX6_begin 68 = .ok (.if_icmp .ne 9, 3) := by decide +kernel
theorem dX6_begin_71 : decode cX6_begin 71 = .ok (.aload_n 0, 1) := by decide +kernel
theorem dX6_begin_72 : decode cX6_begin 72 = .ok (.iload_n 2, 1) := by decide +kernel
theorem dX6_begin_73 : decode cX6_begin 73 = .ok (.iload_n 1, 1) := by decide +kernel
theorem dX6_begin_74 : decode cX6_begin 74 = .ok (.invokevirtual 129, 3) := by decide +kernel
theorem dX6_begin_77 : decode cX6_begin 77 = .ok (.iinc 2 1, 3) := by decide +kernel
theorem dX6_begin_80 : decode cX6_begin 80 = .ok (.goto (-30), 3) := by decide +kernel
theorem dX6_begin_83 : decode cX6_begin 83 = .ok (.iconst 0, 1) := by decide +kernel
theorem dX6_begin_84 : decode cX6_begin 84 = .ok (.istore_n 2, 1) := by decide +kernel
theorem dX6_begin_85 : decode cX6_begin 85 = .ok (.iconst 0, 1) := by decide +kernel
theorem dX6_begin_86 : decode cX6_begin 86 = .ok (.istore_n 3, 1) := by decide +kernel
theorem dX6_begin_87 : decode cX6_begin 87 = .ok (.iload_n 3, 1) := by decide +kernel
theorem dX6_begin_88 : decode cX6_begin 88 = .ok (.aload_n 0, 1) := by decide +kernel
theorem dX6_begin_89 : decode cX6_begin 89 = .ok (.getfield 48, 3) := by decide +kernel
theorem dX6_begin_92 : decode cX6_begin 92 = .ok (.getfield 79, 3) := by decide +kernel
theorem dX6_begin_95 : decode cX6_begin 95 = .ok (.if_icmp .ge 36, 3) := by decide +kernel
theorem dX6_begin_98 : decode cX6_begin 98 = .ok (.aload_n 0, 1) := by decide +kernel
theorem dX6_begin_99 : decode cX6_begin 99 = .ok (.getfield 21, 3) := by decide +kernel
theorem dX6_begin_102 : decode cX6_begin 102 = .ok (.iload_n 3, 1) := by decide +kernel
theorem dX6_begin_103 : decode cX6_begin 103 = .ok (.iaload, 1) := by decide +kernel
theorem dX6_begin_104 : decode cX6_begin 104 = .ok (.iconst 1, 1) := by decide +kernel
theorem dX6_begin_105 : decode cX6_begin 105 = .ok (.if_icmp .ne 20, 3) := by decide +kernel
theorem dX6_begin_108 : decode cX6_begin 108 = .ok (.aload_n 0, 1) := by decide +kernel
theorem dX6_begin_109 : decode cX6_begin 109 = .ok (.iload_n 3, 1) := by decide +kernel
theorem dX6_begin_110 : decode cX6_begin 110 = .ok (.invokevirtual 133, 3) := by decide +kernel
theorem dX6_begin_113 : decode cX6_begin 113 = .ok (.ifCond .eq 12, 3) := by decide +kernel
theorem dX6_begin_116 : decode cX6_begin 116 = .ok (.aload_n 0, 1) := by decide +kernel
theorem dX6_begin_117 : decode cX6_begin 117 = .ok (.iload_n 3, 1) := by decide +kernel
theorem dX6_begin_118 : decode cX6_begin 118 = .ok (.iconst 4, 1) := by decide +kernel
theorem dX6_begin_119 : decode cX6_begin 119 = .ok (.invokevirtual 136, 3) := by decide +kernel
theorem dX6_begin_122 : decode cX6_begin 122 = .ok (.iinc 2 1, 3) := by decide +kernel
theorem dX6_begin_125 : decode cX6_begin 125 = .ok (.iinc 3 1, 3) := by decide +kernel
theorem dX6_begin_128 : decode cX6_begin 128 = .ok (.goto (-41), 3) := by decide +kernel
theorem dX6_begin_131 : decode cX6_begin 131 = .ok (.iload_n 2, 1) := by decide +kernel
theorem dX6_begin_132 : decode cX6_begin 132 = .ok (.ireturn, 1) := by decide +kernel
theorem dX6_finish_0 : decode cX6_finish 0 = .ok (.iconst 0, 1) := by decide +kernel
theorem dX6_finish_1 : decode cX6_finish 1 = .ok (.istore_n 1, 1) := by decide +kernel
theorem dX6_finish_2 : decode cX6_finish 2 = .ok (.iconst 0, 1) := by decide +kernel
theorem dX6_finish_3 : decode cX6_finish 3 = .ok (.istore_n 2, 1) := by decide +kernel
theorem dX6_finish_4 : decode cX6_finish 4 = .ok (.iload_n 2, 1) := by decide +kernel
theorem dX6_finish_5 : decode cX6_finish 5 = .ok (.aload_n 0, 1) := by decide +kernel
theorem dX6_finish_6 : decode cX6_finish 6 = .ok (.getfield 48, 3) := by decide +kernel
theorem dX6_finish_9 : decode cX6_finish 9 = .ok (.getfield 79, 3) := by decide +kernel
theorem dX6_finish_12 : decode cX6_finish 12 = .ok (.if_icmp .ge 47, 3) := by decide +kernel
theorem dX6_finish_15 : decode cX6_finish 15 = .ok (.aload_n 0, 1) := by decide +kernel
theorem dX6_finish_16 : decode cX6_finish 16 = .ok (.getfield 21, 3) := by decide +kernel
theorem dX6_finish_19 : decode cX6_finish 19 = .ok (.iload_n 2, 1) := by decide +kernel
theorem dX6_finish_20 : decode cX6_finish 20 = .ok (.iaload, 1) := by decide +kernel
theorem dX6_finish_21 : decode cX6_finish 21 = .ok (.iconst 2, 1) := by decide +kernel
theorem dX6_finish_22 : decode cX6_finish 22 = .ok (.if_icmp .ne 31, 3) := by decide +kernel
theorem dX6_finish_25 : decode cX6_finish 25 = .ok (.aload_n 0, 1) := by decide +kernel
theorem dX6_finish_26 : decode cX6_finish 26 = .ok (.getfield 33, 3) := by decide +kernel
theorem dX6_finish_29 : decode cX6_finish 29 = .ok (.iload_n 2, 1) := by decide +kernel
theorem dX6_finish_30 : decode cX6_finish 30 = .ok (.dup2, 1) := by decide +kernel
theorem dX6_finish_31 : decode cX6_finish 31 = .ok (.iaload, 1) := by decide +kernel
theorem dX6_finish_32 : decode cX6_finish 32 = .ok (.iconst 1, 1) := by decide +kernel
theorem dX6_finish_33 : decode cX6_finish 33 = .ok (.isub, 1) := by decide +kernel
theorem dX6_finish_34 : decode cX6_finish 34 = .ok (.iastore, 1) := by decide +kernel
theorem dX6_finish_35 : decode cX6_finish 35 = .ok (.aload_n 0, 1) := by decide +kernel
theorem dX6_finish_36 : decode cX6_finish 36 = .ok (.getfield 33, 3) := by decide +kernel
theorem dX6_finish_39 : decode cX6_finish 39 = .ok (.iload_n 2, 1) := by decide +kernel
theorem dX6_finish_40 : decode cX6_finish 40 = .ok (.iaload, 1) := by decide +kernel
theorem dX6_finish_41 : decode cX6_finish 41 = .ok (.ifCond .gt 12, 3) := by decide +kernel
theorem dX6_finish_44 : decode cX6_finish 44 = .ok (.aload_n 0, 1) := by decide +kernel
theorem dX6_finish_45 : decode cX6_finish 45 = .ok (.iload_n 2, 1) := by decide +kernel
theorem dX6_finish_46 : decode cX6_finish 46 = .ok (.iconst 3, 1) := by decide +kernel
theorem dX6_finish_47 : decode cX6_finish 47 = .ok (.invokevirtual 136, 3) := by decide +kernel
theorem dX6_finish_50 : decode cX6_finish 50 = .ok (.iinc 1 1, 3) := by decide +kernel
theorem dX6_finish_53 : decode cX6_finish 53 = .ok (.iinc 2 1, 3) := by decide +kernel
theorem dX6_finish_56 : decode cX6_finish 56 = .ok (.goto (-52), 3) := by decide +kernel
theorem dX6_finish_59 : decode cX6_finish 59 = .ok (.aload_n 0, 1) := by decide +kernel
theorem dX6_finish_60 : decode cX6_finish 60 = .ok (.sipush 999, 3) := by decide +kernel
theorem dX6_finish_63 : decode cX6_finish 63 = .ok (.aload_n 0, 1) := by decide +kernel
theorem dX6_finish_64 : decode cX6_finish 64 = .ok (.getfield 76, 3) := by decide +kernel
theorem dX6_finish_67 : decode cX6_finish 67 = .ok (.iconst 1, 1) := by decide +kernel
theorem dX6_finish_68 : decode cX6_finish 68 = .ok (.iadd, 1) := by decide +kernel
theorem dX6_finish_69 : decode cX6_finish 69 = .ok (.invokestatic 139, 3) := by decide +kernel
theorem dX6_finish_72 : decode cX6_finish 72 = .ok (.putfield 76, 3) := by decide +kernel
theorem dX6_finish_75 : decode cX6_finish 75 = .ok (.iload_n 1, 1) := by decide +kernel
theorem dX6_finish_76 : decode cX6_finish 76 = .ok (.ireturn, 1) := by decide +kernel
theorem dX6_pass_0 : decode cX6_pass 0 = .ok (.iconst 0, 1) := by decide +kernel
theorem dX6_pass_1 : decode cX6_pass 1 = .ok (.istore_n 2, 1) := by decide +kernel
theorem dX6_pass_2 : decode cX6_pass 2 = .ok (.iconst 0, 1) := by decide +kernel
theorem dX6_pass_3 : decode cX6_pass 3 = .ok (.istore_n 3, 1) := by decide +kernel
theorem dX6_pass_4 : decode cX6_pass 4 = .ok (.iload_n 3, 1) := by decide +kernel
theorem dX6_pass_5 : decode cX6_pass 5 = .ok (.iload_n 1, 1) := by decide +kernel
theorem dX6_pass_6 : decode cX6_pass 6 = .ok (.if_icmp .ge 23, 3) := by decide +kernel
theorem dX6_pass_9 : decode cX6_pass 9 = .ok (.aload_n 0, 1) := by decide +kernel
theorem dX6_pass_10 : decode cX6_pass 10 = .ok (.bipush 127, 2) := by decide +kernel
theorem dX6_pass_12 : decode cX6_pass 12 = .ok (.invokevirtual 122, 3) := by decide +kernel
theorem dX6_pass_15 : decode cX6_pass 15 = .ok (.pop, 1) := by decide +kernel
theorem dX6_pass_16 : decode cX6_pass 16 = .ok (.iload_n 2, 1) := by decide +kernel
theorem dX6_pass_17 : decode cX6_pass 17 = .ok (.aload_n 0, 1) := by decide +kernel
theorem dX6_pass_18 : decode cX6_pass 18 = .ok (.invokevirtual 125, 3) := by decide +kernel
theorem dX6_pass_21 : decode cX6_pass 21 = .ok (.iadd, 1) := by decide +kernel
theorem dX6_pass_22 : decode cX6_pass 22 = .ok (.istore_n 2, 1) := by decide +kernel
theorem dX6_pass_23 : decode cX6_pass 23 = .ok (.iinc 3 1, 3) := by decide +kernel
theorem dX6_pass_26 : decode cX6_pass 26 = .ok (.goto (-22), 3) := by decide +kernel
theorem dX6_pass_29 : decode cX6_pass 29 = .ok (.iload_n 2, 1) := by decide +kernel
theorem dX6_pass_30 : decode cX6_pass 30 = .ok (.ireturn, 1) := by decide +kernel
theorem dX11_later_0 : decode cX11_later 0 = .ok (.aload_n 0, 1) := by decide +kernel
theorem dX11_later_1 : decode cX11_later 1 = .ok (.iload_n 1, 1) := by decide +kernel
theorem dX11_later_2 : decode cX11_later 2 = .ok (.invokevirtual 189, 3) := by decide +kernel
theorem dX11_later_5 : decode cX11_later 5 = .ok (.ifCond .eq 14, 3) := by decide +kernel
theorem dX11_later_8 : decode cX11_later 8 = .ok (.aload_n 0, 1) := by decide +kernel
theorem dX11_later_9 : decode cX11_later 9 = .ok (.iload_n 2, 1) := by decide +kernel
theorem dX11_later_10 : decode cX11_later 10 = .ok (.iconst 0, 1) := by decide +kernel
theorem dX11_later_11 : decode cX11_later 11 = .ok (.bipush 60, 2) := by decide +kernel
theorem dX11_later_13 : decode cX11_later 13 = .ok (.invokevirtual 221, 3) := by decide +kernel
theorem dX11_later_16 : decode cX11_later 16 = .ok (.ifCond .ne 5, 3) := by decide +kernel
theorem dX11_later_19 : decode cX11_later 19 = .ok (.iconst (-1), 1) := by decide +kernel
theorem dX11_later_20 : decode cX11_later 20 = .ok (.ireturn, 1) := by decide +kernel
theorem dX11_later_21 : decode cX11_later 21 = .ok (.iload_n 3, 1) := by decide +kernel
theorem dX11_later_22 : decode cX11_later 22 = .ok (.ifCond .lt 8, 3) := by decide +kernel
theorem dX11_later_25 : decode cX11_later 25 = .ok (.iload_n 3, 1) := by decide +kernel
theorem dX11_later_26 : decode cX11_later 26 = .ok (.iconst 2, 1) := by decide +kernel
theorem dX11_later_27 : decode cX11_later 27 = .ok (.if_icmp .le 5, 3) := by decide +kernel
theorem dX11_later_30 : decode cX11_later 30 = .ok (.iconst (-1), 1) := by decide +kernel
theorem dX11_later_31 : decode cX11_later 31 = .ok (.ireturn, 1) := by decide +kernel
theorem dX11_later_32 : decode cX11_later 32 = .ok (.aload_n 0, 1) := by decide +kernel
theorem dX11_later_33 : decode cX11_later 33 = .ok (.invokevirtual 225, 3) := by decide +kernel
theorem dX11_later_36 : decode cX11_later 36 = .ok (.astore 4, 2) := by decide +kernel
theorem dX11_later_38 : decode cX11_later 38 = .ok (.aload 4, 2) := by decide +kernel
theorem dX11_later_40 : decode cX11_later 40 = .ok (.iload_n 2, 1) := by decide +kernel
theorem dX11_later_41 : decode cX11_later 41 = .ok (.invokevirtual 229, 3) := by decide +kernel
theorem dX11_later_44 : decode cX11_later 44 = .ok (.pop, 1) := by decide +kernel
theorem dX11_later_45 : decode cX11_later 45 = .ok (.iload_n 3, 1) := by decide +kernel
theorem dX11_later_46 : decode cX11_later 46 = .ok (.ifCond .ne 11, 3) := by decide +kernel
theorem dX11_later_49 : decode cX11_later 49 = .ok (.aload 4, 2) := by decide +kernel
theorem dX11_later_51 : decode cX11_later 51 = .ok (.getfield 201, 3) := by decide +kernel
theorem dX11_later_54 : decode cX11_later 54 = .ok (.iload_n 1, 1) := by decide +kernel
theorem dX11_later_55 : decode cX11_later 55 = .ok (.iaload, 1) := by decide +kernel
theorem dX11_later_56 : decode cX11_later 56 = .ok (.ireturn, 1) := by decide +kernel
theorem dX11_later_57 : decode cX11_later 57 = .ok (.iload_n 3, 1) := by decide +kernel
theorem dX11_later_58 : decode cX11_later 58 = .ok (.iconst 1, 1) := by decide +kernel
theorem dX11_later_59 : decode cX11_later 59 = .ok (.if_icmp .ne 13, 3) := by decide +kernel
theorem dX11_later_62 : decode cX11_later 62 = .ok (.aload 4, 2) := by decide +kernel
theorem dX11_later_64 : decode cX11_later 64 = .ok (.getfield 207, 3) := by decide +kernel
theorem dX11_later_67 : decode cX11_later 67 = .ok (.iload_n 1, 1) := by decide +kernel
theorem dX11_later_68 : decode cX11_later 68 = .ok (.iaload, 1) := by decide +kernel
theorem dX11_later_69 : decode cX11_later 69 = .ok (.goto 10, 3) := by decide +kernel
theorem dX11_later_72 : decode cX11_later 72 = .ok (.aload 4, 2) := by decide +kernel
theorem dX11_later_74 : decode cX11_later 74 = .ok (.getfield 213, 3) := by decide +kernel
theorem dX11_later_77 : decode cX11_later 77 = .ok (.iload_n 1, 1) := by decide +kernel
theorem dX11_later_78 : decode cX11_later 78 = .ok (.iaload, 1) := by decide +kernel
theorem dX11_later_79 : decode cX11_later 79 = .ok (.ireturn, 1) := by decide +kernel
theorem dX11_ends_0 : decode cX11_ends 0 = .ok (.aload_n 0, 1) := by decide +kernel
theorem dX11_ends_1 : decode cX11_ends 1 = .ok (.iload_n 1, 1) := by decide +kernel
theorem dX11_ends_2 : decode cX11_ends 2 = .ok (.invokevirtual 189, 3) := by decide +kernel
theorem dX11_ends_5 : decode cX11_ends 5 = .ok (.ifCond .ne 5, 3) := by decide +kernel
theorem dX11_ends_8 : decode cX11_ends 8 = .ok (.iconst (-1), 1) := by decide +kernel
theorem dX11_ends_9 : decode cX11_ends 9 = .ok (.ireturn, 1) := by decide +kernel
theorem dX11_ends_10 : decode cX11_ends 10 = .ok (.aload_n 0, 1) := by decide +kernel
theorem dX11_ends_11 : decode cX11_ends 11 = .ok (.invokevirtual 225, 3) := by decide +kernel
theorem dX11_ends_14 : decode cX11_ends 14 = .ok (.astore_n 2, 1) := by decide +kernel
theorem dX11_ends_15 : decode cX11_ends 15 = .ok (.bipush 60, 2) := by decide +kernel
theorem dX11_ends_17 : decode cX11_ends 17 = .ok (.sipush 999, 3) := by decide +kernel
theorem dX11_ends_20 : decode cX11_ends 20 = .ok (.aload_n 0, 1) := by decide +kernel
theorem dX11_ends_21 : decode cX11_ends 21 = .ok (.getfield 35, 3) := by decide +kernel
theorem dX11_ends_24 : decode cX11_ends 24 = .ok (.getfield 129, 3) := by decide +kernel
theorem dX11_ends_27 : decode cX11_ends 27 = .ok (.isub, 1) := by decide +kernel
theorem dX11_ends_28 : decode cX11_ends 28 = .ok (.invokestatic 232, 3) := by decide +kernel
theorem dX11_ends_31 : decode cX11_ends 31 = .ok (.istore_n 3, 1) := by decide +kernel
theorem dX11_ends_32 : decode cX11_ends 32 = .ok (.iconst 0, 1) := by decide +kernel
theorem dX11_ends_33 : decode cX11_ends 33 = .ok (.istore 4, 2) := by decide +kernel
theorem dX11_ends_35 : decode cX11_ends 35 = .ok (.iload 4, 2) := by decide +kernel
theorem dX11_ends_37 : decode cX11_ends 37 = .ok (.iload_n 3, 1) := by decide +kernel
theorem dX11_ends_38 : decode cX11_ends 38 = .ok (.if_icmp .ge 25, 3) := by decide +kernel
theorem dX11_ends_41 : decode cX11_ends 41 = .ok (.aload_n 2, 1) := by decide +kernel
theorem dX11_ends_42 : decode cX11_ends 42 = .ok (.getfield 201, 3) := by decide +kernel
theorem dX11_ends_45 : decode cX11_ends 45 = .ok (.iload_n 1, 1) := by decide +kernel
theorem dX11_ends_46 : decode cX11_ends 46 = .ok (.iaload, 1) := by decide +kernel
theorem dX11_ends_47 : decode cX11_ends 47 = .ok (.iconst 3, 1) := by decide +kernel
theorem dX11_ends_48 : decode cX11_ends 48 = .ok (.if_icmp .ge 15, 3) := by decide +kernel
theorem dX11_ends_51 : decode cX11_ends 51 = .ok (.aload_n 2, 1) := by decide +kernel
theorem dX11_ends_52 : decode cX11_ends 52 = .ok (.iconst 1, 1) := by decide +kernel
theorem dX11_ends_53 : decode cX11_ends 53 = .ok (.invokevirtual 229, 3) := by decide +kernel
theorem dX11_ends_56 : decode cX11_ends 56 = .ok (.pop, 1) := by decide +kernel
theorem dX11_ends_57 : decode cX11_ends 57 = .ok (.iinc 4 1, 3) := by decide +kernel
theorem dX11_ends_60 : decode cX11_ends 60 = .ok (.goto (-25), 3) := by decide +kernel
theorem dX11_ends_63 : decode cX11_ends 63 = .ok (.aload_n 2, 1) := by decide +kernel
theorem dX11_ends_64 : decode cX11_ends 64 = .ok (.getfield 201, 3) := by decide +kernel
theorem dX11_ends_67 : decode cX11_ends 67 = .ok (.iload_n 1, 1) := by decide +kernel
theorem dX11_ends_68 : decode cX11_ends 68 = .ok (.iaload, 1) := by decide +kernel
theorem dX11_ends_69 : decode cX11_ends 69 = .ok (.iconst 3, 1) := by decide +kernel
theorem dX11_ends_70 : decode cX11_ends 70 = .ok (.if_icmp .ge 7, 3) := by decide +kernel
theorem dX11_ends_73 : decode cX11_ends 73 = .ok (.iconst (-1), 1) := by decide +kernel
theorem dX11_ends_74 : decode cX11_ends 74 = .ok (.goto 15, 3) := by decide +kernel
theorem dX11_ends_77 : decode cX11_ends 77 = .ok (.aload_n 2, 1) := by decide +kernel
theorem dX11_ends_78 : decode cX11_ends 78 = .ok (.getfield 129, 3) := by decide +kernel
theorem dX11_ends_81 : decode cX11_ends 81 = .ok (.aload_n 0, 1) := by decide +kernel
theorem dX11_ends_82 : decode cX11_ends 82 = .ok (.getfield 35, 3) := by decide +kernel
theorem dX11_ends_85 : decode cX11_ends 85 = .ok (.getfield 129, 3) := by decide +kernel
theorem dX11_ends_88 : decode cX11_ends 88 = .ok (.isub, 1) := by decide +kernel
theorem dX11_ends_89 : decode cX11_ends 89 = .ok (.ireturn, 1) := by decide +kernel
theorem dX11_busy_0 : decode cX11_busy 0 = .ok (.aload_n 0, 1) := by decide +kernel
theorem dX11_busy_1 : decode cX11_busy 1 = .ok (.iload_n 1, 1) := by decide +kernel
theorem dX11_busy_2 : decode cX11_busy 2 = .ok (.iconst 0, 1) := by decide +kernel
theorem dX11_busy_3 : decode cX11_busy 3 = .ok (.bipush 60, 2) := by decide +kernel
theorem dX11_busy_5 : decode cX11_busy 5 = .ok (.invokevirtual 221, 3) := by decide +kernel
theorem dX11_busy_8 : decode cX11_busy 8 = .ok (.ifCond .ne 5, 3) := by decide +kernel
theorem dX11_busy_11 : decode cX11_busy 11 = .ok (.iconst (-1), 1) := by decide +kernel
theorem dX11_busy_12 : decode cX11_busy 12 = .ok (.ireturn, 1) := by decide +kernel
theorem dX11_busy_13 : decode cX11_busy 13 = .ok (.aload_n 0, 1) := by decide +kernel
theorem dX11_busy_14 : decode cX11_busy 14 = .ok (.invokevirtual 225, 3) := by decide +kernel
theorem dX11_busy_17 : decode cX11_busy 17 = .ok (.astore_n 2, 1) := by decide +kernel
theorem dX11_busy_18 : decode cX11_busy 18 = .ok (.aload_n 2, 1) := by decide +kernel
theorem dX11_busy_19 : decode cX11_busy 19 = .ok (.iload_n 1, 1) := by decide +kernel
theorem dX11_busy_20 : decode cX11_busy 20 = .ok (.invokevirtual 229, 3) := by decide +kernel
theorem dX11_busy_23 : decode cX11_busy 23 = .ok (.pop, 1) := by decide +kernel
theorem dX11_busy_24 : decode cX11_busy 24 = .ok (.aload_n 2, 1) := by decide +kernel
theorem dX11_busy_25 : decode cX11_busy 25 = .ok (.invokevirtual 136, 3) := by decide +kernel
theorem dX11_busy_28 : decode cX11_busy 28 = .ok (.ireturn, 1) := by decide +kernel
theorem dX1_fillSums_0 : decode cX1_fillSums 0 = .ok (.iconst 0, 1) := by decide +kernel
theorem dX1_fillSums_1 : decode cX1_fillSums 1 = .ok (.istore_n 1, 1) := by decide +kernel
theorem dX1_fillSums_2 : decode cX1_fillSums 2 = .ok (.iload_n 1, 1) := by decide +kernel
theorem dX1_fillSums_3 : decode cX1_fillSums 3 = .ok (.aload_n 0, 1) := by decide +kernel
theorem dX1_fillSums_4 : decode cX1_fillSums 4 = .ok (.getfield 19, 3) := by decide +kernel
theorem dX1_fillSums_7 : decode cX1_fillSums 7 = .ok (.getfield 30, 3) := by decide +kernel
theorem dX1_fillSums_10 : decode cX1_fillSums 10 = .ok (.if_icmp .ge 87, 3) := by decide +kernel
theorem dX1_fillSums_13 : decode cX1_fillSums 13 = .ok (.iconst 0, 1) := by decide +kernel
theorem dX1_fillSums_14 : decode cX1_fillSums 14 = .ok (.istore_n 2, 1) := by decide +kernel
theorem dX1_fillSums_15 : decode cX1_fillSums 15 = .ok (.iload_n 2, 1) := by decide +kernel
theorem dX1_fillSums_16 : decode cX1_fillSums 16 = .ok (.aload_n 0, 1) := by decide +kernel
theorem dX1_fillSums_17 : decode cX1_fillSums 17 = .ok (.getfield 19, 3) := by decide +kernel
theorem dX1_fillSums_20 : decode cX1_fillSums 20 = .ok (.getfield 36, 3) := by decide +kernel
theorem dX1_fillSums_23 : decode cX1_fillSums 23 = .ok (.if_icmp .ge 68, 3) := by decide +kernel
theorem dX1_fillSums_26 : decode cX1_fillSums 26 = .ok (.aload_n 0, 1) := by decide +kernel
theorem dX1_fillSums_27 : decode cX1_fillSums 27 = .ok (.getfield 23, 3) := by decide +kernel
theorem dX1_fillSums_30 : decode cX1_fillSums 30 = .ok (.getfield 46, 3) := by decide +kernel
theorem dX1_fillSums_33 : decode cX1_fillSums 33 = .ok (.iload_n 1, 1) := by decide +kernel
theorem dX1_fillSums_34 : decode cX1_fillSums 34 = .ok (.iaload, 1) := by decide +kernel
theorem dX1_fillSums_35 : decode cX1_fillSums 35 = .ok (.iconst 1, 1) := by decide +kernel
theorem dX1_fillSums_36 : decode cX1_fillSums 36 = .ok (.if_icmp .ne 18, 3) := by decide +kernel
theorem dX1_fillSums_39 : decode cX1_fillSums 39 = .ok (.aload_n 0, 1) := by decide +kernel
theorem dX1_fillSums_40 : decode cX1_fillSums 40 = .ok (.getfield 23, 3) := by decide +kernel
theorem dX1_fillSums_43 : decode cX1_fillSums 43 = .ok (.iload_n 2, 1) := by decide +kernel
theorem dX1_fillSums_44 : decode cX1_fillSums 44 = .ok (.invokevirtual 52, 3) := by decide +kernel
theorem dX1_fillSums_47 : decode cX1_fillSums 47 = .ok (.ifCond .eq 7, 3) := by decide +kernel
theorem dX1_fillSums_50 : decode cX1_fillSums 50 = .ok (.iconst 1, 1) := by decide +kernel
theorem dX1_fillSums_51 : decode cX1_fillSums 51 = .ok (.goto 4, 3) := by decide +kernel
theorem dX1_fillSums_54 : decode cX1_fillSums 54 = .ok (.iconst 0, 1) := by decide +kernel
theorem dX1_fillSums_55 : decode cX1_fillSums 55 = .ok (.istore_n 3, 1) := by decide +kernel
theorem dX1_fillSums_56 : decode cX1_fillSums 56 = .ok (.aload_n 0, 1) := by decide +kernel
theorem dX1_fillSums_57 : decode cX1_fillSums 57 = .ok (.getfield 16, 3) := by decide +kernel
theorem dX1_fillSums_60 : decode cX1_fillSums 60 = .ok (.iload_n 1, 1) := by decide +kernel
theorem dX1_fillSums_61 : decode cX1_fillSums 61 = .ok (.aaload, 1) := by decide +kernel
theorem dX1_fillSums_62 : decode cX1_fillSums 62 = .ok (.iload_n 2, 1) := by decide +kernel
theorem dX1_fillSums_63 : decode cX1_fillSums 63 = .ok (.iload_n 3, 1) := by decide +kernel
theorem dX1_fillSums_64 : decode cX1_fillSums 64 = .ok (.ifCond .eq 19, 3) := by decide +kernel
theorem dX1_fillSums_67 : decode cX1_fillSums 67 = .ok (.iconst 0, 1) := by decide +kernel
theorem dX1_fillSums_68 : decode cX1_fillSums 68 = .ok (.aload_n 0, 1) := by decide +kernel
theorem dX1_fillSums_69 : decode cX1_fillSums 69 = .ok (.getfield 23, 3) := by decide +kernel
theorem dX1_fillSums_72 : decode cX1_fillSums 72 = .ok (.iload_n 1, 1) := by decide +kernel
theorem dX1_fillSums_73 : decode cX1_fillSums 73 = .ok (.iload_n 2, 1) := by decide +kernel
theorem dX1_fillSums_74 : decode cX1_fillSums 74 = .ok (.invokevirtual 56, 3) := by decide +kernel
theorem dX1_fillSums_77 : decode cX1_fillSums 77 = .ok (.invokestatic 59, 3) := by decide +kernel
theorem dX1_fillSums_80 : decode cX1_fillSums 80 = .ok (.goto 4, 3) := by decide +kernel
theorem dX1_fillSums_83 : decode cX1_fillSums 83 = .ok (.iconst 0, 1) := by decide +kernel
theorem dX1_fillSums_84 : decode cX1_fillSums 84 = .ok (.iastore, 1) := by decide +kernel
theorem dX1_fillSums_85 : decode cX1_fillSums 85 = .ok (.iinc 2 1, 3) := by decide +kernel
theorem dX1_fillSums_88 : decode cX1_fillSums 88 = .ok (.goto (-73), 3) := by decide +kernel
theorem dX1_fillSums_91 : decode cX1_fillSums 91 = .ok (.iinc 1 1, 3) := by decide +kernel
theorem dX1_fillSums_94 : decode cX1_fillSums 94 = .ok (.goto (-92), 3) := by decide +kernel
theorem dX1_fillSums_97 : decode cX1_fillSums 97 = .ok (.return_, 1) := by decide +kernel
theorem dX1_sumWith_0 : decode cX1_sumWith 0 = .ok (.iconst 1, 1) := by decide +kernel
theorem dX1_sumWith_1 : decode cX1_sumWith 1 = .ok (.iload_n 2, 1) := by decide +kernel
theorem dX1_sumWith_2 : decode cX1_sumWith 2 = .ok (.ishl, 1) := by decide +kernel
theorem dX1_sumWith_3 : decode cX1_sumWith 3 = .ok (.istore 4, 2) := by decide +kernel
theorem dX1_sumWith_5 : decode cX1_sumWith 5 = .ok (.iload_n 3, 1) := by decide +kernel
theorem dX1_sumWith_6 : decode cX1_sumWith 6 = .ok (.iload 4, 2) := by decide +kernel
theorem dX1_sumWith_8 : decode cX1_sumWith 8 = .ok (.iand, 1) := by decide +kernel
theorem dX1_sumWith_9 : decode cX1_sumWith 9 = .ok (.ifCond .ne 14, 3) := by decide +kernel
theorem dX1_sumWith_12 : decode cX1_sumWith 12 = .ok (.aload_n 0, 1) := by decide +kernel
theorem dX1_sumWith_13 : decode cX1_sumWith 13 = .ok (.getfield 16, 3) := by decide +kernel
theorem dX1_sumWith_16 : decode cX1_sumWith 16 = .ok (.iload_n 1, 1) := by decide +kernel
theorem dX1_sumWith_17 : decode cX1_sumWith 17 = .ok (.aaload, 1) := by decide +kernel
theorem dX1_sumWith_18 : decode cX1_sumWith 18 = .ok (.iload_n 2, 1) := by decide +kernel
theorem dX1_sumWith_19 : decode cX1_sumWith 19 = .ok (.iaload, 1) := by decide +kernel
theorem dX1_sumWith_20 : decode cX1_sumWith 20 = .ok (.ifCond .gt 5, 3) := by decide +kernel
theorem dX1_sumWith_23 : decode cX1_sumWith 23 = .ok (.iconst (-1), 1) := by decide +kernel
theorem dX1_sumWith_24 : decode cX1_sumWith 24 = .ok (.ireturn, 1) := by decide +kernel
theorem dX1_sumWith_25 : decode cX1_sumWith 25 = .ok (.aload_n 0, 1) := by decide +kernel
theorem dX1_sumWith_26 : decode cX1_sumWith 26 = .ok (.getfield 16, 3) := by decide +kernel
theorem dX1_sumWith_29 : decode cX1_sumWith 29 = .ok (.iload_n 1, 1) := by decide +kernel
theorem dX1_sumWith_30 : decode cX1_sumWith 30 = .ok (.aaload, 1) := by decide +kernel
theorem dX1_sumWith_31 : decode cX1_sumWith 31 = .ok (.iload_n 2, 1) := by decide +kernel
theorem dX1_sumWith_32 : decode cX1_sumWith 32 = .ok (.iaload, 1) := by decide +kernel
theorem dX1_sumWith_33 : decode cX1_sumWith 33 = .ok (.aload_n 0, 1) := by decide +kernel
theorem dX1_sumWith_34 : decode cX1_sumWith 34 = .ok (.getfield 11, 3) := by decide +kernel
theorem dX1_sumWith_37 : decode cX1_sumWith 37 = .ok (.iload_n 1, 1) := by decide +kernel
theorem dX1_sumWith_38 : decode cX1_sumWith 38 = .ok (.iconst 1, 1) := by decide +kernel
theorem dX1_sumWith_39 : decode cX1_sumWith 39 = .ok (.iadd, 1) := by decide +kernel
theorem dX1_sumWith_40 : decode cX1_sumWith 40 = .ok (.aaload, 1) := by decide +kernel
theorem dX1_sumWith_41 : decode cX1_sumWith 41 = .ok (.iload_n 3, 1) := by decide +kernel
theorem dX1_sumWith_42 : decode cX1_sumWith 42 = .ok (.iload 4, 2) := by decide +kernel
theorem dX1_sumWith_44 : decode cX1_sumWith 44 = .ok (.ior, 1) := by decide +kernel
theorem dX1_sumWith_45 : decode cX1_sumWith 45 = .ok (.iaload, 1) := by decide +kernel
theorem dX1_sumWith_46 : decode cX1_sumWith 46 = .ok (.iadd, 1) := by decide +kernel
theorem dX1_sumWith_47 : decode cX1_sumWith 47 = .ok (.ireturn, 1) := by decide +kernel
theorem dX1_fillBest_0 : decode cX1_fillBest 0 = .ok (.aload_n 0, 1) := by decide +kernel
theorem dX1_fillBest_1 : decode cX1_fillBest 1 = .ok (.invokevirtual 27, 3) := by decide +kernel
theorem dX1_fillBest_4 : decode cX1_fillBest 4 = .ok (.aload_n 0, 1) := by decide +kernel
theorem dX1_fillBest_5 : decode cX1_fillBest 5 = .ok (.getfield 11, 3) := by decide +kernel
theorem dX1_fillBest_8 : decode cX1_fillBest 8 = .ok (.aload_n 0, 1) := by decide +kernel
theorem dX1_fillBest_9 : decode cX1_fillBest 9 = .ok (.getfield 19, 3) := by decide +kernel
theorem dX1_fillBest_12 : decode cX1_fillBest 12 = .ok (.getfield 30, 3) := by decide +kernel
theorem dX1_fillBest_15 : decode cX1_fillBest 15 = .ok (.aaload, 1) := by decide +kernel
theorem dX1_fillBest_16 : decode cX1_fillBest 16 = .ok (.iconst 0, 1) := by decide +kernel
theorem dX1_fillBest_17 : decode cX1_fillBest 17 = .ok (.invokestatic 64, 3) := by decide +kernel
theorem dX1_fillBest_20 : decode cX1_fillBest 20 = .ok (.aload_n 0, 1) := by decide +kernel
theorem dX1_fillBest_21 : decode cX1_fillBest 21 = .ok (.getfield 19, 3) := by decide +kernel
theorem dX1_fillBest_24 : decode cX1_fillBest 24 = .ok (.getfield 30, 3) := by decide +kernel
theorem dX1_fillBest_27 : decode cX1_fillBest 27 = .ok (.iconst 1, 1) := by decide +kernel
theorem dX1_fillBest_28 : decode cX1_fillBest 28 = .ok (.isub, 1) := by decide +kernel
theorem dX1_fillBest_29 : decode cX1_fillBest 29 = .ok (.istore_n 1, 1) := by decide +kernel
theorem dX1_fillBest_30 : decode cX1_fillBest 30 = .ok (.iload_n 1, 1) := by decide +kernel
theorem dX1_fillBest_31 : decode cX1_fillBest 31 = .ok (.ifCond .lt 77, 3) := by decide +kernel
theorem dX1_fillBest_34 : decode cX1_fillBest 34 = .ok (.iconst 0, 1) := by decide +kernel
theorem dX1_fillBest_35 : decode cX1_fillBest 35 = .ok (.istore_n 2, 1) := by decide +kernel
theorem dX1_fillBest_36 : decode cX1_fillBest 36 = .ok (.iload_n 2, 1) := by decide +kernel
theorem dX1_fillBest_37 : decode cX1_fillBest 37 = .ok (.bipush 127, 2) := by decide +kernel
theorem dX1_fillBest_39 : decode cX1_fillBest 39 = .ok (.if_icmp .gt 63, 3) := by decide +kernel
theorem dX1_fillBest_42 : decode cX1_fillBest 42 = .ok (.aload_n 0, 1) := by decide +kernel
theorem dX1_fillBest_43 : decode cX1_fillBest 43 = .ok (.getfield 11, 3) := by decide +kernel
theorem dX1_fillBest_46 : decode cX1_fillBest 46 = .ok (.iload_n 1, 1) := by decide +kernel
theorem dX1_fillBest_47 : decode cX1_fillBest 47 = .ok (.iconst 1, 1) := by decide +kernel
theorem dX1_fillBest_48 : decode cX1_fillBest 48 = .ok (.iadd, 1) := by decide +kernel
theorem dX1_fillBest_49 : decode cX1_fillBest 49 = .ok (.aaload, 1) := by decide +kernel
theorem dX1_fillBest_50 : decode cX1_fillBest 50 = .ok (.iload_n 2, 1) := by decide +kernel
theorem dX1_fillBest_51 : decode cX1_fillBest 51 = .ok (.iaload, 1) := by decide +kernel
theorem dX1_fillBest_52 : decode cX1_fillBest 52 = .ok (.istore_n 3, 1) := by decide +kernel
theorem dX1_fillBest_53 : decode cX1_fillBest 53 = .ok (.iconst 0, 1) := by decide +kernel
theorem dX1_fillBest_54 : decode cX1_fillBest 54 = .ok (.istore 4, 2) := by decide +kernel
theorem dX1_fillBest_56 : decode cX1_fillBest 56 = .ok (.iload 4, 2) := by decide +kernel
theorem dX1_fillBest_58 : decode cX1_fillBest 58 = .ok (.aload_n 0, 1) := by decide +kernel
theorem dX1_fillBest_59 : decode cX1_fillBest 59 = .ok (.getfield 19, 3) := by decide +kernel
theorem dX1_fillBest_62 : decode cX1_fillBest 62 = .ok (.getfield 36, 3) := by decide +kernel
theorem dX1_fillBest_65 : decode cX1_fillBest 65 = .ok (.if_icmp .ge 22, 3) := by decide +kernel
theorem dX1_fillBest_68 : decode cX1_fillBest 68 = .ok (.iload_n 3, 1) := by decide +kernel
theorem dX1_fillBest_69 : decode cX1_fillBest 69 = .ok (.aload_n 0, 1) := by decide +kernel
theorem dX1_fillBest_70 : decode cX1_fillBest 70 = .ok (.iload_n 1, 1) := by decide +kernel
theorem dX1_fillBest_71 : decode cX1_fillBest 71 = .ok (.iload 4, 2) := by decide +kernel
theorem dX1_fillBest_73 : decode cX1_fillBest 73 = .ok (.iload_n 2, 1) := by decide +kernel
theorem dX1_fillBest_74 : decode cX1_fillBest 74 = .ok (.invokevirtual 70, 3) := by decide +kernel
theorem dX1_fillBest_77 : decode cX1_fillBest 77 = .ok (.invokestatic 59, 3) := by decide +kernel
theorem dX1_fillBest_80 : decode cX1_fillBest 80 = .ok (.istore_n 3, 1) := by decide +kernel
theorem dX1_fillBest_81 : decode cX1_fillBest 81 = .ok (.iinc 4 1, 3) := by decide +kernel
theorem dX1_fillBest_84 : decode cX1_fillBest 84 = .ok (.goto (-28), 3) := by decide +kernel
theorem dX1_fillBest_87 : decode cX1_fillBest 87 = .ok (.aload_n 0, 1) := by decide +kernel
theorem dX1_fillBest_88 : decode cX1_fillBest 88 = .ok (.getfield 11, 3) := by decide +kernel
theorem dX1_fillBest_91 : decode cX1_fillBest 91 = .ok (.iload_n 1, 1) := by decide +kernel
theorem dX1_fillBest_92 : decode cX1_fillBest 92 = .ok (.aaload, 1) := by decide +kernel
theorem dX1_fillBest_93 : decode cX1_fillBest 93 = .ok (.iload_n 2, 1) := by decide +kernel
theorem dX1_fillBest_94 : decode cX1_fillBest 94 = .ok (.iload_n 3, 1) := by decide +kernel
theorem dX1_fillBest_95 : decode cX1_fillBest 95 = .ok (.iastore, 1) := by decide +kernel
theorem dX1_fillBest_96 : decode cX1_fillBest 96 = .ok (.iinc 2 1, 3) := by decide +kernel
theorem dX1_fillBest_99 : decode cX1_fillBest 99 = .ok (.goto (-63), 3) := by decide +kernel
theorem dX1_fillBest_102 : decode cX1_fillBest 102 = .ok (.iinc 1 (-1), 3) := by decide +kernel
theorem dX1_fillBest_105 : decode cX1_fillBest 105 = .ok (.goto (-75), 3) := by decide +kernel
theorem dX1_fillBest_108 : decode cX1_fillBest 108 = .ok (.return_, 1) := by decide +kernel
theorem dX1_bestSum_0 : decode cX1_bestSum 0 = .ok (.aload_n 0, 1) := by decide +kernel
theorem dX1_bestSum_1 : decode cX1_bestSum 1 = .ok (.invokevirtual 39, 3) := by decide +kernel
theorem dX1_bestSum_4 : decode cX1_bestSum 4 = .ok (.aload_n 0, 1) := by decide +kernel
theorem dX1_bestSum_5 : decode cX1_bestSum 5 = .ok (.getfield 11, 3) := by decide +kernel
theorem dX1_bestSum_8 : decode cX1_bestSum 8 = .ok (.iconst 0, 1) := by decide +kernel
theorem dX1_bestSum_9 : decode cX1_bestSum 9 = .ok (.aaload, 1) := by decide +kernel
theorem dX1_bestSum_10 : decode cX1_bestSum 10 = .ok (.iconst 0, 1) := by decide +kernel
theorem dX1_bestSum_11 : decode cX1_bestSum 11 = .ok (.iaload, 1) := by decide +kernel
theorem dX1_bestSum_12 : decode cX1_bestSum 12 = .ok (.ireturn, 1) := by decide +kernel
theorem dX1_firstBest_0 : decode cX1_firstBest 0 = .ok (.aload_n 0, 1) := by decide +kernel
theorem dX1_firstBest_1 : decode cX1_firstBest 1 = .ok (.getfield 11, 3) := by decide +kernel
theorem dX1_firstBest_4 : decode cX1_firstBest 4 = .ok (.iload_n 1, 1) := by decide +kernel
theorem dX1_firstBest_5 : decode cX1_firstBest 5 = .ok (.iconst 1, 1) := by decide +kernel
theorem dX1_firstBest_6 : decode cX1_firstBest 6 = .ok (.iadd, 1) := by decide +kernel
theorem dX1_firstBest_7 : decode cX1_firstBest 7 = .ok (.aaload, 1) := by decide +kernel
theorem dX1_firstBest_8 : decode cX1_firstBest 8 = .ok (.iload_n 2, 1) := by decide +kernel
theorem dX1_firstBest_9 : decode cX1_firstBest 9 = .ok (.iaload, 1) := by decide +kernel
theorem dX1_firstBest_10 : decode cX1_firstBest 10 = .ok (.aload_n 0, 1) := by decide +kernel
theorem dX1_firstBest_11 : decode cX1_firstBest 11 = .ok (.getfield 11, 3) := by decide +kernel
theorem dX1_firstBest_14 : decode cX1_firstBest 14 = .ok (.iload_n 1, 1) := by decide +kernel
theorem dX1_firstBest_15 : decode cX1_firstBest 15 = .ok (.aaload, 1) := by decide +kernel
theorem dX1_firstBest_16 : decode cX1_firstBest 16 = .ok (.iload_n 2, 1) := by decide +kernel
theorem dX1_firstBest_17 : decode cX1_firstBest 17 = .ok (.iaload, 1) := by decide +kernel
theorem dX1_firstBest_18 : decode cX1_firstBest 18 = .ok (.if_icmp .ne 5, 3) := by decide +kernel
theorem dX1_firstBest_21 : decode cX1_firstBest 21 = .ok (.iconst (-1), 1) := by decide +kernel
theorem dX1_firstBest_22 : decode cX1_firstBest 22 = .ok (.ireturn, 1) := by decide +kernel
theorem dX1_firstBest_23 : decode cX1_firstBest 23 = .ok (.iconst 0, 1) := by decide +kernel
theorem dX1_firstBest_24 : decode cX1_firstBest 24 = .ok (.istore_n 3, 1) := by decide +kernel
theorem dX1_firstBest_25 : decode cX1_firstBest 25 = .ok (.iload_n 3, 1) := by decide +kernel
theorem dX1_firstBest_26 : decode cX1_firstBest 26 = .ok (.aload_n 0, 1) := by decide +kernel
theorem dX1_firstBest_27 : decode cX1_firstBest 27 = .ok (.getfield 19, 3) := by decide +kernel
theorem dX1_firstBest_30 : decode cX1_firstBest 30 = .ok (.getfield 36, 3) := by decide +kernel
theorem dX1_firstBest_33 : decode cX1_firstBest 33 = .ok (.if_icmp .ge 29, 3) := by decide +kernel
theorem dX1_firstBest_36 : decode cX1_firstBest 36 = .ok (.aload_n 0, 1) := by decide +kernel
theorem dX1_firstBest_37 : decode cX1_firstBest 37 = .ok (.iload_n 1, 1) := by decide +kernel
theorem dX1_firstBest_38 : decode cX1_firstBest 38 = .ok (.iload_n 3, 1) := by decide +kernel
theorem dX1_firstBest_39 : decode cX1_firstBest 39 = .ok (.iload_n 2, 1) := by decide +kernel
theorem dX1_firstBest_40 : decode cX1_firstBest 40 = .ok (.invokevirtual 70, 3) := by decide +kernel
theorem dX1_firstBest_43 : decode cX1_firstBest 43 = .ok (.aload_n 0, 1) := by decide +kernel
theorem dX1_firstBest_44 : decode cX1_firstBest 44 = .ok (.getfield 11, 3) := by decide +kernel
theorem dX1_firstBest_47 : decode cX1_firstBest 47 = .ok (.iload_n 1, 1) := by decide +kernel
theorem dX1_firstBest_48 : decode cX1_firstBest 48 = .ok (.aaload, 1) := by decide +kernel
theorem dX1_firstBest_49 : decode cX1_firstBest 49 = .ok (.iload_n 2, 1) := by decide +kernel
theorem dX1_firstBest_50 : decode cX1_firstBest 50 = .ok (.iaload, 1) := by decide +kernel
theorem dX1_firstBest_51 : decode cX1_firstBest 51 = .ok (.if_icmp .ne 5, 3) := by decide +kernel
theorem dX1_firstBest_54 : decode cX1_firstBest 54 = .ok (.iload_n 3, 1) := by decide +kernel
theorem dX1_firstBest_55 : decode cX1_firstBest 55 = .ok (.ireturn, 1) := by decide +kernel
theorem dX1_firstBest_56 : decode cX1_firstBest 56 = .ok (.iinc 3 1, 3) := by decide +kernel
theorem dX1_firstBest_59 : decode cX1_firstBest 59 = .ok (.goto (-34), 3) := by decide +kernel
theorem dX1_firstBest_62 : decode cX1_firstBest 62 = .ok (.iconst (-1), 1) := by decide +kernel
theorem dX1_firstBest_63 : decode cX1_firstBest 63 = .ok (.ireturn, 1) := by decide +kernel
theorem dX1_voiceFor_0 : decode cX1_voiceFor 0 = .ok (.aload_n 0, 1) := by decide +kernel
theorem dX1_voiceFor_1 : decode cX1_voiceFor 1 = .ok (.invokevirtual 39, 3) := by decide +kernel
theorem dX1_voiceFor_4 : decode cX1_voiceFor 4 = .ok (.iconst 0, 1) := by decide +kernel
theorem dX1_voiceFor_5 : decode cX1_voiceFor 5 = .ok (.istore_n 2, 1) := by decide +kernel
theorem dX1_voiceFor_6 : decode cX1_voiceFor 6 = .ok (.iconst (-1), 1) := by decide +kernel
theorem dX1_voiceFor_7 : decode cX1_voiceFor 7 = .ok (.istore_n 3, 1) := by decide +kernel
theorem dX1_voiceFor_8 : decode cX1_voiceFor 8 = .ok (.iconst 0, 1) := by decide +kernel
theorem dX1_voiceFor_9 : decode cX1_voiceFor 9 = .ok (.istore 4, 2) := by decide +kernel
theorem dX1_voiceFor_11 : decode cX1_voiceFor 11 = .ok (.iload 4, 2) := by decide +kernel
theorem dX1_voiceFor_13 : decode cX1_voiceFor 13 = .ok (.iload_n 1, 1) := by decide +kernel
theorem dX1_voiceFor_14 : decode cX1_voiceFor 14 = .ok (.if_icmp .gt 35, 3) := by decide +kernel
theorem dX1_voiceFor_17 : decode cX1_voiceFor 17 = .ok (.iload 4, 2) := by decide +kernel
theorem dX1_voiceFor_19 : decode cX1_voiceFor 19 = .ok (.bipush 12, 2) := by decide +kernel
theorem dX1_voiceFor_21 : decode cX1_voiceFor 21 = .ok (.if_icmp .ge 28, 3) := by decide +kernel
theorem dX1_voiceFor_24 : decode cX1_voiceFor 24 = .ok (.aload_n 0, 1) := by decide +kernel
theorem dX1_voiceFor_25 : decode cX1_voiceFor 25 = .ok (.iload 4, 2) := by decide +kernel
theorem dX1_voiceFor_27 : decode cX1_voiceFor 27 = .ok (.iload_n 2, 1) := by decide +kernel
theorem dX1_voiceFor_28 : decode cX1_voiceFor 28 = .ok (.invokevirtual 42, 3) := by decide +kernel
theorem dX1_voiceFor_31 : decode cX1_voiceFor 31 = .ok (.istore_n 3, 1) := by decide +kernel
theorem dX1_voiceFor_32 : decode cX1_voiceFor 32 = .ok (.iload_n 3, 1) := by decide +kernel
theorem dX1_voiceFor_33 : decode cX1_voiceFor 33 = .ok (.iconst (-1), 1) := by decide +kernel
theorem dX1_voiceFor_34 : decode cX1_voiceFor 34 = .ok (.if_icmp .eq 9, 3) := by decide +kernel
theorem dX1_voiceFor_37 : decode cX1_voiceFor 37 = .ok (.iload_n 2, 1) := by decide +kernel
theorem dX1_voiceFor_38 : decode cX1_voiceFor 38 = .ok (.iconst 1, 1) := by decide +kernel
theorem dX1_voiceFor_39 : decode cX1_voiceFor 39 = .ok (.iload_n 3, 1) := by decide +kernel
theorem dX1_voiceFor_40 : decode cX1_voiceFor 40 = .ok (.ishl, 1) := by decide +kernel
theorem dX1_voiceFor_41 : decode cX1_voiceFor 41 = .ok (.ior, 1) := by decide +kernel
theorem dX1_voiceFor_42 : decode cX1_voiceFor 42 = .ok (.istore_n 2, 1) := by decide +kernel
theorem dX1_voiceFor_43 : decode cX1_voiceFor 43 = .ok (.iinc 4 1, 3) := by decide +kernel
theorem dX1_voiceFor_46 : decode cX1_voiceFor 46 = .ok (.goto (-35), 3) := by decide +kernel
theorem dX1_voiceFor_49 : decode cX1_voiceFor 49 = .ok (.iload_n 3, 1) := by decide +kernel
theorem dX1_voiceFor_50 : decode cX1_voiceFor 50 = .ok (.ireturn, 1) := by decide +kernel
theorem dX11_match_0 : decode cX11_match 0 = .ok (.iload_n 1, 1) := by decide +kernel
theorem dX11_match_1 : decode cX11_match 1 = .ok (.iconst (-1), 1) := by decide +kernel
theorem dX11_match_2 : decode cX11_match 2 = .ok (.if_icmp .ne 11, 3) := by decide +kernel
theorem dX11_match_5 : decode cX11_match 5 = .ok (.aload_n 0, 1) := by decide +kernel
theorem dX11_match_6 : decode cX11_match 6 = .ok (.getfield 54, 3) := by decide +kernel
theorem dX11_match_9 : decode cX11_match 9 = .ok (.invokevirtual 237, 3) := by decide +kernel
theorem dX11_match_12 : decode cX11_match 12 = .ok (.ireturn, 1) := by decide +kernel
theorem dX11_match_13 : decode cX11_match 13 = .ok (.aload_n 0, 1) := by decide +kernel
theorem dX11_match_14 : decode cX11_match 14 = .ok (.iload_n 1, 1) := by decide +kernel
theorem dX11_match_15 : decode cX11_match 15 = .ok (.invokevirtual 189, 3) := by decide +kernel
theorem dX11_match_18 : decode cX11_match 18 = .ok (.ifCond .eq 14, 3) := by decide +kernel
theorem dX11_match_21 : decode cX11_match 21 = .ok (.aload_n 0, 1) := by decide +kernel
theorem dX11_match_22 : decode cX11_match 22 = .ok (.getfield 54, 3) := by decide +kernel
theorem dX11_match_25 : decode cX11_match 25 = .ok (.iload_n 1, 1) := by decide +kernel
theorem dX11_match_26 : decode cX11_match 26 = .ok (.invokevirtual 240, 3) := by decide +kernel
theorem dX11_match_29 : decode cX11_match 29 = .ok (.goto 4, 3) := by decide +kernel
theorem dX11_match_32 : decode cX11_match 32 = .ok (.iconst (-1), 1) := by decide +kernel
theorem dX11_match_33 : decode cX11_match 33 = .ok (.ireturn, 1) := by decide +kernel
theorem dX11_isEnough_0 : decode cX11_isEnough 0 = .ok (.iconst 0, 1) := by decide +kernel
theorem dX11_isEnough_1 : decode cX11_isEnough 1 = .ok (.istore_n 3, 1) := by decide +kernel
theorem dX11_isEnough_2 : decode cX11_isEnough 2 = .ok (.iload_n 3, 1) := by decide +kernel
theorem dX11_isEnough_3 : decode cX11_isEnough 3 = .ok (.aload_n 0, 1) := by decide +kernel
theorem dX11_isEnough_4 : decode cX11_isEnough 4 = .ok (.getfield 26, 3) := by decide +kernel
theorem dX11_isEnough_7 : decode cX11_isEnough 7 = .ok (.getfield 120, 3) := by decide +kernel
theorem dX11_isEnough_10 : decode cX11_isEnough 10 = .ok (.if_icmp .ge 31, 3) := by decide +kernel
theorem dX11_isEnough_13 : decode cX11_isEnough 13 = .ok (.iload_n 1, 1) := by decide +kernel
theorem dX11_isEnough_14 : decode cX11_isEnough 14 = .ok (.iload_n 3, 1) := by decide +kernel
theorem dX11_isEnough_15 : decode cX11_isEnough 15 = .ok (.ishr, 1) := by decide +kernel
theorem dX11_isEnough_16 : decode cX11_isEnough 16 = .ok (.iconst 1, 1) := by decide +kernel
theorem dX11_isEnough_17 : decode cX11_isEnough 17 = .ok (.iand, 1) := by decide +kernel
theorem dX11_isEnough_18 : decode cX11_isEnough 18 = .ok (.ifCond .eq 17, 3) := by decide +kernel
theorem dX11_isEnough_21 : decode cX11_isEnough 21 = .ok (.aload_n 0, 1) := by decide +kernel
theorem dX11_isEnough_22 : decode cX11_isEnough 22 = .ok (.getfield 35, 3) := by decide +kernel
theorem dX11_isEnough_25 : decode cX11_isEnough 25 = .ok (.getfield 170, 3) := by decide +kernel
theorem dX11_isEnough_28 : decode cX11_isEnough 28 = .ok (.iload_n 3, 1) := by decide +kernel
theorem dX11_isEnough_29 : decode cX11_isEnough 29 = .ok (.iaload, 1) := by decide +kernel
theorem dX11_isEnough_30 : decode cX11_isEnough 30 = .ok (.ifCond .eq 5, 3) := by decide +kernel
theorem dX11_isEnough_33 : decode cX11_isEnough 33 = .ok (.iconst 0, 1) := by decide +kernel
theorem dX11_isEnough_34 : decode cX11_isEnough 34 = .ok (.ireturn, 1) := by decide +kernel
theorem dX11_isEnough_35 : decode cX11_isEnough 35 = .ok (.iinc 3 1, 3) := by decide +kernel
theorem dX11_isEnough_38 : decode cX11_isEnough 38 = .ok (.goto (-36), 3) := by decide +kernel
theorem dX11_isEnough_41 : decode cX11_isEnough 41 = .ok (.aload_n 0, 1) := by decide +kernel
theorem dX11_isEnough_42 : decode cX11_isEnough 42 = .ok (.invokevirtual 225, 3) := by decide +kernel
theorem dX11_isEnough_45 : decode cX11_isEnough 45 = .ok (.astore_n 3, 1) := by decide +kernel
theorem dX11_isEnough_46 : decode cX11_isEnough 46 = .ok (.iconst 0, 1) := by decide +kernel
theorem dX11_isEnough_47 : decode cX11_isEnough 47 = .ok (.istore 4, 2) := by decide +kernel
theorem dX11_isEnough_49 : decode cX11_isEnough 49 = .ok (.iload 4, 2) := by decide +kernel
theorem dX11_isEnough_51 : decode cX11_isEnough 51 = .ok (.iload_n 2, 1) := by decide +kernel
theorem dX11_isEnough_52 : decode cX11_isEnough 52 = .ok (.if_icmp .ge 24, 3) := by decide +kernel
theorem dX11_isEnough_55 : decode cX11_isEnough 55 = .ok (.aload_n 3, 1) := by decide +kernel
theorem dX11_isEnough_56 : decode cX11_isEnough 56 = .ok (.iload_n 1, 1) := by decide +kernel
theorem dX11_isEnough_57 : decode cX11_isEnough 57 = .ok (.invokevirtual 302, 3) := by decide +kernel
theorem dX11_isEnough_60 : decode cX11_isEnough 60 = .ok (.ifCond .le 5, 3) := by decide +kernel
theorem dX11_isEnough_63 : decode cX11_isEnough 63 = .ok (.iconst 0, 1) := by decide +kernel
theorem dX11_isEnough_64 : decode cX11_isEnough 64 = .ok (.ireturn, 1) := by decide +kernel
theorem dX11_isEnough_65 : decode cX11_isEnough 65 = .ok (.aload_n 3, 1) := by decide +kernel
theorem dX11_isEnough_66 : decode cX11_isEnough 66 = .ok (.invokevirtual 305, 3) := by decide +kernel
theorem dX11_isEnough_69 : decode cX11_isEnough 69 = .ok (.pop, 1) := by decide +kernel
theorem dX11_isEnough_70 : decode cX11_isEnough 70 = .ok (.iinc 4 1, 3) := by decide +kernel
theorem dX11_isEnough_73 : decode cX11_isEnough 73 = .ok (.goto (-24), 3) := by decide +kernel
theorem dX11_isEnough_76 : decode cX11_isEnough 76 = .ok (.iconst 1, 1) := by decide +kernel
theorem dX11_isEnough_77 : decode cX11_isEnough 77 = .ok (.ireturn, 1) := by decide +kernel
theorem dJ6_bitCount_0f7a4_0 : decode cJ6_bitCount_0f7a4 0 = .ok (.iload_n 0, 1) := by decide +kernel
theorem dJ6_bitCount_0f7a4_1 : decode cJ6_bitCount_0f7a4 1 = .ok (.iload_n 0, 1) := by decide +kernel
theorem dJ6_bitCount_0f7a4_2 : decode cJ6_bitCount_0f7a4 2 = .ok (.iconst 1, 1) := by decide +kernel
theorem dJ6_bitCount_0f7a4_3 : decode cJ6_bitCount_0f7a4 3 = .ok (.iushr, 1) := by decide +kernel
theorem dJ6_bitCount_0f7a4_4 : decode cJ6_bitCount_0f7a4 4 = .ok (.ldc_w 265, 3) := by decide +kernel
theorem dJ6_bitCount_0f7a4_7 : decode cJ6_bitCount_0f7a4 7 = .ok (.iand, 1) := by decide +kernel
theorem dJ6_bitCount_0f7a4_8 : decode cJ6_bitCount_0f7a4 8 = .ok (.isub, 1) := by decide +kernel
theorem dJ6_bitCount_0f7a4_9 : decode cJ6_bitCount_0f7a4 9 = .ok (.istore_n 0, 1) := by decide +kernel
theorem dJ6_bitCount_0f7a4_10 : decode cJ6_bitCount_0f7a4 10 = .ok (.iload_n 0, 1) := by decide +kernel
theorem dJ6_bitCount_0f7a4_11 : decode cJ6_bitCount_0f7a4 11 = .ok (.ldc_w 266, 3) := by decide +kernel
theorem dJ6_bitCount_0f7a4_14 : decode cJ6_bitCount_0f7a4 14 = .ok (.iand, 1) := by decide +kernel
theorem dJ6_bitCount_0f7a4_15 : decode cJ6_bitCount_0f7a4 15 = .ok (.iload_n 0, 1) := by decide +kernel
theorem dJ6_bitCount_0f7a4_16 : decode cJ6_bitCount_0f7a4 16 = .ok (.iconst 2, 1) := by decide +kernel
theorem dJ6_bitCount_0f7a4_17 : decode cJ6_bitCount_0f7a4 17 = .ok (.iushr, 1) := by decide +kernel
theorem dJ6_bitCount_0f7a4_18 : decode cJ6_bitCount_0f7a4 18 = .ok (.ldc_w 266, 3) := by decide +kernel
theorem dJ6_bitCount_0f7a4_21 : decode cJ6_bitCount_0f7a4 21 = .ok (.iand, 1) := by decide +kernel
theorem dJ6_bitCount_0f7a4_22 : decode cJ6_bitCount_0f7a4 22 = .ok (.iadd, 1) := by decide +kernel
theorem dJ6_bitCount_0f7a4_23 : decode cJ6_bitCount_0f7a4 23 = .ok (.istore_n 0, 1) := by decide +kernel
theorem dJ6_bitCount_0f7a4_24 : decode cJ6_bitCount_0f7a4 24 = .ok (.iload_n 0, 1) := by decide +kernel
theorem dJ6_bitCount_0f7a4_25 : decode cJ6_bitCount_0f7a4 25 = .ok (.iload_n 0, 1) := by decide +kernel
theorem dJ6_bitCount_0f7a4_26 : decode cJ6_bitCount_0f7a4 26 = .ok (.iconst 4, 1) := by decide +kernel
theorem dJ6_bitCount_0f7a4_27 : decode cJ6_bitCount_0f7a4 27 = .ok (.iushr, 1) := by decide +kernel
theorem dJ6_bitCount_0f7a4_28 : decode cJ6_bitCount_0f7a4 28 = .ok (.iadd, 1) := by decide +kernel
theorem dJ6_bitCount_0f7a4_29 : decode cJ6_bitCount_0f7a4 29 = .ok (.ldc_w 267, 3) := by decide +kernel
theorem dJ6_bitCount_0f7a4_32 : decode cJ6_bitCount_0f7a4 32 = .ok (.iand, 1) := by decide +kernel
theorem dJ6_bitCount_0f7a4_33 : decode cJ6_bitCount_0f7a4 33 = .ok (.istore_n 0, 1) := by decide +kernel
theorem dJ6_bitCount_0f7a4_34 : decode cJ6_bitCount_0f7a4 34 = .ok (.iload_n 0, 1) := by decide +kernel
theorem dJ6_bitCount_0f7a4_35 : decode cJ6_bitCount_0f7a4 35 = .ok (.iload_n 0, 1) := by decide +kernel
theorem dJ6_bitCount_0f7a4_36 : decode cJ6_bitCount_0f7a4 36 = .ok (.bipush 8, 2) := by decide +kernel
theorem dJ6_bitCount_0f7a4_38 : decode cJ6_bitCount_0f7a4 38 = .ok (.iushr, 1) := by decide +kernel
theorem dJ6_bitCount_0f7a4_39 : decode cJ6_bitCount_0f7a4 39 = .ok (.iadd, 1) := by decide +kernel
theorem dJ6_bitCount_0f7a4_40 : decode cJ6_bitCount_0f7a4 40 = .ok (.istore_n 0, 1) := by decide +kernel
theorem dJ6_bitCount_0f7a4_41 : decode cJ6_bitCount_0f7a4 41 = .ok (.iload_n 0, 1) := by decide +kernel
theorem dJ6_bitCount_0f7a4_42 : decode cJ6_bitCount_0f7a4 42 = .ok (.iload_n 0, 1) := by decide +kernel
theorem dJ6_bitCount_0f7a4_43 : decode cJ6_bitCount_0f7a4 43 = .ok (.bipush 16, 2) := by decide +kernel
theorem dJ6_bitCount_0f7a4_45 : decode cJ6_bitCount_0f7a4 45 = .ok (.iushr, 1) := by decide +kernel
theorem dJ6_bitCount_0f7a4_46 : decode cJ6_bitCount_0f7a4 46 = .ok (.iadd, 1) := by decide +kernel
theorem dJ6_bitCount_0f7a4_47 : decode cJ6_bitCount_0f7a4 47 = .ok (.istore_n 0, 1) := by decide +kernel
theorem dJ6_bitCount_0f7a4_48 : decode cJ6_bitCount_0f7a4 48 = .ok (.iload_n 0, 1) := by decide +kernel
theorem dJ6_bitCount_0f7a4_49 : decode cJ6_bitCount_0f7a4 49 = .ok (.bipush 63, 2) := by decide +kernel
theorem dJ6_bitCount_0f7a4_51 : decode cJ6_bitCount_0f7a4 51 = .ok (.iand, 1) := by decide +kernel
theorem dJ6_bitCount_0f7a4_52 : decode cJ6_bitCount_0f7a4 52 = .ok (.ireturn, 1) := by decide +kernel
theorem dX11_choir_0 : decode cX11_choir 0 = .ok (.aload_n 0, 1) := by decide +kernel
theorem dX11_choir_1 : decode cX11_choir 1 = .ok (.iload_n 1, 1) := by decide +kernel
theorem dX11_choir_2 : decode cX11_choir 2 = .ok (.iconst 1, 1) := by decide +kernel
theorem dX11_choir_3 : decode cX11_choir 3 = .ok (.bipush 30, 2) := by decide +kernel
theorem dX11_choir_5 : decode cX11_choir 5 = .ok (.invokevirtual 221, 3) := by decide +kernel
theorem dX11_choir_8 : decode cX11_choir 8 = .ok (.ifCond .ne 5, 3) := by decide +kernel
theorem dX11_choir_11 : decode cX11_choir 11 = .ok (.iconst (-1), 1) := by decide +kernel
theorem dX11_choir_12 : decode cX11_choir 12 = .ok (.ireturn, 1) := by decide +kernel
theorem dX11_choir_13 : decode cX11_choir 13 = .ok (.iconst 0, 1) := by decide +kernel
theorem dX11_choir_14 : decode cX11_choir 14 = .ok (.istore_n 2, 1) := by decide +kernel
theorem dX11_choir_15 : decode cX11_choir 15 = .ok (.iload_n 2, 1) := by decide +kernel
theorem dX11_choir_16 : decode cX11_choir 16 = .ok (.aload_n 0, 1) := by decide +kernel
theorem dX11_choir_17 : decode cX11_choir 17 = .ok (.getfield 26, 3) := by decide +kernel
theorem dX11_choir_20 : decode cX11_choir 20 = .ok (.getfield 120, 3) := by decide +kernel
theorem dX11_choir_23 : decode cX11_choir 23 = .ok (.if_icmp .gt 49, 3) := by decide +kernel
theorem dX11_choir_26 : decode cX11_choir 26 = .ok (.iconst 0, 1) := by decide +kernel
theorem dX11_choir_27 : decode cX11_choir 27 = .ok (.istore_n 3, 1) := by decide +kernel
theorem dX11_choir_28 : decode cX11_choir 28 = .ok (.iload_n 3, 1) := by decide +kernel
theorem dX11_choir_29 : decode cX11_choir 29 = .ok (.iconst 1, 1) := by decide +kernel
theorem dX11_choir_30 : decode cX11_choir 30 = .ok (.aload_n 0, 1) := by decide +kernel
theorem dX11_choir_31 : decode cX11_choir 31 = .ok (.getfield 26, 3) := by decide +kernel
theorem dX11_choir_34 : decode cX11_choir 34 = .ok (.getfield 120, 3) := by decide +kernel
theorem dX11_choir_37 : decode cX11_choir 37 = .ok (.ishl, 1) := by decide +kernel
theorem dX11_choir_38 : decode cX11_choir 38 = .ok (.if_icmp .ge 28, 3) := by decide +kernel
theorem dX11_choir_41 : decode cX11_choir 41 = .ok (.iload_n 3, 1) := by decide +kernel
theorem dX11_choir_42 : decode cX11_choir 42 = .ok (.invokestatic 243, 3) := by decide +kernel
theorem dX11_choir_45 : decode cX11_choir 45 = .ok (.iload_n 2, 1) := by decide +kernel
theorem dX11_choir_46 : decode cX11_choir 46 = .ok (.if_icmp .ne 14, 3) := by decide +kernel
theorem dX11_choir_49 : decode cX11_choir 49 = .ok (.aload_n 0, 1) := by decide +kernel
theorem dX11_choir_50 : decode cX11_choir 50 = .ok (.iload_n 3, 1) := by decide +kernel
theorem dX11_choir_51 : decode cX11_choir 51 = .ok (.iload_n 1, 1) := by decide +kernel
theorem dX11_choir_52 : decode cX11_choir 52 = .ok (.invokevirtual 248, 3) := by decide +kernel
theorem dX11_choir_55 : decode cX11_choir 55 = .ok (.ifCond .eq 5, 3) := by decide +kernel
theorem dX11_choir_58 : decode cX11_choir 58 = .ok (.iload_n 3, 1) := by decide +kernel
theorem dX11_choir_59 : decode cX11_choir 59 = .ok (.ireturn, 1) := by decide +kernel
theorem dX11_choir_60 : decode cX11_choir 60 = .ok (.iinc 3 1, 3) := by decide +kernel
theorem dX11_choir_63 : decode cX11_choir 63 = .ok (.goto (-35), 3) := by decide +kernel
theorem dX11_choir_66 : decode cX11_choir 66 = .ok (.iinc 2 1, 3) := by decide +kernel
theorem dX11_choir_69 : decode cX11_choir 69 = .ok (.goto (-54), 3) := by decide +kernel
theorem dX11_choir_72 : decode cX11_choir 72 = .ok (.iconst (-1), 1) := by decide +kernel
theorem dX11_choir_73 : decode cX11_choir 73 = .ok (.ireturn, 1) := by decide +kernel
theorem dX6_breakVoice_0 : decode cX6_breakVoice 0 = .ok (.aload_n 0, 1) := by decide +kernel
theorem dX6_breakVoice_1 : decode cX6_breakVoice 1 = .ok (.iload_n 1, 1) := by decide +kernel
theorem dX6_breakVoice_2 : decode cX6_breakVoice 2 = .ok (.invokevirtual 89, 3) := by decide +kernel
theorem dX6_breakVoice_5 : decode cX6_breakVoice 5 = .ok (.istore_n 2, 1) := by decide +kernel
theorem dX6_breakVoice_6 : decode cX6_breakVoice 6 = .ok (.aload_n 0, 1) := by decide +kernel
theorem dX6_breakVoice_7 : decode cX6_breakVoice 7 = .ok (.getfield 15, 3) := by decide +kernel
theorem dX6_breakVoice_10 : decode cX6_breakVoice 10 = .ok (.iload_n 1, 1) := by decide +kernel
theorem dX6_breakVoice_11 : decode cX6_breakVoice 11 = .ok (.iconst 1, 1) := by decide +kernel
theorem dX6_breakVoice_12 : decode cX6_breakVoice 12 = .ok (.iastore, 1) := by decide +kernel
theorem dX6_breakVoice_13 : decode cX6_breakVoice 13 = .ok (.iload_n 2, 1) := by decide +kernel
theorem dX6_breakVoice_14 : decode cX6_breakVoice 14 = .ok (.iconst (-1), 1) := by decide +kernel
theorem dX6_breakVoice_15 : decode cX6_breakVoice 15 = .ok (.if_icmp .eq 9, 3) := by decide +kernel
theorem dX6_breakVoice_18 : decode cX6_breakVoice 18 = .ok (.aload_n 0, 1) := by decide +kernel
theorem dX6_breakVoice_19 : decode cX6_breakVoice 19 = .ok (.iload_n 2, 1) := by decide +kernel
theorem dX6_breakVoice_20 : decode cX6_breakVoice 20 = .ok (.iconst 5, 1) := by decide +kernel
theorem dX6_breakVoice_21 : decode cX6_breakVoice 21 = .ok (.invokevirtual 136, 3) := by decide +kernel
theorem dX6_breakVoice_24 : decode cX6_breakVoice 24 = .ok (.return_, 1) := by decide +kernel
theorem dX11_worst_0 : decode cX11_worst 0 = .ok (.aload_n 0, 1) := by decide +kernel
theorem dX11_worst_1 : decode cX11_worst 1 = .ok (.iload_n 1, 1) := by decide +kernel
theorem dX11_worst_2 : decode cX11_worst 2 = .ok (.iconst 1, 1) := by decide +kernel
theorem dX11_worst_3 : decode cX11_worst 3 = .ok (.bipush 30, 2) := by decide +kernel
theorem dX11_worst_5 : decode cX11_worst 5 = .ok (.invokevirtual 221, 3) := by decide +kernel
theorem dX11_worst_8 : decode cX11_worst 8 = .ok (.ifCond .eq 12, 3) := by decide +kernel
theorem dX11_worst_11 : decode cX11_worst 11 = .ok (.iload_n 2, 1) := by decide +kernel
theorem dX11_worst_12 : decode cX11_worst 12 = .ok (.ifCond .lt 8, 3) := by decide +kernel
theorem dX11_worst_15 : decode cX11_worst 15 = .ok (.iload_n 2, 1) := by decide +kernel
theorem dX11_worst_16 : decode cX11_worst 16 = .ok (.iconst 1, 1) := by decide +kernel
theorem dX11_worst_17 : decode cX11_worst 17 = .ok (.if_icmp .le 5, 3) := by decide +kernel
theorem dX11_worst_20 : decode cX11_worst 20 = .ok (.iconst (-1), 1) := by decide +kernel
theorem dX11_worst_21 : decode cX11_worst 21 = .ok (.ireturn, 1) := by decide +kernel
theorem dX11_worst_22 : decode cX11_worst 22 = .ok (.iconst (-1), 1) := by decide +kernel
theorem dX11_worst_23 : decode cX11_worst 23 = .ok (.istore_n 3, 1) := by decide +kernel
theorem dX11_worst_24 : decode cX11_worst 24 = .ok (.iconst (-1), 1) := by decide +kernel
theorem dX11_worst_25 : decode cX11_worst 25 = .ok (.istore 4, 2) := by decide +kernel
theorem dX11_worst_27 : decode cX11_worst 27 = .ok (.iconst 0, 1) := by decide +kernel
theorem dX11_worst_28 : decode cX11_worst 28 = .ok (.istore 5, 2) := by decide +kernel
theorem dX11_worst_30 : decode cX11_worst 30 = .ok (.iload 5, 2) := by decide +kernel
theorem dX11_worst_32 : decode cX11_worst 32 = .ok (.aload_n 0, 1) := by decide +kernel
theorem dX11_worst_33 : decode cX11_worst 33 = .ok (.getfield 26, 3) := by decide +kernel
theorem dX11_worst_36 : decode cX11_worst 36 = .ok (.getfield 120, 3) := by decide +kernel
theorem dX11_worst_39 : decode cX11_worst 39 = .ok (.if_icmp .ge 71, 3) := by decide +kernel
theorem dX11_worst_42 : decode cX11_worst 42 = .ok (.aload_n 0, 1) := by decide +kernel
theorem dX11_worst_43 : decode cX11_worst 43 = .ok (.getfield 35, 3) := by decide +kernel
theorem dX11_worst_46 : decode cX11_worst 46 = .ok (.getfield 170, 3) := by decide +kernel
theorem dX11_worst_49 : decode cX11_worst 49 = .ok (.iload 5, 2) := by decide +kernel
theorem dX11_worst_51 : decode cX11_worst 51 = .ok (.iaload, 1) := by decide +kernel
theorem dX11_worst_52 : decode cX11_worst 52 = .ok (.ifCond .ne 52, 3) := by decide +kernel
theorem dX11_worst_55 : decode cX11_worst 55 = .ok (.aload_n 0, 1) := by decide +kernel
theorem dX11_worst_56 : decode cX11_worst 56 = .ok (.invokevirtual 225, 3) := by decide +kernel
theorem dX11_worst_59 : decode cX11_worst 59 = .ok (.astore 6, 2) := by decide +kernel
theorem dX11_worst_61 : decode cX11_worst 61 = .ok (.aload 6, 2) := by decide +kernel
theorem dX11_worst_63 : decode cX11_worst 63 = .ok (.iload 5, 2) := by decide +kernel
theorem dX11_worst_65 : decode cX11_worst 65 = .ok (.invokevirtual 252, 3) := by decide +kernel
theorem dX11_worst_68 : decode cX11_worst 68 = .ok (.aload 6, 2) := by decide +kernel
theorem dX11_worst_70 : decode cX11_worst 70 = .ok (.iload_n 1, 1) := by decide +kernel
theorem dX11_worst_71 : decode cX11_worst 71 = .ok (.invokevirtual 229, 3) := by decide +kernel
theorem dX11_worst_74 : decode cX11_worst 74 = .ok (.pop, 1) := by decide +kernel
theorem dX11_worst_75 : decode cX11_worst 75 = .ok (.aload 6, 2) := by decide +kernel
theorem dX11_worst_77 : decode cX11_worst 77 = .ok (.iconst 4, 1) := by decide +kernel
theorem dX11_worst_78 : decode cX11_worst 78 = .ok (.invokevirtual 139, 3) := by decide +kernel
theorem dX11_worst_81 : decode cX11_worst 81 = .ok (.aload 6, 2) := by decide +kernel
theorem dX11_worst_83 : decode cX11_worst 83 = .ok (.iconst 5, 1) := by decide +kernel
theorem dX11_worst_84 : decode cX11_worst 84 = .ok (.invokevirtual 139, 3) := by decide +kernel
theorem dX11_worst_87 : decode cX11_worst 87 = .ok (.iadd, 1) := by decide +kernel
theorem dX11_worst_88 : decode cX11_worst 88 = .ok (.istore 7, 2) := by decide +kernel
theorem dX11_worst_90 : decode cX11_worst 90 = .ok (.iload 7, 2) := by decide +kernel
theorem dX11_worst_92 : decode cX11_worst 92 = .ok (.iload 4, 2) := by decide +kernel
theorem dX11_worst_94 : decode cX11_worst 94 = .ok (.if_icmp .le 10, 3) := by decide +kernel
theorem dX11_worst_97 : decode cX11_worst 97 = .ok (.iload 7, 2) := by decide +kernel
theorem dX11_worst_99 : decode cX11_worst 99 = .ok (.istore 4, 2) := by decide +kernel
theorem dX11_worst_101 : decode cX11_worst 101 = .ok (.iload 5, 2) := by decide +kernel
theorem dX11_worst_103 : decode cX11_worst 103 = .ok (.istore_n 3, 1) := by decide +kernel
theorem dX11_worst_104 : decode cX11_worst 104 = .ok (.iinc 5 1, 3) := by decide +kernel
theorem dX11_worst_107 : decode cX11_worst 107 = .ok (.goto (-77), 3) := by decide +kernel
theorem dX11_worst_110 : decode cX11_worst 110 = .ok (.iload_n 2, 1) := by decide +kernel
theorem dX11_worst_111 : decode cX11_worst 111 = .ok (.ifCond .ne 7, 3) := by decide +kernel
theorem dX11_worst_114 : decode cX11_worst 114 = .ok (.iload_n 3, 1) := by decide +kernel
theorem dX11_worst_115 : decode cX11_worst 115 = .ok (.goto 5, 3) := by decide +kernel
theorem dX11_worst_118 : decode cX11_worst 118 = .ok (.iload 4, 2) := by decide +kernel
theorem dX11_worst_120 : decode cX11_worst 120 = .ok (.ireturn, 1) := by decide +kernel
theorem dX11_tune_0 : decode cX11_tune 0 = .ok (.aload_n 0, 1) := by decide +kernel
theorem dX11_tune_1 : decode cX11_tune 1 = .ok (.iload_n 1, 1) := by decide +kernel
theorem dX11_tune_2 : decode cX11_tune 2 = .ok (.invokevirtual 149, 3) := by decide +kernel
theorem dX11_tune_5 : decode cX11_tune 5 = .ok (.ifCond .eq 23, 3) := by decide +kernel
theorem dX11_tune_8 : decode cX11_tune 8 = .ok (.aload_n 0, 1) := by decide +kernel
theorem dX11_tune_9 : decode cX11_tune 9 = .ok (.iload_n 2, 1) := by decide +kernel
theorem dX11_tune_10 : decode cX11_tune 10 = .ok (.iconst 1, 1) := by decide +kernel
theorem dX11_tune_11 : decode cX11_tune 11 = .ok (.bipush 30, 2) := by decide +kernel
theorem dX11_tune_13 : decode cX11_tune 13 = .ok (.invokevirtual 221, 3) := by decide +kernel
theorem dX11_tune_16 : decode cX11_tune 16 = .ok (.ifCond .eq 12, 3) := by decide +kernel
theorem dX11_tune_19 : decode cX11_tune 19 = .ok (.iload_n 3, 1) := by decide +kernel
theorem dX11_tune_20 : decode cX11_tune 20 = .ok (.ifCond .lt 8, 3) := by decide +kernel
theorem dX11_tune_23 : decode cX11_tune 23 = .ok (.iload_n 3, 1) := by decide +kernel
theorem dX11_tune_24 : decode cX11_tune 24 = .ok (.iconst 1, 1) := by decide +kernel
theorem dX11_tune_25 : decode cX11_tune 25 = .ok (.if_icmp .le 5, 3) := by decide +kernel
theorem dX11_tune_28 : decode cX11_tune 28 = .ok (.iconst (-1), 1) := by decide +kernel
theorem dX11_tune_29 : decode cX11_tune 29 = .ok (.ireturn, 1) := by decide +kernel
theorem dX11_tune_30 : decode cX11_tune 30 = .ok (.iconst (-1), 1) := by decide +kernel
theorem dX11_tune_31 : decode cX11_tune 31 = .ok (.istore 4, 2) := by decide +kernel
theorem dX11_tune_33 : decode cX11_tune 33 = .ok (.iconst (-1), 1) := by decide +kernel
theorem dX11_tune_34 : decode cX11_tune 34 = .ok (.istore 5, 2) := by decide +kernel
theorem dX11_tune_36 : decode cX11_tune 36 = .ok (.iconst 0, 1) := by decide +kernel
theorem dX11_tune_37 : decode cX11_tune 37 = .ok (.istore 6, 2) := by decide +kernel
theorem dX11_tune_39 : decode cX11_tune 39 = .ok (.iload 6, 2) := by decide +kernel
theorem dX11_tune_41 : decode cX11_tune 41 = .ok (.bipush 10, 2) := by decide +kernel
theorem dX11_tune_43 : decode cX11_tune 43 = .ok (.if_icmp .ge 54, 3) := by decide +kernel
theorem dX11_tune_46 : decode cX11_tune 46 = .ok (.aload_n 0, 1) := by decide +kernel
theorem dX11_tune_47 : decode cX11_tune 47 = .ok (.invokevirtual 225, 3) := by decide +kernel
theorem dX11_tune_50 : decode cX11_tune 50 = .ok (.astore 7, 2) := by decide +kernel
theorem dX11_tune_52 : decode cX11_tune 52 = .ok (.aload 7, 2) := by decide +kernel
theorem dX11_tune_54 : decode cX11_tune 54 = .ok (.getfield 167, 3) := by decide +kernel
theorem dX11_tune_57 : decode cX11_tune 57 = .ok (.iload_n 1, 1) := by decide +kernel
theorem dX11_tune_58 : decode cX11_tune 58 = .ok (.iload 6, 2) := by decide +kernel
theorem dX11_tune_60 : decode cX11_tune 60 = .ok (.iastore, 1) := by decide +kernel
theorem dX11_tune_61 : decode cX11_tune 61 = .ok (.aload 7, 2) := by decide +kernel
theorem dX11_tune_63 : decode cX11_tune 63 = .ok (.iload_n 2, 1) := by decide +kernel
theorem dX11_tune_64 : decode cX11_tune 64 = .ok (.invokevirtual 229, 3) := by decide +kernel
theorem dX11_tune_67 : decode cX11_tune 67 = .ok (.pop, 1) := by decide +kernel
theorem dX11_tune_68 : decode cX11_tune 68 = .ok (.aload 7, 2) := by decide +kernel
theorem dX11_tune_70 : decode cX11_tune 70 = .ok (.iconst 3, 1) := by decide +kernel
theorem dX11_tune_71 : decode cX11_tune 71 = .ok (.invokevirtual 139, 3) := by decide +kernel
theorem dX11_tune_74 : decode cX11_tune 74 = .ok (.istore 8, 2) := by decide +kernel
theorem dX11_tune_76 : decode cX11_tune 76 = .ok (.iload 8, 2) := by decide +kernel
theorem dX11_tune_78 : decode cX11_tune 78 = .ok (.iload 5, 2) := by decide +kernel
theorem dX11_tune_80 : decode cX11_tune 80 = .ok (.if_icmp .le 11, 3) := by decide +kernel
theorem dX11_tune_83 : decode cX11_tune 83 = .ok (.iload 8, 2) := by decide +kernel
theorem dX11_tune_85 : decode cX11_tune 85 = .ok (.istore 5, 2) := by decide +kernel
theorem dX11_tune_87 : decode cX11_tune 87 = .ok (.iload 6, 2) := by decide +kernel
theorem dX11_tune_89 : decode cX11_tune 89 = .ok (.istore 4, 2) := by decide +kernel
theorem dX11_tune_91 : decode cX11_tune 91 = .ok (.iinc 6 1, 3) := by decide +kernel
theorem dX11_tune_94 : decode cX11_tune 94 = .ok (.goto (-55), 3) := by decide +kernel
theorem dX11_tune_97 : decode cX11_tune 97 = .ok (.iload_n 3, 1) := by decide +kernel
theorem dX11_tune_98 : decode cX11_tune 98 = .ok (.ifCond .ne 8, 3) := by decide +kernel
theorem dX11_tune_101 : decode cX11_tune 101 = .ok (.iload 4, 2) := by decide +kernel
theorem dX11_tune_103 : decode cX11_tune 103 = .ok (.goto 5, 3) := by decide +kernel
theorem dX11_tune_106 : decode cX11_tune 106 = .ok (.iload 5, 2) := by decide +kernel
theorem dX11_tune_108 : decode cX11_tune 108 = .ok (.ireturn, 1) := by decide +kernel
theorem dX1_needing_0 : decode cX1_needing 0 = .ok (.aload_n 0, 1) := by decide +kernel
theorem dX1_needing_1 : decode cX1_needing 1 = .ok (.invokevirtual 27, 3) := by decide +kernel
theorem dX1_needing_4 : decode cX1_needing 4 = .ok (.iconst 0, 1) := by decide +kernel
theorem dX1_needing_5 : decode cX1_needing 5 = .ok (.istore_n 2, 1) := by decide +kernel
theorem dX1_needing_6 : decode cX1_needing 6 = .ok (.iconst 0, 1) := by decide +kernel
theorem dX1_needing_7 : decode cX1_needing 7 = .ok (.istore_n 3, 1) := by decide +kernel
theorem dX1_needing_8 : decode cX1_needing 8 = .ok (.iload_n 3, 1) := by decide +kernel
theorem dX1_needing_9 : decode cX1_needing 9 = .ok (.aload_n 0, 1) := by decide +kernel
theorem dX1_needing_10 : decode cX1_needing 10 = .ok (.getfield 19, 3) := by decide +kernel
theorem dX1_needing_13 : decode cX1_needing 13 = .ok (.getfield 30, 3) := by decide +kernel
theorem dX1_needing_16 : decode cX1_needing 16 = .ok (.if_icmp .ge 68, 3) := by decide +kernel
theorem dX1_needing_19 : decode cX1_needing 19 = .ok (.iconst 0, 1) := by decide +kernel
theorem dX1_needing_20 : decode cX1_needing 20 = .ok (.istore 4, 2) := by decide +kernel
theorem dX1_needing_22 : decode cX1_needing 22 = .ok (.iconst 0, 1) := by decide +kernel
theorem dX1_needing_23 : decode cX1_needing 23 = .ok (.istore 5, 2) := by decide +kernel
theorem dX1_needing_25 : decode cX1_needing 25 = .ok (.iload 5, 2) := by decide +kernel
theorem dX1_needing_27 : decode cX1_needing 27 = .ok (.aload_n 0, 1) := by decide +kernel
theorem dX1_needing_28 : decode cX1_needing 28 = .ok (.getfield 19, 3) := by decide +kernel
theorem dX1_needing_31 : decode cX1_needing 31 = .ok (.getfield 36, 3) := by decide +kernel
theorem dX1_needing_34 : decode cX1_needing 34 = .ok (.if_icmp .ge 24, 3) := by decide +kernel
theorem dX1_needing_37 : decode cX1_needing 37 = .ok (.aload_n 0, 1) := by decide +kernel
theorem dX1_needing_38 : decode cX1_needing 38 = .ok (.getfield 16, 3) := by decide +kernel
theorem dX1_needing_41 : decode cX1_needing 41 = .ok (.iload_n 3, 1) := by decide +kernel
theorem dX1_needing_42 : decode cX1_needing 42 = .ok (.aaload, 1) := by decide +kernel
theorem dX1_needing_43 : decode cX1_needing 43 = .ok (.iload 5, 2) := by decide +kernel
theorem dX1_needing_45 : decode cX1_needing 45 = .ok (.iaload, 1) := by decide +kernel
theorem dX1_needing_46 : decode cX1_needing 46 = .ok (.ifCond .le 6, 3) := by decide +kernel
theorem dX1_needing_49 : decode cX1_needing 49 = .ok (.iinc 4 1, 3) := by decide +kernel
theorem dX1_needing_52 : decode cX1_needing 52 = .ok (.iinc 5 1, 3) := by decide +kernel
theorem dX1_needing_55 : decode cX1_needing 55 = .ok (.goto (-30), 3) := by decide +kernel
theorem dX1_needing_58 : decode cX1_needing 58 = .ok (.iload 4, 2) := by decide +kernel
theorem dX1_needing_60 : decode cX1_needing 60 = .ok (.iconst 1, 1) := by decide +kernel
theorem dX1_needing_61 : decode cX1_needing 61 = .ok (.if_icmp .ne 17, 3) := by decide +kernel
theorem dX1_needing_64 : decode cX1_needing 64 = .ok (.aload_n 0, 1) := by decide +kernel
theorem dX1_needing_65 : decode cX1_needing 65 = .ok (.getfield 16, 3) := by decide +kernel
theorem dX1_needing_68 : decode cX1_needing 68 = .ok (.iload_n 3, 1) := by decide +kernel
theorem dX1_needing_69 : decode cX1_needing 69 = .ok (.aaload, 1) := by decide +kernel
theorem dX1_needing_70 : decode cX1_needing 70 = .ok (.iload_n 1, 1) := by decide +kernel
theorem dX1_needing_71 : decode cX1_needing 71 = .ok (.iaload, 1) := by decide +kernel
theorem dX1_needing_72 : decode cX1_needing 72 = .ok (.ifCond .le 6, 3) := by decide +kernel
theorem dX1_needing_75 : decode cX1_needing 75 = .ok (.iinc 2 1, 3) := by decide +kernel
theorem dX1_needing_78 : decode cX1_needing 78 = .ok (.iinc 3 1, 3) := by decide +kernel
theorem dX1_needing_81 : decode cX1_needing 81 = .ok (.goto (-73), 3) := by decide +kernel
theorem dX1_needing_84 : decode cX1_needing 84 = .ok (.iload_n 2, 1) := by decide +kernel
theorem dX1_needing_85 : decode cX1_needing 85 = .ok (.ireturn, 1) := by decide +kernel
theorem dX11_needed_0 : decode cX11_needed 0 = .ok (.aload_n 0, 1) := by decide +kernel
theorem dX11_needed_1 : decode cX11_needed 1 = .ok (.iload_n 1, 1) := by decide +kernel
theorem dX11_needed_2 : decode cX11_needed 2 = .ok (.invokevirtual 149, 3) := by decide +kernel
theorem dX11_needed_5 : decode cX11_needed 5 = .ok (.ifCond .eq 14, 3) := by decide +kernel
theorem dX11_needed_8 : decode cX11_needed 8 = .ok (.aload_n 0, 1) := by decide +kernel
theorem dX11_needed_9 : decode cX11_needed 9 = .ok (.getfield 54, 3) := by decide +kernel
theorem dX11_needed_12 : decode cX11_needed 12 = .ok (.iload_n 1, 1) := by decide +kernel
theorem dX11_needed_13 : decode cX11_needed 13 = .ok (.invokevirtual 255, 3) := by decide +kernel
theorem dX11_needed_16 : decode cX11_needed 16 = .ok (.goto 4, 3) := by decide +kernel
theorem dX11_needed_19 : decode cX11_needed 19 = .ok (.iconst (-1), 1) := by decide +kernel
theorem dX11_needed_20 : decode cX11_needed 20 = .ok (.ireturn, 1) := by decide +kernel
section
variable {σ : Nat → Nat} {p : Program} {l : Launch} {e : Env} {s : State} {m : MethodId} {args : Array Value} {below : List Frame} {meth : Method} {c : Code} {D : va_G} {E : Nat → ClassId} {b : Nat}
set_option maxHeartbeats 4000000 in
set_option maxRecDepth 20000 in
theorem c_x_X_fresh (l : Launch) {M : Mem} {M0 : Mem} (h : x_X_fresh M = some M0) : Ct l yX11_fresh cX11_fresh 1 (some (.object "ThrownVoices$State")) 3 105 vwCl xSh xN xRf (xExt σ) (fun b => [vR b 0]) M (fun b => (some (vR b 51))) M0 := by
  refine Ct_of (xExtOK σ) (by decide) (fun b => Nat.le_of_ble_eq_true rfl) ?_
  intro p e s m args below meth c D E b C hr
  unfold x_X_fresh at h
  refine (show xWX p l e 3 105 s m args below meth c 1 D E b (some (vR b 51)) M0 M 0 [(0, vR b 0)] [] from ?_)
  refine r_aload_n (pc := 0) C 0 rfl rfl dX11_fresh_0 ?_
  refine r_getR (pc := 1) C fl_RX11_39 x_s0 (by decide) x_kX_4 x_r0_4 dX11_fresh_1 ?_
  refine r_aload_n (pc := 4) C 0 rfl rfl dX11_fresh_4 ?_
  refine r_getR (pc := 5) C fl_RX11_35 x_s0 (by decide) x_kX_3 x_r0_3 dX11_fresh_5 ?_
  obtain ⟨M1, hq1, h⟩ := bnd_inv h
  refine r_callV (pc := 8) (rest := []) (st1 := []) C (xExtOK σ b) [vR b 38] (c_x_State_copyFrom l 51 38 x_m51 x_m38 hq1) cl_RX11_300 x_s51 (by decide) rfl rfl rfl rfl ⟨Nat.le_of_ble_eq_true rfl, Nat.le_of_ble_eq_true rfl⟩ (Nat.le_of_ble_eq_true rfl) rfl rfl dX11_fresh_8 ?_
  refine r_aload_n (pc := 11) C 0 rfl rfl dX11_fresh_11 ?_
  refine r_getR (pc := 12) C fl_RX11_39 x_s0 (by decide) x_kX_4 x_r0_4 dX11_fresh_12 ?_
  have e := Option.some.inj h
  exact r_aret (pc := 15) C hr ⟨_, rfl⟩ rfl e.symm dX11_fresh_15
set_option maxHeartbeats 4000000 in
set_option maxRecDepth 20000 in
theorem c_x_State_conclude (l : Launch) (th : Nat) (hth : th ∈ xI_State) {x1 : Int} {x2 : Int} {M : Mem} {M0 : Mem} (h : x_State_conclude th x1 x2 M = some M0) : Ct l yX6_conclude cX6_conclude 3 none 1 12 vwCl xSh xN xRf (xExt σ) (fun b => [vR b th, vI x1, vI x2]) M (fun b => none) M0 := by
  refine Ct_of (xExtOK σ) (by decide) (fun b => Nat.le_of_ble_eq_true rfl) ?_
  intro p e s m args below meth c D E b C hr
  unfold x_State_conclude at h
  refine (show xWX p l e 1 12 s m args below meth c 3 D E b none M0 M 0 [(0, vR b th), (1, vI x1), (2, vI x2)] [] from ?_)
  refine r_aload_n (pc := 0) C 0 rfl rfl dX6_conclude_0 ?_
  refine r_getR (pc := 1) C fl_RX6_21 (x_sI_State hth) (x_nI_State hth) x_kState_3 (x_rI_State_3 hth) dX6_conclude_1 ?_
  refine r_iload_n (pc := 4) C 1 rfl rfl dX6_conclude_4 ?_
  refine r_iload_n (pc := 5) C 2 rfl rfl dX6_conclude_5 ?_
  obtain ⟨hi6, h⟩ := chk_inv h
  obtain ⟨M_6, hM_6, h⟩ := lt_inv h
  refine r_iast (pc := 6) C (x_aI_State_3 hth) (x_bI_State_3 hth) (by decide) hi6 rfl hM_6 dX6_conclude_6 ?_
  refine r_aload_n (pc := 7) C 0 rfl rfl dX6_conclude_7 ?_
  refine r_getR (pc := 8) C fl_RX6_33 (x_sI_State hth) (x_nI_State hth) x_kState_7 (x_rI_State_7 hth) dX6_conclude_8 ?_
  refine r_iload_n (pc := 11) C 1 rfl rfl dX6_conclude_11 ?_
  refine r_iconst (pc := 12) C dX6_conclude_12 ?_
  obtain ⟨hi13, h⟩ := chk_inv h
  obtain ⟨M_13, hM_13, h⟩ := lt_inv h
  refine r_iast (pc := 13) C (x_aI_State_7 hth) (x_bI_State_7 hth) (by decide) hi13 rfl hM_13 dX6_conclude_13 ?_
  refine r_aload_n (pc := 14) C 0 rfl rfl dX6_conclude_14 ?_
  refine r_getI (pc := 15) C fl_RX6_72 (x_sI_State hth) (x_nI_State hth) x_kState_12 dX6_conclude_15 ?_
  refine r_bipush (pc := 18) (j := 12) C (by decide +kernel) dX6_conclude_18 ?_
  refine r_icmp_ge (pc := 20) (tgt := 66) C h dX6_conclude_20 (by decide) (fun hc20 h => ?_) (fun hc20 h => ?_)
  · have e := Option.some.inj h
    exact r_vret (pc := 66) C hr rfl e.symm dX6_conclude_66
  · refine r_aload_n (pc := 23) C 0 rfl rfl dX6_conclude_23 ?_
    refine r_getR (pc := 24) C fl_RX6_39 (x_sI_State hth) (x_nI_State hth) x_kState_9 (x_rI_State_9 hth) dX6_conclude_24 ?_
    refine r_aload_n (pc := 27) C 0 rfl rfl dX6_conclude_27 ?_
    refine r_getI (pc := 28) C fl_RX6_72 (x_sI_State hth) (x_nI_State hth) x_kState_12 dX6_conclude_28 ?_
    refine r_aload_n (pc := 31) C 0 rfl rfl dX6_conclude_31 ?_
    refine r_getI (pc := 32) C fl_RX6_76 (x_sI_State hth) (x_nI_State hth) x_kState_13 dX6_conclude_32 ?_
    obtain ⟨hi35, h⟩ := chk_inv h
    obtain ⟨M_35, hM_35, h⟩ := lt_inv h
    refine r_iast (pc := 35) C (x_aI_State_9 hth) (x_bI_State_9 hth) (by decide) hi35 rfl hM_35 dX6_conclude_35 ?_
    refine r_aload_n (pc := 36) C 0 rfl rfl dX6_conclude_36 ?_
    refine r_getR (pc := 37) C fl_RX6_42 (x_sI_State hth) (x_nI_State hth) x_kState_10 (x_rI_State_10 hth) dX6_conclude_37 ?_
    refine r_aload_n (pc := 40) C 0 rfl rfl dX6_conclude_40 ?_
    refine r_getI (pc := 41) C fl_RX6_72 (x_sI_State hth) (x_nI_State hth) x_kState_12 dX6_conclude_41 ?_
    refine r_iload_n (pc := 44) C 1 rfl rfl dX6_conclude_44 ?_
    obtain ⟨hi45, h⟩ := chk_inv h
    obtain ⟨M_45, hM_45, h⟩ := lt_inv h
    refine r_iast (pc := 45) C (x_aI_State_10 hth) (x_bI_State_10 hth) (by decide) hi45 rfl hM_45 dX6_conclude_45 ?_
    refine r_aload_n (pc := 46) C 0 rfl rfl dX6_conclude_46 ?_
    refine r_getR (pc := 47) C fl_RX6_45 (x_sI_State hth) (x_nI_State hth) x_kState_11 (x_rI_State_11 hth) dX6_conclude_47 ?_
    refine r_aload_n (pc := 50) C 0 rfl rfl dX6_conclude_50 ?_
    refine r_getI (pc := 51) C fl_RX6_72 (x_sI_State hth) (x_nI_State hth) x_kState_12 dX6_conclude_51 ?_
    refine r_iload_n (pc := 54) C 2 rfl rfl dX6_conclude_54 ?_
    obtain ⟨hi55, h⟩ := chk_inv h
    obtain ⟨M_55, hM_55, h⟩ := lt_inv h
    refine r_iast (pc := 55) C (x_aI_State_11 hth) (x_bI_State_11 hth) (by decide) hi55 rfl hM_55 dX6_conclude_55 ?_
    refine r_aload_n (pc := 56) C 0 rfl rfl dX6_conclude_56 ?_
    refine r_dup (pc := 57) C rfl dX6_conclude_57 ?_
    refine r_getI (pc := 58) C fl_RX6_72 (x_sI_State hth) (x_nI_State hth) x_kState_12 dX6_conclude_58 ?_
    refine r_iconst (pc := 61) C dX6_conclude_61 ?_
    refine r_iadd (pc := 62) C dX6_conclude_62 ?_
    obtain ⟨M_63, hM_63, h⟩ := lt_inv h
    refine r_putI (pc := 63) C fl_RX6_72 x_ft6 x_w6_12 (x_sI_State hth) (x_nI_State hth) x_kState_12 hM_63 dX6_conclude_63 ?_
    have e := Option.some.inj h
    exact r_vret (pc := 66) C hr rfl e.symm dX6_conclude_66
set_option maxHeartbeats 4000000 in
set_option maxRecDepth 20000 in
theorem c_x_State_isFree (l : Launch) (th : Nat) (hth : th ∈ xI_State) {x1 : Int} {M : Mem} {r0 : Bool} (h : x_State_isFree th x1 M = some r0) : Ct l yX6_isFree cX6_isFree 2 (some .boolean) 2 34 vwCl xSh xN xRf (xExt σ) (fun b => [vR b th, vI x1]) M (fun b => (some (vB r0))) M := by
  refine Ct_of (xExtOK σ) (by decide) (fun b => Nat.le_of_ble_eq_true rfl) ?_
  intro p e s m args below meth c D E b C hr
  unfold x_State_isFree at h
  refine (show xWX p l e 2 34 s m args below meth c 2 D E b (some (vB r0)) M M 0 [(0, vR b th), (1, vI x1)] [] from ?_)
  refine r_aload_n (pc := 0) C 0 rfl rfl dX6_isFree_0 ?_
  refine r_getR (pc := 1) C fl_RX6_15 (x_sI_State hth) (x_nI_State hth) x_kState_1 (x_rI_State_1 hth) dX6_isFree_1 ?_
  refine r_iload_n (pc := 4) C 1 rfl rfl dX6_isFree_4 ?_
  obtain ⟨hi5, h⟩ := chk_inv h
  refine r_iald (pc := 5) C (x_aI_State_1 hth) (x_bI_State_1 hth) (by decide) hi5 rfl dX6_isFree_5 ?_
  refine r_if_ne (pc := 6) (tgt := 22) C h dX6_isFree_6 (by decide) (fun hc6 h => ?_) (fun hc6 h => ?_)
  · refine r_iconst (pc := 22) C dX6_isFree_22 ?_
    have e := Option.some.inj h
    exact r_zret (pc := 23) C hr (Or.inl rfl) (congrArg (fun z => some (vB z)) e.symm) rfl dX6_isFree_23
  · refine r_aload_n (pc := 9) C 0 rfl rfl dX6_isFree_9 ?_
    refine r_iload_n (pc := 10) C 1 rfl rfl dX6_isFree_10 ?_
    obtain ⟨r1, hq1, h⟩ := bnd_inv h
    refine r_callV (pc := 11) (rest := []) (st1 := [vI r1]) C (xExtOK σ b) [vI x1] (c_x_State_sayingBy l th hth hq1) cl_RX6_89 (x_sI_State hth) (x_nI_State hth) rfl rfl rfl rfl ⟨Nat.le_of_ble_eq_true rfl, Nat.le_of_ble_eq_true rfl⟩ (Nat.le_of_ble_eq_true rfl) rfl rfl dX6_isFree_11 ?_
    refine r_iconst (pc := 14) C dX6_isFree_14 ?_
    refine r_icmp_ne (pc := 15) (tgt := 22) C h dX6_isFree_15 (by decide) (fun hc15 h => ?_) (fun hc15 h => ?_)
    · refine r_iconst (pc := 22) C dX6_isFree_22 ?_
      have e := Option.some.inj h
      exact r_zret (pc := 23) C hr (Or.inl rfl) (congrArg (fun z => some (vB z)) e.symm) rfl dX6_isFree_23
    · refine r_iconst (pc := 18) C dX6_isFree_18 ?_
      refine r_goto (pc := 19) (tgt := 23) C dX6_isFree_19 (by decide) ?_
      have e := Option.some.inj h
      exact r_zret (pc := 23) C hr (Or.inr rfl) (congrArg (fun z => some (vB z)) e.symm) rfl dX6_isFree_23
set_option maxHeartbeats 4000000 in
set_option maxRecDepth 20000 in
theorem c_x_State_isMixed (l : Launch) (th : Nat) (hth : th ∈ xI_State) {x1 : Int} {x2 : Int} {M : Mem} {r0 : Bool} {M0 : Mem} (h : x_State_isMixed th x1 x2 M = some (r0, M0)) : Ct l yX6_isMixed cX6_isMixed 3 (some .boolean) 4 83 vwCl xSh xN xRf (xExt σ) (fun b => [vR b th, vI x1, vI x2]) M (fun b => (some (vB r0))) M0 := by
  refine Ct_of (xExtOK σ) (by decide) (fun b => Nat.le_of_ble_eq_true rfl) ?_
  intro p e s m args below meth c D E b C hr
  unfold x_State_isMixed at h
  refine (show xWX p l e 4 83 s m args below meth c 3 D E b (some (vB r0)) M0 M 0 [(0, vR b th), (1, vI x1), (2, vI x2)] [] from ?_)
  refine r_aload_n (pc := 0) C 0 rfl rfl dX6_isMixed_0 ?_
  refine r_getR (pc := 1) C fl_RX6_48 (x_sI_State hth) (x_nI_State hth) x_kState_14 (x_rI_State_14 hth) dX6_isMixed_1 ?_
  refine r_getR (pc := 4) C fl_RX6_92 x_s23 (by decide) x_kTown_12 x_r23_12 dX6_isMixed_4 ?_
  refine r_iconst (pc := 7) C dX6_isMixed_7 ?_
  obtain ⟨r1, hq1, h⟩ := bnd_inv h
  refine r_callV (pc := 8) (rest := []) (st1 := [vB r1]) C (xExtOK σ b) [vI 1] (c_x_Rules_isTold l 32 x_m32 hq1) cl_RX6_96 x_s32 (by decide) rfl rfl rfl rfl ⟨Nat.le_of_ble_eq_true rfl, Nat.le_of_ble_eq_true rfl⟩ (Nat.le_of_ble_eq_true rfl) rfl rfl dX6_isMixed_8 ?_
  refine r_if_neB (pc := 11) (tgt := 16) C h dX6_isMixed_11 (by decide) (fun hc11 h => ?_) (fun hc11 h => ?_)
  · refine r_aload_n (pc := 16) C 0 rfl rfl dX6_isMixed_16 ?_
    refine r_iload_n (pc := 17) C 1 rfl rfl dX6_isMixed_17 ?_
    obtain ⟨M2, hq2, h⟩ := bnd_inv h
    refine r_callV (pc := 18) (rest := []) (st1 := []) C (xExtOK σ b) [vI x1] (c_x_State_know l th hth hq2) cl_RX6_110 (x_sI_State hth) (x_nI_State hth) rfl rfl rfl rfl ⟨Nat.le_of_ble_eq_true rfl, Nat.le_of_ble_eq_true rfl⟩ (Nat.le_of_ble_eq_true rfl) rfl rfl dX6_isMixed_18 ?_
    refine r_aload_n (pc := 21) C 0 rfl rfl dX6_isMixed_21 ?_
    refine r_getR (pc := 22) C fl_RX6_48 (x_sI_State hth) (x_nI_State hth) x_kState_14 (x_rI_State_14 hth) dX6_isMixed_22 ?_
    refine r_getR (pc := 25) C fl_RX6_92 x_s23 (by decide) x_kTown_12 x_r23_12 dX6_isMixed_25 ?_
    refine r_getR (pc := 28) C fl_RX6_114 x_s32 (by decide) x_kRules_0 x_r32_0 dX6_isMixed_28 ?_
    refine r_bipush (pc := 31) (j := 7) C (by decide +kernel) dX6_isMixed_31 ?_
    refine r_aload_n (pc := 33) C 0 rfl rfl dX6_isMixed_33 ?_
    refine r_getR (pc := 34) C fl_RX6_9 (x_sI_State hth) (x_nI_State hth) x_kState_0 (x_rI_State_0 hth) dX6_isMixed_34 ?_
    refine r_iload_n (pc := 37) C 2 rfl rfl dX6_isMixed_37 ?_
    obtain ⟨hi38, h⟩ := chk_inv h
    refine r_iald (pc := 38) C (x_aI_State_0 hth) (x_bI_State_0 hth) (by decide) hi38 rfl dX6_isMixed_38 ?_
    obtain ⟨M_39, hM_39, h⟩ := lt_inv h
    refine r_iast (pc := 39) C x_s33 (by decide) (by decide) (by decide) rfl hM_39 dX6_isMixed_39 ?_
    refine r_aload_n (pc := 40) C 0 rfl rfl dX6_isMixed_40 ?_
    refine r_getR (pc := 41) C fl_RX6_48 (x_sI_State hth) (x_nI_State hth) x_kState_14 (x_rI_State_14 hth) dX6_isMixed_41 ?_
    refine r_getR (pc := 44) C fl_RX6_92 x_s23 (by decide) x_kTown_12 x_r23_12 dX6_isMixed_44 ?_
    refine r_getR (pc := 47) C fl_RX6_114 x_s32 (by decide) x_kRules_0 x_r32_0 dX6_isMixed_47 ?_
    refine r_bipush (pc := 50) (j := 15) C (by decide +kernel) dX6_isMixed_50 ?_
    refine r_aload_n (pc := 52) C 0 rfl rfl dX6_isMixed_52 ?_
    obtain ⟨r3, hq3, h⟩ := bnd_inv h
    refine r_callV (pc := 53) (rest := [vI 15, vR b 33]) (st1 := [vI r3, vI 15, vR b 33]) C (xExtOK σ b) [] (c_x_State_busyCount l th hth hq3) cl_RX6_156 (x_sI_State hth) (x_nI_State hth) rfl rfl rfl rfl ⟨Nat.le_of_ble_eq_true rfl, Nat.le_of_ble_eq_true rfl⟩ (Nat.le_of_ble_eq_true rfl) rfl rfl dX6_isMixed_53 ?_
    obtain ⟨M_56, hM_56, h⟩ := lt_inv h
    refine r_iast (pc := 56) C x_s33 (by decide) (by decide) (by decide) rfl hM_56 dX6_isMixed_56 ?_
    refine r_aload_n (pc := 57) C 0 rfl rfl dX6_isMixed_57 ?_
    refine r_getR (pc := 58) C fl_RX6_48 (x_sI_State hth) (x_nI_State hth) x_kState_14 (x_rI_State_14 hth) dX6_isMixed_58 ?_
    refine r_getR (pc := 61) C fl_RX6_92 x_s23 (by decide) x_kTown_12 x_r23_12 dX6_isMixed_61 ?_
    refine r_iconst (pc := 64) C dX6_isMixed_64 ?_
    obtain ⟨r4, M4, hq4, h⟩ := bnd2_inv h
    refine r_callV (pc := 65) (rest := []) (st1 := [vI r4]) C (xExtOK σ b) [vI 1] (c_x_Rules_value l 32 x_m32 hq4) cl_RX6_119 x_s32 (by decide) rfl rfl rfl rfl ⟨Nat.le_of_ble_eq_true rfl, Nat.le_of_ble_eq_true rfl⟩ (Nat.le_of_ble_eq_true rfl) rfl rfl dX6_isMixed_65 ?_
    refine r_if_eq (pc := 68) (tgt := 75) C h dX6_isMixed_68 (by decide) (fun hc68 h => ?_) (fun hc68 h => ?_)
    · refine r_iconst (pc := 75) C dX6_isMixed_75 ?_
      have e := Option.some.inj h
      exact r_zret (pc := 76) C hr (Or.inl rfl) (congrArg (fun z => some (vB z)) (Prod.mk.inj e).1.symm) (Prod.mk.inj e).2.symm dX6_isMixed_76
    · refine r_iconst (pc := 71) C dX6_isMixed_71 ?_
      refine r_goto (pc := 72) (tgt := 76) C dX6_isMixed_72 (by decide) ?_
      have e := Option.some.inj h
      exact r_zret (pc := 76) C hr (Or.inr rfl) (congrArg (fun z => some (vB z)) (Prod.mk.inj e).1.symm) (Prod.mk.inj e).2.symm dX6_isMixed_76
  · refine r_iconst (pc := 14) C dX6_isMixed_14 ?_
    have e := Option.some.inj h
    exact r_zret (pc := 15) C hr (Or.inl rfl) (congrArg (fun z => some (vB z)) (Prod.mk.inj e).1.symm) (Prod.mk.inj e).2.symm dX6_isMixed_15
set_option maxHeartbeats 4000000 in
set_option maxRecDepth 20000 in
theorem w_x_State_give_L8_s (C : xCX σ p s m args meth c cX6_give 7 RX6 D E b) (hr : meth.sig.returnType = none) {M0 : Mem} (th : Nat) (hth : th ∈ xI_State) {v1 : Int} {v2 : Int} {v3 : Int} {v4 : Int} {v5 : Int} {M : Mem} {q : Int × Int × Int × Mem} {rec : Int → Int → Int → Mem → Option (Int × Int × Int × Mem)} (hrec : ∀ (v3 : Int) (v4 : Int) (v5 : Int) (M : Mem), rec v3 v4 v5 M = some q → xWX p l e 5 105 s m args below meth c 7 D E b none M0 M 8 [(0, vR b th), (1, vI v1), (2, vI v2), (3, vI v3), (4, vI v4), (5, vI v5)] []) (hfol : ∀ (v3 : Int) (v4 : Int) (v5 : Int) (M : Mem), q = (v3, v4, v5, M) → xWX p l e 5 105 s m args below meth c 7 D E b none M0 M 67 [(0, vR b th), (1, vI v1), (3, vI v3)] []) (h : x_State_give_L8 th v1 v2 rec v3 v4 v5 M = some q) :
    xWX p l e 5 105 s m args below meth c 7 D E b none M0 M 8 [(0, vR b th), (1, vI v1), (2, vI v2), (3, vI v3), (4, vI v4), (5, vI v5)] [] := by
  unfold x_State_give_L8 at h
  refine r_iload (pc := 8) C 5 rfl dX6_give_8 ?_
  refine r_aload_n (pc := 10) C 0 rfl rfl dX6_give_10 ?_
  refine r_getR (pc := 11) C fl_RX6_48 (x_sI_State hth) (x_nI_State hth) x_kState_14 (x_rI_State_14 hth) dX6_give_11 ?_
  refine r_getI (pc := 14) C fl_RX6_82 x_s23 (by decide) x_kTown_0 dX6_give_14 ?_
  refine r_icmp_ge (pc := 17) (tgt := 67) C h dX6_give_17 (by decide) (fun hc17 h => ?_) (fun hc17 h => ?_)
  · refine r_sub (lv' := [(0, vR b th), (1, vI v1), (3, vI v3)]) [0, 1, 3] rfl ?_
    exact hfol _ _ _ _ (Option.some.inj h).symm
  · refine r_iload_n (pc := 20) C 2 rfl rfl dX6_give_20 ?_
    refine r_iload (pc := 21) C 5 rfl dX6_give_21 ?_
    refine r_ishr (pc := 23) C dX6_give_23 ?_
    refine r_iconst (pc := 24) C dX6_give_24 ?_
    refine r_iand (pc := 25) C dX6_give_25 ?_
    refine r_if_eq (pc := 26) (tgt := 61) C h dX6_give_26 (by decide) (fun hc26 h => ?_) (fun hc26 h => ?_)
    · obtain ⟨v5_61, hv5_61, h⟩ := lt_inv h
      refine r_iincN (pc := 61) (y := v5_61) (lv' := [(5, vI v5_61), (0, vR b th), (1, vI v1), (2, vI v2), (3, vI v3), (4, vI v4)]) C 5 rfl hv5_61 dX6_give_61 (by decide) rfl ?_
      refine r_goto (pc := 64) (tgt := 8) C dX6_give_64 (by decide) ?_
      refine r_sub (lv' := [(0, vR b th), (1, vI v1), (2, vI v2), (3, vI v3), (4, vI v4), (5, vI v5_61)]) [1, 2, 3, 4, 5, 0] rfl ?_
      exact hrec _ _ _ _ h
    · refine r_aload_n (pc := 29) C 0 rfl rfl dX6_give_29 ?_
      refine r_iload (pc := 30) C 5 rfl dX6_give_30 ?_
      obtain ⟨r1, hq1, h⟩ := bnd_inv h
      refine r_callV (pc := 32) (rest := []) (st1 := [vB r1]) C (xExtOK σ b) [vI v5] (c_x_State_isFree l th hth hq1) cl_RX6_143 (x_sI_State hth) (x_nI_State hth) rfl rfl rfl rfl ⟨Nat.le_of_ble_eq_true rfl, Nat.le_of_ble_eq_true rfl⟩ (Nat.le_of_ble_eq_true rfl) rfl rfl dX6_give_32 ?_
      refine r_if_eqB (pc := 35) (tgt := 61) C h dX6_give_35 (by decide) (fun hc35 h => ?_) (fun hc35 h => ?_)
      · refine r_aload_n (pc := 38) C 0 rfl rfl dX6_give_38 ?_
        refine r_iload_n (pc := 39) C 1 rfl rfl dX6_give_39 ?_
        refine r_iload (pc := 40) C 5 rfl dX6_give_40 ?_
        obtain ⟨r2, M2, hq2, h⟩ := bnd2_inv h
        refine r_callV (pc := 42) (rest := []) (st1 := [vI r2]) C (xExtOK σ b) [vI v1, vI v5] (c_x_State_sumOfPicks l th hth hq2) cl_RX6_146 (x_sI_State hth) (x_nI_State hth) rfl rfl rfl rfl ⟨Nat.le_of_ble_eq_true rfl, Nat.le_of_ble_eq_true rfl⟩ (Nat.le_of_ble_eq_true rfl) rfl rfl dX6_give_42 ?_
        refine r_istore (pc := 45) (lv' := [(6, vI r2), (0, vR b th), (1, vI v1), (2, vI v2), (3, vI v3), (4, vI v4), (5, vI v5)]) C dX6_give_45 (by decide) rfl ?_
        refine r_iload (pc := 47) C 0 rfl dX6_give_47 ?_
        refine r_iload (pc := 49) C 5 rfl dX6_give_49 ?_
        refine r_icmp_le (pc := 51) (tgt := 61) C h dX6_give_51 (by decide) (fun hc51 h => ?_) (fun hc51 h => ?_)
        · obtain ⟨v5_61, hv5_61, h⟩ := lt_inv h
          refine r_iincN (pc := 61) (y := v5_61) (lv' := [(5, vI v5_61), (6, vI r2), (0, vR b th), (1, vI v1), (2, vI v2), (3, vI v3), (4, vI v4)]) C 6 rfl hv5_61 dX6_give_61 (by decide) rfl ?_
          refine r_goto (pc := 64) (tgt := 8) C dX6_give_64 (by decide) ?_
          refine r_sub (lv' := [(0, vR b th), (1, vI v1), (2, vI v2), (3, vI v3), (4, vI v4), (5, vI v5_61)]) [2, 3, 4, 5, 6, 0] rfl ?_
          exact hrec _ _ _ _ h
        · refine r_iload (pc := 54) C 0 rfl dX6_give_54 ?_
          refine r_istore (pc := 56) (lv' := [(4, vI r2), (6, vI r2), (0, vR b th), (1, vI v1), (2, vI v2), (3, vI v3), (5, vI v5)]) C dX6_give_56 (by decide) rfl ?_
          refine r_iload (pc := 58) C 6 rfl dX6_give_58 ?_
          refine r_istore_n (pc := 60) (lv' := [(3, vI v5), (4, vI r2), (6, vI r2), (0, vR b th), (1, vI v1), (2, vI v2), (5, vI v5)]) C rfl dX6_give_60 (by decide) rfl ?_
          obtain ⟨v5_61, hv5_61, h⟩ := lt_inv h
          refine r_iincN (pc := 61) (y := v5_61) (lv' := [(5, vI v5_61), (3, vI v5), (4, vI r2), (6, vI r2), (0, vR b th), (1, vI v1), (2, vI v2)]) C 6 rfl hv5_61 dX6_give_61 (by decide) rfl ?_
          refine r_goto (pc := 64) (tgt := 8) C dX6_give_64 (by decide) ?_
          refine r_sub (lv' := [(0, vR b th), (1, vI v1), (2, vI v2), (3, vI v5), (4, vI r2), (5, vI v5_61)]) [4, 5, 6, 1, 2, 0] rfl ?_
          exact hrec _ _ _ _ h
      · obtain ⟨v5_61, hv5_61, h⟩ := lt_inv h
        refine r_iincN (pc := 61) (y := v5_61) (lv' := [(5, vI v5_61), (0, vR b th), (1, vI v1), (2, vI v2), (3, vI v3), (4, vI v4)]) C 5 rfl hv5_61 dX6_give_61 (by decide) rfl ?_
        refine r_goto (pc := 64) (tgt := 8) C dX6_give_64 (by decide) ?_
        refine r_sub (lv' := [(0, vR b th), (1, vI v1), (2, vI v2), (3, vI v3), (4, vI v4), (5, vI v5_61)]) [1, 2, 3, 4, 5, 0] rfl ?_
        exact hrec _ _ _ _ h
set_option maxHeartbeats 4000000 in
theorem w_x_State_give_L8 (C : xCX σ p s m args meth c cX6_give 7 RX6 D E b) (hr : meth.sig.returnType = none) {M0 : Mem} (th : Nat) (hth : th ∈ xI_State) {v1 : Int} {v2 : Int} {q : Int × Int × Int × Mem} (hfol : ∀ (v3 : Int) (v4 : Int) (v5 : Int) (M : Mem), q = (v3, v4, v5, M) → xWX p l e 5 105 s m args below meth c 7 D E b none M0 M 67 [(0, vR b th), (1, vI v1), (3, vI v3)] []) : ∀ (n : Nat) (v3 : Int) (v4 : Int) (v5 : Int) (M : Mem), itr4 (x_State_give_L8 th v1 v2) n v3 v4 v5 M = some q →
    xWX p l e 5 105 s m args below meth c 7 D E b none M0 M 8 [(0, vR b th), (1, vI v1), (2, vI v2), (3, vI v3), (4, vI v4), (5, vI v5)] [] := by
  intro n
  induction n with
  | zero => exact fun _ _ _ _ h => itr_z h
  | succ n ih => exact fun _ _ _ _ h => w_x_State_give_L8_s C hr th hth ih hfol h
set_option maxHeartbeats 4000000 in
set_option maxRecDepth 20000 in
theorem c_x_State_give (l : Launch) (th : Nat) (hth : th ∈ xI_State) {x1 : Int} {x2 : Int} {M : Mem} {M0 : Mem} (h : x_State_give th x1 x2 M = some M0) : Ct l yX6_give cX6_give 7 none 5 105 vwCl xSh xN xRf (xExt σ) (fun b => [vR b th, vI x1, vI x2]) M (fun b => none) M0 := by
  refine Ct_of (xExtOK σ) (by decide) (fun b => Nat.le_of_ble_eq_true rfl) ?_
  intro p e s m args below meth c D E b C hr
  unfold x_State_give at h
  refine (show xWX p l e 5 105 s m args below meth c 7 D E b none M0 M 0 [(0, vR b th), (1, vI x1), (2, vI x2)] [] from ?_)
  refine r_iconst (pc := 0) C dX6_give_0 ?_
  refine r_istore_n (pc := 1) (lv' := [(3, vI (-1)), (0, vR b th), (1, vI x1), (2, vI x2)]) C rfl dX6_give_1 (by decide) rfl ?_
  refine r_iconst (pc := 2) C dX6_give_2 ?_
  refine r_istore (pc := 3) (lv' := [(4, vI 0), (3, vI (-1)), (0, vR b th), (1, vI x1), (2, vI x2)]) C dX6_give_3 (by decide) rfl ?_
  refine r_iconst (pc := 5) C dX6_give_5 ?_
  refine r_istore (pc := 6) (lv' := [(5, vI 0), (4, vI 0), (3, vI (-1)), (0, vR b th), (1, vI x1), (2, vI x2)]) C dX6_give_6 (by decide) rfl ?_
  refine r_sub (lv' := [(0, vR b th), (1, vI x1), (2, vI x2), (3, vI (-1)), (4, vI 0), (5, vI 0)]) [3, 4, 5, 2, 1, 0] rfl ?_
  obtain ⟨q3, hl3, h⟩ := bnd_inv h
  refine w_x_State_give_L8 C hr th hth (fun v3_3 v4_3 v5_3 M_3 hq => ?_) FUEL _ _ _ _ hl3
  have hq := hq.symm
  subst hq
  refine r_iload_n (pc := 67) C 2 rfl rfl dX6_give_67 ?_
  refine r_iconst (pc := 68) C dX6_give_68 ?_
  refine r_icmp_ne (pc := 69) (tgt := 73) C h dX6_give_69 (by decide) (fun hc69 h => ?_) (fun hc69 h => ?_)
  · refine r_aload_n (pc := 73) C 0 rfl rfl dX6_give_73 ?_
    refine r_getR (pc := 74) C fl_RX6_21 (x_sI_State hth) (x_nI_State hth) x_kState_3 (x_rI_State_3 hth) dX6_give_74 ?_
    refine r_iload_n (pc := 77) C 1 rfl rfl dX6_give_77 ?_
    refine r_iconst (pc := 78) C dX6_give_78 ?_
    obtain ⟨hi79, h⟩ := chk_inv h
    obtain ⟨M_79, hM_79, h⟩ := lt_inv h
    refine r_iast (pc := 79) C (x_aI_State_3 hth) (x_bI_State_3 hth) (by decide) hi79 rfl hM_79 dX6_give_79 ?_
    refine r_aload_n (pc := 80) C 0 rfl rfl dX6_give_80 ?_
    refine r_getR (pc := 81) C fl_RX6_30 (x_sI_State hth) (x_nI_State hth) x_kState_6 (x_rI_State_6 hth) dX6_give_81 ?_
    refine r_iload_n (pc := 84) C 1 rfl rfl dX6_give_84 ?_
    refine r_iload_n (pc := 85) C 2 rfl rfl dX6_give_85 ?_
    obtain ⟨hi86, h⟩ := chk_inv h
    obtain ⟨M_86, hM_86, h⟩ := lt_inv h
    refine r_iast (pc := 86) C (x_aI_State_6 hth) (x_bI_State_6 hth) (by decide) hi86 rfl hM_86 dX6_give_86 ?_
    refine r_aload_n (pc := 87) C 0 rfl rfl dX6_give_87 ?_
    refine r_getR (pc := 88) C fl_RX6_33 (x_sI_State hth) (x_nI_State hth) x_kState_7 (x_rI_State_7 hth) dX6_give_88 ?_
    refine r_iload_n (pc := 91) C 1 rfl rfl dX6_give_91 ?_
    refine r_aload_n (pc := 92) C 0 rfl rfl dX6_give_92 ?_
    refine r_getR (pc := 93) C fl_RX6_48 (x_sI_State hth) (x_nI_State hth) x_kState_14 (x_rI_State_14 hth) dX6_give_93 ?_
    refine r_getR (pc := 96) C fl_RX6_149 x_s23 (by decide) x_kTown_11 x_r23_11 dX6_give_96 ?_
    refine r_iload_n (pc := 99) C 1 rfl rfl dX6_give_99 ?_
    obtain ⟨hi100, h⟩ := chk_inv h
    refine r_iald (pc := 100) C x_s31 (by decide) (by decide) hi100 rfl dX6_give_100 ?_
    obtain ⟨hi101, h⟩ := chk_inv h
    obtain ⟨M_101, hM_101, h⟩ := lt_inv h
    refine r_iast (pc := 101) C (x_aI_State_7 hth) (x_bI_State_7 hth) (by decide) hi101 rfl hM_101 dX6_give_101 ?_
    refine r_aload_n (pc := 102) C 0 rfl rfl dX6_give_102 ?_
    refine r_getR (pc := 103) C fl_RX6_18 (x_sI_State hth) (x_nI_State hth) x_kState_2 (x_rI_State_2 hth) dX6_give_103 ?_
    refine r_iload_n (pc := 106) C 2 rfl rfl dX6_give_106 ?_
    refine r_bipush (pc := 107) (j := 99) C (by decide +kernel) dX6_give_107 ?_
    refine r_aload_n (pc := 109) C 0 rfl rfl dX6_give_109 ?_
    refine r_getR (pc := 110) C fl_RX6_18 (x_sI_State hth) (x_nI_State hth) x_kState_2 (x_rI_State_2 hth) dX6_give_110 ?_
    refine r_iload_n (pc := 113) C 2 rfl rfl dX6_give_113 ?_
    obtain ⟨hi114, h⟩ := chk_inv h
    refine r_iald (pc := 114) C (x_aI_State_2 hth) (x_bI_State_2 hth) (by decide) hi114 rfl dX6_give_114 ?_
    refine r_iconst (pc := 115) C dX6_give_115 ?_
    refine r_iadd (pc := 116) C dX6_give_116 ?_
    obtain ⟨r4, hq4, h⟩ := bnd_inv h
    refine r_callS (pc := 117) (rest := [vI v3_3, vR b (th + 3)]) (st1 := [vI r4, vI v3_3, vR b (th + 3)]) C (xExtOK σ b) [vI 99, vI ((M_101 (th + 3) v3_3.toNat) + 1)] (c_j_Math_min_7cf53 l hq4) cl_RX6_139 rfl rfl ⟨Nat.le_of_ble_eq_true rfl, Nat.le_of_ble_eq_true rfl⟩ (Nat.le_of_ble_eq_true rfl) rfl rfl dX6_give_117 ?_
    obtain ⟨hi120, h⟩ := chk_inv h
    obtain ⟨M_120, hM_120, h⟩ := lt_inv h
    refine r_iast (pc := 120) C (x_aI_State_2 hth) (x_bI_State_2 hth) (by decide) hi120 rfl hM_120 dX6_give_120 ?_
    refine r_aload_n (pc := 121) C 0 rfl rfl dX6_give_121 ?_
    refine r_getR (pc := 122) C fl_RX6_36 (x_sI_State hth) (x_nI_State hth) x_kState_8 (x_rI_State_8 hth) dX6_give_122 ?_
    refine r_iload_n (pc := 125) C 1 rfl rfl dX6_give_125 ?_
    refine r_aload_n (pc := 126) C 0 rfl rfl dX6_give_126 ?_
    refine r_iload_n (pc := 127) C 1 rfl rfl dX6_give_127 ?_
    refine r_iload_n (pc := 128) C 2 rfl rfl dX6_give_128 ?_
    obtain ⟨r5, M5, hq5, h⟩ := bnd2_inv h
    refine r_callV (pc := 129) (rest := [vI x1, vR b (th + 9)]) (st1 := [vB r5, vI x1, vR b (th + 9)]) C (xExtOK σ b) [vI x1, vI v3_3] (c_x_State_isMixed l th hth hq5) cl_RX6_152 (x_sI_State hth) (x_nI_State hth) rfl rfl rfl rfl ⟨Nat.le_of_ble_eq_true rfl, Nat.le_of_ble_eq_true rfl⟩ (Nat.le_of_ble_eq_true rfl) rfl rfl dX6_give_129 ?_
    refine r_if_eqB (pc := 132) (tgt := 139) C h dX6_give_132 (by decide) (fun hc132 h => ?_) (fun hc132 h => ?_)
    · refine r_iconst (pc := 135) C dX6_give_135 ?_
      refine r_goto (pc := 136) (tgt := 140) C dX6_give_136 (by decide) ?_
      obtain ⟨hi140, h⟩ := chk_inv h
      obtain ⟨M_140, hM_140, h⟩ := lt_inv h
      refine r_iast (pc := 140) C (x_aI_State_8 hth) (x_bI_State_8 hth) (by decide) hi140 rfl hM_140 dX6_give_140 ?_
      have e := Option.some.inj h
      exact r_vret (pc := 141) C hr rfl e.symm dX6_give_141
    · refine r_iconst (pc := 139) C dX6_give_139 ?_
      obtain ⟨hi140, h⟩ := chk_inv h
      obtain ⟨M_140, hM_140, h⟩ := lt_inv h
      refine r_iast (pc := 140) C (x_aI_State_8 hth) (x_bI_State_8 hth) (by decide) hi140 rfl hM_140 dX6_give_140 ?_
      have e := Option.some.inj h
      exact r_vret (pc := 141) C hr rfl e.symm dX6_give_141
  · have e := Option.some.inj h
    exact r_vret (pc := 72) C hr rfl e.symm dX6_give_72
set_option maxHeartbeats 4000000 in
set_option maxRecDepth 20000 in
theorem c_x_Town_calmOf (l : Launch) (th : Nat) (hth : th ∈ xI_Town) {x1 : Int} {M : Mem} {r0 : Int} (h : x_Town_calmOf th x1 M = some r0) : Ct l yX9_calmOf cX9_calmOf 3 (some .int) 1 12 vwCl xSh xN xRf (xExt σ) (fun b => [vR b th, vI x1]) M (fun b => (some (vI r0))) M := by
  refine Ct_of (xExtOK σ) (by decide) (fun b => Nat.le_of_ble_eq_true rfl) ?_
  intro p e s m args below meth c D E b C hr
  unfold x_Town_calmOf at h
  refine (show xWX p l e 1 12 s m args below meth c 3 D E b (some (vI r0)) M M 0 [(0, vR b th), (1, vI x1)] [] from ?_)
  refine r_aload_n (pc := 0) C 0 rfl rfl dX9_calmOf_0 ?_
  refine r_getR (pc := 1) C fl_RX9_27 (x_sI_Town hth) (x_nI_Town hth) x_kTown_9 (x_rI_Town_9 hth) dX9_calmOf_1 ?_
  refine r_iload_n (pc := 4) C 1 rfl rfl dX9_calmOf_4 ?_
  obtain ⟨hi5, h⟩ := chk_inv h
  refine r_iald (pc := 5) C (x_aI_Town_9 hth) (x_bI_Town_9 hth) (by decide) hi5 rfl dX9_calmOf_5 ?_
  obtain ⟨v2_6, hv2_6, h⟩ := lt_inv h
  refine r_topI hv2_6 ?_
  refine r_istore_n (pc := 6) (lv' := [(2, vI v2_6), (0, vR b th), (1, vI x1)]) C rfl dX9_calmOf_6 (by decide) rfl ?_
  refine r_iload_n (pc := 7) C 0 rfl rfl dX9_calmOf_7 ?_
  refine r_if_lt (pc := 8) (tgt := 26) C h dX9_calmOf_8 (by decide) (fun hc8 h => ?_) (fun hc8 h => ?_)
  · refine r_iconst (pc := 26) C dX9_calmOf_26 ?_
    have e := Option.some.inj h
    exact r_iret (pc := 27) C hr (congrArg (fun z => some (vI z)) e.symm) rfl dX9_calmOf_27
  · refine r_iload_n (pc := 11) C 0 rfl rfl dX9_calmOf_11 ?_
    refine r_bipush (pc := 12) (j := 8) C (by decide +kernel) dX9_calmOf_12 ?_
    refine r_icmp_ge (pc := 14) (tgt := 26) C h dX9_calmOf_14 (by decide) (fun hc14 h => ?_) (fun hc14 h => ?_)
    · refine r_iconst (pc := 26) C dX9_calmOf_26 ?_
      have e := Option.some.inj h
      exact r_iret (pc := 27) C hr (congrArg (fun z => some (vI z)) e.symm) rfl dX9_calmOf_27
    · refine r_aload_n (pc := 17) C 1 rfl rfl dX9_calmOf_17 ?_
      refine r_getR (pc := 18) C fl_RX9_24 (x_sI_Town hth) (x_nI_Town hth) x_kTown_8 (x_rI_Town_8 hth) dX9_calmOf_18 ?_
      refine r_iload_n (pc := 21) C 0 rfl rfl dX9_calmOf_21 ?_
      obtain ⟨hi22, h⟩ := chk_inv h
      refine r_iald (pc := 22) C (x_aI_Town_8 hth) (x_bI_Town_8 hth) (by decide) hi22 rfl dX9_calmOf_22 ?_
      refine r_goto (pc := 23) (tgt := 27) C dX9_calmOf_23 (by decide) ?_
      have e := Option.some.inj h
      exact r_iret (pc := 27) C hr (congrArg (fun z => some (vI z)) e.symm) rfl dX9_calmOf_27
set_option maxHeartbeats 4000000 in
set_option maxRecDepth 20000 in
theorem c_x_State_isHushed (l : Launch) (th : Nat) (hth : th ∈ xI_State) {x1 : Int} {M : Mem} {r0 : Bool} {M0 : Mem} (h : x_State_isHushed th x1 M = some (r0, M0)) : Ct l yX6_isHushed cX6_isHushed 2 (some .boolean) 4 83 vwCl xSh xN xRf (xExt σ) (fun b => [vR b th, vI x1]) M (fun b => (some (vB r0))) M0 := by
  refine Ct_of (xExtOK σ) (by decide) (fun b => Nat.le_of_ble_eq_true rfl) ?_
  intro p e s m args below meth c D E b C hr
  unfold x_State_isHushed at h
  refine (show xWX p l e 4 83 s m args below meth c 2 D E b (some (vB r0)) M0 M 0 [(0, vR b th), (1, vI x1)] [] from ?_)
  refine r_aload_n (pc := 0) C 0 rfl rfl dX6_isHushed_0 ?_
  refine r_getR (pc := 1) C fl_RX6_27 (x_sI_State hth) (x_nI_State hth) x_kState_5 (x_rI_State_5 hth) dX6_isHushed_1 ?_
  refine r_iload_n (pc := 4) C 1 rfl rfl dX6_isHushed_4 ?_
  refine r_bipush (pc := 5) (j := 99) C (by decide +kernel) dX6_isHushed_5 ?_
  refine r_aload_n (pc := 7) C 0 rfl rfl dX6_isHushed_7 ?_
  refine r_getR (pc := 8) C fl_RX6_27 (x_sI_State hth) (x_nI_State hth) x_kState_5 (x_rI_State_5 hth) dX6_isHushed_8 ?_
  refine r_iload_n (pc := 11) C 1 rfl rfl dX6_isHushed_11 ?_
  obtain ⟨hi12, h⟩ := chk_inv h
  refine r_iald (pc := 12) C (x_aI_State_5 hth) (x_bI_State_5 hth) (by decide) hi12 rfl dX6_isHushed_12 ?_
  refine r_iconst (pc := 13) C dX6_isHushed_13 ?_
  refine r_iadd (pc := 14) C dX6_isHushed_14 ?_
  obtain ⟨r1, hq1, h⟩ := bnd_inv h
  refine r_callS (pc := 15) (rest := [vI x1, vR b (th + 6)]) (st1 := [vI r1, vI x1, vR b (th + 6)]) C (xExtOK σ b) [vI 99, vI ((M (th + 6) x1.toNat) + 1)] (c_j_Math_min_7cf53 l hq1) cl_RX6_139 rfl rfl ⟨Nat.le_of_ble_eq_true rfl, Nat.le_of_ble_eq_true rfl⟩ (Nat.le_of_ble_eq_true rfl) rfl rfl dX6_isHushed_15 ?_
  obtain ⟨hi18, h⟩ := chk_inv h
  obtain ⟨M_18, hM_18, h⟩ := lt_inv h
  refine r_iast (pc := 18) C (x_aI_State_5 hth) (x_bI_State_5 hth) (by decide) hi18 rfl hM_18 dX6_isHushed_18 ?_
  refine r_aload_n (pc := 19) C 0 rfl rfl dX6_isHushed_19 ?_
  refine r_getR (pc := 20) C fl_RX6_48 (x_sI_State hth) (x_nI_State hth) x_kState_14 (x_rI_State_14 hth) dX6_isHushed_20 ?_
  refine r_getR (pc := 23) C fl_RX6_92 x_s23 (by decide) x_kTown_12 x_r23_12 dX6_isHushed_23 ?_
  refine r_iconst (pc := 26) C dX6_isHushed_26 ?_
  obtain ⟨r2, hq2, h⟩ := bnd_inv h
  refine r_callV (pc := 27) (rest := []) (st1 := [vB r2]) C (xExtOK σ b) [vI 2] (c_x_Rules_isTold l 32 x_m32 hq2) cl_RX6_96 x_s32 (by decide) rfl rfl rfl rfl ⟨Nat.le_of_ble_eq_true rfl, Nat.le_of_ble_eq_true rfl⟩ (Nat.le_of_ble_eq_true rfl) rfl rfl dX6_isHushed_27 ?_
  refine r_if_neB (pc := 30) (tgt := 56) C h dX6_isHushed_30 (by decide) (fun hc30 h => ?_) (fun hc30 h => ?_)
  · refine r_aload_n (pc := 56) C 0 rfl rfl dX6_isHushed_56 ?_
    refine r_iload_n (pc := 57) C 1 rfl rfl dX6_isHushed_57 ?_
    obtain ⟨M3, hq3, h⟩ := bnd_inv h
    refine r_callV (pc := 58) (rest := []) (st1 := []) C (xExtOK σ b) [vI x1] (c_x_State_know l th hth hq3) cl_RX6_110 (x_sI_State hth) (x_nI_State hth) rfl rfl rfl rfl ⟨Nat.le_of_ble_eq_true rfl, Nat.le_of_ble_eq_true rfl⟩ (Nat.le_of_ble_eq_true rfl) rfl rfl dX6_isHushed_58 ?_
    refine r_aload_n (pc := 61) C 0 rfl rfl dX6_isHushed_61 ?_
    refine r_getR (pc := 62) C fl_RX6_48 (x_sI_State hth) (x_nI_State hth) x_kState_14 (x_rI_State_14 hth) dX6_isHushed_62 ?_
    refine r_getR (pc := 65) C fl_RX6_92 x_s23 (by decide) x_kTown_12 x_r23_12 dX6_isHushed_65 ?_
    refine r_getR (pc := 68) C fl_RX6_114 x_s32 (by decide) x_kRules_0 x_r32_0 dX6_isHushed_68 ?_
    refine r_bipush (pc := 71) (j := 8) C (by decide +kernel) dX6_isHushed_71 ?_
    refine r_aload_n (pc := 73) C 0 rfl rfl dX6_isHushed_73 ?_
    refine r_getR (pc := 74) C fl_RX6_48 (x_sI_State hth) (x_nI_State hth) x_kState_14 (x_rI_State_14 hth) dX6_isHushed_74 ?_
    refine r_iload_n (pc := 77) C 1 rfl rfl dX6_isHushed_77 ?_
    obtain ⟨r4, hq4, h⟩ := bnd_inv h
    refine r_callV (pc := 78) (rest := [vI 8, vR b 33]) (st1 := [vI r4, vI 8, vR b 33]) C (xExtOK σ b) [vI x1] (c_x_Town_calmOf l 23 x_m23 hq4) cl_RX6_159 x_s23 (by decide) rfl rfl rfl rfl ⟨Nat.le_of_ble_eq_true rfl, Nat.le_of_ble_eq_true rfl⟩ (Nat.le_of_ble_eq_true rfl) rfl rfl dX6_isHushed_78 ?_
    obtain ⟨M_81, hM_81, h⟩ := lt_inv h
    refine r_iast (pc := 81) C x_s33 (by decide) (by decide) (by decide) rfl hM_81 dX6_isHushed_81 ?_
    refine r_aload_n (pc := 82) C 0 rfl rfl dX6_isHushed_82 ?_
    refine r_getR (pc := 83) C fl_RX6_48 (x_sI_State hth) (x_nI_State hth) x_kState_14 (x_rI_State_14 hth) dX6_isHushed_83 ?_
    refine r_getR (pc := 86) C fl_RX6_92 x_s23 (by decide) x_kTown_12 x_r23_12 dX6_isHushed_86 ?_
    refine r_iconst (pc := 89) C dX6_isHushed_89 ?_
    obtain ⟨r5, M5, hq5, h⟩ := bnd2_inv h
    refine r_callV (pc := 90) (rest := []) (st1 := [vI r5]) C (xExtOK σ b) [vI 2] (c_x_Rules_value l 32 x_m32 hq5) cl_RX6_119 x_s32 (by decide) rfl rfl rfl rfl ⟨Nat.le_of_ble_eq_true rfl, Nat.le_of_ble_eq_true rfl⟩ (Nat.le_of_ble_eq_true rfl) rfl rfl dX6_isHushed_90 ?_
    refine r_if_eq (pc := 93) (tgt := 100) C h dX6_isHushed_93 (by decide) (fun hc93 h => ?_) (fun hc93 h => ?_)
    · refine r_iconst (pc := 100) C dX6_isHushed_100 ?_
      have e := Option.some.inj h
      exact r_zret (pc := 101) C hr (Or.inl rfl) (congrArg (fun z => some (vB z)) (Prod.mk.inj e).1.symm) (Prod.mk.inj e).2.symm dX6_isHushed_101
    · refine r_iconst (pc := 96) C dX6_isHushed_96 ?_
      refine r_goto (pc := 97) (tgt := 101) C dX6_isHushed_97 (by decide) ?_
      have e := Option.some.inj h
      exact r_zret (pc := 101) C hr (Or.inr rfl) (congrArg (fun z => some (vB z)) (Prod.mk.inj e).1.symm) (Prod.mk.inj e).2.symm dX6_isHushed_101
  · refine r_aload_n (pc := 33) C 0 rfl rfl dX6_isHushed_33 ?_
    refine r_getR (pc := 34) C fl_RX6_27 (x_sI_State hth) (x_nI_State hth) x_kState_5 (x_rI_State_5 hth) dX6_isHushed_34 ?_
    refine r_iload_n (pc := 37) C 1 rfl rfl dX6_isHushed_37 ?_
    obtain ⟨hi38, h⟩ := chk_inv h
    refine r_iald (pc := 38) C (x_aI_State_5 hth) (x_bI_State_5 hth) (by decide) hi38 rfl dX6_isHushed_38 ?_
    refine r_aload_n (pc := 39) C 0 rfl rfl dX6_isHushed_39 ?_
    refine r_getR (pc := 40) C fl_RX6_48 (x_sI_State hth) (x_nI_State hth) x_kState_14 (x_rI_State_14 hth) dX6_isHushed_40 ?_
    refine r_iload_n (pc := 43) C 1 rfl rfl dX6_isHushed_43 ?_
    obtain ⟨r6, hq6, h⟩ := bnd_inv h
    refine r_callV (pc := 44) (rest := [vI (M_18 (th + 6) x1.toNat)]) (st1 := [vI r6, vI (M_18 (th + 6) x1.toNat)]) C (xExtOK σ b) [vI x1] (c_x_Town_calmOf l 23 x_m23 hq6) cl_RX6_159 x_s23 (by decide) rfl rfl rfl rfl ⟨Nat.le_of_ble_eq_true rfl, Nat.le_of_ble_eq_true rfl⟩ (Nat.le_of_ble_eq_true rfl) rfl rfl dX6_isHushed_44 ?_
    refine r_icmp_le (pc := 47) (tgt := 54) C h dX6_isHushed_47 (by decide) (fun hc47 h => ?_) (fun hc47 h => ?_)
    · refine r_iconst (pc := 54) C dX6_isHushed_54 ?_
      have e := Option.some.inj h
      exact r_zret (pc := 55) C hr (Or.inl rfl) (congrArg (fun z => some (vB z)) (Prod.mk.inj e).1.symm) (Prod.mk.inj e).2.symm dX6_isHushed_55
    · refine r_iconst (pc := 50) C dX6_isHushed_50 ?_
      refine r_goto (pc := 51) (tgt := 55) C dX6_isHushed_51 (by decide) ?_
      have e := Option.some.inj h
      exact r_zret (pc := 55) C hr (Or.inr rfl) (congrArg (fun z => some (vB z)) (Prod.mk.inj e).1.symm) (Prod.mk.inj e).2.symm dX6_isHushed_55
set_option maxHeartbeats 4000000 in
set_option maxRecDepth 20000 in
theorem w_x_State_begin_L2_s (C : xCX σ p s m args meth c cX6_begin 4 RX6 D E b) (hr : meth.sig.returnType = (some .int)) {r0 : Int} {M0 : Mem} (th : Nat) (hth : th ∈ xI_State) {v1 : Int} {v2 : Int} {M : Mem} {q : Int × Mem} {rec : Int → Mem → Option (Int × Mem)} (hrec : ∀ (v2 : Int) (M : Mem), rec v2 M = some q → xWX p l e 6 131 s m args below meth c 4 D E b (some (vI r0)) M0 M 2 [(0, vR b th), (1, vI v1), (2, vI v2)] []) (hfol : ∀ (v2 : Int) (M : Mem), q = (v2, M) → xWX p l e 6 131 s m args below meth c 4 D E b (some (vI r0)) M0 M 48 [(0, vR b th), (1, vI v1)] []) (h : x_State_begin_L2 th v1 rec v2 M = some q) :
    xWX p l e 6 131 s m args below meth c 4 D E b (some (vI r0)) M0 M 2 [(0, vR b th), (1, vI v1), (2, vI v2)] [] := by
  unfold x_State_begin_L2 at h
  refine r_iload_n (pc := 2) C 2 rfl rfl dX6_begin_2 ?_
  refine r_aload_n (pc := 3) C 0 rfl rfl dX6_begin_3 ?_
  refine r_getR (pc := 4) C fl_RX6_48 (x_sI_State hth) (x_nI_State hth) x_kState_14 (x_rI_State_14 hth) dX6_begin_4 ?_
  refine r_getI (pc := 7) C fl_RX6_79 x_s23 (by decide) x_kTown_2 dX6_begin_7 ?_
  refine r_icmp_ge (pc := 10) (tgt := 48) C h dX6_begin_10 (by decide) (fun hc10 h => ?_) (fun hc10 h => ?_)
  · refine r_sub (lv' := [(0, vR b th), (1, vI v1)]) [0, 1] rfl ?_
    exact hfol _ _ (Option.some.inj h).symm
  · refine r_aload_n (pc := 13) C 0 rfl rfl dX6_begin_13 ?_
    refine r_getR (pc := 14) C fl_RX6_21 (x_sI_State hth) (x_nI_State hth) x_kState_3 (x_rI_State_3 hth) dX6_begin_14 ?_
    refine r_iload_n (pc := 17) C 2 rfl rfl dX6_begin_17 ?_
    obtain ⟨hi18, h⟩ := chk_inv h
    refine r_iald (pc := 18) C (x_aI_State_3 hth) (x_bI_State_3 hth) (by decide) hi18 rfl dX6_begin_18 ?_
    refine r_if_ne (pc := 19) (tgt := 42) C h dX6_begin_19 (by decide) (fun hc19 h => ?_) (fun hc19 h => ?_)
    · obtain ⟨v2_42, hv2_42, h⟩ := lt_inv h
      refine r_iincN (pc := 42) (y := v2_42) (lv' := [(2, vI v2_42), (0, vR b th), (1, vI v1)]) C 2 rfl hv2_42 dX6_begin_42 (by decide) rfl ?_
      refine r_goto (pc := 45) (tgt := 2) C dX6_begin_45 (by decide) ?_
      refine r_sub (lv' := [(0, vR b th), (1, vI v1), (2, vI v2_42)]) [1, 2, 0] rfl ?_
      exact hrec _ _ h
    · refine r_aload_n (pc := 22) C 0 rfl rfl dX6_begin_22 ?_
      refine r_getR (pc := 23) C fl_RX6_24 (x_sI_State hth) (x_nI_State hth) x_kState_4 (x_rI_State_4 hth) dX6_begin_23 ?_
      refine r_iload_n (pc := 26) C 2 rfl rfl dX6_begin_26 ?_
      obtain ⟨hi27, h⟩ := chk_inv h
      refine r_iald (pc := 27) C (x_aI_State_4 hth) (x_bI_State_4 hth) (by decide) hi27 rfl dX6_begin_27 ?_
      refine r_aload_n (pc := 28) C 0 rfl rfl dX6_begin_28 ?_
      refine r_getI (pc := 29) C fl_RX6_76 (x_sI_State hth) (x_nI_State hth) x_kState_13 dX6_begin_29 ?_
      refine r_icmp_gt (pc := 32) (tgt := 42) C h dX6_begin_32 (by decide) (fun hc32 h => ?_) (fun hc32 h => ?_)
      · obtain ⟨v2_42, hv2_42, h⟩ := lt_inv h
        refine r_iincN (pc := 42) (y := v2_42) (lv' := [(2, vI v2_42), (0, vR b th), (1, vI v1)]) C 2 rfl hv2_42 dX6_begin_42 (by decide) rfl ?_
        refine r_goto (pc := 45) (tgt := 2) C dX6_begin_45 (by decide) ?_
        refine r_sub (lv' := [(0, vR b th), (1, vI v1), (2, vI v2_42)]) [1, 2, 0] rfl ?_
        exact hrec _ _ h
      · refine r_aload_n (pc := 35) C 0 rfl rfl dX6_begin_35 ?_
        refine r_getR (pc := 36) C fl_RX6_21 (x_sI_State hth) (x_nI_State hth) x_kState_3 (x_rI_State_3 hth) dX6_begin_36 ?_
        refine r_iload_n (pc := 39) C 2 rfl rfl dX6_begin_39 ?_
        refine r_iconst (pc := 40) C dX6_begin_40 ?_
        obtain ⟨hi41, h⟩ := chk_inv h
        obtain ⟨M_41, hM_41, h⟩ := lt_inv h
        refine r_iast (pc := 41) C (x_aI_State_3 hth) (x_bI_State_3 hth) (by decide) hi41 rfl hM_41 dX6_begin_41 ?_
        obtain ⟨v2_42, hv2_42, h⟩ := lt_inv h
        refine r_iincN (pc := 42) (y := v2_42) (lv' := [(2, vI v2_42), (0, vR b th), (1, vI v1)]) C 2 rfl hv2_42 dX6_begin_42 (by decide) rfl ?_
        refine r_goto (pc := 45) (tgt := 2) C dX6_begin_45 (by decide) ?_
        refine r_sub (lv' := [(0, vR b th), (1, vI v1), (2, vI v2_42)]) [1, 2, 0] rfl ?_
        exact hrec _ _ h
set_option maxHeartbeats 4000000 in
theorem w_x_State_begin_L2 (C : xCX σ p s m args meth c cX6_begin 4 RX6 D E b) (hr : meth.sig.returnType = (some .int)) {r0 : Int} {M0 : Mem} (th : Nat) (hth : th ∈ xI_State) {v1 : Int} {q : Int × Mem} (hfol : ∀ (v2 : Int) (M : Mem), q = (v2, M) → xWX p l e 6 131 s m args below meth c 4 D E b (some (vI r0)) M0 M 48 [(0, vR b th), (1, vI v1)] []) : ∀ (n : Nat) (v2 : Int) (M : Mem), itr2 (x_State_begin_L2 th v1) n v2 M = some q →
    xWX p l e 6 131 s m args below meth c 4 D E b (some (vI r0)) M0 M 2 [(0, vR b th), (1, vI v1), (2, vI v2)] [] := by
  intro n
  induction n with
  | zero => exact fun _ _ h => itr_z h
  | succ n ih => exact fun _ _ h => w_x_State_begin_L2_s C hr th hth ih hfol h
set_option maxHeartbeats 4000000 in
set_option maxRecDepth 20000 in
theorem w_x_State_begin_L50_s (C : xCX σ p s m args meth c cX6_begin 4 RX6 D E b) (hr : meth.sig.returnType = (some .int)) {r0 : Int} {M0 : Mem} (th : Nat) (hth : th ∈ xI_State) {v1 : Int} {v2 : Int} {M : Mem} {q : Int × Mem} {rec : Int → Mem → Option (Int × Mem)} (hrec : ∀ (v2 : Int) (M : Mem), rec v2 M = some q → xWX p l e 6 131 s m args below meth c 4 D E b (some (vI r0)) M0 M 50 [(0, vR b th), (1, vI v1), (2, vI v2)] []) (hfol : ∀ (v2 : Int) (M : Mem), q = (v2, M) → xWX p l e 6 131 s m args below meth c 4 D E b (some (vI r0)) M0 M 83 [(0, vR b th)] []) (h : x_State_begin_L50 th v1 rec v2 M = some q) :
    xWX p l e 6 131 s m args below meth c 4 D E b (some (vI r0)) M0 M 50 [(0, vR b th), (1, vI v1), (2, vI v2)] [] := by
  unfold x_State_begin_L50 at h
  refine r_iload_n (pc := 50) C 2 rfl rfl dX6_begin_50 ?_
  refine r_aload_n (pc := 51) C 0 rfl rfl dX6_begin_51 ?_
  refine r_getR (pc := 52) C fl_RX6_48 (x_sI_State hth) (x_nI_State hth) x_kState_14 (x_rI_State_14 hth) dX6_begin_52 ?_
  refine r_getI (pc := 55) C fl_RX6_79 x_s23 (by decide) x_kTown_2 dX6_begin_55 ?_
  refine r_icmp_ge (pc := 58) (tgt := 83) C h dX6_begin_58 (by decide) (fun hc58 h => ?_) (fun hc58 h => ?_)
  · refine r_sub (lv' := [(0, vR b th)]) [0] rfl ?_
    exact hfol _ _ (Option.some.inj h).symm
  · refine r_aload_n (pc := 61) C 0 rfl rfl dX6_begin_61 ?_
    refine r_getR (pc := 62) C fl_RX6_21 (x_sI_State hth) (x_nI_State hth) x_kState_3 (x_rI_State_3 hth) dX6_begin_62 ?_
    refine r_iload_n (pc := 65) C 2 rfl rfl dX6_begin_65 ?_
    obtain ⟨hi66, h⟩ := chk_inv h
    refine r_iald (pc := 66) C (x_aI_State_3 hth) (x_bI_State_3 hth) (by decide) hi66 rfl dX6_begin_66 ?_
    refine r_iconst (pc := 67) C dX6_begin_67 ?_
    refine r_icmp_ne (pc := 68) (tgt := 77) C h dX6_begin_68 (by decide) (fun hc68 h => ?_) (fun hc68 h => ?_)
    · obtain ⟨v2_77, hv2_77, h⟩ := lt_inv h
      refine r_iincN (pc := 77) (y := v2_77) (lv' := [(2, vI v2_77), (0, vR b th), (1, vI v1)]) C 2 rfl hv2_77 dX6_begin_77 (by decide) rfl ?_
      refine r_goto (pc := 80) (tgt := 50) C dX6_begin_80 (by decide) ?_
      refine r_sub (lv' := [(0, vR b th), (1, vI v1), (2, vI v2_77)]) [1, 2, 0] rfl ?_
      exact hrec _ _ h
    · refine r_aload_n (pc := 71) C 0 rfl rfl dX6_begin_71 ?_
      refine r_iload_n (pc := 72) C 2 rfl rfl dX6_begin_72 ?_
      refine r_iload_n (pc := 73) C 1 rfl rfl dX6_begin_73 ?_
      obtain ⟨M2, hq2, h⟩ := bnd_inv h
      refine r_callV (pc := 74) (rest := []) (st1 := []) C (xExtOK σ b) [vI v2, vI v1] (c_x_State_give l th hth hq2) cl_RX6_129 (x_sI_State hth) (x_nI_State hth) rfl rfl rfl rfl ⟨Nat.le_of_ble_eq_true rfl, Nat.le_of_ble_eq_true rfl⟩ (Nat.le_of_ble_eq_true rfl) rfl rfl dX6_begin_74 ?_
      obtain ⟨v2_77, hv2_77, h⟩ := lt_inv h
      refine r_iincN (pc := 77) (y := v2_77) (lv' := [(2, vI v2_77), (0, vR b th), (1, vI v1)]) C 2 rfl hv2_77 dX6_begin_77 (by decide) rfl ?_
      refine r_goto (pc := 80) (tgt := 50) C dX6_begin_80 (by decide) ?_
      refine r_sub (lv' := [(0, vR b th), (1, vI v1), (2, vI v2_77)]) [1, 2, 0] rfl ?_
      exact hrec _ _ h
set_option maxHeartbeats 4000000 in
theorem w_x_State_begin_L50 (C : xCX σ p s m args meth c cX6_begin 4 RX6 D E b) (hr : meth.sig.returnType = (some .int)) {r0 : Int} {M0 : Mem} (th : Nat) (hth : th ∈ xI_State) {v1 : Int} {q : Int × Mem} (hfol : ∀ (v2 : Int) (M : Mem), q = (v2, M) → xWX p l e 6 131 s m args below meth c 4 D E b (some (vI r0)) M0 M 83 [(0, vR b th)] []) : ∀ (n : Nat) (v2 : Int) (M : Mem), itr2 (x_State_begin_L50 th v1) n v2 M = some q →
    xWX p l e 6 131 s m args below meth c 4 D E b (some (vI r0)) M0 M 50 [(0, vR b th), (1, vI v1), (2, vI v2)] [] := by
  intro n
  induction n with
  | zero => exact fun _ _ h => itr_z h
  | succ n ih => exact fun _ _ h => w_x_State_begin_L50_s C hr th hth ih hfol h
set_option maxHeartbeats 4000000 in
set_option maxRecDepth 20000 in
theorem w_x_State_begin_L87_s (C : xCX σ p s m args meth c cX6_begin 4 RX6 D E b) (hr : meth.sig.returnType = (some .int)) {r0 : Int} {M0 : Mem} (th : Nat) (hth : th ∈ xI_State) {v2 : Int} {v3 : Int} {M : Mem} {q : Int × Int × Mem} {rec : Int → Int → Mem → Option (Int × Int × Mem)} (hrec : ∀ (v2 : Int) (v3 : Int) (M : Mem), rec v2 v3 M = some q → xWX p l e 6 131 s m args below meth c 4 D E b (some (vI r0)) M0 M 87 [(0, vR b th), (2, vI v2), (3, vI v3)] []) (hfol : ∀ (v2 : Int) (v3 : Int) (M : Mem), q = (v2, v3, M) → xWX p l e 6 131 s m args below meth c 4 D E b (some (vI r0)) M0 M 131 [(2, vI v2)] []) (h : x_State_begin_L87 th rec v2 v3 M = some q) :
    xWX p l e 6 131 s m args below meth c 4 D E b (some (vI r0)) M0 M 87 [(0, vR b th), (2, vI v2), (3, vI v3)] [] := by
  unfold x_State_begin_L87 at h
  refine r_iload_n (pc := 87) C 2 rfl rfl dX6_begin_87 ?_
  refine r_aload_n (pc := 88) C 0 rfl rfl dX6_begin_88 ?_
  refine r_getR (pc := 89) C fl_RX6_48 (x_sI_State hth) (x_nI_State hth) x_kState_14 (x_rI_State_14 hth) dX6_begin_89 ?_
  refine r_getI (pc := 92) C fl_RX6_79 x_s23 (by decide) x_kTown_2 dX6_begin_92 ?_
  refine r_icmp_ge (pc := 95) (tgt := 131) C h dX6_begin_95 (by decide) (fun hc95 h => ?_) (fun hc95 h => ?_)
  · refine r_sub (lv' := [(2, vI v2)]) [1] rfl ?_
    exact hfol _ _ _ (Option.some.inj h).symm
  · refine r_aload_n (pc := 98) C 0 rfl rfl dX6_begin_98 ?_
    refine r_getR (pc := 99) C fl_RX6_21 (x_sI_State hth) (x_nI_State hth) x_kState_3 (x_rI_State_3 hth) dX6_begin_99 ?_
    refine r_iload_n (pc := 102) C 2 rfl rfl dX6_begin_102 ?_
    obtain ⟨hi103, h⟩ := chk_inv h
    refine r_iald (pc := 103) C (x_aI_State_3 hth) (x_bI_State_3 hth) (by decide) hi103 rfl dX6_begin_103 ?_
    refine r_iconst (pc := 104) C dX6_begin_104 ?_
    refine r_icmp_ne (pc := 105) (tgt := 125) C h dX6_begin_105 (by decide) (fun hc105 h => ?_) (fun hc105 h => ?_)
    · obtain ⟨v3_125, hv3_125, h⟩ := lt_inv h
      refine r_iincN (pc := 125) (y := v3_125) (lv' := [(3, vI v3_125), (0, vR b th), (2, vI v2)]) C 2 rfl hv3_125 dX6_begin_125 (by decide) rfl ?_
      refine r_goto (pc := 128) (tgt := 87) C dX6_begin_128 (by decide) ?_
      refine r_sub (lv' := [(0, vR b th), (2, vI v2), (3, vI v3_125)]) [1, 2, 0] rfl ?_
      exact hrec _ _ _ h
    · refine r_aload_n (pc := 108) C 0 rfl rfl dX6_begin_108 ?_
      refine r_iload_n (pc := 109) C 2 rfl rfl dX6_begin_109 ?_
      obtain ⟨r4, M4, hq4, h⟩ := bnd2_inv h
      refine r_callV (pc := 110) (rest := []) (st1 := [vB r4]) C (xExtOK σ b) [vI v3] (c_x_State_isHushed l th hth hq4) cl_RX6_133 (x_sI_State hth) (x_nI_State hth) rfl rfl rfl rfl ⟨Nat.le_of_ble_eq_true rfl, Nat.le_of_ble_eq_true rfl⟩ (Nat.le_of_ble_eq_true rfl) rfl rfl dX6_begin_110 ?_
      refine r_if_eqB (pc := 113) (tgt := 125) C h dX6_begin_113 (by decide) (fun hc113 h => ?_) (fun hc113 h => ?_)
      · refine r_aload_n (pc := 116) C 0 rfl rfl dX6_begin_116 ?_
        refine r_iload_n (pc := 117) C 2 rfl rfl dX6_begin_117 ?_
        refine r_iconst (pc := 118) C dX6_begin_118 ?_
        obtain ⟨M5, hq5, h⟩ := bnd_inv h
        refine r_callV (pc := 119) (rest := []) (st1 := []) C (xExtOK σ b) [vI v3, vI 4] (c_x_State_conclude l th hth hq5) cl_RX6_136 (x_sI_State hth) (x_nI_State hth) rfl rfl rfl rfl ⟨Nat.le_of_ble_eq_true rfl, Nat.le_of_ble_eq_true rfl⟩ (Nat.le_of_ble_eq_true rfl) rfl rfl dX6_begin_119 ?_
        obtain ⟨v2_122, hv2_122, h⟩ := lt_inv h
        refine r_iincN (pc := 122) (y := v2_122) (lv' := [(2, vI v2_122), (0, vR b th), (3, vI v3)]) C 1 rfl hv2_122 dX6_begin_122 (by decide) rfl ?_
        obtain ⟨v3_125, hv3_125, h⟩ := lt_inv h
        refine r_iincN (pc := 125) (y := v3_125) (lv' := [(3, vI v3_125), (2, vI v2_122), (0, vR b th)]) C 2 rfl hv3_125 dX6_begin_125 (by decide) rfl ?_
        refine r_goto (pc := 128) (tgt := 87) C dX6_begin_128 (by decide) ?_
        refine r_sub (lv' := [(0, vR b th), (2, vI v2_122), (3, vI v3_125)]) [2, 1, 0] rfl ?_
        exact hrec _ _ _ h
      · obtain ⟨v3_125, hv3_125, h⟩ := lt_inv h
        refine r_iincN (pc := 125) (y := v3_125) (lv' := [(3, vI v3_125), (0, vR b th), (2, vI v2)]) C 2 rfl hv3_125 dX6_begin_125 (by decide) rfl ?_
        refine r_goto (pc := 128) (tgt := 87) C dX6_begin_128 (by decide) ?_
        refine r_sub (lv' := [(0, vR b th), (2, vI v2), (3, vI v3_125)]) [1, 2, 0] rfl ?_
        exact hrec _ _ _ h
set_option maxHeartbeats 4000000 in
theorem w_x_State_begin_L87 (C : xCX σ p s m args meth c cX6_begin 4 RX6 D E b) (hr : meth.sig.returnType = (some .int)) {r0 : Int} {M0 : Mem} (th : Nat) (hth : th ∈ xI_State) {q : Int × Int × Mem} (hfol : ∀ (v2 : Int) (v3 : Int) (M : Mem), q = (v2, v3, M) → xWX p l e 6 131 s m args below meth c 4 D E b (some (vI r0)) M0 M 131 [(2, vI v2)] []) : ∀ (n : Nat) (v2 : Int) (v3 : Int) (M : Mem), itr3 (x_State_begin_L87 th) n v2 v3 M = some q →
    xWX p l e 6 131 s m args below meth c 4 D E b (some (vI r0)) M0 M 87 [(0, vR b th), (2, vI v2), (3, vI v3)] [] := by
  intro n
  induction n with
  | zero => exact fun _ _ _ h => itr_z h
  | succ n ih => exact fun _ _ _ h => w_x_State_begin_L87_s C hr th hth ih hfol h
set_option maxHeartbeats 4000000 in
set_option maxRecDepth 20000 in
theorem c_x_State_begin (l : Launch) (th : Nat) (hth : th ∈ xI_State) {x1 : Int} {M : Mem} {r0 : Int} {M0 : Mem} (h : x_State_begin th x1 M = some (r0, M0)) : Ct l yX6_begin cX6_begin 4 (some .int) 6 131 vwCl xSh xN xRf (xExt σ) (fun b => [vR b th, vI x1]) M (fun b => (some (vI r0))) M0 := by
  refine Ct_of (xExtOK σ) (by decide) (fun b => Nat.le_of_ble_eq_true rfl) ?_
  intro p e s m args below meth c D E b C hr
  unfold x_State_begin at h
  refine (show xWX p l e 6 131 s m args below meth c 4 D E b (some (vI r0)) M0 M 0 [(0, vR b th), (1, vI x1)] [] from ?_)
  refine r_iconst (pc := 0) C dX6_begin_0 ?_
  refine r_istore_n (pc := 1) (lv' := [(2, vI 0), (0, vR b th), (1, vI x1)]) C rfl dX6_begin_1 (by decide) rfl ?_
  refine r_sub (lv' := [(0, vR b th), (1, vI x1), (2, vI 0)]) [1, 2, 0] rfl ?_
  obtain ⟨q1, hl1, h⟩ := bnd_inv h
  refine w_x_State_begin_L2 C hr th hth (fun v2_1 M_1 hq => ?_) FUEL _ _ hl1
  have hq := hq.symm
  subst hq
  refine r_iconst (pc := 48) C dX6_begin_48 ?_
  refine r_istore_n (pc := 49) (lv' := [(2, vI 0), (0, vR b th), (1, vI x1)]) C rfl dX6_begin_49 (by decide) rfl ?_
  refine r_sub (lv' := [(0, vR b th), (1, vI x1), (2, vI 0)]) [1, 2, 0] rfl ?_
  obtain ⟨q3, hl3, h⟩ := bnd_inv h
  refine w_x_State_begin_L50 C hr th hth (fun v2_3 M_3 hq => ?_) FUEL _ _ hl3
  have hq := hq.symm
  subst hq
  refine r_iconst (pc := 83) C dX6_begin_83 ?_
  refine r_istore_n (pc := 84) (lv' := [(2, vI 0), (0, vR b th)]) C rfl dX6_begin_84 (by decide) rfl ?_
  refine r_iconst (pc := 85) C dX6_begin_85 ?_
  refine r_istore_n (pc := 86) (lv' := [(3, vI 0), (2, vI 0), (0, vR b th)]) C rfl dX6_begin_86 (by decide) rfl ?_
  refine r_sub (lv' := [(0, vR b th), (2, vI 0), (3, vI 0)]) [2, 1, 0] rfl ?_
  obtain ⟨q6, hl6, h⟩ := bnd_inv h
  refine w_x_State_begin_L87 C hr th hth (fun v2_6 v3_6 M_6 hq => ?_) FUEL _ _ _ hl6
  have hq := hq.symm
  subst hq
  refine r_iload_n (pc := 131) C 0 rfl rfl dX6_begin_131 ?_
  have e := Option.some.inj h
  exact r_iret (pc := 132) C hr (congrArg (fun z => some (vI z)) (Prod.mk.inj e).1.symm) (Prod.mk.inj e).2.symm dX6_begin_132
set_option maxHeartbeats 4000000 in
set_option maxRecDepth 20000 in
theorem w_x_State_finish_L4_s (C : xCX σ p s m args meth c cX6_finish 3 RX6 D E b) (hr : meth.sig.returnType = (some .int)) {r0 : Int} {M0 : Mem} (th : Nat) (hth : th ∈ xI_State) {v1 : Int} {v2 : Int} {M : Mem} {q : Int × Int × Mem} {rec : Int → Int → Mem → Option (Int × Int × Mem)} (hrec : ∀ (v1 : Int) (v2 : Int) (M : Mem), rec v1 v2 M = some q → xWX p l e 2 34 s m args below meth c 3 D E b (some (vI r0)) M0 M 4 [(0, vR b th), (1, vI v1), (2, vI v2)] []) (hfol : ∀ (v1 : Int) (v2 : Int) (M : Mem), q = (v1, v2, M) → xWX p l e 2 34 s m args below meth c 3 D E b (some (vI r0)) M0 M 59 [(0, vR b th), (1, vI v1)] []) (h : x_State_finish_L4 th rec v1 v2 M = some q) :
    xWX p l e 2 34 s m args below meth c 3 D E b (some (vI r0)) M0 M 4 [(0, vR b th), (1, vI v1), (2, vI v2)] [] := by
  unfold x_State_finish_L4 at h
  refine r_iload_n (pc := 4) C 2 rfl rfl dX6_finish_4 ?_
  refine r_aload_n (pc := 5) C 0 rfl rfl dX6_finish_5 ?_
  refine r_getR (pc := 6) C fl_RX6_48 (x_sI_State hth) (x_nI_State hth) x_kState_14 (x_rI_State_14 hth) dX6_finish_6 ?_
  refine r_getI (pc := 9) C fl_RX6_79 x_s23 (by decide) x_kTown_2 dX6_finish_9 ?_
  refine r_icmp_ge (pc := 12) (tgt := 59) C h dX6_finish_12 (by decide) (fun hc12 h => ?_) (fun hc12 h => ?_)
  · refine r_sub (lv' := [(0, vR b th), (1, vI v1)]) [0, 1] rfl ?_
    exact hfol _ _ _ (Option.some.inj h).symm
  · refine r_aload_n (pc := 15) C 0 rfl rfl dX6_finish_15 ?_
    refine r_getR (pc := 16) C fl_RX6_21 (x_sI_State hth) (x_nI_State hth) x_kState_3 (x_rI_State_3 hth) dX6_finish_16 ?_
    refine r_iload_n (pc := 19) C 2 rfl rfl dX6_finish_19 ?_
    obtain ⟨hi20, h⟩ := chk_inv h
    refine r_iald (pc := 20) C (x_aI_State_3 hth) (x_bI_State_3 hth) (by decide) hi20 rfl dX6_finish_20 ?_
    refine r_iconst (pc := 21) C dX6_finish_21 ?_
    refine r_icmp_ne (pc := 22) (tgt := 53) C h dX6_finish_22 (by decide) (fun hc22 h => ?_) (fun hc22 h => ?_)
    · obtain ⟨v2_53, hv2_53, h⟩ := lt_inv h
      refine r_iincN (pc := 53) (y := v2_53) (lv' := [(2, vI v2_53), (0, vR b th), (1, vI v1)]) C 2 rfl hv2_53 dX6_finish_53 (by decide) rfl ?_
      refine r_goto (pc := 56) (tgt := 4) C dX6_finish_56 (by decide) ?_
      refine r_sub (lv' := [(0, vR b th), (1, vI v1), (2, vI v2_53)]) [1, 2, 0] rfl ?_
      exact hrec _ _ _ h
    · refine r_aload_n (pc := 25) C 0 rfl rfl dX6_finish_25 ?_
      refine r_getR (pc := 26) C fl_RX6_33 (x_sI_State hth) (x_nI_State hth) x_kState_7 (x_rI_State_7 hth) dX6_finish_26 ?_
      refine r_iload_n (pc := 29) C 2 rfl rfl dX6_finish_29 ?_
      refine r_dup2 (pc := 30) C rfl rfl dX6_finish_30 ?_
      obtain ⟨hi31, h⟩ := chk_inv h
      refine r_iald (pc := 31) C (x_aI_State_7 hth) (x_bI_State_7 hth) (by decide) hi31 rfl dX6_finish_31 ?_
      refine r_iconst (pc := 32) C dX6_finish_32 ?_
      refine r_isub (pc := 33) C dX6_finish_33 ?_
      obtain ⟨hi34, h⟩ := chk_inv h
      obtain ⟨M_34, hM_34, h⟩ := lt_inv h
      refine r_iast (pc := 34) C (x_aI_State_7 hth) (x_bI_State_7 hth) (by decide) hi34 rfl hM_34 dX6_finish_34 ?_
      refine r_aload_n (pc := 35) C 0 rfl rfl dX6_finish_35 ?_
      refine r_getR (pc := 36) C fl_RX6_33 (x_sI_State hth) (x_nI_State hth) x_kState_7 (x_rI_State_7 hth) dX6_finish_36 ?_
      refine r_iload_n (pc := 39) C 2 rfl rfl dX6_finish_39 ?_
      obtain ⟨hi40, h⟩ := chk_inv h
      refine r_iald (pc := 40) C (x_aI_State_7 hth) (x_bI_State_7 hth) (by decide) hi40 rfl dX6_finish_40 ?_
      refine r_if_gt (pc := 41) (tgt := 53) C h dX6_finish_41 (by decide) (fun hc41 h => ?_) (fun hc41 h => ?_)
      · obtain ⟨v2_53, hv2_53, h⟩ := lt_inv h
        refine r_iincN (pc := 53) (y := v2_53) (lv' := [(2, vI v2_53), (0, vR b th), (1, vI v1)]) C 2 rfl hv2_53 dX6_finish_53 (by decide) rfl ?_
        refine r_goto (pc := 56) (tgt := 4) C dX6_finish_56 (by decide) ?_
        refine r_sub (lv' := [(0, vR b th), (1, vI v1), (2, vI v2_53)]) [1, 2, 0] rfl ?_
        exact hrec _ _ _ h
      · refine r_aload_n (pc := 44) C 0 rfl rfl dX6_finish_44 ?_
        refine r_iload_n (pc := 45) C 2 rfl rfl dX6_finish_45 ?_
        refine r_iconst (pc := 46) C dX6_finish_46 ?_
        obtain ⟨M1, hq1, h⟩ := bnd_inv h
        refine r_callV (pc := 47) (rest := []) (st1 := []) C (xExtOK σ b) [vI v2, vI 3] (c_x_State_conclude l th hth hq1) cl_RX6_136 (x_sI_State hth) (x_nI_State hth) rfl rfl rfl rfl ⟨Nat.le_of_ble_eq_true rfl, Nat.le_of_ble_eq_true rfl⟩ (Nat.le_of_ble_eq_true rfl) rfl rfl dX6_finish_47 ?_
        obtain ⟨v1_50, hv1_50, h⟩ := lt_inv h
        refine r_iincN (pc := 50) (y := v1_50) (lv' := [(1, vI v1_50), (0, vR b th), (2, vI v2)]) C 1 rfl hv1_50 dX6_finish_50 (by decide) rfl ?_
        obtain ⟨v2_53, hv2_53, h⟩ := lt_inv h
        refine r_iincN (pc := 53) (y := v2_53) (lv' := [(2, vI v2_53), (1, vI v1_50), (0, vR b th)]) C 2 rfl hv2_53 dX6_finish_53 (by decide) rfl ?_
        refine r_goto (pc := 56) (tgt := 4) C dX6_finish_56 (by decide) ?_
        refine r_sub (lv' := [(0, vR b th), (1, vI v1_50), (2, vI v2_53)]) [2, 1, 0] rfl ?_
        exact hrec _ _ _ h
set_option maxHeartbeats 4000000 in
theorem w_x_State_finish_L4 (C : xCX σ p s m args meth c cX6_finish 3 RX6 D E b) (hr : meth.sig.returnType = (some .int)) {r0 : Int} {M0 : Mem} (th : Nat) (hth : th ∈ xI_State) {q : Int × Int × Mem} (hfol : ∀ (v1 : Int) (v2 : Int) (M : Mem), q = (v1, v2, M) → xWX p l e 2 34 s m args below meth c 3 D E b (some (vI r0)) M0 M 59 [(0, vR b th), (1, vI v1)] []) : ∀ (n : Nat) (v1 : Int) (v2 : Int) (M : Mem), itr3 (x_State_finish_L4 th) n v1 v2 M = some q →
    xWX p l e 2 34 s m args below meth c 3 D E b (some (vI r0)) M0 M 4 [(0, vR b th), (1, vI v1), (2, vI v2)] [] := by
  intro n
  induction n with
  | zero => exact fun _ _ _ h => itr_z h
  | succ n ih => exact fun _ _ _ h => w_x_State_finish_L4_s C hr th hth ih hfol h
set_option maxHeartbeats 4000000 in
set_option maxRecDepth 20000 in
theorem c_x_State_finish (l : Launch) (th : Nat) (hth : th ∈ xI_State) {M : Mem} {r0 : Int} {M0 : Mem} (h : x_State_finish th M = some (r0, M0)) : Ct l yX6_finish cX6_finish 3 (some .int) 2 34 vwCl xSh xN xRf (xExt σ) (fun b => [vR b th]) M (fun b => (some (vI r0))) M0 := by
  refine Ct_of (xExtOK σ) (by decide) (fun b => Nat.le_of_ble_eq_true rfl) ?_
  intro p e s m args below meth c D E b C hr
  unfold x_State_finish at h
  refine (show xWX p l e 2 34 s m args below meth c 3 D E b (some (vI r0)) M0 M 0 [(0, vR b th)] [] from ?_)
  refine r_iconst (pc := 0) C dX6_finish_0 ?_
  refine r_istore_n (pc := 1) (lv' := [(1, vI 0), (0, vR b th)]) C rfl dX6_finish_1 (by decide) rfl ?_
  refine r_iconst (pc := 2) C dX6_finish_2 ?_
  refine r_istore_n (pc := 3) (lv' := [(2, vI 0), (1, vI 0), (0, vR b th)]) C rfl dX6_finish_3 (by decide) rfl ?_
  refine r_sub (lv' := [(0, vR b th), (1, vI 0), (2, vI 0)]) [2, 1, 0] rfl ?_
  obtain ⟨q2, hl2, h⟩ := bnd_inv h
  refine w_x_State_finish_L4 C hr th hth (fun v1_2 v2_2 M_2 hq => ?_) FUEL _ _ _ hl2
  have hq := hq.symm
  subst hq
  refine r_aload_n (pc := 59) C 0 rfl rfl dX6_finish_59 ?_
  refine r_sipush (pc := 60) (j := 999) C (by decide +kernel) dX6_finish_60 ?_
  refine r_aload_n (pc := 63) C 0 rfl rfl dX6_finish_63 ?_
  refine r_getI (pc := 64) C fl_RX6_76 (x_sI_State hth) (x_nI_State hth) x_kState_13 dX6_finish_64 ?_
  refine r_iconst (pc := 67) C dX6_finish_67 ?_
  refine r_iadd (pc := 68) C dX6_finish_68 ?_
  obtain ⟨r3, hq3, h⟩ := bnd_inv h
  refine r_callS (pc := 69) (rest := [vR b th]) (st1 := [vI r3, vR b th]) C (xExtOK σ b) [vI 999, vI ((M_2 th 13) + 1)] (c_j_Math_min_7cf53 l hq3) cl_RX6_139 rfl rfl ⟨Nat.le_of_ble_eq_true rfl, Nat.le_of_ble_eq_true rfl⟩ (Nat.le_of_ble_eq_true rfl) rfl rfl dX6_finish_69 ?_
  obtain ⟨M_72, hM_72, h⟩ := lt_inv h
  refine r_putI (pc := 72) C fl_RX6_76 x_ft6 x_w6_13 (x_sI_State hth) (x_nI_State hth) x_kState_13 hM_72 dX6_finish_72 ?_
  refine r_iload_n (pc := 75) C 1 rfl rfl dX6_finish_75 ?_
  have e := Option.some.inj h
  exact r_iret (pc := 76) C hr (congrArg (fun z => some (vI z)) (Prod.mk.inj e).1.symm) (Prod.mk.inj e).2.symm dX6_finish_76
set_option maxHeartbeats 4000000 in
set_option maxRecDepth 20000 in
theorem w_x_State_pass_L4_s (C : xCX σ p s m args meth c cX6_pass 4 RX6 D E b) (hr : meth.sig.returnType = (some .int)) {r0 : Int} {M0 : Mem} (th : Nat) (hth : th ∈ xI_State) {v1 : Int} {v2 : Int} {v3 : Int} {M : Mem} {q : Int × Int × Mem} {rec : Int → Int → Mem → Option (Int × Int × Mem)} (hrec : ∀ (v2 : Int) (v3 : Int) (M : Mem), rec v2 v3 M = some q → xWX p l e 7 154 s m args below meth c 4 D E b (some (vI r0)) M0 M 4 [(0, vR b th), (1, vI v1), (2, vI v2), (3, vI v3)] []) (hfol : ∀ (v2 : Int) (v3 : Int) (M : Mem), q = (v2, v3, M) → xWX p l e 7 154 s m args below meth c 4 D E b (some (vI r0)) M0 M 29 [(2, vI v2)] []) (h : x_State_pass_L4 th v1 rec v2 v3 M = some q) :
    xWX p l e 7 154 s m args below meth c 4 D E b (some (vI r0)) M0 M 4 [(0, vR b th), (1, vI v1), (2, vI v2), (3, vI v3)] [] := by
  unfold x_State_pass_L4 at h
  refine r_iload_n (pc := 4) C 3 rfl rfl dX6_pass_4 ?_
  refine r_iload_n (pc := 5) C 1 rfl rfl dX6_pass_5 ?_
  refine r_icmp_ge (pc := 6) (tgt := 29) C h dX6_pass_6 (by decide) (fun hc6 h => ?_) (fun hc6 h => ?_)
  · refine r_sub (lv' := [(2, vI v2)]) [2] rfl ?_
    exact hfol _ _ _ (Option.some.inj h).symm
  · refine r_aload_n (pc := 9) C 0 rfl rfl dX6_pass_9 ?_
    refine r_bipush (pc := 10) (j := 127) C (by decide +kernel) dX6_pass_10 ?_
    obtain ⟨r1, M1, hq1, h⟩ := bnd2_inv h
    refine r_callV (pc := 12) (rest := []) (st1 := [vI r1]) C (xExtOK σ b) [vI 127] (c_x_State_begin l th hth hq1) cl_RX6_122 (x_sI_State hth) (x_nI_State hth) rfl rfl rfl rfl ⟨Nat.le_of_ble_eq_true rfl, Nat.le_of_ble_eq_true rfl⟩ (Nat.le_of_ble_eq_true rfl) rfl rfl dX6_pass_12 ?_
    refine r_pop (pc := 15) C rfl dX6_pass_15 ?_
    refine r_iload_n (pc := 16) C 2 rfl rfl dX6_pass_16 ?_
    refine r_aload_n (pc := 17) C 0 rfl rfl dX6_pass_17 ?_
    obtain ⟨r2, M2, hq2, h⟩ := bnd2_inv h
    refine r_callV (pc := 18) (rest := [vI v2]) (st1 := [vI r2, vI v2]) C (xExtOK σ b) [] (c_x_State_finish l th hth hq2) cl_RX6_125 (x_sI_State hth) (x_nI_State hth) rfl rfl rfl rfl ⟨Nat.le_of_ble_eq_true rfl, Nat.le_of_ble_eq_true rfl⟩ (Nat.le_of_ble_eq_true rfl) rfl rfl dX6_pass_18 ?_
    refine r_iadd (pc := 21) C dX6_pass_21 ?_
    obtain ⟨v2_22, hv2_22, h⟩ := lt_inv h
    refine r_topI hv2_22 ?_
    refine r_istore_n (pc := 22) (lv' := [(2, vI v2_22), (0, vR b th), (1, vI v1), (3, vI v3)]) C rfl dX6_pass_22 (by decide) rfl ?_
    obtain ⟨v3_23, hv3_23, h⟩ := lt_inv h
    refine r_iincN (pc := 23) (y := v3_23) (lv' := [(3, vI v3_23), (2, vI v2_22), (0, vR b th), (1, vI v1)]) C 3 rfl hv3_23 dX6_pass_23 (by decide) rfl ?_
    refine r_goto (pc := 26) (tgt := 4) C dX6_pass_26 (by decide) ?_
    refine r_sub (lv' := [(0, vR b th), (1, vI v1), (2, vI v2_22), (3, vI v3_23)]) [2, 3, 1, 0] rfl ?_
    exact hrec _ _ _ h
set_option maxHeartbeats 4000000 in
theorem w_x_State_pass_L4 (C : xCX σ p s m args meth c cX6_pass 4 RX6 D E b) (hr : meth.sig.returnType = (some .int)) {r0 : Int} {M0 : Mem} (th : Nat) (hth : th ∈ xI_State) {v1 : Int} {q : Int × Int × Mem} (hfol : ∀ (v2 : Int) (v3 : Int) (M : Mem), q = (v2, v3, M) → xWX p l e 7 154 s m args below meth c 4 D E b (some (vI r0)) M0 M 29 [(2, vI v2)] []) : ∀ (n : Nat) (v2 : Int) (v3 : Int) (M : Mem), itr3 (x_State_pass_L4 th v1) n v2 v3 M = some q →
    xWX p l e 7 154 s m args below meth c 4 D E b (some (vI r0)) M0 M 4 [(0, vR b th), (1, vI v1), (2, vI v2), (3, vI v3)] [] := by
  intro n
  induction n with
  | zero => exact fun _ _ _ h => itr_z h
  | succ n ih => exact fun _ _ _ h => w_x_State_pass_L4_s C hr th hth ih hfol h
set_option maxHeartbeats 4000000 in
set_option maxRecDepth 20000 in
theorem c_x_State_pass (l : Launch) (th : Nat) (hth : th ∈ xI_State) {x1 : Int} {M : Mem} {r0 : Int} {M0 : Mem} (h : x_State_pass th x1 M = some (r0, M0)) : Ct l yX6_pass cX6_pass 4 (some .int) 7 154 vwCl xSh xN xRf (xExt σ) (fun b => [vR b th, vI x1]) M (fun b => (some (vI r0))) M0 := by
  refine Ct_of (xExtOK σ) (by decide) (fun b => Nat.le_of_ble_eq_true rfl) ?_
  intro p e s m args below meth c D E b C hr
  unfold x_State_pass at h
  refine (show xWX p l e 7 154 s m args below meth c 4 D E b (some (vI r0)) M0 M 0 [(0, vR b th), (1, vI x1)] [] from ?_)
  refine r_iconst (pc := 0) C dX6_pass_0 ?_
  refine r_istore_n (pc := 1) (lv' := [(2, vI 0), (0, vR b th), (1, vI x1)]) C rfl dX6_pass_1 (by decide) rfl ?_
  refine r_iconst (pc := 2) C dX6_pass_2 ?_
  refine r_istore_n (pc := 3) (lv' := [(3, vI 0), (2, vI 0), (0, vR b th), (1, vI x1)]) C rfl dX6_pass_3 (by decide) rfl ?_
  refine r_sub (lv' := [(0, vR b th), (1, vI x1), (2, vI 0), (3, vI 0)]) [2, 3, 1, 0] rfl ?_
  obtain ⟨q3, hl3, h⟩ := bnd_inv h
  refine w_x_State_pass_L4 C hr th hth (fun v2_3 v3_3 M_3 hq => ?_) FUEL _ _ _ hl3
  have hq := hq.symm
  subst hq
  refine r_iload_n (pc := 29) C 0 rfl rfl dX6_pass_29 ?_
  have e := Option.some.inj h
  exact r_iret (pc := 30) C hr (congrArg (fun z => some (vI z)) (Prod.mk.inj e).1.symm) (Prod.mk.inj e).2.symm dX6_pass_30
set_option maxHeartbeats 4000000 in
set_option maxRecDepth 20000 in
theorem c_x_X_later (l : Launch) {x1 : Int} {x2 : Int} {x3 : Int} {M : Mem} {r0 : Int} {M0 : Mem} (h : x_X_later x1 x2 x3 M = some (r0, M0)) : Ct l yX11_later cX11_later 5 (some .int) 8 177 vwCl xSh xN xRf (xExt σ) (fun b => [vR b 0, vI x1, vI x2, vI x3]) M (fun b => (some (vI r0))) M0 := by
  refine Ct_of (xExtOK σ) (by decide) (fun b => Nat.le_of_ble_eq_true rfl) ?_
  intro p e s m args below meth c D E b C hr
  unfold x_X_later at h
  refine (show xWX p l e 8 177 s m args below meth c 5 D E b (some (vI r0)) M0 M 0 [(0, vR b 0), (1, vI x1), (2, vI x2), (3, vI x3)] [] from ?_)
  refine r_aload_n (pc := 0) C 0 rfl rfl dX11_later_0 ?_
  refine r_iload_n (pc := 1) C 1 rfl rfl dX11_later_1 ?_
  obtain ⟨r1, hq1, h⟩ := bnd_inv h
  refine r_callV (pc := 2) (rest := []) (st1 := [vB r1]) C (xExtOK σ b) [vI x1] (c_x_X_isSaying l hq1) cl_RX11_189 x_s0 (by decide) rfl rfl rfl rfl ⟨Nat.le_of_ble_eq_true rfl, Nat.le_of_ble_eq_true rfl⟩ (Nat.le_of_ble_eq_true rfl) rfl rfl dX11_later_2 ?_
  refine r_if_eqB (pc := 5) (tgt := 19) C h dX11_later_5 (by decide) (fun hc5 h => ?_) (fun hc5 h => ?_)
  · refine r_aload_n (pc := 8) C 0 rfl rfl dX11_later_8 ?_
    refine r_iload_n (pc := 9) C 2 rfl rfl dX11_later_9 ?_
    refine r_iconst (pc := 10) C dX11_later_10 ?_
    refine r_bipush (pc := 11) (j := 60) C (by decide +kernel) dX11_later_11 ?_
    obtain ⟨r2, hq2, h⟩ := bnd_inv h
    refine r_callV (pc := 13) (rest := []) (st1 := [vB r2]) C (xExtOK σ b) [vI x2, vI 0, vI 60] (c_x_X_comes l hq2) cl_RX11_221 x_s0 (by decide) rfl rfl rfl rfl ⟨Nat.le_of_ble_eq_true rfl, Nat.le_of_ble_eq_true rfl⟩ (Nat.le_of_ble_eq_true rfl) rfl rfl dX11_later_13 ?_
    refine r_if_neB (pc := 16) (tgt := 21) C h dX11_later_16 (by decide) (fun hc16 h => ?_) (fun hc16 h => ?_)
    · refine r_iload_n (pc := 21) C 3 rfl rfl dX11_later_21 ?_
      refine r_if_lt (pc := 22) (tgt := 30) C h dX11_later_22 (by decide) (fun hc22 h => ?_) (fun hc22 h => ?_)
      · refine r_iconst (pc := 30) C dX11_later_30 ?_
        have e := Option.some.inj h
        exact r_iret (pc := 31) C hr (congrArg (fun z => some (vI z)) (Prod.mk.inj e).1.symm) (Prod.mk.inj e).2.symm dX11_later_31
      · refine r_iload_n (pc := 25) C 3 rfl rfl dX11_later_25 ?_
        refine r_iconst (pc := 26) C dX11_later_26 ?_
        refine r_icmp_le (pc := 27) (tgt := 32) C h dX11_later_27 (by decide) (fun hc27 h => ?_) (fun hc27 h => ?_)
        · refine r_aload_n (pc := 32) C 0 rfl rfl dX11_later_32 ?_
          obtain ⟨M3, hq3, h⟩ := bnd_inv h
          refine r_callV (pc := 33) (rest := []) (st1 := [vR b 51]) C (xExtOK σ b) [] (c_x_X_fresh l hq3) cl_RX11_225 x_s0 (by decide) rfl rfl rfl rfl ⟨Nat.le_of_ble_eq_true rfl, Nat.le_of_ble_eq_true rfl⟩ (Nat.le_of_ble_eq_true rfl) rfl rfl dX11_later_33 ?_
          refine r_astore (pc := 36) (lv' := [(4, vR b 51), (0, vR b 0), (1, vI x1), (2, vI x2), (3, vI x3)]) C dX11_later_36 (by decide) rfl ?_
          refine r_aload (pc := 38) C 0 rfl dX11_later_38 ?_
          refine r_iload_n (pc := 40) C 3 rfl rfl dX11_later_40 ?_
          obtain ⟨r4, M4, hq4, h⟩ := bnd2_inv h
          refine r_callV (pc := 41) (rest := []) (st1 := [vI r4]) C (xExtOK σ b) [vI x2] (c_x_State_pass l 51 x_m51 hq4) cl_RX11_229 x_s51 (by decide) rfl rfl rfl rfl ⟨Nat.le_of_ble_eq_true rfl, Nat.le_of_ble_eq_true rfl⟩ (Nat.le_of_ble_eq_true rfl) rfl rfl dX11_later_41 ?_
          refine r_pop (pc := 44) C rfl dX11_later_44 ?_
          refine r_iload_n (pc := 45) C 4 rfl rfl dX11_later_45 ?_
          refine r_if_ne (pc := 46) (tgt := 57) C h dX11_later_46 (by decide) (fun hc46 h => ?_) (fun hc46 h => ?_)
          · refine r_iload_n (pc := 57) C 4 rfl rfl dX11_later_57 ?_
            refine r_iconst (pc := 58) C dX11_later_58 ?_
            refine r_icmp_ne (pc := 59) (tgt := 72) C h dX11_later_59 (by decide) (fun hc59 h => ?_) (fun hc59 h => ?_)
            · refine r_aload (pc := 72) C 0 rfl dX11_later_72 ?_
              refine r_getR (pc := 74) C fl_RX11_213 x_s51 (by decide) x_kState_8 x_r51_8 dX11_later_74 ?_
              refine r_iload_n (pc := 77) C 2 rfl rfl dX11_later_77 ?_
              obtain ⟨hi78, h⟩ := chk_inv h
              refine r_iald (pc := 78) C x_s60 (by decide) (by decide) hi78 rfl dX11_later_78 ?_
              have e := Option.some.inj h
              exact r_iret (pc := 79) C hr (congrArg (fun z => some (vI z)) (Prod.mk.inj e).1.symm) (Prod.mk.inj e).2.symm dX11_later_79
            · refine r_aload (pc := 62) C 0 rfl dX11_later_62 ?_
              refine r_getR (pc := 64) C fl_RX11_207 x_s51 (by decide) x_kState_6 x_r51_6 dX11_later_64 ?_
              refine r_iload_n (pc := 67) C 2 rfl rfl dX11_later_67 ?_
              obtain ⟨hi68, h⟩ := chk_inv h
              refine r_iald (pc := 68) C x_s58 (by decide) (by decide) hi68 rfl dX11_later_68 ?_
              refine r_goto (pc := 69) (tgt := 79) C dX11_later_69 (by decide) ?_
              have e := Option.some.inj h
              exact r_iret (pc := 79) C hr (congrArg (fun z => some (vI z)) (Prod.mk.inj e).1.symm) (Prod.mk.inj e).2.symm dX11_later_79
          · refine r_aload (pc := 49) C 0 rfl dX11_later_49 ?_
            refine r_getR (pc := 51) C fl_RX11_201 x_s51 (by decide) x_kState_3 x_r51_3 dX11_later_51 ?_
            refine r_iload_n (pc := 54) C 2 rfl rfl dX11_later_54 ?_
            obtain ⟨hi55, h⟩ := chk_inv h
            refine r_iald (pc := 55) C x_s55 (by decide) (by decide) hi55 rfl dX11_later_55 ?_
            have e := Option.some.inj h
            exact r_iret (pc := 56) C hr (congrArg (fun z => some (vI z)) (Prod.mk.inj e).1.symm) (Prod.mk.inj e).2.symm dX11_later_56
        · refine r_iconst (pc := 30) C dX11_later_30 ?_
          have e := Option.some.inj h
          exact r_iret (pc := 31) C hr (congrArg (fun z => some (vI z)) (Prod.mk.inj e).1.symm) (Prod.mk.inj e).2.symm dX11_later_31
    · refine r_iconst (pc := 19) C dX11_later_19 ?_
      have e := Option.some.inj h
      exact r_iret (pc := 20) C hr (congrArg (fun z => some (vI z)) (Prod.mk.inj e).1.symm) (Prod.mk.inj e).2.symm dX11_later_20
  · refine r_iconst (pc := 19) C dX11_later_19 ?_
    have e := Option.some.inj h
    exact r_iret (pc := 20) C hr (congrArg (fun z => some (vI z)) (Prod.mk.inj e).1.symm) (Prod.mk.inj e).2.symm dX11_later_20
set_option maxHeartbeats 4000000 in
set_option maxRecDepth 20000 in
theorem w_x_X_ends_L35_s (C : xCX σ p s m args meth c cX11_ends 5 RX11 D E b) (hr : meth.sig.returnType = (some .int)) {r0 : Int} {M0 : Mem} {v1 : Int} {v3 : Int} {v4 : Int} {M : Mem} {q : Int × Mem} {rec : Int → Mem → Option (Int × Mem)} (hrec : ∀ (v4 : Int) (M : Mem), rec v4 M = some q → xWX p l e 8 177 s m args below meth c 5 D E b (some (vI r0)) M0 M 35 [(0, vR b 0), (1, vI v1), (2, vR b 51), (3, vI v3), (4, vI v4)] []) (hfol : ∀ (v4 : Int) (M : Mem), q = (v4, M) → xWX p l e 8 177 s m args below meth c 5 D E b (some (vI r0)) M0 M 63 [(0, vR b 0), (1, vI v1), (2, vR b 51)] []) (h : x_X_ends_L35 v1 v3 rec v4 M = some q) :
    xWX p l e 8 177 s m args below meth c 5 D E b (some (vI r0)) M0 M 35 [(0, vR b 0), (1, vI v1), (2, vR b 51), (3, vI v3), (4, vI v4)] [] := by
  unfold x_X_ends_L35 at h
  refine r_iload (pc := 35) C 4 rfl dX11_ends_35 ?_
  refine r_iload_n (pc := 37) C 3 rfl rfl dX11_ends_37 ?_
  refine r_icmp_ge (pc := 38) (tgt := 63) C h dX11_ends_38 (by decide) (fun hc38 h => ?_) (fun hc38 h => ?_)
  · refine r_sub (lv' := [(0, vR b 0), (1, vI v1), (2, vR b 51)]) [0, 1, 2] rfl ?_
    exact hfol _ _ (Option.some.inj h).symm
  · refine r_aload_n (pc := 41) C 2 rfl rfl dX11_ends_41 ?_
    refine r_getR (pc := 42) C fl_RX11_201 x_s51 (by decide) x_kState_3 x_r51_3 dX11_ends_42 ?_
    refine r_iload_n (pc := 45) C 1 rfl rfl dX11_ends_45 ?_
    obtain ⟨hi46, h⟩ := chk_inv h
    refine r_iald (pc := 46) C x_s55 (by decide) (by decide) hi46 rfl dX11_ends_46 ?_
    refine r_iconst (pc := 47) C dX11_ends_47 ?_
    refine r_icmp_ge (pc := 48) (tgt := 63) C h dX11_ends_48 (by decide) (fun hc48 h => ?_) (fun hc48 h => ?_)
    · refine r_sub (lv' := [(0, vR b 0), (1, vI v1), (2, vR b 51)]) [0, 1, 2] rfl ?_
      exact hfol _ _ (Option.some.inj h).symm
    · refine r_aload_n (pc := 51) C 2 rfl rfl dX11_ends_51 ?_
      refine r_iconst (pc := 52) C dX11_ends_52 ?_
      obtain ⟨r4, M4, hq4, h⟩ := bnd2_inv h
      refine r_callV (pc := 53) (rest := []) (st1 := [vI r4]) C (xExtOK σ b) [vI 1] (c_x_State_pass l 51 x_m51 hq4) cl_RX11_229 x_s51 (by decide) rfl rfl rfl rfl ⟨Nat.le_of_ble_eq_true rfl, Nat.le_of_ble_eq_true rfl⟩ (Nat.le_of_ble_eq_true rfl) rfl rfl dX11_ends_53 ?_
      refine r_pop (pc := 56) C rfl dX11_ends_56 ?_
      obtain ⟨v4_57, hv4_57, h⟩ := lt_inv h
      refine r_iincN (pc := 57) (y := v4_57) (lv' := [(4, vI v4_57), (0, vR b 0), (1, vI v1), (2, vR b 51), (3, vI v3)]) C 4 rfl hv4_57 dX11_ends_57 (by decide) rfl ?_
      refine r_goto (pc := 60) (tgt := 35) C dX11_ends_60 (by decide) ?_
      refine r_sub (lv' := [(0, vR b 0), (1, vI v1), (2, vR b 51), (3, vI v3), (4, vI v4_57)]) [1, 2, 3, 4, 0] rfl ?_
      exact hrec _ _ h
set_option maxHeartbeats 4000000 in
theorem w_x_X_ends_L35 (C : xCX σ p s m args meth c cX11_ends 5 RX11 D E b) (hr : meth.sig.returnType = (some .int)) {r0 : Int} {M0 : Mem} {v1 : Int} {v3 : Int} {q : Int × Mem} (hfol : ∀ (v4 : Int) (M : Mem), q = (v4, M) → xWX p l e 8 177 s m args below meth c 5 D E b (some (vI r0)) M0 M 63 [(0, vR b 0), (1, vI v1), (2, vR b 51)] []) : ∀ (n : Nat) (v4 : Int) (M : Mem), itr2 (x_X_ends_L35 v1 v3) n v4 M = some q →
    xWX p l e 8 177 s m args below meth c 5 D E b (some (vI r0)) M0 M 35 [(0, vR b 0), (1, vI v1), (2, vR b 51), (3, vI v3), (4, vI v4)] [] := by
  intro n
  induction n with
  | zero => exact fun _ _ h => itr_z h
  | succ n ih => exact fun _ _ h => w_x_X_ends_L35_s C hr ih hfol h
set_option maxHeartbeats 4000000 in
set_option maxRecDepth 20000 in
theorem c_x_X_ends (l : Launch) {x1 : Int} {M : Mem} {r0 : Int} {M0 : Mem} (h : x_X_ends x1 M = some (r0, M0)) : Ct l yX11_ends cX11_ends 5 (some .int) 8 177 vwCl xSh xN xRf (xExt σ) (fun b => [vR b 0, vI x1]) M (fun b => (some (vI r0))) M0 := by
  refine Ct_of (xExtOK σ) (by decide) (fun b => Nat.le_of_ble_eq_true rfl) ?_
  intro p e s m args below meth c D E b C hr
  unfold x_X_ends at h
  refine (show xWX p l e 8 177 s m args below meth c 5 D E b (some (vI r0)) M0 M 0 [(0, vR b 0), (1, vI x1)] [] from ?_)
  refine r_aload_n (pc := 0) C 0 rfl rfl dX11_ends_0 ?_
  refine r_iload_n (pc := 1) C 1 rfl rfl dX11_ends_1 ?_
  obtain ⟨r1, hq1, h⟩ := bnd_inv h
  refine r_callV (pc := 2) (rest := []) (st1 := [vB r1]) C (xExtOK σ b) [vI x1] (c_x_X_isSaying l hq1) cl_RX11_189 x_s0 (by decide) rfl rfl rfl rfl ⟨Nat.le_of_ble_eq_true rfl, Nat.le_of_ble_eq_true rfl⟩ (Nat.le_of_ble_eq_true rfl) rfl rfl dX11_ends_2 ?_
  refine r_if_neB (pc := 5) (tgt := 10) C h dX11_ends_5 (by decide) (fun hc5 h => ?_) (fun hc5 h => ?_)
  · refine r_aload_n (pc := 10) C 0 rfl rfl dX11_ends_10 ?_
    obtain ⟨M2, hq2, h⟩ := bnd_inv h
    refine r_callV (pc := 11) (rest := []) (st1 := [vR b 51]) C (xExtOK σ b) [] (c_x_X_fresh l hq2) cl_RX11_225 x_s0 (by decide) rfl rfl rfl rfl ⟨Nat.le_of_ble_eq_true rfl, Nat.le_of_ble_eq_true rfl⟩ (Nat.le_of_ble_eq_true rfl) rfl rfl dX11_ends_11 ?_
    refine r_astore_n (pc := 14) (lv' := [(2, vR b 51), (0, vR b 0), (1, vI x1)]) C rfl dX11_ends_14 (by decide) rfl ?_
    refine r_bipush (pc := 15) (j := 60) C (by decide +kernel) dX11_ends_15 ?_
    refine r_sipush (pc := 17) (j := 999) C (by decide +kernel) dX11_ends_17 ?_
    refine r_aload_n (pc := 20) C 1 rfl rfl dX11_ends_20 ?_
    refine r_getR (pc := 21) C fl_RX11_35 x_s0 (by decide) x_kX_3 x_r0_3 dX11_ends_21 ?_
    refine r_getI (pc := 24) C fl_RX11_129 x_s38 (by decide) x_kState_13 dX11_ends_24 ?_
    refine r_isub (pc := 27) C dX11_ends_27 ?_
    obtain ⟨r3, hq3, h⟩ := bnd_inv h
    refine r_callS (pc := 28) (rest := []) (st1 := [vI r3]) C (xExtOK σ b) [vI 60, vI (999 - (M2 38 13))] (c_j_Math_min_7cf53 l hq3) cl_RX11_232 rfl rfl ⟨Nat.le_of_ble_eq_true rfl, Nat.le_of_ble_eq_true rfl⟩ (Nat.le_of_ble_eq_true rfl) rfl rfl dX11_ends_28 ?_
    refine r_istore_n (pc := 31) (lv' := [(3, vI r3), (2, vR b 51), (0, vR b 0), (1, vI x1)]) C rfl dX11_ends_31 (by decide) rfl ?_
    refine r_iconst (pc := 32) C dX11_ends_32 ?_
    refine r_istore (pc := 33) (lv' := [(4, vI 0), (3, vI r3), (2, vR b 51), (0, vR b 0), (1, vI x1)]) C dX11_ends_33 (by decide) rfl ?_
    refine r_sub (lv' := [(0, vR b 0), (1, vI x1), (2, vR b 51), (3, vI r3), (4, vI 0)]) [3, 4, 2, 1, 0] rfl ?_
    obtain ⟨q5, hl5, h⟩ := bnd_inv h
    refine w_x_X_ends_L35 C hr (fun v4_5 M_5 hq => ?_) FUEL _ _ hl5
    have hq := hq.symm
    subst hq
    refine r_aload_n (pc := 63) C 2 rfl rfl dX11_ends_63 ?_
    refine r_getR (pc := 64) C fl_RX11_201 x_s51 (by decide) x_kState_3 x_r51_3 dX11_ends_64 ?_
    refine r_iload_n (pc := 67) C 1 rfl rfl dX11_ends_67 ?_
    obtain ⟨hi68, h⟩ := chk_inv h
    refine r_iald (pc := 68) C x_s55 (by decide) (by decide) hi68 rfl dX11_ends_68 ?_
    refine r_iconst (pc := 69) C dX11_ends_69 ?_
    refine r_icmp_ge (pc := 70) (tgt := 77) C h dX11_ends_70 (by decide) (fun hc70 h => ?_) (fun hc70 h => ?_)
    · refine r_aload_n (pc := 77) C 2 rfl rfl dX11_ends_77 ?_
      refine r_getI (pc := 78) C fl_RX11_129 x_s51 (by decide) x_kState_13 dX11_ends_78 ?_
      refine r_aload_n (pc := 81) C 0 rfl rfl dX11_ends_81 ?_
      refine r_getR (pc := 82) C fl_RX11_35 x_s0 (by decide) x_kX_3 x_r0_3 dX11_ends_82 ?_
      refine r_getI (pc := 85) C fl_RX11_129 x_s38 (by decide) x_kState_13 dX11_ends_85 ?_
      refine r_isub (pc := 88) C dX11_ends_88 ?_
      have e := Option.some.inj h
      exact r_iret (pc := 89) C hr (congrArg (fun z => some (vI z)) (Prod.mk.inj e).1.symm) (Prod.mk.inj e).2.symm dX11_ends_89
    · refine r_iconst (pc := 73) C dX11_ends_73 ?_
      refine r_goto (pc := 74) (tgt := 89) C dX11_ends_74 (by decide) ?_
      have e := Option.some.inj h
      exact r_iret (pc := 89) C hr (congrArg (fun z => some (vI z)) (Prod.mk.inj e).1.symm) (Prod.mk.inj e).2.symm dX11_ends_89
  · refine r_iconst (pc := 8) C dX11_ends_8 ?_
    have e := Option.some.inj h
    exact r_iret (pc := 9) C hr (congrArg (fun z => some (vI z)) (Prod.mk.inj e).1.symm) (Prod.mk.inj e).2.symm dX11_ends_9
set_option maxHeartbeats 4000000 in
set_option maxRecDepth 20000 in
theorem c_x_X_busy (l : Launch) {x1 : Int} {M : Mem} {r0 : Int} {M0 : Mem} (h : x_X_busy x1 M = some (r0, M0)) : Ct l yX11_busy cX11_busy 3 (some .int) 8 177 vwCl xSh xN xRf (xExt σ) (fun b => [vR b 0, vI x1]) M (fun b => (some (vI r0))) M0 := by
  refine Ct_of (xExtOK σ) (by decide) (fun b => Nat.le_of_ble_eq_true rfl) ?_
  intro p e s m args below meth c D E b C hr
  unfold x_X_busy at h
  refine (show xWX p l e 8 177 s m args below meth c 3 D E b (some (vI r0)) M0 M 0 [(0, vR b 0), (1, vI x1)] [] from ?_)
  refine r_aload_n (pc := 0) C 0 rfl rfl dX11_busy_0 ?_
  refine r_iload_n (pc := 1) C 1 rfl rfl dX11_busy_1 ?_
  refine r_iconst (pc := 2) C dX11_busy_2 ?_
  refine r_bipush (pc := 3) (j := 60) C (by decide +kernel) dX11_busy_3 ?_
  obtain ⟨r1, hq1, h⟩ := bnd_inv h
  refine r_callV (pc := 5) (rest := []) (st1 := [vB r1]) C (xExtOK σ b) [vI x1, vI 0, vI 60] (c_x_X_comes l hq1) cl_RX11_221 x_s0 (by decide) rfl rfl rfl rfl ⟨Nat.le_of_ble_eq_true rfl, Nat.le_of_ble_eq_true rfl⟩ (Nat.le_of_ble_eq_true rfl) rfl rfl dX11_busy_5 ?_
  refine r_if_neB (pc := 8) (tgt := 13) C h dX11_busy_8 (by decide) (fun hc8 h => ?_) (fun hc8 h => ?_)
  · refine r_aload_n (pc := 13) C 0 rfl rfl dX11_busy_13 ?_
    obtain ⟨M2, hq2, h⟩ := bnd_inv h
    refine r_callV (pc := 14) (rest := []) (st1 := [vR b 51]) C (xExtOK σ b) [] (c_x_X_fresh l hq2) cl_RX11_225 x_s0 (by decide) rfl rfl rfl rfl ⟨Nat.le_of_ble_eq_true rfl, Nat.le_of_ble_eq_true rfl⟩ (Nat.le_of_ble_eq_true rfl) rfl rfl dX11_busy_14 ?_
    refine r_astore_n (pc := 17) (lv' := [(2, vR b 51), (0, vR b 0), (1, vI x1)]) C rfl dX11_busy_17 (by decide) rfl ?_
    refine r_aload_n (pc := 18) C 0 rfl rfl dX11_busy_18 ?_
    refine r_iload_n (pc := 19) C 2 rfl rfl dX11_busy_19 ?_
    obtain ⟨r3, M3, hq3, h⟩ := bnd2_inv h
    refine r_callV (pc := 20) (rest := []) (st1 := [vI r3]) C (xExtOK σ b) [vI x1] (c_x_State_pass l 51 x_m51 hq3) cl_RX11_229 x_s51 (by decide) rfl rfl rfl rfl ⟨Nat.le_of_ble_eq_true rfl, Nat.le_of_ble_eq_true rfl⟩ (Nat.le_of_ble_eq_true rfl) rfl rfl dX11_busy_20 ?_
    refine r_pop (pc := 23) C rfl dX11_busy_23 ?_
    refine r_aload_n (pc := 24) C 0 rfl rfl dX11_busy_24 ?_
    obtain ⟨r4, hq4, h⟩ := bnd_inv h
    refine r_callV (pc := 25) (rest := []) (st1 := [vI r4]) C (xExtOK σ b) [] (c_x_State_busyCount l 51 x_m51 hq4) cl_RX11_136 x_s51 (by decide) rfl rfl rfl rfl ⟨Nat.le_of_ble_eq_true rfl, Nat.le_of_ble_eq_true rfl⟩ (Nat.le_of_ble_eq_true rfl) rfl rfl dX11_busy_25 ?_
    have e := Option.some.inj h
    exact r_iret (pc := 28) C hr (congrArg (fun z => some (vI z)) (Prod.mk.inj e).1.symm) (Prod.mk.inj e).2.symm dX11_busy_28
  · refine r_iconst (pc := 11) C dX11_busy_11 ?_
    have e := Option.some.inj h
    exact r_iret (pc := 12) C hr (congrArg (fun z => some (vI z)) (Prod.mk.inj e).1.symm) (Prod.mk.inj e).2.symm dX11_busy_12
set_option maxHeartbeats 4000000 in
set_option maxRecDepth 20000 in
theorem w_x_Matching_fillSums_L15_B55 (C : xCX σ p s m args meth c cX1_fillSums 4 RX1 D E b) (hr : meth.sig.returnType = none) {M0 : Mem} {M : Mem} {v1 : Int} {v2 : Int} {s0 : Int} {q : Int × Mem} {rec : Int → Mem → Option (Int × Mem)} (hrec : ∀ (v2 : Int) (M : Mem), rec v2 M = some q → xWX p l e 5 105 s m args below meth c 4 D E b none M0 M 15 [(0, vR b 326), (1, vI v1), (2, vI v2)] []) (hfol : ∀ (v2 : Int) (M : Mem), q = (v2, M) → xWX p l e 5 105 s m args below meth c 4 D E b none M0 M 91 [(0, vR b 326), (1, vI v1)] []) (h : x_Matching_fillSums_L15_B55 rec v1 v2 s0 M = some q) :
    xWX p l e 5 105 s m args below meth c 4 D E b none M0 M 55 [(0, vR b 326), (1, vI v1), (2, vI v2)] [vI s0] := by
  unfold x_Matching_fillSums_L15_B55 at h
  refine r_istore_n (pc := 55) (lv' := [(3, vI s0), (0, vR b 326), (1, vI v1), (2, vI v2)]) C rfl dX1_fillSums_55 (by decide) rfl ?_
  refine r_aload_n (pc := 56) C 1 rfl rfl dX1_fillSums_56 ?_
  refine r_getR (pc := 57) C fl_RX1_16 x_s326 (by decide) x_kMatching_3 x_r326_3 dX1_fillSums_57 ?_
  refine r_iload_n (pc := 60) C 2 rfl rfl dX1_fillSums_60 ?_
  obtain ⟨hi61, h⟩ := chk_inv h
  refine r_aald (pc := 61) (ty := .array .int) C x_s341 (by decide) (by decide) (fun _ => rfl) rfl hi61 rfl (x_qr341 (x_lt hi61 rfl)) dX1_fillSums_61 ?_
  refine r_iload_n (pc := 62) C 3 rfl rfl dX1_fillSums_62 ?_
  refine r_iload_n (pc := 63) C 0 rfl rfl dX1_fillSums_63 ?_
  refine r_if_eq (pc := 64) (tgt := 83) C h dX1_fillSums_64 (by decide) (fun hc64 h => ?_) (fun hc64 h => ?_)
  · refine r_iconst (pc := 83) C dX1_fillSums_83 ?_
    obtain ⟨hi84, h⟩ := chk_inv h
    obtain ⟨M_84, hM_84, h⟩ := lt_inv h
    refine r_iast (pc := 84) C (x_qs341 (x_lt hi61 rfl)) (x_qn341 (x_lt hi61 rfl)) (by decide) hi84 rfl hM_84 dX1_fillSums_84 ?_
    obtain ⟨v2_85, hv2_85, h⟩ := lt_inv h
    refine r_iincN (pc := 85) (y := v2_85) (lv' := [(2, vI v2_85), (3, vI s0), (0, vR b 326), (1, vI v1)]) C 3 rfl hv2_85 dX1_fillSums_85 (by decide) rfl ?_
    refine r_goto (pc := 88) (tgt := 15) C dX1_fillSums_88 (by decide) ?_
    refine r_sub (lv' := [(0, vR b 326), (1, vI v1), (2, vI v2_85)]) [2, 3, 0] rfl ?_
    exact hrec _ _ h
  · refine r_iconst (pc := 67) C dX1_fillSums_67 ?_
    refine r_aload_n (pc := 68) C 1 rfl rfl dX1_fillSums_68 ?_
    refine r_getR (pc := 69) C fl_RX1_23 x_s326 (by decide) x_kMatching_1 x_r326_1 dX1_fillSums_69 ?_
    refine r_iload_n (pc := 72) C 2 rfl rfl dX1_fillSums_72 ?_
    refine r_iload_n (pc := 73) C 3 rfl rfl dX1_fillSums_73 ?_
    obtain ⟨r1, M1, hq1, h⟩ := bnd2_inv h
    refine r_callV (pc := 74) (rest := [vI 0, vI v2, vR b (342 + v1.toNat)]) (st1 := [vI r1, vI 0, vI v2, vR b (342 + v1.toNat)]) C (xExtOK σ b) [vI v1, vI v2] (c_x_State_sumOfPicks l 38 x_m38 hq1) cl_RX1_56 x_s38 (by decide) rfl rfl rfl rfl ⟨Nat.le_of_ble_eq_true rfl, Nat.le_of_ble_eq_true rfl⟩ (Nat.le_of_ble_eq_true rfl) rfl rfl dX1_fillSums_74 ?_
    obtain ⟨r2, hq2, h⟩ := bnd_inv h
    refine r_callS (pc := 77) (rest := [vI v2, vR b (342 + v1.toNat)]) (st1 := [vI r2, vI v2, vR b (342 + v1.toNat)]) C (xExtOK σ b) [vI 0, vI r1] (c_j_Math_max_7cf53 l hq2) cl_RX1_59 rfl rfl ⟨Nat.le_of_ble_eq_true rfl, Nat.le_of_ble_eq_true rfl⟩ (Nat.le_of_ble_eq_true rfl) rfl rfl dX1_fillSums_77 ?_
    refine r_goto (pc := 80) (tgt := 84) C dX1_fillSums_80 (by decide) ?_
    obtain ⟨hi84, h⟩ := chk_inv h
    obtain ⟨M_84, hM_84, h⟩ := lt_inv h
    refine r_iast (pc := 84) C (x_qs341 (x_lt hi61 rfl)) (x_qn341 (x_lt hi61 rfl)) (by decide) hi84 rfl hM_84 dX1_fillSums_84 ?_
    obtain ⟨v2_85, hv2_85, h⟩ := lt_inv h
    refine r_iincN (pc := 85) (y := v2_85) (lv' := [(2, vI v2_85), (3, vI s0), (0, vR b 326), (1, vI v1)]) C 3 rfl hv2_85 dX1_fillSums_85 (by decide) rfl ?_
    refine r_goto (pc := 88) (tgt := 15) C dX1_fillSums_88 (by decide) ?_
    refine r_sub (lv' := [(0, vR b 326), (1, vI v1), (2, vI v2_85)]) [2, 3, 0] rfl ?_
    exact hrec _ _ h
set_option maxHeartbeats 4000000 in
set_option maxRecDepth 20000 in
theorem w_x_Matching_fillSums_L15_B54 (C : xCX σ p s m args meth c cX1_fillSums 4 RX1 D E b) (hr : meth.sig.returnType = none) {M0 : Mem} {M : Mem} {v1 : Int} {v2 : Int} {q : Int × Mem} {rec : Int → Mem → Option (Int × Mem)} (hrec : ∀ (v2 : Int) (M : Mem), rec v2 M = some q → xWX p l e 5 105 s m args below meth c 4 D E b none M0 M 15 [(0, vR b 326), (1, vI v1), (2, vI v2)] []) (hfol : ∀ (v2 : Int) (M : Mem), q = (v2, M) → xWX p l e 5 105 s m args below meth c 4 D E b none M0 M 91 [(0, vR b 326), (1, vI v1)] []) (h : x_Matching_fillSums_L15_B54 rec v1 v2 M = some q) :
    xWX p l e 5 105 s m args below meth c 4 D E b none M0 M 54 [(0, vR b 326), (1, vI v1), (2, vI v2)] [] := by
  unfold x_Matching_fillSums_L15_B54 at h
  refine r_iconst (pc := 54) C dX1_fillSums_54 ?_
  refine r_sub (lv' := [(0, vR b 326), (1, vI v1), (2, vI v2)]) [0, 1, 2] rfl ?_
  exact w_x_Matching_fillSums_L15_B55 C hr hrec hfol h
set_option maxHeartbeats 4000000 in
set_option maxRecDepth 20000 in
theorem w_x_Matching_fillSums_L15_s (C : xCX σ p s m args meth c cX1_fillSums 4 RX1 D E b) (hr : meth.sig.returnType = none) {M0 : Mem} {v1 : Int} {v2 : Int} {M : Mem} {q : Int × Mem} {rec : Int → Mem → Option (Int × Mem)} (hrec : ∀ (v2 : Int) (M : Mem), rec v2 M = some q → xWX p l e 5 105 s m args below meth c 4 D E b none M0 M 15 [(0, vR b 326), (1, vI v1), (2, vI v2)] []) (hfol : ∀ (v2 : Int) (M : Mem), q = (v2, M) → xWX p l e 5 105 s m args below meth c 4 D E b none M0 M 91 [(0, vR b 326), (1, vI v1)] []) (h : x_Matching_fillSums_L15 v1 rec v2 M = some q) :
    xWX p l e 5 105 s m args below meth c 4 D E b none M0 M 15 [(0, vR b 326), (1, vI v1), (2, vI v2)] [] := by
  unfold x_Matching_fillSums_L15 at h
  refine r_iload_n (pc := 15) C 2 rfl rfl dX1_fillSums_15 ?_
  refine r_aload_n (pc := 16) C 0 rfl rfl dX1_fillSums_16 ?_
  refine r_getR (pc := 17) C fl_RX1_19 x_s326 (by decide) x_kMatching_0 x_r326_0 dX1_fillSums_17 ?_
  refine r_getI (pc := 20) C fl_RX1_36 x_s23 (by decide) x_kTown_0 dX1_fillSums_20 ?_
  refine r_icmp_ge (pc := 23) (tgt := 91) C h dX1_fillSums_23 (by decide) (fun hc23 h => ?_) (fun hc23 h => ?_)
  · refine r_sub (lv' := [(0, vR b 326), (1, vI v1)]) [0, 1] rfl ?_
    exact hfol _ _ (Option.some.inj h).symm
  · refine r_aload_n (pc := 26) C 0 rfl rfl dX1_fillSums_26 ?_
    refine r_getR (pc := 27) C fl_RX1_23 x_s326 (by decide) x_kMatching_1 x_r326_1 dX1_fillSums_27 ?_
    refine r_getR (pc := 30) C fl_RX1_46 x_s38 (by decide) x_kState_3 x_r38_3 dX1_fillSums_30 ?_
    refine r_iload_n (pc := 33) C 1 rfl rfl dX1_fillSums_33 ?_
    obtain ⟨hi34, h⟩ := chk_inv h
    refine r_iald (pc := 34) C x_s42 (by decide) (by decide) hi34 rfl dX1_fillSums_34 ?_
    refine r_iconst (pc := 35) C dX1_fillSums_35 ?_
    refine r_icmp_ne (pc := 36) (tgt := 54) C h dX1_fillSums_36 (by decide) (fun hc36 h => ?_) (fun hc36 h => ?_)
    · refine r_sub (lv' := [(0, vR b 326), (1, vI v1), (2, vI v2)]) [0, 1, 2] rfl ?_
      exact w_x_Matching_fillSums_L15_B54 C hr hrec hfol h
    · refine r_aload_n (pc := 39) C 0 rfl rfl dX1_fillSums_39 ?_
      refine r_getR (pc := 40) C fl_RX1_23 x_s326 (by decide) x_kMatching_1 x_r326_1 dX1_fillSums_40 ?_
      refine r_iload_n (pc := 43) C 2 rfl rfl dX1_fillSums_43 ?_
      obtain ⟨r3, hq3, h⟩ := bnd_inv h
      refine r_callV (pc := 44) (rest := []) (st1 := [vB r3]) C (xExtOK σ b) [vI v2] (c_x_State_isFree l 38 x_m38 hq3) cl_RX1_52 x_s38 (by decide) rfl rfl rfl rfl ⟨Nat.le_of_ble_eq_true rfl, Nat.le_of_ble_eq_true rfl⟩ (Nat.le_of_ble_eq_true rfl) rfl rfl dX1_fillSums_44 ?_
      refine r_if_eqB (pc := 47) (tgt := 54) C h dX1_fillSums_47 (by decide) (fun hc47 h => ?_) (fun hc47 h => ?_)
      · refine r_iconst (pc := 50) C dX1_fillSums_50 ?_
        refine r_goto (pc := 51) (tgt := 55) C dX1_fillSums_51 (by decide) ?_
        refine r_sub (lv' := [(0, vR b 326), (1, vI v1), (2, vI v2)]) [0, 1, 2] rfl ?_
        exact w_x_Matching_fillSums_L15_B55 C hr hrec hfol h
      · refine r_sub (lv' := [(0, vR b 326), (1, vI v1), (2, vI v2)]) [0, 1, 2] rfl ?_
        exact w_x_Matching_fillSums_L15_B54 C hr hrec hfol h
set_option maxHeartbeats 4000000 in
theorem w_x_Matching_fillSums_L15 (C : xCX σ p s m args meth c cX1_fillSums 4 RX1 D E b) (hr : meth.sig.returnType = none) {M0 : Mem} {v1 : Int} {q : Int × Mem} (hfol : ∀ (v2 : Int) (M : Mem), q = (v2, M) → xWX p l e 5 105 s m args below meth c 4 D E b none M0 M 91 [(0, vR b 326), (1, vI v1)] []) : ∀ (n : Nat) (v2 : Int) (M : Mem), itr2 (x_Matching_fillSums_L15 v1) n v2 M = some q →
    xWX p l e 5 105 s m args below meth c 4 D E b none M0 M 15 [(0, vR b 326), (1, vI v1), (2, vI v2)] [] := by
  intro n
  induction n with
  | zero => exact fun _ _ h => itr_z h
  | succ n ih => exact fun _ _ h => w_x_Matching_fillSums_L15_s C hr ih hfol h
set_option maxHeartbeats 4000000 in
set_option maxRecDepth 20000 in
theorem w_x_Matching_fillSums_L2_s (C : xCX σ p s m args meth c cX1_fillSums 4 RX1 D E b) (hr : meth.sig.returnType = none) {M0 : Mem} {v1 : Int} {M : Mem} {q : Int × Mem} {rec : Int → Mem → Option (Int × Mem)} (hrec : ∀ (v1 : Int) (M : Mem), rec v1 M = some q → xWX p l e 5 105 s m args below meth c 4 D E b none M0 M 2 [(0, vR b 326), (1, vI v1)] []) (hfol : ∀ (v1 : Int) (M : Mem), q = (v1, M) → xWX p l e 5 105 s m args below meth c 4 D E b none M0 M 97 [] []) (h : x_Matching_fillSums_L2 rec v1 M = some q) :
    xWX p l e 5 105 s m args below meth c 4 D E b none M0 M 2 [(0, vR b 326), (1, vI v1)] [] := by
  unfold x_Matching_fillSums_L2 at h
  refine r_iload_n (pc := 2) C 1 rfl rfl dX1_fillSums_2 ?_
  refine r_aload_n (pc := 3) C 0 rfl rfl dX1_fillSums_3 ?_
  refine r_getR (pc := 4) C fl_RX1_19 x_s326 (by decide) x_kMatching_0 x_r326_0 dX1_fillSums_4 ?_
  refine r_getI (pc := 7) C fl_RX1_30 x_s23 (by decide) x_kTown_2 dX1_fillSums_7 ?_
  refine r_icmp_ge (pc := 10) (tgt := 97) C h dX1_fillSums_10 (by decide) (fun hc10 h => ?_) (fun hc10 h => ?_)
  · refine r_sub (lv' := []) [] rfl ?_
    exact hfol _ _ (Option.some.inj h).symm
  · refine r_iconst (pc := 13) C dX1_fillSums_13 ?_
    refine r_istore_n (pc := 14) (lv' := [(2, vI 0), (0, vR b 326), (1, vI v1)]) C rfl dX1_fillSums_14 (by decide) rfl ?_
    refine r_sub (lv' := [(0, vR b 326), (1, vI v1), (2, vI 0)]) [1, 2, 0] rfl ?_
    obtain ⟨q4, hl4, h⟩ := bnd_inv h
    refine w_x_Matching_fillSums_L15 C hr (fun v2_4 M_4 hq => ?_) FUEL _ _ hl4
    have hq := hq.symm
    subst hq
    obtain ⟨v1_91, hv1_91, h⟩ := lt_inv h
    refine r_iincN (pc := 91) (y := v1_91) (lv' := [(1, vI v1_91), (0, vR b 326)]) C 1 rfl hv1_91 dX1_fillSums_91 (by decide) rfl ?_
    refine r_goto (pc := 94) (tgt := 2) C dX1_fillSums_94 (by decide) ?_
    refine r_sub (lv' := [(0, vR b 326), (1, vI v1_91)]) [1, 0] rfl ?_
    exact hrec _ _ h
set_option maxHeartbeats 4000000 in
theorem w_x_Matching_fillSums_L2 (C : xCX σ p s m args meth c cX1_fillSums 4 RX1 D E b) (hr : meth.sig.returnType = none) {M0 : Mem} {q : Int × Mem} (hfol : ∀ (v1 : Int) (M : Mem), q = (v1, M) → xWX p l e 5 105 s m args below meth c 4 D E b none M0 M 97 [] []) : ∀ (n : Nat) (v1 : Int) (M : Mem), itr2 (x_Matching_fillSums_L2) n v1 M = some q →
    xWX p l e 5 105 s m args below meth c 4 D E b none M0 M 2 [(0, vR b 326), (1, vI v1)] [] := by
  intro n
  induction n with
  | zero => exact fun _ _ h => itr_z h
  | succ n ih => exact fun _ _ h => w_x_Matching_fillSums_L2_s C hr ih hfol h
set_option maxHeartbeats 4000000 in
set_option maxRecDepth 20000 in
theorem c_x_Matching_fillSums (l : Launch) {M : Mem} {M0 : Mem} (h : x_Matching_fillSums M = some M0) : Ct l yX1_fillSums cX1_fillSums 4 none 5 105 vwCl xSh xN xRf (xExt σ) (fun b => [vR b 326]) M (fun b => none) M0 := by
  refine Ct_of (xExtOK σ) (by decide) (fun b => Nat.le_of_ble_eq_true rfl) ?_
  intro p e s m args below meth c D E b C hr
  unfold x_Matching_fillSums at h
  refine (show xWX p l e 5 105 s m args below meth c 4 D E b none M0 M 0 [(0, vR b 326)] [] from ?_)
  refine r_iconst (pc := 0) C dX1_fillSums_0 ?_
  refine r_istore_n (pc := 1) (lv' := [(1, vI 0), (0, vR b 326)]) C rfl dX1_fillSums_1 (by decide) rfl ?_
  refine r_sub (lv' := [(0, vR b 326), (1, vI 0)]) [1, 0] rfl ?_
  obtain ⟨q5, hl5, h⟩ := bnd_inv h
  refine w_x_Matching_fillSums_L2 C hr (fun v1_5 M_5 hq => ?_) FUEL _ _ hl5
  have hq := hq.symm
  subst hq
  have e := Option.some.inj h
  exact r_vret (pc := 97) C hr rfl e.symm dX1_fillSums_97
set_option maxHeartbeats 4000000 in
set_option maxRecDepth 20000 in
theorem c_x_Matching_sumWith (l : Launch) {x1 : Int} {x2 : Int} {x3 : Int} {M : Mem} {r0 : Int} (h : x_Matching_sumWith x1 x2 x3 M = some r0) : Ct l yX1_sumWith cX1_sumWith 5 (some .int) 1 12 vwCl xSh xN xRf (xExt σ) (fun b => [vR b 326, vI x1, vI x2, vI x3]) M (fun b => (some (vI r0))) M := by
  refine Ct_of (xExtOK σ) (by decide) (fun b => Nat.le_of_ble_eq_true rfl) ?_
  intro p e s m args below meth c D E b C hr
  unfold x_Matching_sumWith at h
  refine (show xWX p l e 1 12 s m args below meth c 5 D E b (some (vI r0)) M M 0 [(0, vR b 326), (1, vI x1), (2, vI x2), (3, vI x3)] [] from ?_)
  refine r_iconst (pc := 0) C dX1_sumWith_0 ?_
  refine r_iload_n (pc := 1) C 2 rfl rfl dX1_sumWith_1 ?_
  refine r_ishl (pc := 2) C dX1_sumWith_2 ?_
  obtain ⟨v4_3, hv4_3, h⟩ := lt_inv h
  refine r_topI hv4_3 ?_
  refine r_istore (pc := 3) (lv' := [(4, vI v4_3), (0, vR b 326), (1, vI x1), (2, vI x2), (3, vI x3)]) C dX1_sumWith_3 (by decide) rfl ?_
  refine r_iload_n (pc := 5) C 4 rfl rfl dX1_sumWith_5 ?_
  refine r_iload (pc := 6) C 0 rfl dX1_sumWith_6 ?_
  refine r_iand (pc := 8) C dX1_sumWith_8 ?_
  refine r_if_ne (pc := 9) (tgt := 23) C h dX1_sumWith_9 (by decide) (fun hc9 h => ?_) (fun hc9 h => ?_)
  · refine r_iconst (pc := 23) C dX1_sumWith_23 ?_
    have e := Option.some.inj h
    exact r_iret (pc := 24) C hr (congrArg (fun z => some (vI z)) e.symm) rfl dX1_sumWith_24
  · refine r_aload_n (pc := 12) C 1 rfl rfl dX1_sumWith_12 ?_
    refine r_getR (pc := 13) C fl_RX1_16 x_s326 (by decide) x_kMatching_3 x_r326_3 dX1_sumWith_13 ?_
    refine r_iload_n (pc := 16) C 2 rfl rfl dX1_sumWith_16 ?_
    obtain ⟨hi17, h⟩ := chk_inv h
    refine r_aald (pc := 17) (ty := .array .int) C x_s341 (by decide) (by decide) (fun _ => rfl) rfl hi17 rfl (x_qr341 (x_lt hi17 rfl)) dX1_sumWith_17 ?_
    refine r_iload_n (pc := 18) C 3 rfl rfl dX1_sumWith_18 ?_
    obtain ⟨hi19, h⟩ := chk_inv h
    refine r_iald (pc := 19) C (x_qs341 (x_lt hi17 rfl)) (x_qn341 (x_lt hi17 rfl)) (by decide) hi19 rfl dX1_sumWith_19 ?_
    refine r_if_gt (pc := 20) (tgt := 25) C h dX1_sumWith_20 (by decide) (fun hc20 h => ?_) (fun hc20 h => ?_)
    · refine r_aload_n (pc := 25) C 1 rfl rfl dX1_sumWith_25 ?_
      refine r_getR (pc := 26) C fl_RX1_16 x_s326 (by decide) x_kMatching_3 x_r326_3 dX1_sumWith_26 ?_
      refine r_iload_n (pc := 29) C 2 rfl rfl dX1_sumWith_29 ?_
      obtain ⟨hi30, h⟩ := chk_inv h
      refine r_aald (pc := 30) (ty := .array .int) C x_s341 (by decide) (by decide) (fun _ => rfl) rfl hi30 rfl (x_qr341 (x_lt hi30 rfl)) dX1_sumWith_30 ?_
      refine r_iload_n (pc := 31) C 3 rfl rfl dX1_sumWith_31 ?_
      obtain ⟨hi32, h⟩ := chk_inv h
      refine r_iald (pc := 32) C (x_qs341 (x_lt hi30 rfl)) (x_qn341 (x_lt hi30 rfl)) (by decide) hi32 rfl dX1_sumWith_32 ?_
      refine r_aload_n (pc := 33) C 1 rfl rfl dX1_sumWith_33 ?_
      refine r_getR (pc := 34) C fl_RX1_11 x_s326 (by decide) x_kMatching_2 x_r326_2 dX1_sumWith_34 ?_
      refine r_iload_n (pc := 37) C 2 rfl rfl dX1_sumWith_37 ?_
      refine r_iconst (pc := 38) C dX1_sumWith_38 ?_
      refine r_iadd (pc := 39) C dX1_sumWith_39 ?_
      obtain ⟨hi40, h⟩ := chk_inv h
      refine r_aald (pc := 40) (ty := .array .int) C x_s327 (by decide) (by decide) (fun _ => rfl) rfl hi40 rfl (x_qr327 (x_lt hi40 rfl)) dX1_sumWith_40 ?_
      refine r_iload_n (pc := 41) C 4 rfl rfl dX1_sumWith_41 ?_
      refine r_iload (pc := 42) C 0 rfl dX1_sumWith_42 ?_
      refine r_ior (pc := 44) C dX1_sumWith_44 ?_
      obtain ⟨hi45, h⟩ := chk_inv h
      refine r_iald (pc := 45) C (x_qs327 (x_lt hi40 rfl)) (x_qn327 (x_lt hi40 rfl)) (by decide) hi45 rfl dX1_sumWith_45 ?_
      refine r_iadd (pc := 46) C dX1_sumWith_46 ?_
      have e := Option.some.inj h
      exact r_iret (pc := 47) C hr (congrArg (fun z => some (vI z)) e.symm) rfl dX1_sumWith_47
    · refine r_iconst (pc := 23) C dX1_sumWith_23 ?_
      have e := Option.some.inj h
      exact r_iret (pc := 24) C hr (congrArg (fun z => some (vI z)) e.symm) rfl dX1_sumWith_24
set_option maxHeartbeats 4000000 in
set_option maxRecDepth 20000 in
theorem w_x_Matching_fillBest_L56_s (C : xCX σ p s m args meth c cX1_fillBest 5 RX1 D E b) (hr : meth.sig.returnType = none) {M0 : Mem} {v1 : Int} {v2 : Int} {M : Mem} {v3 : Int} {v4 : Int} {q : Int × Int} {rec : Int → Int → Option (Int × Int)} (hrec : ∀ (v3 : Int) (v4 : Int), rec v3 v4 = some q → xWX p l e 6 128 s m args below meth c 5 D E b none M0 M 56 [(0, vR b 326), (1, vI v1), (2, vI v2), (3, vI v3), (4, vI v4)] []) (hfol : ∀ (v3 : Int) (v4 : Int), q = (v3, v4) → xWX p l e 6 128 s m args below meth c 5 D E b none M0 M 87 [(0, vR b 326), (1, vI v1), (2, vI v2), (3, vI v3)] []) (h : x_Matching_fillBest_L56 v1 v2 M rec v3 v4 = some q) :
    xWX p l e 6 128 s m args below meth c 5 D E b none M0 M 56 [(0, vR b 326), (1, vI v1), (2, vI v2), (3, vI v3), (4, vI v4)] [] := by
  unfold x_Matching_fillBest_L56 at h
  refine r_iload (pc := 56) C 4 rfl dX1_fillBest_56 ?_
  refine r_aload_n (pc := 58) C 0 rfl rfl dX1_fillBest_58 ?_
  refine r_getR (pc := 59) C fl_RX1_19 x_s326 (by decide) x_kMatching_0 x_r326_0 dX1_fillBest_59 ?_
  refine r_getI (pc := 62) C fl_RX1_36 x_s23 (by decide) x_kTown_0 dX1_fillBest_62 ?_
  refine r_icmp_ge (pc := 65) (tgt := 87) C h dX1_fillBest_65 (by decide) (fun hc65 h => ?_) (fun hc65 h => ?_)
  · refine r_sub (lv' := [(0, vR b 326), (1, vI v1), (2, vI v2), (3, vI v3)]) [0, 1, 2, 3] rfl ?_
    exact hfol _ _ (Option.some.inj h).symm
  · refine r_iload_n (pc := 68) C 3 rfl rfl dX1_fillBest_68 ?_
    refine r_aload_n (pc := 69) C 0 rfl rfl dX1_fillBest_69 ?_
    refine r_iload_n (pc := 70) C 1 rfl rfl dX1_fillBest_70 ?_
    refine r_iload (pc := 71) C 4 rfl dX1_fillBest_71 ?_
    refine r_iload_n (pc := 73) C 2 rfl rfl dX1_fillBest_73 ?_
    obtain ⟨r3, hq3, h⟩ := bnd_inv h
    refine r_callV (pc := 74) (rest := [vI v3]) (st1 := [vI r3, vI v3]) C (xExtOK σ b) [vI v1, vI v4, vI v2] (c_x_Matching_sumWith l hq3) cl_RX1_70 x_s326 (by decide) rfl rfl rfl rfl ⟨Nat.le_of_ble_eq_true rfl, Nat.le_of_ble_eq_true rfl⟩ (Nat.le_of_ble_eq_true rfl) rfl rfl dX1_fillBest_74 ?_
    obtain ⟨r4, hq4, h⟩ := bnd_inv h
    refine r_callS (pc := 77) (rest := []) (st1 := [vI r4]) C (xExtOK σ b) [vI v3, vI r3] (c_j_Math_max_7cf53 l hq4) cl_RX1_59 rfl rfl ⟨Nat.le_of_ble_eq_true rfl, Nat.le_of_ble_eq_true rfl⟩ (Nat.le_of_ble_eq_true rfl) rfl rfl dX1_fillBest_77 ?_
    refine r_istore_n (pc := 80) (lv' := [(3, vI r4), (0, vR b 326), (1, vI v1), (2, vI v2), (4, vI v4)]) C rfl dX1_fillBest_80 (by decide) rfl ?_
    obtain ⟨v4_81, hv4_81, h⟩ := lt_inv h
    refine r_iincN (pc := 81) (y := v4_81) (lv' := [(4, vI v4_81), (3, vI r4), (0, vR b 326), (1, vI v1), (2, vI v2)]) C 4 rfl hv4_81 dX1_fillBest_81 (by decide) rfl ?_
    refine r_goto (pc := 84) (tgt := 56) C dX1_fillBest_84 (by decide) ?_
    refine r_sub (lv' := [(0, vR b 326), (1, vI v1), (2, vI v2), (3, vI r4), (4, vI v4_81)]) [2, 3, 4, 1, 0] rfl ?_
    exact hrec _ _ h
set_option maxHeartbeats 4000000 in
theorem w_x_Matching_fillBest_L56 (C : xCX σ p s m args meth c cX1_fillBest 5 RX1 D E b) (hr : meth.sig.returnType = none) {M0 : Mem} {v1 : Int} {v2 : Int} {M : Mem} {q : Int × Int} (hfol : ∀ (v3 : Int) (v4 : Int), q = (v3, v4) → xWX p l e 6 128 s m args below meth c 5 D E b none M0 M 87 [(0, vR b 326), (1, vI v1), (2, vI v2), (3, vI v3)] []) : ∀ (n : Nat) (v3 : Int) (v4 : Int), itr2 (x_Matching_fillBest_L56 v1 v2 M) n v3 v4 = some q →
    xWX p l e 6 128 s m args below meth c 5 D E b none M0 M 56 [(0, vR b 326), (1, vI v1), (2, vI v2), (3, vI v3), (4, vI v4)] [] := by
  intro n
  induction n with
  | zero => exact fun _ _ h => itr_z h
  | succ n ih => exact fun _ _ h => w_x_Matching_fillBest_L56_s C hr ih hfol h
set_option maxHeartbeats 4000000 in
set_option maxRecDepth 20000 in
theorem w_x_Matching_fillBest_L36_s (C : xCX σ p s m args meth c cX1_fillBest 5 RX1 D E b) (hr : meth.sig.returnType = none) {M0 : Mem} {v1 : Int} {v2 : Int} {M : Mem} {q : Int × Mem} {rec : Int → Mem → Option (Int × Mem)} (hrec : ∀ (v2 : Int) (M : Mem), rec v2 M = some q → xWX p l e 6 128 s m args below meth c 5 D E b none M0 M 36 [(0, vR b 326), (1, vI v1), (2, vI v2)] []) (hfol : ∀ (v2 : Int) (M : Mem), q = (v2, M) → xWX p l e 6 128 s m args below meth c 5 D E b none M0 M 102 [(0, vR b 326), (1, vI v1)] []) (h : x_Matching_fillBest_L36 v1 rec v2 M = some q) :
    xWX p l e 6 128 s m args below meth c 5 D E b none M0 M 36 [(0, vR b 326), (1, vI v1), (2, vI v2)] [] := by
  unfold x_Matching_fillBest_L36 at h
  refine r_iload_n (pc := 36) C 2 rfl rfl dX1_fillBest_36 ?_
  refine r_bipush (pc := 37) (j := 127) C (by decide +kernel) dX1_fillBest_37 ?_
  refine r_icmp_gt (pc := 39) (tgt := 102) C h dX1_fillBest_39 (by decide) (fun hc39 h => ?_) (fun hc39 h => ?_)
  · refine r_sub (lv' := [(0, vR b 326), (1, vI v1)]) [0, 1] rfl ?_
    exact hfol _ _ (Option.some.inj h).symm
  · refine r_aload_n (pc := 42) C 0 rfl rfl dX1_fillBest_42 ?_
    refine r_getR (pc := 43) C fl_RX1_11 x_s326 (by decide) x_kMatching_2 x_r326_2 dX1_fillBest_43 ?_
    refine r_iload_n (pc := 46) C 1 rfl rfl dX1_fillBest_46 ?_
    refine r_iconst (pc := 47) C dX1_fillBest_47 ?_
    refine r_iadd (pc := 48) C dX1_fillBest_48 ?_
    obtain ⟨hi49, h⟩ := chk_inv h
    refine r_aald (pc := 49) (ty := .array .int) C x_s327 (by decide) (by decide) (fun _ => rfl) rfl hi49 rfl (x_qr327 (x_lt hi49 rfl)) dX1_fillBest_49 ?_
    refine r_iload_n (pc := 50) C 2 rfl rfl dX1_fillBest_50 ?_
    obtain ⟨hi51, h⟩ := chk_inv h
    refine r_iald (pc := 51) C (x_qs327 (x_lt hi49 rfl)) (x_qn327 (x_lt hi49 rfl)) (by decide) hi51 rfl dX1_fillBest_51 ?_
    obtain ⟨v3_52, hv3_52, h⟩ := lt_inv h
    refine r_topI hv3_52 ?_
    refine r_istore_n (pc := 52) (lv' := [(3, vI v3_52), (0, vR b 326), (1, vI v1), (2, vI v2)]) C rfl dX1_fillBest_52 (by decide) rfl ?_
    refine r_iconst (pc := 53) C dX1_fillBest_53 ?_
    refine r_istore (pc := 54) (lv' := [(4, vI 0), (3, vI v3_52), (0, vR b 326), (1, vI v1), (2, vI v2)]) C dX1_fillBest_54 (by decide) rfl ?_
    refine r_sub (lv' := [(0, vR b 326), (1, vI v1), (2, vI v2), (3, vI v3_52), (4, vI 0)]) [2, 3, 4, 1, 0] rfl ?_
    obtain ⟨q5, hl5, h⟩ := bnd_inv h
    refine w_x_Matching_fillBest_L56 C hr (fun v3_5 v4_5 hq => ?_) FUEL _ _ hl5
    have hq := hq.symm
    subst hq
    refine r_aload_n (pc := 87) C 0 rfl rfl dX1_fillBest_87 ?_
    refine r_getR (pc := 88) C fl_RX1_11 x_s326 (by decide) x_kMatching_2 x_r326_2 dX1_fillBest_88 ?_
    refine r_iload_n (pc := 91) C 1 rfl rfl dX1_fillBest_91 ?_
    obtain ⟨hi92, h⟩ := chk_inv h
    refine r_aald (pc := 92) (ty := .array .int) C x_s327 (by decide) (by decide) (fun _ => rfl) rfl hi92 rfl (x_qr327 (x_lt hi92 rfl)) dX1_fillBest_92 ?_
    refine r_iload_n (pc := 93) C 2 rfl rfl dX1_fillBest_93 ?_
    refine r_iload_n (pc := 94) C 3 rfl rfl dX1_fillBest_94 ?_
    obtain ⟨hi95, h⟩ := chk_inv h
    obtain ⟨M_95, hM_95, h⟩ := lt_inv h
    refine r_iast (pc := 95) C (x_qs327 (x_lt hi92 rfl)) (x_qn327 (x_lt hi92 rfl)) (by decide) hi95 rfl hM_95 dX1_fillBest_95 ?_
    obtain ⟨v2_96, hv2_96, h⟩ := lt_inv h
    refine r_iincN (pc := 96) (y := v2_96) (lv' := [(2, vI v2_96), (0, vR b 326), (1, vI v1), (3, vI v3_5)]) C 2 rfl hv2_96 dX1_fillBest_96 (by decide) rfl ?_
    refine r_goto (pc := 99) (tgt := 36) C dX1_fillBest_99 (by decide) ?_
    refine r_sub (lv' := [(0, vR b 326), (1, vI v1), (2, vI v2_96)]) [1, 2, 0] rfl ?_
    exact hrec _ _ h
set_option maxHeartbeats 4000000 in
theorem w_x_Matching_fillBest_L36 (C : xCX σ p s m args meth c cX1_fillBest 5 RX1 D E b) (hr : meth.sig.returnType = none) {M0 : Mem} {v1 : Int} {q : Int × Mem} (hfol : ∀ (v2 : Int) (M : Mem), q = (v2, M) → xWX p l e 6 128 s m args below meth c 5 D E b none M0 M 102 [(0, vR b 326), (1, vI v1)] []) : ∀ (n : Nat) (v2 : Int) (M : Mem), itr2 (x_Matching_fillBest_L36 v1) n v2 M = some q →
    xWX p l e 6 128 s m args below meth c 5 D E b none M0 M 36 [(0, vR b 326), (1, vI v1), (2, vI v2)] [] := by
  intro n
  induction n with
  | zero => exact fun _ _ h => itr_z h
  | succ n ih => exact fun _ _ h => w_x_Matching_fillBest_L36_s C hr ih hfol h
set_option maxHeartbeats 4000000 in
set_option maxRecDepth 20000 in
theorem w_x_Matching_fillBest_L30_s (C : xCX σ p s m args meth c cX1_fillBest 5 RX1 D E b) (hr : meth.sig.returnType = none) {M0 : Mem} {v1 : Int} {M : Mem} {q : Int × Mem} {rec : Int → Mem → Option (Int × Mem)} (hrec : ∀ (v1 : Int) (M : Mem), rec v1 M = some q → xWX p l e 6 128 s m args below meth c 5 D E b none M0 M 30 [(0, vR b 326), (1, vI v1)] []) (hfol : ∀ (v1 : Int) (M : Mem), q = (v1, M) → xWX p l e 6 128 s m args below meth c 5 D E b none M0 M 108 [] []) (h : x_Matching_fillBest_L30 rec v1 M = some q) :
    xWX p l e 6 128 s m args below meth c 5 D E b none M0 M 30 [(0, vR b 326), (1, vI v1)] [] := by
  unfold x_Matching_fillBest_L30 at h
  refine r_iload_n (pc := 30) C 1 rfl rfl dX1_fillBest_30 ?_
  refine r_if_lt (pc := 31) (tgt := 108) C h dX1_fillBest_31 (by decide) (fun hc31 h => ?_) (fun hc31 h => ?_)
  · refine r_sub (lv' := []) [] rfl ?_
    exact hfol _ _ (Option.some.inj h).symm
  · refine r_iconst (pc := 34) C dX1_fillBest_34 ?_
    refine r_istore_n (pc := 35) (lv' := [(2, vI 0), (0, vR b 326), (1, vI v1)]) C rfl dX1_fillBest_35 (by decide) rfl ?_
    refine r_sub (lv' := [(0, vR b 326), (1, vI v1), (2, vI 0)]) [1, 2, 0] rfl ?_
    obtain ⟨q6, hl6, h⟩ := bnd_inv h
    refine w_x_Matching_fillBest_L36 C hr (fun v2_6 M_6 hq => ?_) FUEL _ _ hl6
    have hq := hq.symm
    subst hq
    obtain ⟨v1_102, hv1_102, h⟩ := lt_inv h
    refine r_iincN (pc := 102) (y := v1_102) (lv' := [(1, vI v1_102), (0, vR b 326)]) C 1 rfl hv1_102 dX1_fillBest_102 (by decide) rfl ?_
    refine r_goto (pc := 105) (tgt := 30) C dX1_fillBest_105 (by decide) ?_
    refine r_sub (lv' := [(0, vR b 326), (1, vI v1_102)]) [1, 0] rfl ?_
    exact hrec _ _ h
set_option maxHeartbeats 4000000 in
theorem w_x_Matching_fillBest_L30 (C : xCX σ p s m args meth c cX1_fillBest 5 RX1 D E b) (hr : meth.sig.returnType = none) {M0 : Mem} {q : Int × Mem} (hfol : ∀ (v1 : Int) (M : Mem), q = (v1, M) → xWX p l e 6 128 s m args below meth c 5 D E b none M0 M 108 [] []) : ∀ (n : Nat) (v1 : Int) (M : Mem), itr2 (x_Matching_fillBest_L30) n v1 M = some q →
    xWX p l e 6 128 s m args below meth c 5 D E b none M0 M 30 [(0, vR b 326), (1, vI v1)] [] := by
  intro n
  induction n with
  | zero => exact fun _ _ h => itr_z h
  | succ n ih => exact fun _ _ h => w_x_Matching_fillBest_L30_s C hr ih hfol h
set_option maxHeartbeats 4000000 in
set_option maxRecDepth 20000 in
theorem c_x_Matching_fillBest (l : Launch) {M : Mem} {M0 : Mem} (h : x_Matching_fillBest M = some M0) : Ct l yX1_fillBest cX1_fillBest 5 none 6 128 vwCl xSh xN xRf (xExt σ) (fun b => [vR b 326]) M (fun b => none) M0 := by
  refine Ct_of (xExtOK σ) (by decide) (fun b => Nat.le_of_ble_eq_true rfl) ?_
  intro p e s m args below meth c D E b C hr
  unfold x_Matching_fillBest at h
  refine (show xWX p l e 6 128 s m args below meth c 5 D E b none M0 M 0 [(0, vR b 326)] [] from ?_)
  refine r_aload_n (pc := 0) C 0 rfl rfl dX1_fillBest_0 ?_
  obtain ⟨M1, hq1, h⟩ := bnd_inv h
  refine r_callV (pc := 1) (rest := []) (st1 := []) C (xExtOK σ b) [] (c_x_Matching_fillSums l hq1) cl_RX1_27 x_s326 (by decide) rfl rfl rfl rfl ⟨Nat.le_of_ble_eq_true rfl, Nat.le_of_ble_eq_true rfl⟩ (Nat.le_of_ble_eq_true rfl) rfl rfl dX1_fillBest_1 ?_
  refine r_aload_n (pc := 4) C 0 rfl rfl dX1_fillBest_4 ?_
  refine r_getR (pc := 5) C fl_RX1_11 x_s326 (by decide) x_kMatching_2 x_r326_2 dX1_fillBest_5 ?_
  refine r_aload_n (pc := 8) C 0 rfl rfl dX1_fillBest_8 ?_
  refine r_getR (pc := 9) C fl_RX1_19 x_s326 (by decide) x_kMatching_0 x_r326_0 dX1_fillBest_9 ?_
  refine r_getI (pc := 12) C fl_RX1_30 x_s23 (by decide) x_kTown_2 dX1_fillBest_12 ?_
  obtain ⟨hi15, h⟩ := chk_inv h
  refine r_aald (pc := 15) (ty := .array .int) C x_s327 (by decide) (by decide) (fun _ => rfl) rfl hi15 rfl (x_qr327 (x_lt hi15 rfl)) dX1_fillBest_15 ?_
  refine r_iconst (pc := 16) C dX1_fillBest_16 ?_
  obtain ⟨M2, hq2, h⟩ := bnd_inv h
  refine r_callS (pc := 17) (rest := []) (st1 := []) C (xExtOK σ b) [vR b (328 + (M1 23 2).toNat), vI 0] (c_j_Arrays_fill_53178 l (328 + (M1 23 2).toNat) 128 (x_qs327 (x_lt hi15 rfl)) (x_qn327 (x_lt hi15 rfl)) (by decide) hq2) cl_RX1_64 rfl rfl ⟨Nat.le_of_ble_eq_true rfl, Nat.le_of_ble_eq_true rfl⟩ (Nat.le_of_ble_eq_true rfl) rfl rfl dX1_fillBest_17 ?_
  refine r_aload_n (pc := 20) C 0 rfl rfl dX1_fillBest_20 ?_
  refine r_getR (pc := 21) C fl_RX1_19 x_s326 (by decide) x_kMatching_0 x_r326_0 dX1_fillBest_21 ?_
  refine r_getI (pc := 24) C fl_RX1_30 x_s23 (by decide) x_kTown_2 dX1_fillBest_24 ?_
  refine r_iconst (pc := 27) C dX1_fillBest_27 ?_
  refine r_isub (pc := 28) C dX1_fillBest_28 ?_
  obtain ⟨v1_29, hv1_29, h⟩ := lt_inv h
  refine r_topI hv1_29 ?_
  refine r_istore_n (pc := 29) (lv' := [(1, vI v1_29), (0, vR b 326)]) C rfl dX1_fillBest_29 (by decide) rfl ?_
  refine r_sub (lv' := [(0, vR b 326), (1, vI v1_29)]) [1, 0] rfl ?_
  obtain ⟨q7, hl7, h⟩ := bnd_inv h
  refine w_x_Matching_fillBest_L30 C hr (fun v1_7 M_7 hq => ?_) FUEL _ _ hl7
  have hq := hq.symm
  subst hq
  have e := Option.some.inj h
  exact r_vret (pc := 108) C hr rfl e.symm dX1_fillBest_108
set_option maxHeartbeats 4000000 in
set_option maxRecDepth 20000 in
theorem c_x_Matching_bestSum (l : Launch) {M : Mem} {r0 : Int} {M0 : Mem} (h : x_Matching_bestSum M = some (r0, M0)) : Ct l yX1_bestSum cX1_bestSum 1 (some .int) 7 152 vwCl xSh xN xRf (xExt σ) (fun b => [vR b 326]) M (fun b => (some (vI r0))) M0 := by
  refine Ct_of (xExtOK σ) (by decide) (fun b => Nat.le_of_ble_eq_true rfl) ?_
  intro p e s m args below meth c D E b C hr
  unfold x_Matching_bestSum at h
  refine (show xWX p l e 7 152 s m args below meth c 1 D E b (some (vI r0)) M0 M 0 [(0, vR b 326)] [] from ?_)
  refine r_aload_n (pc := 0) C 0 rfl rfl dX1_bestSum_0 ?_
  obtain ⟨M1, hq1, h⟩ := bnd_inv h
  refine r_callV (pc := 1) (rest := []) (st1 := []) C (xExtOK σ b) [] (c_x_Matching_fillBest l hq1) cl_RX1_39 x_s326 (by decide) rfl rfl rfl rfl ⟨Nat.le_of_ble_eq_true rfl, Nat.le_of_ble_eq_true rfl⟩ (Nat.le_of_ble_eq_true rfl) rfl rfl dX1_bestSum_1 ?_
  refine r_aload_n (pc := 4) C 0 rfl rfl dX1_bestSum_4 ?_
  refine r_getR (pc := 5) C fl_RX1_11 x_s326 (by decide) x_kMatching_2 x_r326_2 dX1_bestSum_5 ?_
  refine r_iconst (pc := 8) C dX1_bestSum_8 ?_
  refine r_aald (pc := 9) (ty := .array .int) C x_s327 (by decide) (by decide) (fun _ => rfl) rfl (by decide) rfl (x_qr327 (x_lt (by decide) rfl)) dX1_bestSum_9 ?_
  refine r_iconst (pc := 10) C dX1_bestSum_10 ?_
  refine r_iald (pc := 11) C (x_qs327 (x_lt (by decide) rfl)) (x_qn327 (x_lt (by decide) rfl)) (by decide) (by decide) rfl dX1_bestSum_11 ?_
  have e := Option.some.inj h
  exact r_iret (pc := 12) C hr (congrArg (fun z => some (vI z)) (Prod.mk.inj e).1.symm) (Prod.mk.inj e).2.symm dX1_bestSum_12
set_option maxHeartbeats 4000000 in
set_option maxRecDepth 20000 in
theorem w_x_Matching_firstBest_L25_s (C : xCX σ p s m args meth c cX1_firstBest 4 RX1 D E b) (hr : meth.sig.returnType = (some .int)) {r0 : Int} {v1 : Int} {v2 : Int} {M : Mem} {v3 : Int} {q : (Int) ⊕ (Int)} {rec : Int → Option ((Int) ⊕ (Int))} (hrec : ∀ (v3 : Int), rec v3 = some q → xWX p l e 2 36 s m args below meth c 4 D E b (some (vI r0)) M M 25 [(0, vR b 326), (1, vI v1), (2, vI v2), (3, vI v3)] []) (hret : ∀ r, q = .inl r → r = r0) (hfol : ∀ (v3 : Int), q = .inr v3 → xWX p l e 2 36 s m args below meth c 4 D E b (some (vI r0)) M M 62 [] []) (h : x_Matching_firstBest_L25 v1 v2 M rec v3 = some q) :
    xWX p l e 2 36 s m args below meth c 4 D E b (some (vI r0)) M M 25 [(0, vR b 326), (1, vI v1), (2, vI v2), (3, vI v3)] [] := by
  unfold x_Matching_firstBest_L25 at h
  refine r_iload_n (pc := 25) C 3 rfl rfl dX1_firstBest_25 ?_
  refine r_aload_n (pc := 26) C 0 rfl rfl dX1_firstBest_26 ?_
  refine r_getR (pc := 27) C fl_RX1_19 x_s326 (by decide) x_kMatching_0 x_r326_0 dX1_firstBest_27 ?_
  refine r_getI (pc := 30) C fl_RX1_36 x_s23 (by decide) x_kTown_0 dX1_firstBest_30 ?_
  refine r_icmp_ge (pc := 33) (tgt := 62) C h dX1_firstBest_33 (by decide) (fun hc33 h => ?_) (fun hc33 h => ?_)
  · refine r_sub (lv' := []) [] rfl ?_
    exact hfol _ (Option.some.inj h).symm
  · refine r_aload_n (pc := 36) C 0 rfl rfl dX1_firstBest_36 ?_
    refine r_iload_n (pc := 37) C 1 rfl rfl dX1_firstBest_37 ?_
    refine r_iload_n (pc := 38) C 3 rfl rfl dX1_firstBest_38 ?_
    refine r_iload_n (pc := 39) C 2 rfl rfl dX1_firstBest_39 ?_
    obtain ⟨r1, hq1, h⟩ := bnd_inv h
    refine r_callV (pc := 40) (rest := []) (st1 := [vI r1]) C (xExtOK σ b) [vI v1, vI v3, vI v2] (c_x_Matching_sumWith l hq1) cl_RX1_70 x_s326 (by decide) rfl rfl rfl rfl ⟨Nat.le_of_ble_eq_true rfl, Nat.le_of_ble_eq_true rfl⟩ (Nat.le_of_ble_eq_true rfl) rfl rfl dX1_firstBest_40 ?_
    refine r_aload_n (pc := 43) C 0 rfl rfl dX1_firstBest_43 ?_
    refine r_getR (pc := 44) C fl_RX1_11 x_s326 (by decide) x_kMatching_2 x_r326_2 dX1_firstBest_44 ?_
    refine r_iload_n (pc := 47) C 1 rfl rfl dX1_firstBest_47 ?_
    obtain ⟨hi48, h⟩ := chk_inv h
    refine r_aald (pc := 48) (ty := .array .int) C x_s327 (by decide) (by decide) (fun _ => rfl) rfl hi48 rfl (x_qr327 (x_lt hi48 rfl)) dX1_firstBest_48 ?_
    refine r_iload_n (pc := 49) C 2 rfl rfl dX1_firstBest_49 ?_
    obtain ⟨hi50, h⟩ := chk_inv h
    refine r_iald (pc := 50) C (x_qs327 (x_lt hi48 rfl)) (x_qn327 (x_lt hi48 rfl)) (by decide) hi50 rfl dX1_firstBest_50 ?_
    refine r_icmp_ne (pc := 51) (tgt := 56) C h dX1_firstBest_51 (by decide) (fun hc51 h => ?_) (fun hc51 h => ?_)
    · obtain ⟨v3_56, hv3_56, h⟩ := lt_inv h
      refine r_iincN (pc := 56) (y := v3_56) (lv' := [(3, vI v3_56), (0, vR b 326), (1, vI v1), (2, vI v2)]) C 3 rfl hv3_56 dX1_firstBest_56 (by decide) rfl ?_
      refine r_goto (pc := 59) (tgt := 25) C dX1_firstBest_59 (by decide) ?_
      refine r_sub (lv' := [(0, vR b 326), (1, vI v1), (2, vI v2), (3, vI v3_56)]) [1, 2, 3, 0] rfl ?_
      exact hrec _ h
    · refine r_iload_n (pc := 54) C 3 rfl rfl dX1_firstBest_54 ?_
      have e := hret _ (Option.some.inj h).symm
      exact r_iret (pc := 55) C hr (congrArg (fun z => some (vI z)) e.symm) rfl dX1_firstBest_55
set_option maxHeartbeats 4000000 in
theorem w_x_Matching_firstBest_L25 (C : xCX σ p s m args meth c cX1_firstBest 4 RX1 D E b) (hr : meth.sig.returnType = (some .int)) {r0 : Int} {v1 : Int} {v2 : Int} {M : Mem} {q : (Int) ⊕ (Int)} (hret : ∀ r, q = .inl r → r = r0) (hfol : ∀ (v3 : Int), q = .inr v3 → xWX p l e 2 36 s m args below meth c 4 D E b (some (vI r0)) M M 62 [] []) : ∀ (n : Nat) (v3 : Int), itr1 (x_Matching_firstBest_L25 v1 v2 M) n v3 = some q →
    xWX p l e 2 36 s m args below meth c 4 D E b (some (vI r0)) M M 25 [(0, vR b 326), (1, vI v1), (2, vI v2), (3, vI v3)] [] := by
  intro n
  induction n with
  | zero => exact fun _ h => itr_z h
  | succ n ih => exact fun _ h => w_x_Matching_firstBest_L25_s C hr ih hret hfol h
set_option maxHeartbeats 4000000 in
set_option maxRecDepth 20000 in
theorem c_x_Matching_firstBest (l : Launch) {x1 : Int} {x2 : Int} {M : Mem} {r0 : Int} (h : x_Matching_firstBest x1 x2 M = some r0) : Ct l yX1_firstBest cX1_firstBest 4 (some .int) 2 36 vwCl xSh xN xRf (xExt σ) (fun b => [vR b 326, vI x1, vI x2]) M (fun b => (some (vI r0))) M := by
  refine Ct_of (xExtOK σ) (by decide) (fun b => Nat.le_of_ble_eq_true rfl) ?_
  intro p e s m args below meth c D E b C hr
  unfold x_Matching_firstBest at h
  refine (show xWX p l e 2 36 s m args below meth c 4 D E b (some (vI r0)) M M 0 [(0, vR b 326), (1, vI x1), (2, vI x2)] [] from ?_)
  refine r_aload_n (pc := 0) C 0 rfl rfl dX1_firstBest_0 ?_
  refine r_getR (pc := 1) C fl_RX1_11 x_s326 (by decide) x_kMatching_2 x_r326_2 dX1_firstBest_1 ?_
  refine r_iload_n (pc := 4) C 1 rfl rfl dX1_firstBest_4 ?_
  refine r_iconst (pc := 5) C dX1_firstBest_5 ?_
  refine r_iadd (pc := 6) C dX1_firstBest_6 ?_
  obtain ⟨hi7, h⟩ := chk_inv h
  refine r_aald (pc := 7) (ty := .array .int) C x_s327 (by decide) (by decide) (fun _ => rfl) rfl hi7 rfl (x_qr327 (x_lt hi7 rfl)) dX1_firstBest_7 ?_
  refine r_iload_n (pc := 8) C 2 rfl rfl dX1_firstBest_8 ?_
  obtain ⟨hi9, h⟩ := chk_inv h
  refine r_iald (pc := 9) C (x_qs327 (x_lt hi7 rfl)) (x_qn327 (x_lt hi7 rfl)) (by decide) hi9 rfl dX1_firstBest_9 ?_
  refine r_aload_n (pc := 10) C 0 rfl rfl dX1_firstBest_10 ?_
  refine r_getR (pc := 11) C fl_RX1_11 x_s326 (by decide) x_kMatching_2 x_r326_2 dX1_firstBest_11 ?_
  refine r_iload_n (pc := 14) C 1 rfl rfl dX1_firstBest_14 ?_
  obtain ⟨hi15, h⟩ := chk_inv h
  refine r_aald (pc := 15) (ty := .array .int) C x_s327 (by decide) (by decide) (fun _ => rfl) rfl hi15 rfl (x_qr327 (x_lt hi15 rfl)) dX1_firstBest_15 ?_
  refine r_iload_n (pc := 16) C 2 rfl rfl dX1_firstBest_16 ?_
  obtain ⟨hi17, h⟩ := chk_inv h
  refine r_iald (pc := 17) C (x_qs327 (x_lt hi15 rfl)) (x_qn327 (x_lt hi15 rfl)) (by decide) hi17 rfl dX1_firstBest_17 ?_
  refine r_icmp_ne (pc := 18) (tgt := 23) C h dX1_firstBest_18 (by decide) (fun hc18 h => ?_) (fun hc18 h => ?_)
  · refine r_iconst (pc := 23) C dX1_firstBest_23 ?_
    refine r_istore_n (pc := 24) (lv' := [(3, vI 0), (0, vR b 326), (1, vI x1), (2, vI x2)]) C rfl dX1_firstBest_24 (by decide) rfl ?_
    refine r_sub (lv' := [(0, vR b 326), (1, vI x1), (2, vI x2), (3, vI 0)]) [1, 2, 3, 0] rfl ?_
    obtain ⟨q2, hl2, h⟩ := bnd_inv h
    refine w_x_Matching_firstBest_L25 C hr (fun r hq => ?_) (fun v3_2 hq => ?_) FUEL _ hl2
    · have hq := hq.symm
      subst hq
      exact Option.some.inj h
    · have hq := hq.symm
      subst hq
      refine r_iconst (pc := 62) C dX1_firstBest_62 ?_
      have e := Option.some.inj h
      exact r_iret (pc := 63) C hr (congrArg (fun z => some (vI z)) e.symm) rfl dX1_firstBest_63
  · refine r_iconst (pc := 21) C dX1_firstBest_21 ?_
    have e := Option.some.inj h
    exact r_iret (pc := 22) C hr (congrArg (fun z => some (vI z)) e.symm) rfl dX1_firstBest_22
set_option maxHeartbeats 4000000 in
set_option maxRecDepth 20000 in
theorem w_x_Matching_voiceFor_L11_s (C : xCX σ p s m args meth c cX1_voiceFor 5 RX1 D E b) (hr : meth.sig.returnType = (some .int)) {r0 : Int} {M0 : Mem} {v1 : Int} {M : Mem} {v2 : Int} {v3 : Int} {v4 : Int} {q : Int × Int × Int} {rec : Int → Int → Int → Option (Int × Int × Int)} (hrec : ∀ (v2 : Int) (v3 : Int) (v4 : Int), rec v2 v3 v4 = some q → xWX p l e 7 152 s m args below meth c 5 D E b (some (vI r0)) M0 M 11 [(0, vR b 326), (1, vI v1), (2, vI v2), (3, vI v3), (4, vI v4)] []) (hfol : ∀ (v2 : Int) (v3 : Int) (v4 : Int), q = (v2, v3, v4) → xWX p l e 7 152 s m args below meth c 5 D E b (some (vI r0)) M0 M 49 [(3, vI v3)] []) (h : x_Matching_voiceFor_L11 v1 M rec v2 v3 v4 = some q) :
    xWX p l e 7 152 s m args below meth c 5 D E b (some (vI r0)) M0 M 11 [(0, vR b 326), (1, vI v1), (2, vI v2), (3, vI v3), (4, vI v4)] [] := by
  unfold x_Matching_voiceFor_L11 at h
  refine r_iload (pc := 11) C 4 rfl dX1_voiceFor_11 ?_
  refine r_iload_n (pc := 13) C 1 rfl rfl dX1_voiceFor_13 ?_
  refine r_icmp_gt (pc := 14) (tgt := 49) C h dX1_voiceFor_14 (by decide) (fun hc14 h => ?_) (fun hc14 h => ?_)
  · refine r_sub (lv' := [(3, vI v3)]) [3] rfl ?_
    exact hfol _ _ _ (Option.some.inj h).symm
  · refine r_iload (pc := 17) C 4 rfl dX1_voiceFor_17 ?_
    refine r_bipush (pc := 19) (j := 12) C (by decide +kernel) dX1_voiceFor_19 ?_
    refine r_icmp_ge (pc := 21) (tgt := 49) C h dX1_voiceFor_21 (by decide) (fun hc21 h => ?_) (fun hc21 h => ?_)
    · refine r_sub (lv' := [(3, vI v3)]) [3] rfl ?_
      exact hfol _ _ _ (Option.some.inj h).symm
    · refine r_aload_n (pc := 24) C 0 rfl rfl dX1_voiceFor_24 ?_
      refine r_iload (pc := 25) C 4 rfl dX1_voiceFor_25 ?_
      refine r_iload_n (pc := 27) C 2 rfl rfl dX1_voiceFor_27 ?_
      obtain ⟨r2, hq2, h⟩ := bnd_inv h
      refine r_callV (pc := 28) (rest := []) (st1 := [vI r2]) C (xExtOK σ b) [vI v4, vI v2] (c_x_Matching_firstBest l hq2) cl_RX1_42 x_s326 (by decide) rfl rfl rfl rfl ⟨Nat.le_of_ble_eq_true rfl, Nat.le_of_ble_eq_true rfl⟩ (Nat.le_of_ble_eq_true rfl) rfl rfl dX1_voiceFor_28 ?_
      refine r_istore_n (pc := 31) (lv' := [(3, vI r2), (0, vR b 326), (1, vI v1), (2, vI v2), (4, vI v4)]) C rfl dX1_voiceFor_31 (by decide) rfl ?_
      refine r_iload_n (pc := 32) C 0 rfl rfl dX1_voiceFor_32 ?_
      refine r_iconst (pc := 33) C dX1_voiceFor_33 ?_
      refine r_icmp_eq (pc := 34) (tgt := 43) C h dX1_voiceFor_34 (by decide) (fun hc34 h => ?_) (fun hc34 h => ?_)
      · obtain ⟨v4_43, hv4_43, h⟩ := lt_inv h
        refine r_iincN (pc := 43) (y := v4_43) (lv' := [(4, vI v4_43), (3, vI r2), (0, vR b 326), (1, vI v1), (2, vI v2)]) C 4 rfl hv4_43 dX1_voiceFor_43 (by decide) rfl ?_
        refine r_goto (pc := 46) (tgt := 11) C dX1_voiceFor_46 (by decide) ?_
        refine r_sub (lv' := [(0, vR b 326), (1, vI v1), (2, vI v2), (3, vI r2), (4, vI v4_43)]) [2, 3, 4, 1, 0] rfl ?_
        exact hrec _ _ _ h
      · refine r_iload_n (pc := 37) C 3 rfl rfl dX1_voiceFor_37 ?_
        refine r_iconst (pc := 38) C dX1_voiceFor_38 ?_
        refine r_iload_n (pc := 39) C 0 rfl rfl dX1_voiceFor_39 ?_
        refine r_ishl (pc := 40) C dX1_voiceFor_40 ?_
        refine r_ior (pc := 41) C dX1_voiceFor_41 ?_
        obtain ⟨v2_42, hv2_42, h⟩ := lt_inv h
        refine r_topI hv2_42 ?_
        refine r_istore_n (pc := 42) (lv' := [(2, vI v2_42), (3, vI r2), (0, vR b 326), (1, vI v1), (4, vI v4)]) C rfl dX1_voiceFor_42 (by decide) rfl ?_
        obtain ⟨v4_43, hv4_43, h⟩ := lt_inv h
        refine r_iincN (pc := 43) (y := v4_43) (lv' := [(4, vI v4_43), (2, vI v2_42), (3, vI r2), (0, vR b 326), (1, vI v1)]) C 4 rfl hv4_43 dX1_voiceFor_43 (by decide) rfl ?_
        refine r_goto (pc := 46) (tgt := 11) C dX1_voiceFor_46 (by decide) ?_
        refine r_sub (lv' := [(0, vR b 326), (1, vI v1), (2, vI v2_42), (3, vI r2), (4, vI v4_43)]) [3, 4, 1, 2, 0] rfl ?_
        exact hrec _ _ _ h
set_option maxHeartbeats 4000000 in
theorem w_x_Matching_voiceFor_L11 (C : xCX σ p s m args meth c cX1_voiceFor 5 RX1 D E b) (hr : meth.sig.returnType = (some .int)) {r0 : Int} {M0 : Mem} {v1 : Int} {M : Mem} {q : Int × Int × Int} (hfol : ∀ (v2 : Int) (v3 : Int) (v4 : Int), q = (v2, v3, v4) → xWX p l e 7 152 s m args below meth c 5 D E b (some (vI r0)) M0 M 49 [(3, vI v3)] []) : ∀ (n : Nat) (v2 : Int) (v3 : Int) (v4 : Int), itr3 (x_Matching_voiceFor_L11 v1 M) n v2 v3 v4 = some q →
    xWX p l e 7 152 s m args below meth c 5 D E b (some (vI r0)) M0 M 11 [(0, vR b 326), (1, vI v1), (2, vI v2), (3, vI v3), (4, vI v4)] [] := by
  intro n
  induction n with
  | zero => exact fun _ _ _ h => itr_z h
  | succ n ih => exact fun _ _ _ h => w_x_Matching_voiceFor_L11_s C hr ih hfol h
set_option maxHeartbeats 4000000 in
set_option maxRecDepth 20000 in
theorem c_x_Matching_voiceFor (l : Launch) {x1 : Int} {M : Mem} {r0 : Int} {M0 : Mem} (h : x_Matching_voiceFor x1 M = some (r0, M0)) : Ct l yX1_voiceFor cX1_voiceFor 5 (some .int) 7 152 vwCl xSh xN xRf (xExt σ) (fun b => [vR b 326, vI x1]) M (fun b => (some (vI r0))) M0 := by
  refine Ct_of (xExtOK σ) (by decide) (fun b => Nat.le_of_ble_eq_true rfl) ?_
  intro p e s m args below meth c D E b C hr
  unfold x_Matching_voiceFor at h
  refine (show xWX p l e 7 152 s m args below meth c 5 D E b (some (vI r0)) M0 M 0 [(0, vR b 326), (1, vI x1)] [] from ?_)
  refine r_aload_n (pc := 0) C 0 rfl rfl dX1_voiceFor_0 ?_
  obtain ⟨M1, hq1, h⟩ := bnd_inv h
  refine r_callV (pc := 1) (rest := []) (st1 := []) C (xExtOK σ b) [] (c_x_Matching_fillBest l hq1) cl_RX1_39 x_s326 (by decide) rfl rfl rfl rfl ⟨Nat.le_of_ble_eq_true rfl, Nat.le_of_ble_eq_true rfl⟩ (Nat.le_of_ble_eq_true rfl) rfl rfl dX1_voiceFor_1 ?_
  refine r_iconst (pc := 4) C dX1_voiceFor_4 ?_
  refine r_istore_n (pc := 5) (lv' := [(2, vI 0), (0, vR b 326), (1, vI x1)]) C rfl dX1_voiceFor_5 (by decide) rfl ?_
  refine r_iconst (pc := 6) C dX1_voiceFor_6 ?_
  refine r_istore_n (pc := 7) (lv' := [(3, vI (-1)), (2, vI 0), (0, vR b 326), (1, vI x1)]) C rfl dX1_voiceFor_7 (by decide) rfl ?_
  refine r_iconst (pc := 8) C dX1_voiceFor_8 ?_
  refine r_istore (pc := 9) (lv' := [(4, vI 0), (3, vI (-1)), (2, vI 0), (0, vR b 326), (1, vI x1)]) C dX1_voiceFor_9 (by decide) rfl ?_
  refine r_sub (lv' := [(0, vR b 326), (1, vI x1), (2, vI 0), (3, vI (-1)), (4, vI 0)]) [3, 4, 2, 1, 0] rfl ?_
  obtain ⟨q3, hl3, h⟩ := bnd_inv h
  refine w_x_Matching_voiceFor_L11 C hr (fun v2_3 v3_3 v4_3 hq => ?_) FUEL _ _ _ hl3
  have hq := hq.symm
  subst hq
  refine r_iload_n (pc := 49) C 0 rfl rfl dX1_voiceFor_49 ?_
  have e := Option.some.inj h
  exact r_iret (pc := 50) C hr (congrArg (fun z => some (vI z)) (Prod.mk.inj e).1.symm) (Prod.mk.inj e).2.symm dX1_voiceFor_50
set_option maxHeartbeats 4000000 in
set_option maxRecDepth 20000 in
theorem c_x_X_match (l : Launch) {x1 : Int} {M : Mem} {r0 : Int} {M0 : Mem} (h : x_X_match x1 M = some (r0, M0)) : Ct l yX11_match cX11_match 2 (some .int) 8 176 vwCl xSh xN xRf (xExt σ) (fun b => [vR b 0, vI x1]) M (fun b => (some (vI r0))) M0 := by
  refine Ct_of (xExtOK σ) (by decide) (fun b => Nat.le_of_ble_eq_true rfl) ?_
  intro p e s m args below meth c D E b C hr
  unfold x_X_match at h
  refine (show xWX p l e 8 176 s m args below meth c 2 D E b (some (vI r0)) M0 M 0 [(0, vR b 0), (1, vI x1)] [] from ?_)
  refine r_iload_n (pc := 0) C 1 rfl rfl dX11_match_0 ?_
  refine r_iconst (pc := 1) C dX11_match_1 ?_
  refine r_icmp_ne (pc := 2) (tgt := 13) C h dX11_match_2 (by decide) (fun hc2 h => ?_) (fun hc2 h => ?_)
  · refine r_aload_n (pc := 13) C 0 rfl rfl dX11_match_13 ?_
    refine r_iload_n (pc := 14) C 1 rfl rfl dX11_match_14 ?_
    obtain ⟨r1, hq1, h⟩ := bnd_inv h
    refine r_callV (pc := 15) (rest := []) (st1 := [vB r1]) C (xExtOK σ b) [vI x1] (c_x_X_isSaying l hq1) cl_RX11_189 x_s0 (by decide) rfl rfl rfl rfl ⟨Nat.le_of_ble_eq_true rfl, Nat.le_of_ble_eq_true rfl⟩ (Nat.le_of_ble_eq_true rfl) rfl rfl dX11_match_15 ?_
    refine r_if_eqB (pc := 18) (tgt := 32) C h dX11_match_18 (by decide) (fun hc18 h => ?_) (fun hc18 h => ?_)
    · refine r_aload_n (pc := 21) C 0 rfl rfl dX11_match_21 ?_
      refine r_getR (pc := 22) C fl_RX11_54 x_s0 (by decide) x_kX_6 x_r0_6 dX11_match_22 ?_
      refine r_iload_n (pc := 25) C 1 rfl rfl dX11_match_25 ?_
      obtain ⟨r2, M2, hq2, h⟩ := bnd2_inv h
      refine r_callV (pc := 26) (rest := []) (st1 := [vI r2]) C (xExtOK σ b) [vI x1] (c_x_Matching_voiceFor l hq2) cl_RX11_240 x_s326 (by decide) rfl rfl rfl rfl ⟨Nat.le_of_ble_eq_true rfl, Nat.le_of_ble_eq_true rfl⟩ (Nat.le_of_ble_eq_true rfl) rfl rfl dX11_match_26 ?_
      refine r_goto (pc := 29) (tgt := 33) C dX11_match_29 (by decide) ?_
      have e := Option.some.inj h
      exact r_iret (pc := 33) C hr (congrArg (fun z => some (vI z)) (Prod.mk.inj e).1.symm) (Prod.mk.inj e).2.symm dX11_match_33
    · refine r_iconst (pc := 32) C dX11_match_32 ?_
      have e := Option.some.inj h
      exact r_iret (pc := 33) C hr (congrArg (fun z => some (vI z)) (Prod.mk.inj e).1.symm) (Prod.mk.inj e).2.symm dX11_match_33
  · refine r_aload_n (pc := 5) C 0 rfl rfl dX11_match_5 ?_
    refine r_getR (pc := 6) C fl_RX11_54 x_s0 (by decide) x_kX_6 x_r0_6 dX11_match_6 ?_
    obtain ⟨r3, M3, hq3, h⟩ := bnd2_inv h
    refine r_callV (pc := 9) (rest := []) (st1 := [vI r3]) C (xExtOK σ b) [] (c_x_Matching_bestSum l hq3) cl_RX11_237 x_s326 (by decide) rfl rfl rfl rfl ⟨Nat.le_of_ble_eq_true rfl, Nat.le_of_ble_eq_true rfl⟩ (Nat.le_of_ble_eq_true rfl) rfl rfl dX11_match_9 ?_
    have e := Option.some.inj h
    exact r_iret (pc := 12) C hr (congrArg (fun z => some (vI z)) (Prod.mk.inj e).1.symm) (Prod.mk.inj e).2.symm dX11_match_12
set_option maxHeartbeats 4000000 in
set_option maxRecDepth 20000 in
theorem w_x_X_isEnough_L2_s (C : xCX σ p s m args meth c cX11_isEnough 5 RX11 D E b) (hr : meth.sig.returnType = (some .boolean)) {r0 : Bool} {M0 : Mem} {v1 : Int} {v2 : Int} {M : Mem} {v3 : Int} {q : (Bool × Mem) ⊕ (Int)} {rec : Int → Option ((Bool × Mem) ⊕ (Int))} (hrec : ∀ (v3 : Int), rec v3 = some q → xWX p l e 7 154 s m args below meth c 5 D E b (some (vB r0)) M0 M 2 [(0, vR b 0), (1, vI v1), (2, vI v2), (3, vI v3)] []) (hret : ∀ r, q = .inl r → r = (r0, M0)) (hfol : ∀ (v3 : Int), q = .inr v3 → xWX p l e 7 154 s m args below meth c 5 D E b (some (vB r0)) M0 M 41 [(0, vR b 0), (1, vI v1), (2, vI v2)] []) (h : x_X_isEnough_L2 v1 v2 M rec v3 = some q) :
    xWX p l e 7 154 s m args below meth c 5 D E b (some (vB r0)) M0 M 2 [(0, vR b 0), (1, vI v1), (2, vI v2), (3, vI v3)] [] := by
  unfold x_X_isEnough_L2 at h
  refine r_iload_n (pc := 2) C 3 rfl rfl dX11_isEnough_2 ?_
  refine r_aload_n (pc := 3) C 0 rfl rfl dX11_isEnough_3 ?_
  refine r_getR (pc := 4) C fl_RX11_26 x_s0 (by decide) x_kX_2 x_r0_2 dX11_isEnough_4 ?_
  refine r_getI (pc := 7) C fl_RX11_120 x_s23 (by decide) x_kTown_0 dX11_isEnough_7 ?_
  refine r_icmp_ge (pc := 10) (tgt := 41) C h dX11_isEnough_10 (by decide) (fun hc10 h => ?_) (fun hc10 h => ?_)
  · refine r_sub (lv' := [(0, vR b 0), (1, vI v1), (2, vI v2)]) [0, 1, 2] rfl ?_
    exact hfol _ (Option.some.inj h).symm
  · refine r_iload_n (pc := 13) C 1 rfl rfl dX11_isEnough_13 ?_
    refine r_iload_n (pc := 14) C 3 rfl rfl dX11_isEnough_14 ?_
    refine r_ishr (pc := 15) C dX11_isEnough_15 ?_
    refine r_iconst (pc := 16) C dX11_isEnough_16 ?_
    refine r_iand (pc := 17) C dX11_isEnough_17 ?_
    refine r_if_eq (pc := 18) (tgt := 35) C h dX11_isEnough_18 (by decide) (fun hc18 h => ?_) (fun hc18 h => ?_)
    · obtain ⟨v3_35, hv3_35, h⟩ := lt_inv h
      refine r_iincN (pc := 35) (y := v3_35) (lv' := [(3, vI v3_35), (0, vR b 0), (1, vI v1), (2, vI v2)]) C 3 rfl hv3_35 dX11_isEnough_35 (by decide) rfl ?_
      refine r_goto (pc := 38) (tgt := 2) C dX11_isEnough_38 (by decide) ?_
      refine r_sub (lv' := [(0, vR b 0), (1, vI v1), (2, vI v2), (3, vI v3_35)]) [1, 2, 3, 0] rfl ?_
      exact hrec _ h
    · refine r_aload_n (pc := 21) C 0 rfl rfl dX11_isEnough_21 ?_
      refine r_getR (pc := 22) C fl_RX11_35 x_s0 (by decide) x_kX_3 x_r0_3 dX11_isEnough_22 ?_
      refine r_getR (pc := 25) C fl_RX11_170 x_s38 (by decide) x_kState_1 x_r38_1 dX11_isEnough_25 ?_
      refine r_iload_n (pc := 28) C 3 rfl rfl dX11_isEnough_28 ?_
      obtain ⟨hi29, h⟩ := chk_inv h
      refine r_iald (pc := 29) C x_s40 (by decide) (by decide) hi29 rfl dX11_isEnough_29 ?_
      refine r_if_eq (pc := 30) (tgt := 35) C h dX11_isEnough_30 (by decide) (fun hc30 h => ?_) (fun hc30 h => ?_)
      · obtain ⟨v3_35, hv3_35, h⟩ := lt_inv h
        refine r_iincN (pc := 35) (y := v3_35) (lv' := [(3, vI v3_35), (0, vR b 0), (1, vI v1), (2, vI v2)]) C 3 rfl hv3_35 dX11_isEnough_35 (by decide) rfl ?_
        refine r_goto (pc := 38) (tgt := 2) C dX11_isEnough_38 (by decide) ?_
        refine r_sub (lv' := [(0, vR b 0), (1, vI v1), (2, vI v2), (3, vI v3_35)]) [1, 2, 3, 0] rfl ?_
        exact hrec _ h
      · refine r_iconst (pc := 33) C dX11_isEnough_33 ?_
        have e := hret _ (Option.some.inj h).symm
        exact r_zret (pc := 34) C hr (Or.inl rfl) (congrArg (fun z => some (vB z)) (Prod.mk.inj e).1.symm) (Prod.mk.inj e).2.symm dX11_isEnough_34
set_option maxHeartbeats 4000000 in
theorem w_x_X_isEnough_L2 (C : xCX σ p s m args meth c cX11_isEnough 5 RX11 D E b) (hr : meth.sig.returnType = (some .boolean)) {r0 : Bool} {M0 : Mem} {v1 : Int} {v2 : Int} {M : Mem} {q : (Bool × Mem) ⊕ (Int)} (hret : ∀ r, q = .inl r → r = (r0, M0)) (hfol : ∀ (v3 : Int), q = .inr v3 → xWX p l e 7 154 s m args below meth c 5 D E b (some (vB r0)) M0 M 41 [(0, vR b 0), (1, vI v1), (2, vI v2)] []) : ∀ (n : Nat) (v3 : Int), itr1 (x_X_isEnough_L2 v1 v2 M) n v3 = some q →
    xWX p l e 7 154 s m args below meth c 5 D E b (some (vB r0)) M0 M 2 [(0, vR b 0), (1, vI v1), (2, vI v2), (3, vI v3)] [] := by
  intro n
  induction n with
  | zero => exact fun _ h => itr_z h
  | succ n ih => exact fun _ h => w_x_X_isEnough_L2_s C hr ih hret hfol h
set_option maxHeartbeats 4000000 in
set_option maxRecDepth 20000 in
theorem w_x_X_isEnough_L49_s (C : xCX σ p s m args meth c cX11_isEnough 5 RX11 D E b) (hr : meth.sig.returnType = (some .boolean)) {r0 : Bool} {M0 : Mem} {v1 : Int} {v2 : Int} {v4 : Int} {M : Mem} {q : (Bool × Mem) ⊕ (Int × Mem)} {rec : Int → Mem → Option ((Bool × Mem) ⊕ (Int × Mem))} (hrec : ∀ (v4 : Int) (M : Mem), rec v4 M = some q → xWX p l e 7 154 s m args below meth c 5 D E b (some (vB r0)) M0 M 49 [(1, vI v1), (2, vI v2), (3, vR b 51), (4, vI v4)] []) (hret : ∀ r, q = .inl r → r = (r0, M0)) (hfol : ∀ (v4 : Int) (M : Mem), q = .inr (v4, M) → xWX p l e 7 154 s m args below meth c 5 D E b (some (vB r0)) M0 M 76 [] []) (h : x_X_isEnough_L49 v1 v2 rec v4 M = some q) :
    xWX p l e 7 154 s m args below meth c 5 D E b (some (vB r0)) M0 M 49 [(1, vI v1), (2, vI v2), (3, vR b 51), (4, vI v4)] [] := by
  unfold x_X_isEnough_L49 at h
  refine r_iload (pc := 49) C 3 rfl dX11_isEnough_49 ?_
  refine r_iload_n (pc := 51) C 1 rfl rfl dX11_isEnough_51 ?_
  refine r_icmp_ge (pc := 52) (tgt := 76) C h dX11_isEnough_52 (by decide) (fun hc52 h => ?_) (fun hc52 h => ?_)
  · refine r_sub (lv' := []) [] rfl ?_
    exact hfol _ _ (Option.some.inj h).symm
  · refine r_aload_n (pc := 55) C 2 rfl rfl dX11_isEnough_55 ?_
    refine r_iload_n (pc := 56) C 0 rfl rfl dX11_isEnough_56 ?_
    obtain ⟨r3, M3, hq3, h⟩ := bnd2_inv h
    refine r_callV (pc := 57) (rest := []) (st1 := [vI r3]) C (xExtOK σ b) [vI v1] (c_x_State_begin l 51 x_m51 hq3) cl_RX11_302 x_s51 (by decide) rfl rfl rfl rfl ⟨Nat.le_of_ble_eq_true rfl, Nat.le_of_ble_eq_true rfl⟩ (Nat.le_of_ble_eq_true rfl) rfl rfl dX11_isEnough_57 ?_
    refine r_if_le (pc := 60) (tgt := 65) C h dX11_isEnough_60 (by decide) (fun hc60 h => ?_) (fun hc60 h => ?_)
    · refine r_aload_n (pc := 65) C 2 rfl rfl dX11_isEnough_65 ?_
      obtain ⟨r4, M4, hq4, h⟩ := bnd2_inv h
      refine r_callV (pc := 66) (rest := []) (st1 := [vI r4]) C (xExtOK σ b) [] (c_x_State_finish l 51 x_m51 hq4) cl_RX11_305 x_s51 (by decide) rfl rfl rfl rfl ⟨Nat.le_of_ble_eq_true rfl, Nat.le_of_ble_eq_true rfl⟩ (Nat.le_of_ble_eq_true rfl) rfl rfl dX11_isEnough_66 ?_
      refine r_pop (pc := 69) C rfl dX11_isEnough_69 ?_
      obtain ⟨v4_70, hv4_70, h⟩ := lt_inv h
      refine r_iincN (pc := 70) (y := v4_70) (lv' := [(4, vI v4_70), (1, vI v1), (2, vI v2), (3, vR b 51)]) C 3 rfl hv4_70 dX11_isEnough_70 (by decide) rfl ?_
      refine r_goto (pc := 73) (tgt := 49) C dX11_isEnough_73 (by decide) ?_
      refine r_sub (lv' := [(1, vI v1), (2, vI v2), (3, vR b 51), (4, vI v4_70)]) [1, 2, 3, 0] rfl ?_
      exact hrec _ _ h
    · refine r_iconst (pc := 63) C dX11_isEnough_63 ?_
      have e := hret _ (Option.some.inj h).symm
      exact r_zret (pc := 64) C hr (Or.inl rfl) (congrArg (fun z => some (vB z)) (Prod.mk.inj e).1.symm) (Prod.mk.inj e).2.symm dX11_isEnough_64
set_option maxHeartbeats 4000000 in
theorem w_x_X_isEnough_L49 (C : xCX σ p s m args meth c cX11_isEnough 5 RX11 D E b) (hr : meth.sig.returnType = (some .boolean)) {r0 : Bool} {M0 : Mem} {v1 : Int} {v2 : Int} {q : (Bool × Mem) ⊕ (Int × Mem)} (hret : ∀ r, q = .inl r → r = (r0, M0)) (hfol : ∀ (v4 : Int) (M : Mem), q = .inr (v4, M) → xWX p l e 7 154 s m args below meth c 5 D E b (some (vB r0)) M0 M 76 [] []) : ∀ (n : Nat) (v4 : Int) (M : Mem), itr2 (x_X_isEnough_L49 v1 v2) n v4 M = some q →
    xWX p l e 7 154 s m args below meth c 5 D E b (some (vB r0)) M0 M 49 [(1, vI v1), (2, vI v2), (3, vR b 51), (4, vI v4)] [] := by
  intro n
  induction n with
  | zero => exact fun _ _ h => itr_z h
  | succ n ih => exact fun _ _ h => w_x_X_isEnough_L49_s C hr ih hret hfol h
set_option maxHeartbeats 4000000 in
set_option maxRecDepth 20000 in
theorem c_x_X_isEnough (l : Launch) {x1 : Int} {x2 : Int} {M : Mem} {r0 : Bool} {M0 : Mem} (h : x_X_isEnough x1 x2 M = some (r0, M0)) : Ct l yX11_isEnough cX11_isEnough 5 (some .boolean) 7 154 vwCl xSh xN xRf (xExt σ) (fun b => [vR b 0, vI x1, vI x2]) M (fun b => (some (vB r0))) M0 := by
  refine Ct_of (xExtOK σ) (by decide) (fun b => Nat.le_of_ble_eq_true rfl) ?_
  intro p e s m args below meth c D E b C hr
  unfold x_X_isEnough at h
  refine (show xWX p l e 7 154 s m args below meth c 5 D E b (some (vB r0)) M0 M 0 [(0, vR b 0), (1, vI x1), (2, vI x2)] [] from ?_)
  refine r_iconst (pc := 0) C dX11_isEnough_0 ?_
  refine r_istore_n (pc := 1) (lv' := [(3, vI 0), (0, vR b 0), (1, vI x1), (2, vI x2)]) C rfl dX11_isEnough_1 (by decide) rfl ?_
  refine r_sub (lv' := [(0, vR b 0), (1, vI x1), (2, vI x2), (3, vI 0)]) [1, 2, 3, 0] rfl ?_
  obtain ⟨q1, hl1, h⟩ := bnd_inv h
  refine w_x_X_isEnough_L2 C hr (fun r hq => ?_) (fun v3_1 hq => ?_) FUEL _ hl1
  · have hq := hq.symm
    subst hq
    exact Option.some.inj h
  · have hq := hq.symm
    subst hq
    refine r_aload_n (pc := 41) C 0 rfl rfl dX11_isEnough_41 ?_
    obtain ⟨M2, hq2, h⟩ := bnd_inv h
    refine r_callV (pc := 42) (rest := []) (st1 := [vR b 51]) C (xExtOK σ b) [] (c_x_X_fresh l hq2) cl_RX11_225 x_s0 (by decide) rfl rfl rfl rfl ⟨Nat.le_of_ble_eq_true rfl, Nat.le_of_ble_eq_true rfl⟩ (Nat.le_of_ble_eq_true rfl) rfl rfl dX11_isEnough_42 ?_
    refine r_astore_n (pc := 45) (lv' := [(3, vR b 51), (0, vR b 0), (1, vI x1), (2, vI x2)]) C rfl dX11_isEnough_45 (by decide) rfl ?_
    refine r_iconst (pc := 46) C dX11_isEnough_46 ?_
    refine r_istore (pc := 47) (lv' := [(4, vI 0), (3, vR b 51), (0, vR b 0), (1, vI x1), (2, vI x2)]) C dX11_isEnough_47 (by decide) rfl ?_
    refine r_sub (lv' := [(1, vI x1), (2, vI x2), (3, vR b 51), (4, vI 0)]) [3, 4, 1, 0] rfl ?_
    obtain ⟨q5, hl5, h⟩ := bnd_inv h
    refine w_x_X_isEnough_L49 C hr (fun r hq => ?_) (fun v4_5 M_5 hq => ?_) FUEL _ _ hl5
    · have hq := hq.symm
      subst hq
      exact Option.some.inj h
    · have hq := hq.symm
      subst hq
      refine r_iconst (pc := 76) C dX11_isEnough_76 ?_
      have e := Option.some.inj h
      exact r_zret (pc := 77) C hr (Or.inr rfl) (congrArg (fun z => some (vB z)) (Prod.mk.inj e).1.symm) (Prod.mk.inj e).2.symm dX11_isEnough_77
set_option maxHeartbeats 4000000 in
set_option maxRecDepth 20000 in
theorem c_j_Integer_bitCount_0f7a4 (l : Launch) {x0 : Int} {M : Mem} {r0 : Int} (h : j_Integer_bitCount_0f7a4 x0 = some r0) : Ct l yJ6_bitCount_0f7a4 cJ6_bitCount_0f7a4 1 (some .int) 1 12 vwCl xSh xN xRf (xExt σ) (fun b => [vI x0]) M (fun b => (some (vI r0))) M := by
  refine Ct_of (xExtOK σ) (by decide) (fun b => Nat.le_of_ble_eq_true rfl) ?_
  intro p e s m args below meth c D E b C hr
  unfold j_Integer_bitCount_0f7a4 at h
  refine (show xWX p l e 1 12 s m args below meth c 1 D E b (some (vI r0)) M M 0 [(0, vI x0)] [] from ?_)
  refine r_iload_n (pc := 0) C 0 rfl rfl dJ6_bitCount_0f7a4_0 ?_
  refine r_iload_n (pc := 1) C 0 rfl rfl dJ6_bitCount_0f7a4_1 ?_
  refine r_iconst (pc := 2) C dJ6_bitCount_0f7a4_2 ?_
  refine r_iushr (pc := 3) C dJ6_bitCount_0f7a4_3 ?_
  refine r_ldcw (pc := 4) (j := 1431655765) C (by decide +kernel) gk_RJ6_265 dJ6_bitCount_0f7a4_4 ?_
  refine r_iand (pc := 7) C dJ6_bitCount_0f7a4_7 ?_
  refine r_isub (pc := 8) C dJ6_bitCount_0f7a4_8 ?_
  obtain ⟨v0_9, hv0_9, h⟩ := lt_inv h
  refine r_topI hv0_9 ?_
  refine r_istore_n (pc := 9) (lv' := [(0, vI v0_9)]) C rfl dJ6_bitCount_0f7a4_9 (by decide) rfl ?_
  refine r_iload_n (pc := 10) C 0 rfl rfl dJ6_bitCount_0f7a4_10 ?_
  refine r_ldcw (pc := 11) (j := 858993459) C (by decide +kernel) gk_RJ6_266 dJ6_bitCount_0f7a4_11 ?_
  refine r_iand (pc := 14) C dJ6_bitCount_0f7a4_14 ?_
  refine r_iload_n (pc := 15) C 0 rfl rfl dJ6_bitCount_0f7a4_15 ?_
  refine r_iconst (pc := 16) C dJ6_bitCount_0f7a4_16 ?_
  refine r_iushr (pc := 17) C dJ6_bitCount_0f7a4_17 ?_
  refine r_ldcw (pc := 18) (j := 858993459) C (by decide +kernel) gk_RJ6_266 dJ6_bitCount_0f7a4_18 ?_
  refine r_iand (pc := 21) C dJ6_bitCount_0f7a4_21 ?_
  refine r_iadd (pc := 22) C dJ6_bitCount_0f7a4_22 ?_
  obtain ⟨v0_23, hv0_23, h⟩ := lt_inv h
  refine r_topI hv0_23 ?_
  refine r_istore_n (pc := 23) (lv' := [(0, vI v0_23)]) C rfl dJ6_bitCount_0f7a4_23 (by decide) rfl ?_
  refine r_iload_n (pc := 24) C 0 rfl rfl dJ6_bitCount_0f7a4_24 ?_
  refine r_iload_n (pc := 25) C 0 rfl rfl dJ6_bitCount_0f7a4_25 ?_
  refine r_iconst (pc := 26) C dJ6_bitCount_0f7a4_26 ?_
  refine r_iushr (pc := 27) C dJ6_bitCount_0f7a4_27 ?_
  refine r_iadd (pc := 28) C dJ6_bitCount_0f7a4_28 ?_
  refine r_ldcw (pc := 29) (j := 252645135) C (by decide +kernel) gk_RJ6_267 dJ6_bitCount_0f7a4_29 ?_
  refine r_iand (pc := 32) C dJ6_bitCount_0f7a4_32 ?_
  obtain ⟨v0_33, hv0_33, h⟩ := lt_inv h
  refine r_topI hv0_33 ?_
  refine r_istore_n (pc := 33) (lv' := [(0, vI v0_33)]) C rfl dJ6_bitCount_0f7a4_33 (by decide) rfl ?_
  refine r_iload_n (pc := 34) C 0 rfl rfl dJ6_bitCount_0f7a4_34 ?_
  refine r_iload_n (pc := 35) C 0 rfl rfl dJ6_bitCount_0f7a4_35 ?_
  refine r_bipush (pc := 36) (j := 8) C (by decide +kernel) dJ6_bitCount_0f7a4_36 ?_
  refine r_iushr (pc := 38) C dJ6_bitCount_0f7a4_38 ?_
  refine r_iadd (pc := 39) C dJ6_bitCount_0f7a4_39 ?_
  obtain ⟨v0_40, hv0_40, h⟩ := lt_inv h
  refine r_topI hv0_40 ?_
  refine r_istore_n (pc := 40) (lv' := [(0, vI v0_40)]) C rfl dJ6_bitCount_0f7a4_40 (by decide) rfl ?_
  refine r_iload_n (pc := 41) C 0 rfl rfl dJ6_bitCount_0f7a4_41 ?_
  refine r_iload_n (pc := 42) C 0 rfl rfl dJ6_bitCount_0f7a4_42 ?_
  refine r_bipush (pc := 43) (j := 16) C (by decide +kernel) dJ6_bitCount_0f7a4_43 ?_
  refine r_iushr (pc := 45) C dJ6_bitCount_0f7a4_45 ?_
  refine r_iadd (pc := 46) C dJ6_bitCount_0f7a4_46 ?_
  obtain ⟨v0_47, hv0_47, h⟩ := lt_inv h
  refine r_topI hv0_47 ?_
  refine r_istore_n (pc := 47) (lv' := [(0, vI v0_47)]) C rfl dJ6_bitCount_0f7a4_47 (by decide) rfl ?_
  refine r_iload_n (pc := 48) C 0 rfl rfl dJ6_bitCount_0f7a4_48 ?_
  refine r_bipush (pc := 49) (j := 63) C (by decide +kernel) dJ6_bitCount_0f7a4_49 ?_
  refine r_iand (pc := 51) C dJ6_bitCount_0f7a4_51 ?_
  have e := Option.some.inj h
  exact r_iret (pc := 52) C hr (congrArg (fun z => some (vI z)) e.symm) rfl dJ6_bitCount_0f7a4_52
set_option maxHeartbeats 4000000 in
set_option maxRecDepth 20000 in
theorem w_x_X_choir_L28_s (C : xCX σ p s m args meth c cX11_choir 4 RX11 D E b) (hr : meth.sig.returnType = (some .int)) {r0 : Int} {M0 : Mem} {v1 : Int} {v2 : Int} {v3 : Int} {M : Mem} {q : (Int × Mem) ⊕ (Int × Mem)} {rec : Int → Mem → Option ((Int × Mem) ⊕ (Int × Mem))} (hrec : ∀ (v3 : Int) (M : Mem), rec v3 M = some q → xWX p l e 8 178 s m args below meth c 4 D E b (some (vI r0)) M0 M 28 [(0, vR b 0), (1, vI v1), (2, vI v2), (3, vI v3)] []) (hret : ∀ r, q = .inl r → r = (r0, M0)) (hfol : ∀ (v3 : Int) (M : Mem), q = .inr (v3, M) → xWX p l e 8 178 s m args below meth c 4 D E b (some (vI r0)) M0 M 66 [(0, vR b 0), (1, vI v1), (2, vI v2)] []) (h : x_X_choir_L28 v1 v2 rec v3 M = some q) :
    xWX p l e 8 178 s m args below meth c 4 D E b (some (vI r0)) M0 M 28 [(0, vR b 0), (1, vI v1), (2, vI v2), (3, vI v3)] [] := by
  unfold x_X_choir_L28 at h
  refine r_iload_n (pc := 28) C 3 rfl rfl dX11_choir_28 ?_
  refine r_iconst (pc := 29) C dX11_choir_29 ?_
  refine r_aload_n (pc := 30) C 0 rfl rfl dX11_choir_30 ?_
  refine r_getR (pc := 31) C fl_RX11_26 x_s0 (by decide) x_kX_2 x_r0_2 dX11_choir_31 ?_
  refine r_getI (pc := 34) C fl_RX11_120 x_s23 (by decide) x_kTown_0 dX11_choir_34 ?_
  refine r_ishl (pc := 37) C dX11_choir_37 ?_
  refine r_icmp_ge (pc := 38) (tgt := 66) C h dX11_choir_38 (by decide) (fun hc38 h => ?_) (fun hc38 h => ?_)
  · refine r_sub (lv' := [(0, vR b 0), (1, vI v1), (2, vI v2)]) [0, 1, 2] rfl ?_
    exact hfol _ _ (Option.some.inj h).symm
  · refine r_iload_n (pc := 41) C 3 rfl rfl dX11_choir_41 ?_
    obtain ⟨r2, hq2, h⟩ := bnd_inv h
    refine r_callS (pc := 42) (rest := []) (st1 := [vI r2]) C (xExtOK σ b) [vI v3] (c_j_Integer_bitCount_0f7a4 l hq2) cl_RX11_243 rfl rfl ⟨Nat.le_of_ble_eq_true rfl, Nat.le_of_ble_eq_true rfl⟩ (Nat.le_of_ble_eq_true rfl) rfl rfl dX11_choir_42 ?_
    refine r_iload_n (pc := 45) C 2 rfl rfl dX11_choir_45 ?_
    refine r_icmp_ne (pc := 46) (tgt := 60) C h dX11_choir_46 (by decide) (fun hc46 h => ?_) (fun hc46 h => ?_)
    · obtain ⟨v3_60, hv3_60, h⟩ := lt_inv h
      refine r_iincN (pc := 60) (y := v3_60) (lv' := [(3, vI v3_60), (0, vR b 0), (1, vI v1), (2, vI v2)]) C 3 rfl hv3_60 dX11_choir_60 (by decide) rfl ?_
      refine r_goto (pc := 63) (tgt := 28) C dX11_choir_63 (by decide) ?_
      refine r_sub (lv' := [(0, vR b 0), (1, vI v1), (2, vI v2), (3, vI v3_60)]) [1, 2, 3, 0] rfl ?_
      exact hrec _ _ h
    · refine r_aload_n (pc := 49) C 0 rfl rfl dX11_choir_49 ?_
      refine r_iload_n (pc := 50) C 3 rfl rfl dX11_choir_50 ?_
      refine r_iload_n (pc := 51) C 1 rfl rfl dX11_choir_51 ?_
      obtain ⟨r3, M3, hq3, h⟩ := bnd2_inv h
      refine r_callV (pc := 52) (rest := []) (st1 := [vB r3]) C (xExtOK σ b) [vI v3, vI v1] (c_x_X_isEnough l hq3) cl_RX11_248 x_s0 (by decide) rfl rfl rfl rfl ⟨Nat.le_of_ble_eq_true rfl, Nat.le_of_ble_eq_true rfl⟩ (Nat.le_of_ble_eq_true rfl) rfl rfl dX11_choir_52 ?_
      refine r_if_eqB (pc := 55) (tgt := 60) C h dX11_choir_55 (by decide) (fun hc55 h => ?_) (fun hc55 h => ?_)
      · refine r_iload_n (pc := 58) C 3 rfl rfl dX11_choir_58 ?_
        have e := hret _ (Option.some.inj h).symm
        exact r_iret (pc := 59) C hr (congrArg (fun z => some (vI z)) (Prod.mk.inj e).1.symm) (Prod.mk.inj e).2.symm dX11_choir_59
      · obtain ⟨v3_60, hv3_60, h⟩ := lt_inv h
        refine r_iincN (pc := 60) (y := v3_60) (lv' := [(3, vI v3_60), (0, vR b 0), (1, vI v1), (2, vI v2)]) C 3 rfl hv3_60 dX11_choir_60 (by decide) rfl ?_
        refine r_goto (pc := 63) (tgt := 28) C dX11_choir_63 (by decide) ?_
        refine r_sub (lv' := [(0, vR b 0), (1, vI v1), (2, vI v2), (3, vI v3_60)]) [1, 2, 3, 0] rfl ?_
        exact hrec _ _ h
set_option maxHeartbeats 4000000 in
theorem w_x_X_choir_L28 (C : xCX σ p s m args meth c cX11_choir 4 RX11 D E b) (hr : meth.sig.returnType = (some .int)) {r0 : Int} {M0 : Mem} {v1 : Int} {v2 : Int} {q : (Int × Mem) ⊕ (Int × Mem)} (hret : ∀ r, q = .inl r → r = (r0, M0)) (hfol : ∀ (v3 : Int) (M : Mem), q = .inr (v3, M) → xWX p l e 8 178 s m args below meth c 4 D E b (some (vI r0)) M0 M 66 [(0, vR b 0), (1, vI v1), (2, vI v2)] []) : ∀ (n : Nat) (v3 : Int) (M : Mem), itr2 (x_X_choir_L28 v1 v2) n v3 M = some q →
    xWX p l e 8 178 s m args below meth c 4 D E b (some (vI r0)) M0 M 28 [(0, vR b 0), (1, vI v1), (2, vI v2), (3, vI v3)] [] := by
  intro n
  induction n with
  | zero => exact fun _ _ h => itr_z h
  | succ n ih => exact fun _ _ h => w_x_X_choir_L28_s C hr ih hret hfol h
set_option maxHeartbeats 4000000 in
set_option maxRecDepth 20000 in
theorem w_x_X_choir_L15_s (C : xCX σ p s m args meth c cX11_choir 4 RX11 D E b) (hr : meth.sig.returnType = (some .int)) {r0 : Int} {M0 : Mem} {v1 : Int} {v2 : Int} {M : Mem} {q : (Int × Mem) ⊕ (Int × Mem)} {rec : Int → Mem → Option ((Int × Mem) ⊕ (Int × Mem))} (hrec : ∀ (v2 : Int) (M : Mem), rec v2 M = some q → xWX p l e 8 178 s m args below meth c 4 D E b (some (vI r0)) M0 M 15 [(0, vR b 0), (1, vI v1), (2, vI v2)] []) (hret : ∀ r, q = .inl r → r = (r0, M0)) (hfol : ∀ (v2 : Int) (M : Mem), q = .inr (v2, M) → xWX p l e 8 178 s m args below meth c 4 D E b (some (vI r0)) M0 M 72 [] []) (h : x_X_choir_L15 v1 rec v2 M = some q) :
    xWX p l e 8 178 s m args below meth c 4 D E b (some (vI r0)) M0 M 15 [(0, vR b 0), (1, vI v1), (2, vI v2)] [] := by
  unfold x_X_choir_L15 at h
  refine r_iload_n (pc := 15) C 2 rfl rfl dX11_choir_15 ?_
  refine r_aload_n (pc := 16) C 0 rfl rfl dX11_choir_16 ?_
  refine r_getR (pc := 17) C fl_RX11_26 x_s0 (by decide) x_kX_2 x_r0_2 dX11_choir_17 ?_
  refine r_getI (pc := 20) C fl_RX11_120 x_s23 (by decide) x_kTown_0 dX11_choir_20 ?_
  refine r_icmp_gt (pc := 23) (tgt := 72) C h dX11_choir_23 (by decide) (fun hc23 h => ?_) (fun hc23 h => ?_)
  · refine r_sub (lv' := []) [] rfl ?_
    exact hfol _ _ (Option.some.inj h).symm
  · refine r_iconst (pc := 26) C dX11_choir_26 ?_
    refine r_istore_n (pc := 27) (lv' := [(3, vI 0), (0, vR b 0), (1, vI v1), (2, vI v2)]) C rfl dX11_choir_27 (by decide) rfl ?_
    refine r_sub (lv' := [(0, vR b 0), (1, vI v1), (2, vI v2), (3, vI 0)]) [1, 2, 3, 0] rfl ?_
    obtain ⟨q4, hl4, h⟩ := bnd_inv h
    refine w_x_X_choir_L28 C hr (fun r hq => ?_) (fun v3_4 M_4 hq => ?_) FUEL _ _ hl4
    · have hq := hq.symm
      subst hq
      exact hret _ (Option.some.inj h).symm
    · have hq := hq.symm
      subst hq
      obtain ⟨v2_66, hv2_66, h⟩ := lt_inv h
      refine r_iincN (pc := 66) (y := v2_66) (lv' := [(2, vI v2_66), (0, vR b 0), (1, vI v1)]) C 2 rfl hv2_66 dX11_choir_66 (by decide) rfl ?_
      refine r_goto (pc := 69) (tgt := 15) C dX11_choir_69 (by decide) ?_
      refine r_sub (lv' := [(0, vR b 0), (1, vI v1), (2, vI v2_66)]) [1, 2, 0] rfl ?_
      exact hrec _ _ h
set_option maxHeartbeats 4000000 in
theorem w_x_X_choir_L15 (C : xCX σ p s m args meth c cX11_choir 4 RX11 D E b) (hr : meth.sig.returnType = (some .int)) {r0 : Int} {M0 : Mem} {v1 : Int} {q : (Int × Mem) ⊕ (Int × Mem)} (hret : ∀ r, q = .inl r → r = (r0, M0)) (hfol : ∀ (v2 : Int) (M : Mem), q = .inr (v2, M) → xWX p l e 8 178 s m args below meth c 4 D E b (some (vI r0)) M0 M 72 [] []) : ∀ (n : Nat) (v2 : Int) (M : Mem), itr2 (x_X_choir_L15 v1) n v2 M = some q →
    xWX p l e 8 178 s m args below meth c 4 D E b (some (vI r0)) M0 M 15 [(0, vR b 0), (1, vI v1), (2, vI v2)] [] := by
  intro n
  induction n with
  | zero => exact fun _ _ h => itr_z h
  | succ n ih => exact fun _ _ h => w_x_X_choir_L15_s C hr ih hret hfol h
set_option maxHeartbeats 4000000 in
set_option maxRecDepth 20000 in
theorem c_x_X_choir (l : Launch) {x1 : Int} {M : Mem} {r0 : Int} {M0 : Mem} (h : x_X_choir x1 M = some (r0, M0)) : Ct l yX11_choir cX11_choir 4 (some .int) 8 178 vwCl xSh xN xRf (xExt σ) (fun b => [vR b 0, vI x1]) M (fun b => (some (vI r0))) M0 := by
  refine Ct_of (xExtOK σ) (by decide) (fun b => Nat.le_of_ble_eq_true rfl) ?_
  intro p e s m args below meth c D E b C hr
  unfold x_X_choir at h
  refine (show xWX p l e 8 178 s m args below meth c 4 D E b (some (vI r0)) M0 M 0 [(0, vR b 0), (1, vI x1)] [] from ?_)
  refine r_aload_n (pc := 0) C 0 rfl rfl dX11_choir_0 ?_
  refine r_iload_n (pc := 1) C 1 rfl rfl dX11_choir_1 ?_
  refine r_iconst (pc := 2) C dX11_choir_2 ?_
  refine r_bipush (pc := 3) (j := 30) C (by decide +kernel) dX11_choir_3 ?_
  obtain ⟨r1, hq1, h⟩ := bnd_inv h
  refine r_callV (pc := 5) (rest := []) (st1 := [vB r1]) C (xExtOK σ b) [vI x1, vI 1, vI 30] (c_x_X_comes l hq1) cl_RX11_221 x_s0 (by decide) rfl rfl rfl rfl ⟨Nat.le_of_ble_eq_true rfl, Nat.le_of_ble_eq_true rfl⟩ (Nat.le_of_ble_eq_true rfl) rfl rfl dX11_choir_5 ?_
  refine r_if_neB (pc := 8) (tgt := 13) C h dX11_choir_8 (by decide) (fun hc8 h => ?_) (fun hc8 h => ?_)
  · refine r_iconst (pc := 13) C dX11_choir_13 ?_
    refine r_istore_n (pc := 14) (lv' := [(2, vI 0), (0, vR b 0), (1, vI x1)]) C rfl dX11_choir_14 (by decide) rfl ?_
    refine r_sub (lv' := [(0, vR b 0), (1, vI x1), (2, vI 0)]) [1, 2, 0] rfl ?_
    obtain ⟨q5, hl5, h⟩ := bnd_inv h
    refine w_x_X_choir_L15 C hr (fun r hq => ?_) (fun v2_5 M_5 hq => ?_) FUEL _ _ hl5
    · have hq := hq.symm
      subst hq
      exact Option.some.inj h
    · have hq := hq.symm
      subst hq
      refine r_iconst (pc := 72) C dX11_choir_72 ?_
      have e := Option.some.inj h
      exact r_iret (pc := 73) C hr (congrArg (fun z => some (vI z)) (Prod.mk.inj e).1.symm) (Prod.mk.inj e).2.symm dX11_choir_73
  · refine r_iconst (pc := 11) C dX11_choir_11 ?_
    have e := Option.some.inj h
    exact r_iret (pc := 12) C hr (congrArg (fun z => some (vI z)) (Prod.mk.inj e).1.symm) (Prod.mk.inj e).2.symm dX11_choir_12
set_option maxHeartbeats 4000000 in
set_option maxRecDepth 20000 in
theorem c_x_State_breakVoice (l : Launch) (th : Nat) (hth : th ∈ xI_State) {x1 : Int} {M : Mem} {M0 : Mem} (h : x_State_breakVoice th x1 M = some M0) : Ct l yX6_breakVoice cX6_breakVoice 3 none 2 34 vwCl xSh xN xRf (xExt σ) (fun b => [vR b th, vI x1]) M (fun b => none) M0 := by
  refine Ct_of (xExtOK σ) (by decide) (fun b => Nat.le_of_ble_eq_true rfl) ?_
  intro p e s m args below meth c D E b C hr
  unfold x_State_breakVoice at h
  refine (show xWX p l e 2 34 s m args below meth c 3 D E b none M0 M 0 [(0, vR b th), (1, vI x1)] [] from ?_)
  refine r_aload_n (pc := 0) C 0 rfl rfl dX6_breakVoice_0 ?_
  refine r_iload_n (pc := 1) C 1 rfl rfl dX6_breakVoice_1 ?_
  obtain ⟨r1, hq1, h⟩ := bnd_inv h
  refine r_callV (pc := 2) (rest := []) (st1 := [vI r1]) C (xExtOK σ b) [vI x1] (c_x_State_sayingBy l th hth hq1) cl_RX6_89 (x_sI_State hth) (x_nI_State hth) rfl rfl rfl rfl ⟨Nat.le_of_ble_eq_true rfl, Nat.le_of_ble_eq_true rfl⟩ (Nat.le_of_ble_eq_true rfl) rfl rfl dX6_breakVoice_2 ?_
  refine r_istore_n (pc := 5) (lv' := [(2, vI r1), (0, vR b th), (1, vI x1)]) C rfl dX6_breakVoice_5 (by decide) rfl ?_
  refine r_aload_n (pc := 6) C 1 rfl rfl dX6_breakVoice_6 ?_
  refine r_getR (pc := 7) C fl_RX6_15 (x_sI_State hth) (x_nI_State hth) x_kState_1 (x_rI_State_1 hth) dX6_breakVoice_7 ?_
  refine r_iload_n (pc := 10) C 2 rfl rfl dX6_breakVoice_10 ?_
  refine r_iconst (pc := 11) C dX6_breakVoice_11 ?_
  obtain ⟨hi12, h⟩ := chk_inv h
  obtain ⟨M_12, hM_12, h⟩ := lt_inv h
  refine r_iast (pc := 12) C (x_aI_State_1 hth) (x_bI_State_1 hth) (by decide) hi12 rfl hM_12 dX6_breakVoice_12 ?_
  refine r_iload_n (pc := 13) C 0 rfl rfl dX6_breakVoice_13 ?_
  refine r_iconst (pc := 14) C dX6_breakVoice_14 ?_
  refine r_icmp_eq (pc := 15) (tgt := 24) C h dX6_breakVoice_15 (by decide) (fun hc15 h => ?_) (fun hc15 h => ?_)
  · have e := Option.some.inj h
    exact r_vret (pc := 24) C hr rfl e.symm dX6_breakVoice_24
  · refine r_aload_n (pc := 18) C 1 rfl rfl dX6_breakVoice_18 ?_
    refine r_iload_n (pc := 19) C 0 rfl rfl dX6_breakVoice_19 ?_
    refine r_iconst (pc := 20) C dX6_breakVoice_20 ?_
    obtain ⟨M2, hq2, h⟩ := bnd_inv h
    refine r_callV (pc := 21) (rest := []) (st1 := []) C (xExtOK σ b) [vI r1, vI 5] (c_x_State_conclude l th hth hq2) cl_RX6_136 (x_sI_State hth) (x_nI_State hth) rfl rfl rfl rfl ⟨Nat.le_of_ble_eq_true rfl, Nat.le_of_ble_eq_true rfl⟩ (Nat.le_of_ble_eq_true rfl) rfl rfl dX6_breakVoice_21 ?_
    have e := Option.some.inj h
    exact r_vret (pc := 24) C hr rfl e.symm dX6_breakVoice_24
set_option maxHeartbeats 4000000 in
set_option maxRecDepth 20000 in
theorem w_x_X_worst_L30_s (C : xCX σ p s m args meth c cX11_worst 8 RX11 D E b) (hr : meth.sig.returnType = (some .int)) {r0 : Int} {M0 : Mem} {v1 : Int} {v2 : Int} {v3 : Int} {v4 : Int} {v5 : Int} {M : Mem} {q : Int × Int × Int × Mem} {rec : Int → Int → Int → Mem → Option (Int × Int × Int × Mem)} (hrec : ∀ (v3 : Int) (v4 : Int) (v5 : Int) (M : Mem), rec v3 v4 v5 M = some q → xWX p l e 8 177 s m args below meth c 8 D E b (some (vI r0)) M0 M 30 [(0, vR b 0), (1, vI v1), (2, vI v2), (3, vI v3), (4, vI v4), (5, vI v5)] []) (hfol : ∀ (v3 : Int) (v4 : Int) (v5 : Int) (M : Mem), q = (v3, v4, v5, M) → xWX p l e 8 177 s m args below meth c 8 D E b (some (vI r0)) M0 M 110 [(2, vI v2), (3, vI v3), (4, vI v4)] []) (h : x_X_worst_L30 v1 v2 rec v3 v4 v5 M = some q) :
    xWX p l e 8 177 s m args below meth c 8 D E b (some (vI r0)) M0 M 30 [(0, vR b 0), (1, vI v1), (2, vI v2), (3, vI v3), (4, vI v4), (5, vI v5)] [] := by
  unfold x_X_worst_L30 at h
  refine r_iload (pc := 30) C 5 rfl dX11_worst_30 ?_
  refine r_aload_n (pc := 32) C 0 rfl rfl dX11_worst_32 ?_
  refine r_getR (pc := 33) C fl_RX11_26 x_s0 (by decide) x_kX_2 x_r0_2 dX11_worst_33 ?_
  refine r_getI (pc := 36) C fl_RX11_120 x_s23 (by decide) x_kTown_0 dX11_worst_36 ?_
  refine r_icmp_ge (pc := 39) (tgt := 110) C h dX11_worst_39 (by decide) (fun hc39 h => ?_) (fun hc39 h => ?_)
  · refine r_sub (lv' := [(2, vI v2), (3, vI v3), (4, vI v4)]) [2, 3, 4] rfl ?_
    exact hfol _ _ _ _ (Option.some.inj h).symm
  · refine r_aload_n (pc := 42) C 0 rfl rfl dX11_worst_42 ?_
    refine r_getR (pc := 43) C fl_RX11_35 x_s0 (by decide) x_kX_3 x_r0_3 dX11_worst_43 ?_
    refine r_getR (pc := 46) C fl_RX11_170 x_s38 (by decide) x_kState_1 x_r38_1 dX11_worst_46 ?_
    refine r_iload (pc := 49) C 5 rfl dX11_worst_49 ?_
    obtain ⟨hi51, h⟩ := chk_inv h
    refine r_iald (pc := 51) C x_s40 (by decide) (by decide) hi51 rfl dX11_worst_51 ?_
    refine r_if_ne (pc := 52) (tgt := 104) C h dX11_worst_52 (by decide) (fun hc52 h => ?_) (fun hc52 h => ?_)
    · obtain ⟨v5_104, hv5_104, h⟩ := lt_inv h
      refine r_iincN (pc := 104) (y := v5_104) (lv' := [(5, vI v5_104), (0, vR b 0), (1, vI v1), (2, vI v2), (3, vI v3), (4, vI v4)]) C 5 rfl hv5_104 dX11_worst_104 (by decide) rfl ?_
      refine r_goto (pc := 107) (tgt := 30) C dX11_worst_107 (by decide) ?_
      refine r_sub (lv' := [(0, vR b 0), (1, vI v1), (2, vI v2), (3, vI v3), (4, vI v4), (5, vI v5_104)]) [1, 2, 3, 4, 5, 0] rfl ?_
      exact hrec _ _ _ _ h
    · refine r_aload_n (pc := 55) C 0 rfl rfl dX11_worst_55 ?_
      obtain ⟨M2, hq2, h⟩ := bnd_inv h
      refine r_callV (pc := 56) (rest := []) (st1 := [vR b 51]) C (xExtOK σ b) [] (c_x_X_fresh l hq2) cl_RX11_225 x_s0 (by decide) rfl rfl rfl rfl ⟨Nat.le_of_ble_eq_true rfl, Nat.le_of_ble_eq_true rfl⟩ (Nat.le_of_ble_eq_true rfl) rfl rfl dX11_worst_56 ?_
      refine r_astore (pc := 59) (lv' := [(6, vR b 51), (0, vR b 0), (1, vI v1), (2, vI v2), (3, vI v3), (4, vI v4), (5, vI v5)]) C dX11_worst_59 (by decide) rfl ?_
      refine r_aload (pc := 61) C 0 rfl dX11_worst_61 ?_
      refine r_iload (pc := 63) C 6 rfl dX11_worst_63 ?_
      obtain ⟨M3, hq3, h⟩ := bnd_inv h
      refine r_callV (pc := 65) (rest := []) (st1 := []) C (xExtOK σ b) [vI v5] (c_x_State_breakVoice l 51 x_m51 hq3) cl_RX11_252 x_s51 (by decide) rfl rfl rfl rfl ⟨Nat.le_of_ble_eq_true rfl, Nat.le_of_ble_eq_true rfl⟩ (Nat.le_of_ble_eq_true rfl) rfl rfl dX11_worst_65 ?_
      refine r_aload (pc := 68) C 0 rfl dX11_worst_68 ?_
      refine r_iload_n (pc := 70) C 2 rfl rfl dX11_worst_70 ?_
      obtain ⟨r4, M4, hq4, h⟩ := bnd2_inv h
      refine r_callV (pc := 71) (rest := []) (st1 := [vI r4]) C (xExtOK σ b) [vI v1] (c_x_State_pass l 51 x_m51 hq4) cl_RX11_229 x_s51 (by decide) rfl rfl rfl rfl ⟨Nat.le_of_ble_eq_true rfl, Nat.le_of_ble_eq_true rfl⟩ (Nat.le_of_ble_eq_true rfl) rfl rfl dX11_worst_71 ?_
      refine r_pop (pc := 74) C rfl dX11_worst_74 ?_
      refine r_aload (pc := 75) C 0 rfl dX11_worst_75 ?_
      refine r_iconst (pc := 77) C dX11_worst_77 ?_
      obtain ⟨r5, hq5, h⟩ := bnd_inv h
      refine r_callV (pc := 78) (rest := []) (st1 := [vI r5]) C (xExtOK σ b) [vI 4] (c_x_State_countOf l 51 x_m51 hq5) cl_RX11_139 x_s51 (by decide) rfl rfl rfl rfl ⟨Nat.le_of_ble_eq_true rfl, Nat.le_of_ble_eq_true rfl⟩ (Nat.le_of_ble_eq_true rfl) rfl rfl dX11_worst_78 ?_
      refine r_aload (pc := 81) C 0 rfl dX11_worst_81 ?_
      refine r_iconst (pc := 83) C dX11_worst_83 ?_
      obtain ⟨r6, hq6, h⟩ := bnd_inv h
      refine r_callV (pc := 84) (rest := [vI r5]) (st1 := [vI r6, vI r5]) C (xExtOK σ b) [vI 5] (c_x_State_countOf l 51 x_m51 hq6) cl_RX11_139 x_s51 (by decide) rfl rfl rfl rfl ⟨Nat.le_of_ble_eq_true rfl, Nat.le_of_ble_eq_true rfl⟩ (Nat.le_of_ble_eq_true rfl) rfl rfl dX11_worst_84 ?_
      refine r_iadd (pc := 87) C dX11_worst_87 ?_
      obtain ⟨v7_88, hv7_88, h⟩ := lt_inv h
      refine r_topI hv7_88 ?_
      refine r_istore (pc := 88) (lv' := [(7, vI v7_88), (6, vR b 51), (0, vR b 0), (1, vI v1), (2, vI v2), (3, vI v3), (4, vI v4), (5, vI v5)]) C dX11_worst_88 (by decide) rfl ?_
      refine r_iload (pc := 90) C 0 rfl dX11_worst_90 ?_
      refine r_iload (pc := 92) C 6 rfl dX11_worst_92 ?_
      refine r_icmp_le (pc := 94) (tgt := 104) C h dX11_worst_94 (by decide) (fun hc94 h => ?_) (fun hc94 h => ?_)
      · obtain ⟨v5_104, hv5_104, h⟩ := lt_inv h
        refine r_iincN (pc := 104) (y := v5_104) (lv' := [(5, vI v5_104), (7, vI v7_88), (6, vR b 51), (0, vR b 0), (1, vI v1), (2, vI v2), (3, vI v3), (4, vI v4)]) C 7 rfl hv5_104 dX11_worst_104 (by decide) rfl ?_
        refine r_goto (pc := 107) (tgt := 30) C dX11_worst_107 (by decide) ?_
        refine r_sub (lv' := [(0, vR b 0), (1, vI v1), (2, vI v2), (3, vI v3), (4, vI v4), (5, vI v5_104)]) [3, 4, 5, 6, 7, 0] rfl ?_
        exact hrec _ _ _ _ h
      · refine r_iload (pc := 97) C 0 rfl dX11_worst_97 ?_
        refine r_istore (pc := 99) (lv' := [(4, vI v7_88), (7, vI v7_88), (6, vR b 51), (0, vR b 0), (1, vI v1), (2, vI v2), (3, vI v3), (5, vI v5)]) C dX11_worst_99 (by decide) rfl ?_
        refine r_iload (pc := 101) C 7 rfl dX11_worst_101 ?_
        refine r_istore_n (pc := 103) (lv' := [(3, vI v5), (4, vI v7_88), (7, vI v7_88), (6, vR b 51), (0, vR b 0), (1, vI v1), (2, vI v2), (5, vI v5)]) C rfl dX11_worst_103 (by decide) rfl ?_
        obtain ⟨v5_104, hv5_104, h⟩ := lt_inv h
        refine r_iincN (pc := 104) (y := v5_104) (lv' := [(5, vI v5_104), (3, vI v5), (4, vI v7_88), (7, vI v7_88), (6, vR b 51), (0, vR b 0), (1, vI v1), (2, vI v2)]) C 7 rfl hv5_104 dX11_worst_104 (by decide) rfl ?_
        refine r_goto (pc := 107) (tgt := 30) C dX11_worst_107 (by decide) ?_
        refine r_sub (lv' := [(0, vR b 0), (1, vI v1), (2, vI v2), (3, vI v5), (4, vI v7_88), (5, vI v5_104)]) [5, 6, 7, 1, 2, 0] rfl ?_
        exact hrec _ _ _ _ h
set_option maxHeartbeats 4000000 in
theorem w_x_X_worst_L30 (C : xCX σ p s m args meth c cX11_worst 8 RX11 D E b) (hr : meth.sig.returnType = (some .int)) {r0 : Int} {M0 : Mem} {v1 : Int} {v2 : Int} {q : Int × Int × Int × Mem} (hfol : ∀ (v3 : Int) (v4 : Int) (v5 : Int) (M : Mem), q = (v3, v4, v5, M) → xWX p l e 8 177 s m args below meth c 8 D E b (some (vI r0)) M0 M 110 [(2, vI v2), (3, vI v3), (4, vI v4)] []) : ∀ (n : Nat) (v3 : Int) (v4 : Int) (v5 : Int) (M : Mem), itr4 (x_X_worst_L30 v1 v2) n v3 v4 v5 M = some q →
    xWX p l e 8 177 s m args below meth c 8 D E b (some (vI r0)) M0 M 30 [(0, vR b 0), (1, vI v1), (2, vI v2), (3, vI v3), (4, vI v4), (5, vI v5)] [] := by
  intro n
  induction n with
  | zero => exact fun _ _ _ _ h => itr_z h
  | succ n ih => exact fun _ _ _ _ h => w_x_X_worst_L30_s C hr ih hfol h
set_option maxHeartbeats 4000000 in
set_option maxRecDepth 20000 in
theorem c_x_X_worst (l : Launch) {x1 : Int} {x2 : Int} {M : Mem} {r0 : Int} {M0 : Mem} (h : x_X_worst x1 x2 M = some (r0, M0)) : Ct l yX11_worst cX11_worst 8 (some .int) 8 177 vwCl xSh xN xRf (xExt σ) (fun b => [vR b 0, vI x1, vI x2]) M (fun b => (some (vI r0))) M0 := by
  refine Ct_of (xExtOK σ) (by decide) (fun b => Nat.le_of_ble_eq_true rfl) ?_
  intro p e s m args below meth c D E b C hr
  unfold x_X_worst at h
  refine (show xWX p l e 8 177 s m args below meth c 8 D E b (some (vI r0)) M0 M 0 [(0, vR b 0), (1, vI x1), (2, vI x2)] [] from ?_)
  refine r_aload_n (pc := 0) C 0 rfl rfl dX11_worst_0 ?_
  refine r_iload_n (pc := 1) C 1 rfl rfl dX11_worst_1 ?_
  refine r_iconst (pc := 2) C dX11_worst_2 ?_
  refine r_bipush (pc := 3) (j := 30) C (by decide +kernel) dX11_worst_3 ?_
  obtain ⟨r1, hq1, h⟩ := bnd_inv h
  refine r_callV (pc := 5) (rest := []) (st1 := [vB r1]) C (xExtOK σ b) [vI x1, vI 1, vI 30] (c_x_X_comes l hq1) cl_RX11_221 x_s0 (by decide) rfl rfl rfl rfl ⟨Nat.le_of_ble_eq_true rfl, Nat.le_of_ble_eq_true rfl⟩ (Nat.le_of_ble_eq_true rfl) rfl rfl dX11_worst_5 ?_
  refine r_if_eqB (pc := 8) (tgt := 20) C h dX11_worst_8 (by decide) (fun hc8 h => ?_) (fun hc8 h => ?_)
  · refine r_iload_n (pc := 11) C 2 rfl rfl dX11_worst_11 ?_
    refine r_if_lt (pc := 12) (tgt := 20) C h dX11_worst_12 (by decide) (fun hc12 h => ?_) (fun hc12 h => ?_)
    · refine r_iconst (pc := 20) C dX11_worst_20 ?_
      have e := Option.some.inj h
      exact r_iret (pc := 21) C hr (congrArg (fun z => some (vI z)) (Prod.mk.inj e).1.symm) (Prod.mk.inj e).2.symm dX11_worst_21
    · refine r_iload_n (pc := 15) C 2 rfl rfl dX11_worst_15 ?_
      refine r_iconst (pc := 16) C dX11_worst_16 ?_
      refine r_icmp_le (pc := 17) (tgt := 22) C h dX11_worst_17 (by decide) (fun hc17 h => ?_) (fun hc17 h => ?_)
      · refine r_iconst (pc := 22) C dX11_worst_22 ?_
        refine r_istore_n (pc := 23) (lv' := [(3, vI (-1)), (0, vR b 0), (1, vI x1), (2, vI x2)]) C rfl dX11_worst_23 (by decide) rfl ?_
        refine r_iconst (pc := 24) C dX11_worst_24 ?_
        refine r_istore (pc := 25) (lv' := [(4, vI (-1)), (3, vI (-1)), (0, vR b 0), (1, vI x1), (2, vI x2)]) C dX11_worst_25 (by decide) rfl ?_
        refine r_iconst (pc := 27) C dX11_worst_27 ?_
        refine r_istore (pc := 28) (lv' := [(5, vI 0), (4, vI (-1)), (3, vI (-1)), (0, vR b 0), (1, vI x1), (2, vI x2)]) C dX11_worst_28 (by decide) rfl ?_
        refine r_sub (lv' := [(0, vR b 0), (1, vI x1), (2, vI x2), (3, vI (-1)), (4, vI (-1)), (5, vI 0)]) [3, 4, 5, 2, 1, 0] rfl ?_
        obtain ⟨q7, hl7, h⟩ := bnd_inv h
        refine w_x_X_worst_L30 C hr (fun v3_7 v4_7 v5_7 M_7 hq => ?_) FUEL _ _ _ _ hl7
        have hq := hq.symm
        subst hq
        refine r_iload_n (pc := 110) C 0 rfl rfl dX11_worst_110 ?_
        refine r_if_ne (pc := 111) (tgt := 118) C h dX11_worst_111 (by decide) (fun hc111 h => ?_) (fun hc111 h => ?_)
        · refine r_iload (pc := 118) C 2 rfl dX11_worst_118 ?_
          have e := Option.some.inj h
          exact r_iret (pc := 120) C hr (congrArg (fun z => some (vI z)) (Prod.mk.inj e).1.symm) (Prod.mk.inj e).2.symm dX11_worst_120
        · refine r_iload_n (pc := 114) C 1 rfl rfl dX11_worst_114 ?_
          refine r_goto (pc := 115) (tgt := 120) C dX11_worst_115 (by decide) ?_
          have e := Option.some.inj h
          exact r_iret (pc := 120) C hr (congrArg (fun z => some (vI z)) (Prod.mk.inj e).1.symm) (Prod.mk.inj e).2.symm dX11_worst_120
      · refine r_iconst (pc := 20) C dX11_worst_20 ?_
        have e := Option.some.inj h
        exact r_iret (pc := 21) C hr (congrArg (fun z => some (vI z)) (Prod.mk.inj e).1.symm) (Prod.mk.inj e).2.symm dX11_worst_21
  · refine r_iconst (pc := 20) C dX11_worst_20 ?_
    have e := Option.some.inj h
    exact r_iret (pc := 21) C hr (congrArg (fun z => some (vI z)) (Prod.mk.inj e).1.symm) (Prod.mk.inj e).2.symm dX11_worst_21
set_option maxHeartbeats 4000000 in
set_option maxRecDepth 20000 in
theorem w_x_X_tune_L39_s (C : xCX σ p s m args meth c cX11_tune 9 RX11 D E b) (hr : meth.sig.returnType = (some .int)) {r0 : Int} {M0 : Mem} {v1 : Int} {v2 : Int} {v3 : Int} {v4 : Int} {v5 : Int} {v6 : Int} {M : Mem} {q : Int × Int × Int × Mem} {rec : Int → Int → Int → Mem → Option (Int × Int × Int × Mem)} (hrec : ∀ (v4 : Int) (v5 : Int) (v6 : Int) (M : Mem), rec v4 v5 v6 M = some q → xWX p l e 8 177 s m args below meth c 9 D E b (some (vI r0)) M0 M 39 [(0, vR b 0), (1, vI v1), (2, vI v2), (3, vI v3), (4, vI v4), (5, vI v5), (6, vI v6)] []) (hfol : ∀ (v4 : Int) (v5 : Int) (v6 : Int) (M : Mem), q = (v4, v5, v6, M) → xWX p l e 8 177 s m args below meth c 9 D E b (some (vI r0)) M0 M 97 [(3, vI v3), (4, vI v4), (5, vI v5)] []) (h : x_X_tune_L39 v1 v2 v3 rec v4 v5 v6 M = some q) :
    xWX p l e 8 177 s m args below meth c 9 D E b (some (vI r0)) M0 M 39 [(0, vR b 0), (1, vI v1), (2, vI v2), (3, vI v3), (4, vI v4), (5, vI v5), (6, vI v6)] [] := by
  unfold x_X_tune_L39 at h
  refine r_iload (pc := 39) C 6 rfl dX11_tune_39 ?_
  refine r_bipush (pc := 41) (j := 10) C (by decide +kernel) dX11_tune_41 ?_
  refine r_icmp_ge (pc := 43) (tgt := 97) C h dX11_tune_43 (by decide) (fun hc43 h => ?_) (fun hc43 h => ?_)
  · refine r_sub (lv' := [(3, vI v3), (4, vI v4), (5, vI v5)]) [3, 4, 5] rfl ?_
    exact hfol _ _ _ _ (Option.some.inj h).symm
  · refine r_aload_n (pc := 46) C 0 rfl rfl dX11_tune_46 ?_
    obtain ⟨M3, hq3, h⟩ := bnd_inv h
    refine r_callV (pc := 47) (rest := []) (st1 := [vR b 51]) C (xExtOK σ b) [] (c_x_X_fresh l hq3) cl_RX11_225 x_s0 (by decide) rfl rfl rfl rfl ⟨Nat.le_of_ble_eq_true rfl, Nat.le_of_ble_eq_true rfl⟩ (Nat.le_of_ble_eq_true rfl) rfl rfl dX11_tune_47 ?_
    refine r_astore (pc := 50) (lv' := [(7, vR b 51), (0, vR b 0), (1, vI v1), (2, vI v2), (3, vI v3), (4, vI v4), (5, vI v5), (6, vI v6)]) C dX11_tune_50 (by decide) rfl ?_
    refine r_aload (pc := 52) C 0 rfl dX11_tune_52 ?_
    refine r_getR (pc := 54) C fl_RX11_167 x_s51 (by decide) x_kState_0 x_r51_0 dX11_tune_54 ?_
    refine r_iload_n (pc := 57) C 2 rfl rfl dX11_tune_57 ?_
    refine r_iload (pc := 58) C 7 rfl dX11_tune_58 ?_
    obtain ⟨hi60, h⟩ := chk_inv h
    obtain ⟨M_60, hM_60, h⟩ := lt_inv h
    refine r_iast (pc := 60) C x_s52 (by decide) (by decide) hi60 rfl hM_60 dX11_tune_60 ?_
    refine r_aload (pc := 61) C 0 rfl dX11_tune_61 ?_
    refine r_iload_n (pc := 63) C 3 rfl rfl dX11_tune_63 ?_
    obtain ⟨r4, M4, hq4, h⟩ := bnd2_inv h
    refine r_callV (pc := 64) (rest := []) (st1 := [vI r4]) C (xExtOK σ b) [vI v2] (c_x_State_pass l 51 x_m51 hq4) cl_RX11_229 x_s51 (by decide) rfl rfl rfl rfl ⟨Nat.le_of_ble_eq_true rfl, Nat.le_of_ble_eq_true rfl⟩ (Nat.le_of_ble_eq_true rfl) rfl rfl dX11_tune_64 ?_
    refine r_pop (pc := 67) C rfl dX11_tune_67 ?_
    refine r_aload (pc := 68) C 0 rfl dX11_tune_68 ?_
    refine r_iconst (pc := 70) C dX11_tune_70 ?_
    obtain ⟨r5, hq5, h⟩ := bnd_inv h
    refine r_callV (pc := 71) (rest := []) (st1 := [vI r5]) C (xExtOK σ b) [vI 3] (c_x_State_countOf l 51 x_m51 hq5) cl_RX11_139 x_s51 (by decide) rfl rfl rfl rfl ⟨Nat.le_of_ble_eq_true rfl, Nat.le_of_ble_eq_true rfl⟩ (Nat.le_of_ble_eq_true rfl) rfl rfl dX11_tune_71 ?_
    refine r_istore (pc := 74) (lv' := [(8, vI r5), (7, vR b 51), (0, vR b 0), (1, vI v1), (2, vI v2), (3, vI v3), (4, vI v4), (5, vI v5), (6, vI v6)]) C dX11_tune_74 (by decide) rfl ?_
    refine r_iload (pc := 76) C 0 rfl dX11_tune_76 ?_
    refine r_iload (pc := 78) C 7 rfl dX11_tune_78 ?_
    refine r_icmp_le (pc := 80) (tgt := 91) C h dX11_tune_80 (by decide) (fun hc80 h => ?_) (fun hc80 h => ?_)
    · obtain ⟨v6_91, hv6_91, h⟩ := lt_inv h
      refine r_iincN (pc := 91) (y := v6_91) (lv' := [(6, vI v6_91), (8, vI r5), (7, vR b 51), (0, vR b 0), (1, vI v1), (2, vI v2), (3, vI v3), (4, vI v4), (5, vI v5)]) C 8 rfl hv6_91 dX11_tune_91 (by decide) rfl ?_
      refine r_goto (pc := 94) (tgt := 39) C dX11_tune_94 (by decide) ?_
      refine r_sub (lv' := [(0, vR b 0), (1, vI v1), (2, vI v2), (3, vI v3), (4, vI v4), (5, vI v5), (6, vI v6_91)]) [3, 4, 5, 6, 7, 8, 0] rfl ?_
      exact hrec _ _ _ _ h
    · refine r_iload (pc := 83) C 0 rfl dX11_tune_83 ?_
      refine r_istore (pc := 85) (lv' := [(5, vI r5), (8, vI r5), (7, vR b 51), (0, vR b 0), (1, vI v1), (2, vI v2), (3, vI v3), (4, vI v4), (6, vI v6)]) C dX11_tune_85 (by decide) rfl ?_
      refine r_iload (pc := 87) C 8 rfl dX11_tune_87 ?_
      refine r_istore (pc := 89) (lv' := [(4, vI v6), (5, vI r5), (8, vI r5), (7, vR b 51), (0, vR b 0), (1, vI v1), (2, vI v2), (3, vI v3), (6, vI v6)]) C dX11_tune_89 (by decide) rfl ?_
      obtain ⟨v6_91, hv6_91, h⟩ := lt_inv h
      refine r_iincN (pc := 91) (y := v6_91) (lv' := [(6, vI v6_91), (4, vI v6), (5, vI r5), (8, vI r5), (7, vR b 51), (0, vR b 0), (1, vI v1), (2, vI v2), (3, vI v3)]) C 8 rfl hv6_91 dX11_tune_91 (by decide) rfl ?_
      refine r_goto (pc := 94) (tgt := 39) C dX11_tune_94 (by decide) ?_
      refine r_sub (lv' := [(0, vR b 0), (1, vI v1), (2, vI v2), (3, vI v3), (4, vI v6), (5, vI r5), (6, vI v6_91)]) [5, 6, 7, 8, 1, 2, 0] rfl ?_
      exact hrec _ _ _ _ h
set_option maxHeartbeats 4000000 in
theorem w_x_X_tune_L39 (C : xCX σ p s m args meth c cX11_tune 9 RX11 D E b) (hr : meth.sig.returnType = (some .int)) {r0 : Int} {M0 : Mem} {v1 : Int} {v2 : Int} {v3 : Int} {q : Int × Int × Int × Mem} (hfol : ∀ (v4 : Int) (v5 : Int) (v6 : Int) (M : Mem), q = (v4, v5, v6, M) → xWX p l e 8 177 s m args below meth c 9 D E b (some (vI r0)) M0 M 97 [(3, vI v3), (4, vI v4), (5, vI v5)] []) : ∀ (n : Nat) (v4 : Int) (v5 : Int) (v6 : Int) (M : Mem), itr4 (x_X_tune_L39 v1 v2 v3) n v4 v5 v6 M = some q →
    xWX p l e 8 177 s m args below meth c 9 D E b (some (vI r0)) M0 M 39 [(0, vR b 0), (1, vI v1), (2, vI v2), (3, vI v3), (4, vI v4), (5, vI v5), (6, vI v6)] [] := by
  intro n
  induction n with
  | zero => exact fun _ _ _ _ h => itr_z h
  | succ n ih => exact fun _ _ _ _ h => w_x_X_tune_L39_s C hr ih hfol h
set_option maxHeartbeats 4000000 in
set_option maxRecDepth 20000 in
theorem c_x_X_tune (l : Launch) {x1 : Int} {x2 : Int} {x3 : Int} {M : Mem} {r0 : Int} {M0 : Mem} (h : x_X_tune x1 x2 x3 M = some (r0, M0)) : Ct l yX11_tune cX11_tune 9 (some .int) 8 177 vwCl xSh xN xRf (xExt σ) (fun b => [vR b 0, vI x1, vI x2, vI x3]) M (fun b => (some (vI r0))) M0 := by
  refine Ct_of (xExtOK σ) (by decide) (fun b => Nat.le_of_ble_eq_true rfl) ?_
  intro p e s m args below meth c D E b C hr
  unfold x_X_tune at h
  refine (show xWX p l e 8 177 s m args below meth c 9 D E b (some (vI r0)) M0 M 0 [(0, vR b 0), (1, vI x1), (2, vI x2), (3, vI x3)] [] from ?_)
  refine r_aload_n (pc := 0) C 0 rfl rfl dX11_tune_0 ?_
  refine r_iload_n (pc := 1) C 1 rfl rfl dX11_tune_1 ?_
  obtain ⟨r1, hq1, h⟩ := bnd_inv h
  refine r_callV (pc := 2) (rest := []) (st1 := [vB r1]) C (xExtOK σ b) [vI x1] (c_x_X_isVoice l hq1) cl_RX11_149 x_s0 (by decide) rfl rfl rfl rfl ⟨Nat.le_of_ble_eq_true rfl, Nat.le_of_ble_eq_true rfl⟩ (Nat.le_of_ble_eq_true rfl) rfl rfl dX11_tune_2 ?_
  refine r_if_eqB (pc := 5) (tgt := 28) C h dX11_tune_5 (by decide) (fun hc5 h => ?_) (fun hc5 h => ?_)
  · refine r_aload_n (pc := 8) C 0 rfl rfl dX11_tune_8 ?_
    refine r_iload_n (pc := 9) C 2 rfl rfl dX11_tune_9 ?_
    refine r_iconst (pc := 10) C dX11_tune_10 ?_
    refine r_bipush (pc := 11) (j := 30) C (by decide +kernel) dX11_tune_11 ?_
    obtain ⟨r2, hq2, h⟩ := bnd_inv h
    refine r_callV (pc := 13) (rest := []) (st1 := [vB r2]) C (xExtOK σ b) [vI x2, vI 1, vI 30] (c_x_X_comes l hq2) cl_RX11_221 x_s0 (by decide) rfl rfl rfl rfl ⟨Nat.le_of_ble_eq_true rfl, Nat.le_of_ble_eq_true rfl⟩ (Nat.le_of_ble_eq_true rfl) rfl rfl dX11_tune_13 ?_
    refine r_if_eqB (pc := 16) (tgt := 28) C h dX11_tune_16 (by decide) (fun hc16 h => ?_) (fun hc16 h => ?_)
    · refine r_iload_n (pc := 19) C 3 rfl rfl dX11_tune_19 ?_
      refine r_if_lt (pc := 20) (tgt := 28) C h dX11_tune_20 (by decide) (fun hc20 h => ?_) (fun hc20 h => ?_)
      · refine r_iconst (pc := 28) C dX11_tune_28 ?_
        have e := Option.some.inj h
        exact r_iret (pc := 29) C hr (congrArg (fun z => some (vI z)) (Prod.mk.inj e).1.symm) (Prod.mk.inj e).2.symm dX11_tune_29
      · refine r_iload_n (pc := 23) C 3 rfl rfl dX11_tune_23 ?_
        refine r_iconst (pc := 24) C dX11_tune_24 ?_
        refine r_icmp_le (pc := 25) (tgt := 30) C h dX11_tune_25 (by decide) (fun hc25 h => ?_) (fun hc25 h => ?_)
        · refine r_iconst (pc := 30) C dX11_tune_30 ?_
          refine r_istore (pc := 31) (lv' := [(4, vI (-1)), (0, vR b 0), (1, vI x1), (2, vI x2), (3, vI x3)]) C dX11_tune_31 (by decide) rfl ?_
          refine r_iconst (pc := 33) C dX11_tune_33 ?_
          refine r_istore (pc := 34) (lv' := [(5, vI (-1)), (4, vI (-1)), (0, vR b 0), (1, vI x1), (2, vI x2), (3, vI x3)]) C dX11_tune_34 (by decide) rfl ?_
          refine r_iconst (pc := 36) C dX11_tune_36 ?_
          refine r_istore (pc := 37) (lv' := [(6, vI 0), (5, vI (-1)), (4, vI (-1)), (0, vR b 0), (1, vI x1), (2, vI x2), (3, vI x3)]) C dX11_tune_37 (by decide) rfl ?_
          refine r_sub (lv' := [(0, vR b 0), (1, vI x1), (2, vI x2), (3, vI x3), (4, vI (-1)), (5, vI (-1)), (6, vI 0)]) [3, 4, 5, 6, 2, 1, 0] rfl ?_
          obtain ⟨q6, hl6, h⟩ := bnd_inv h
          refine w_x_X_tune_L39 C hr (fun v4_6 v5_6 v6_6 M_6 hq => ?_) FUEL _ _ _ _ hl6
          have hq := hq.symm
          subst hq
          refine r_iload_n (pc := 97) C 0 rfl rfl dX11_tune_97 ?_
          refine r_if_ne (pc := 98) (tgt := 106) C h dX11_tune_98 (by decide) (fun hc98 h => ?_) (fun hc98 h => ?_)
          · refine r_iload (pc := 106) C 2 rfl dX11_tune_106 ?_
            have e := Option.some.inj h
            exact r_iret (pc := 108) C hr (congrArg (fun z => some (vI z)) (Prod.mk.inj e).1.symm) (Prod.mk.inj e).2.symm dX11_tune_108
          · refine r_iload (pc := 101) C 1 rfl dX11_tune_101 ?_
            refine r_goto (pc := 103) (tgt := 108) C dX11_tune_103 (by decide) ?_
            have e := Option.some.inj h
            exact r_iret (pc := 108) C hr (congrArg (fun z => some (vI z)) (Prod.mk.inj e).1.symm) (Prod.mk.inj e).2.symm dX11_tune_108
        · refine r_iconst (pc := 28) C dX11_tune_28 ?_
          have e := Option.some.inj h
          exact r_iret (pc := 29) C hr (congrArg (fun z => some (vI z)) (Prod.mk.inj e).1.symm) (Prod.mk.inj e).2.symm dX11_tune_29
    · refine r_iconst (pc := 28) C dX11_tune_28 ?_
      have e := Option.some.inj h
      exact r_iret (pc := 29) C hr (congrArg (fun z => some (vI z)) (Prod.mk.inj e).1.symm) (Prod.mk.inj e).2.symm dX11_tune_29
  · refine r_iconst (pc := 28) C dX11_tune_28 ?_
    have e := Option.some.inj h
    exact r_iret (pc := 29) C hr (congrArg (fun z => some (vI z)) (Prod.mk.inj e).1.symm) (Prod.mk.inj e).2.symm dX11_tune_29
set_option maxHeartbeats 4000000 in
set_option maxRecDepth 20000 in
theorem w_x_Matching_needing_L25_s (C : xCX σ p s m args meth c cX1_needing 6 RX1 D E b) (hr : meth.sig.returnType = (some .int)) {r0 : Int} {M0 : Mem} {v1 : Int} {v2 : Int} {v3 : Int} {M : Mem} {v4 : Int} {v5 : Int} {q : Int × Int} {rec : Int → Int → Option (Int × Int)} (hrec : ∀ (v4 : Int) (v5 : Int), rec v4 v5 = some q → xWX p l e 6 128 s m args below meth c 6 D E b (some (vI r0)) M0 M 25 [(0, vR b 326), (1, vI v1), (2, vI v2), (3, vI v3), (4, vI v4), (5, vI v5)] []) (hfol : ∀ (v4 : Int) (v5 : Int), q = (v4, v5) → xWX p l e 6 128 s m args below meth c 6 D E b (some (vI r0)) M0 M 58 [(0, vR b 326), (1, vI v1), (2, vI v2), (3, vI v3), (4, vI v4)] []) (h : x_Matching_needing_L25 v1 v2 v3 M rec v4 v5 = some q) :
    xWX p l e 6 128 s m args below meth c 6 D E b (some (vI r0)) M0 M 25 [(0, vR b 326), (1, vI v1), (2, vI v2), (3, vI v3), (4, vI v4), (5, vI v5)] [] := by
  unfold x_Matching_needing_L25 at h
  refine r_iload (pc := 25) C 5 rfl dX1_needing_25 ?_
  refine r_aload_n (pc := 27) C 0 rfl rfl dX1_needing_27 ?_
  refine r_getR (pc := 28) C fl_RX1_19 x_s326 (by decide) x_kMatching_0 x_r326_0 dX1_needing_28 ?_
  refine r_getI (pc := 31) C fl_RX1_36 x_s23 (by decide) x_kTown_0 dX1_needing_31 ?_
  refine r_icmp_ge (pc := 34) (tgt := 58) C h dX1_needing_34 (by decide) (fun hc34 h => ?_) (fun hc34 h => ?_)
  · refine r_sub (lv' := [(0, vR b 326), (1, vI v1), (2, vI v2), (3, vI v3), (4, vI v4)]) [0, 1, 2, 3, 4] rfl ?_
    exact hfol _ _ (Option.some.inj h).symm
  · refine r_aload_n (pc := 37) C 0 rfl rfl dX1_needing_37 ?_
    refine r_getR (pc := 38) C fl_RX1_16 x_s326 (by decide) x_kMatching_3 x_r326_3 dX1_needing_38 ?_
    refine r_iload_n (pc := 41) C 3 rfl rfl dX1_needing_41 ?_
    obtain ⟨hi42, h⟩ := chk_inv h
    refine r_aald (pc := 42) (ty := .array .int) C x_s341 (by decide) (by decide) (fun _ => rfl) rfl hi42 rfl (x_qr341 (x_lt hi42 rfl)) dX1_needing_42 ?_
    refine r_iload (pc := 43) C 5 rfl dX1_needing_43 ?_
    obtain ⟨hi45, h⟩ := chk_inv h
    refine r_iald (pc := 45) C (x_qs341 (x_lt hi42 rfl)) (x_qn341 (x_lt hi42 rfl)) (by decide) hi45 rfl dX1_needing_45 ?_
    refine r_if_le (pc := 46) (tgt := 52) C h dX1_needing_46 (by decide) (fun hc46 h => ?_) (fun hc46 h => ?_)
    · obtain ⟨v5_52, hv5_52, h⟩ := lt_inv h
      refine r_iincN (pc := 52) (y := v5_52) (lv' := [(5, vI v5_52), (0, vR b 326), (1, vI v1), (2, vI v2), (3, vI v3), (4, vI v4)]) C 5 rfl hv5_52 dX1_needing_52 (by decide) rfl ?_
      refine r_goto (pc := 55) (tgt := 25) C dX1_needing_55 (by decide) ?_
      refine r_sub (lv' := [(0, vR b 326), (1, vI v1), (2, vI v2), (3, vI v3), (4, vI v4), (5, vI v5_52)]) [1, 2, 3, 4, 5, 0] rfl ?_
      exact hrec _ _ h
    · obtain ⟨v4_49, hv4_49, h⟩ := lt_inv h
      refine r_iincN (pc := 49) (y := v4_49) (lv' := [(4, vI v4_49), (0, vR b 326), (1, vI v1), (2, vI v2), (3, vI v3), (5, vI v5)]) C 4 rfl hv4_49 dX1_needing_49 (by decide) rfl ?_
      obtain ⟨v5_52, hv5_52, h⟩ := lt_inv h
      refine r_iincN (pc := 52) (y := v5_52) (lv' := [(5, vI v5_52), (4, vI v4_49), (0, vR b 326), (1, vI v1), (2, vI v2), (3, vI v3)]) C 5 rfl hv5_52 dX1_needing_52 (by decide) rfl ?_
      refine r_goto (pc := 55) (tgt := 25) C dX1_needing_55 (by decide) ?_
      refine r_sub (lv' := [(0, vR b 326), (1, vI v1), (2, vI v2), (3, vI v3), (4, vI v4_49), (5, vI v5_52)]) [2, 3, 4, 5, 1, 0] rfl ?_
      exact hrec _ _ h
set_option maxHeartbeats 4000000 in
theorem w_x_Matching_needing_L25 (C : xCX σ p s m args meth c cX1_needing 6 RX1 D E b) (hr : meth.sig.returnType = (some .int)) {r0 : Int} {M0 : Mem} {v1 : Int} {v2 : Int} {v3 : Int} {M : Mem} {q : Int × Int} (hfol : ∀ (v4 : Int) (v5 : Int), q = (v4, v5) → xWX p l e 6 128 s m args below meth c 6 D E b (some (vI r0)) M0 M 58 [(0, vR b 326), (1, vI v1), (2, vI v2), (3, vI v3), (4, vI v4)] []) : ∀ (n : Nat) (v4 : Int) (v5 : Int), itr2 (x_Matching_needing_L25 v1 v2 v3 M) n v4 v5 = some q →
    xWX p l e 6 128 s m args below meth c 6 D E b (some (vI r0)) M0 M 25 [(0, vR b 326), (1, vI v1), (2, vI v2), (3, vI v3), (4, vI v4), (5, vI v5)] [] := by
  intro n
  induction n with
  | zero => exact fun _ _ h => itr_z h
  | succ n ih => exact fun _ _ h => w_x_Matching_needing_L25_s C hr ih hfol h
set_option maxHeartbeats 4000000 in
set_option maxRecDepth 20000 in
theorem w_x_Matching_needing_L8_s (C : xCX σ p s m args meth c cX1_needing 6 RX1 D E b) (hr : meth.sig.returnType = (some .int)) {r0 : Int} {M0 : Mem} {v1 : Int} {M : Mem} {v2 : Int} {v3 : Int} {q : Int × Int} {rec : Int → Int → Option (Int × Int)} (hrec : ∀ (v2 : Int) (v3 : Int), rec v2 v3 = some q → xWX p l e 6 128 s m args below meth c 6 D E b (some (vI r0)) M0 M 8 [(0, vR b 326), (1, vI v1), (2, vI v2), (3, vI v3)] []) (hfol : ∀ (v2 : Int) (v3 : Int), q = (v2, v3) → xWX p l e 6 128 s m args below meth c 6 D E b (some (vI r0)) M0 M 84 [(2, vI v2)] []) (h : x_Matching_needing_L8 v1 M rec v2 v3 = some q) :
    xWX p l e 6 128 s m args below meth c 6 D E b (some (vI r0)) M0 M 8 [(0, vR b 326), (1, vI v1), (2, vI v2), (3, vI v3)] [] := by
  unfold x_Matching_needing_L8 at h
  refine r_iload_n (pc := 8) C 3 rfl rfl dX1_needing_8 ?_
  refine r_aload_n (pc := 9) C 0 rfl rfl dX1_needing_9 ?_
  refine r_getR (pc := 10) C fl_RX1_19 x_s326 (by decide) x_kMatching_0 x_r326_0 dX1_needing_10 ?_
  refine r_getI (pc := 13) C fl_RX1_30 x_s23 (by decide) x_kTown_2 dX1_needing_13 ?_
  refine r_icmp_ge (pc := 16) (tgt := 84) C h dX1_needing_16 (by decide) (fun hc16 h => ?_) (fun hc16 h => ?_)
  · refine r_sub (lv' := [(2, vI v2)]) [2] rfl ?_
    exact hfol _ _ (Option.some.inj h).symm
  · refine r_iconst (pc := 19) C dX1_needing_19 ?_
    refine r_istore (pc := 20) (lv' := [(4, vI 0), (0, vR b 326), (1, vI v1), (2, vI v2), (3, vI v3)]) C dX1_needing_20 (by decide) rfl ?_
    refine r_iconst (pc := 22) C dX1_needing_22 ?_
    refine r_istore (pc := 23) (lv' := [(5, vI 0), (4, vI 0), (0, vR b 326), (1, vI v1), (2, vI v2), (3, vI v3)]) C dX1_needing_23 (by decide) rfl ?_
    refine r_sub (lv' := [(0, vR b 326), (1, vI v1), (2, vI v2), (3, vI v3), (4, vI 0), (5, vI 0)]) [2, 3, 4, 5, 1, 0] rfl ?_
    obtain ⟨q2, hl2, h⟩ := bnd_inv h
    refine w_x_Matching_needing_L25 C hr (fun v4_2 v5_2 hq => ?_) FUEL _ _ hl2
    have hq := hq.symm
    subst hq
    refine r_iload (pc := 58) C 4 rfl dX1_needing_58 ?_
    refine r_iconst (pc := 60) C dX1_needing_60 ?_
    refine r_icmp_ne (pc := 61) (tgt := 78) C h dX1_needing_61 (by decide) (fun hc61 h => ?_) (fun hc61 h => ?_)
    · obtain ⟨v3_78, hv3_78, h⟩ := lt_inv h
      refine r_iincN (pc := 78) (y := v3_78) (lv' := [(3, vI v3_78), (0, vR b 326), (1, vI v1), (2, vI v2), (4, vI v4_2)]) C 3 rfl hv3_78 dX1_needing_78 (by decide) rfl ?_
      refine r_goto (pc := 81) (tgt := 8) C dX1_needing_81 (by decide) ?_
      refine r_sub (lv' := [(0, vR b 326), (1, vI v1), (2, vI v2), (3, vI v3_78)]) [1, 2, 3, 0] rfl ?_
      exact hrec _ _ h
    · refine r_aload_n (pc := 64) C 0 rfl rfl dX1_needing_64 ?_
      refine r_getR (pc := 65) C fl_RX1_16 x_s326 (by decide) x_kMatching_3 x_r326_3 dX1_needing_65 ?_
      refine r_iload_n (pc := 68) C 3 rfl rfl dX1_needing_68 ?_
      obtain ⟨hi69, h⟩ := chk_inv h
      refine r_aald (pc := 69) (ty := .array .int) C x_s341 (by decide) (by decide) (fun _ => rfl) rfl hi69 rfl (x_qr341 (x_lt hi69 rfl)) dX1_needing_69 ?_
      refine r_iload_n (pc := 70) C 1 rfl rfl dX1_needing_70 ?_
      obtain ⟨hi71, h⟩ := chk_inv h
      refine r_iald (pc := 71) C (x_qs341 (x_lt hi69 rfl)) (x_qn341 (x_lt hi69 rfl)) (by decide) hi71 rfl dX1_needing_71 ?_
      refine r_if_le (pc := 72) (tgt := 78) C h dX1_needing_72 (by decide) (fun hc72 h => ?_) (fun hc72 h => ?_)
      · obtain ⟨v3_78, hv3_78, h⟩ := lt_inv h
        refine r_iincN (pc := 78) (y := v3_78) (lv' := [(3, vI v3_78), (0, vR b 326), (1, vI v1), (2, vI v2), (4, vI v4_2)]) C 3 rfl hv3_78 dX1_needing_78 (by decide) rfl ?_
        refine r_goto (pc := 81) (tgt := 8) C dX1_needing_81 (by decide) ?_
        refine r_sub (lv' := [(0, vR b 326), (1, vI v1), (2, vI v2), (3, vI v3_78)]) [1, 2, 3, 0] rfl ?_
        exact hrec _ _ h
      · obtain ⟨v2_75, hv2_75, h⟩ := lt_inv h
        refine r_iincN (pc := 75) (y := v2_75) (lv' := [(2, vI v2_75), (0, vR b 326), (1, vI v1), (3, vI v3), (4, vI v4_2)]) C 2 rfl hv2_75 dX1_needing_75 (by decide) rfl ?_
        obtain ⟨v3_78, hv3_78, h⟩ := lt_inv h
        refine r_iincN (pc := 78) (y := v3_78) (lv' := [(3, vI v3_78), (2, vI v2_75), (0, vR b 326), (1, vI v1), (4, vI v4_2)]) C 3 rfl hv3_78 dX1_needing_78 (by decide) rfl ?_
        refine r_goto (pc := 81) (tgt := 8) C dX1_needing_81 (by decide) ?_
        refine r_sub (lv' := [(0, vR b 326), (1, vI v1), (2, vI v2_75), (3, vI v3_78)]) [2, 3, 1, 0] rfl ?_
        exact hrec _ _ h
set_option maxHeartbeats 4000000 in
theorem w_x_Matching_needing_L8 (C : xCX σ p s m args meth c cX1_needing 6 RX1 D E b) (hr : meth.sig.returnType = (some .int)) {r0 : Int} {M0 : Mem} {v1 : Int} {M : Mem} {q : Int × Int} (hfol : ∀ (v2 : Int) (v3 : Int), q = (v2, v3) → xWX p l e 6 128 s m args below meth c 6 D E b (some (vI r0)) M0 M 84 [(2, vI v2)] []) : ∀ (n : Nat) (v2 : Int) (v3 : Int), itr2 (x_Matching_needing_L8 v1 M) n v2 v3 = some q →
    xWX p l e 6 128 s m args below meth c 6 D E b (some (vI r0)) M0 M 8 [(0, vR b 326), (1, vI v1), (2, vI v2), (3, vI v3)] [] := by
  intro n
  induction n with
  | zero => exact fun _ _ h => itr_z h
  | succ n ih => exact fun _ _ h => w_x_Matching_needing_L8_s C hr ih hfol h
set_option maxHeartbeats 4000000 in
set_option maxRecDepth 20000 in
theorem c_x_Matching_needing (l : Launch) {x1 : Int} {M : Mem} {r0 : Int} {M0 : Mem} (h : x_Matching_needing x1 M = some (r0, M0)) : Ct l yX1_needing cX1_needing 6 (some .int) 6 128 vwCl xSh xN xRf (xExt σ) (fun b => [vR b 326, vI x1]) M (fun b => (some (vI r0))) M0 := by
  refine Ct_of (xExtOK σ) (by decide) (fun b => Nat.le_of_ble_eq_true rfl) ?_
  intro p e s m args below meth c D E b C hr
  unfold x_Matching_needing at h
  refine (show xWX p l e 6 128 s m args below meth c 6 D E b (some (vI r0)) M0 M 0 [(0, vR b 326), (1, vI x1)] [] from ?_)
  refine r_aload_n (pc := 0) C 0 rfl rfl dX1_needing_0 ?_
  obtain ⟨M1, hq1, h⟩ := bnd_inv h
  refine r_callV (pc := 1) (rest := []) (st1 := []) C (xExtOK σ b) [] (c_x_Matching_fillSums l hq1) cl_RX1_27 x_s326 (by decide) rfl rfl rfl rfl ⟨Nat.le_of_ble_eq_true rfl, Nat.le_of_ble_eq_true rfl⟩ (Nat.le_of_ble_eq_true rfl) rfl rfl dX1_needing_1 ?_
  refine r_iconst (pc := 4) C dX1_needing_4 ?_
  refine r_istore_n (pc := 5) (lv' := [(2, vI 0), (0, vR b 326), (1, vI x1)]) C rfl dX1_needing_5 (by decide) rfl ?_
  refine r_iconst (pc := 6) C dX1_needing_6 ?_
  refine r_istore_n (pc := 7) (lv' := [(3, vI 0), (2, vI 0), (0, vR b 326), (1, vI x1)]) C rfl dX1_needing_7 (by decide) rfl ?_
  refine r_sub (lv' := [(0, vR b 326), (1, vI x1), (2, vI 0), (3, vI 0)]) [2, 3, 1, 0] rfl ?_
  obtain ⟨q3, hl3, h⟩ := bnd_inv h
  refine w_x_Matching_needing_L8 C hr (fun v2_3 v3_3 hq => ?_) FUEL _ _ hl3
  have hq := hq.symm
  subst hq
  refine r_iload_n (pc := 84) C 0 rfl rfl dX1_needing_84 ?_
  have e := Option.some.inj h
  exact r_iret (pc := 85) C hr (congrArg (fun z => some (vI z)) (Prod.mk.inj e).1.symm) (Prod.mk.inj e).2.symm dX1_needing_85
set_option maxHeartbeats 4000000 in
set_option maxRecDepth 20000 in
theorem c_x_X_needed (l : Launch) {x1 : Int} {M : Mem} {r0 : Int} {M0 : Mem} (h : x_X_needed x1 M = some (r0, M0)) : Ct l yX11_needed cX11_needed 2 (some .int) 7 153 vwCl xSh xN xRf (xExt σ) (fun b => [vR b 0, vI x1]) M (fun b => (some (vI r0))) M0 := by
  refine Ct_of (xExtOK σ) (by decide) (fun b => Nat.le_of_ble_eq_true rfl) ?_
  intro p e s m args below meth c D E b C hr
  unfold x_X_needed at h
  refine (show xWX p l e 7 153 s m args below meth c 2 D E b (some (vI r0)) M0 M 0 [(0, vR b 0), (1, vI x1)] [] from ?_)
  refine r_aload_n (pc := 0) C 0 rfl rfl dX11_needed_0 ?_
  refine r_iload_n (pc := 1) C 1 rfl rfl dX11_needed_1 ?_
  obtain ⟨r1, hq1, h⟩ := bnd_inv h
  refine r_callV (pc := 2) (rest := []) (st1 := [vB r1]) C (xExtOK σ b) [vI x1] (c_x_X_isVoice l hq1) cl_RX11_149 x_s0 (by decide) rfl rfl rfl rfl ⟨Nat.le_of_ble_eq_true rfl, Nat.le_of_ble_eq_true rfl⟩ (Nat.le_of_ble_eq_true rfl) rfl rfl dX11_needed_2 ?_
  refine r_if_eqB (pc := 5) (tgt := 19) C h dX11_needed_5 (by decide) (fun hc5 h => ?_) (fun hc5 h => ?_)
  · refine r_aload_n (pc := 8) C 0 rfl rfl dX11_needed_8 ?_
    refine r_getR (pc := 9) C fl_RX11_54 x_s0 (by decide) x_kX_6 x_r0_6 dX11_needed_9 ?_
    refine r_iload_n (pc := 12) C 1 rfl rfl dX11_needed_12 ?_
    obtain ⟨r2, M2, hq2, h⟩ := bnd2_inv h
    refine r_callV (pc := 13) (rest := []) (st1 := [vI r2]) C (xExtOK σ b) [vI x1] (c_x_Matching_needing l hq2) cl_RX11_255 x_s326 (by decide) rfl rfl rfl rfl ⟨Nat.le_of_ble_eq_true rfl, Nat.le_of_ble_eq_true rfl⟩ (Nat.le_of_ble_eq_true rfl) rfl rfl dX11_needed_13 ?_
    refine r_goto (pc := 16) (tgt := 20) C dX11_needed_16 (by decide) ?_
    have e := Option.some.inj h
    exact r_iret (pc := 20) C hr (congrArg (fun z => some (vI z)) (Prod.mk.inj e).1.symm) (Prod.mk.inj e).2.symm dX11_needed_20
  · refine r_iconst (pc := 19) C dX11_needed_19 ?_
    have e := Option.some.inj h
    exact r_iret (pc := 20) C hr (congrArg (fun z => some (vI z)) (Prod.mk.inj e).1.symm) (Prod.mk.inj e).2.symm dX11_needed_20
end
