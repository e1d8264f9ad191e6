theorem dX5_copyFrom_0 : decode cX5_copyFrom 0 = .ok (.aload_n 1, 1) := by decide +kernel
theorem dX5_copyFrom_1 : decode cX5_copyFrom 1 = .ok (.getfield 17, 3) := by decide +kernel
theorem dX5_copyFrom_4 : decode cX5_copyFrom 4 = .ok (.iconst 0, 1) := by decide +kernel
theorem dX5_copyFrom_5 : decode cX5_copyFrom 5 = .ok (.aload_n 0, 1) := by decide +kernel
theorem dX5_copyFrom_6 : decode cX5_copyFrom 6 = .ok (.getfield 17, 3) := by decide +kernel
theorem dX5_copyFrom_9 : decode cX5_copyFrom 9 = .ok (.iconst 0, 1) := by decide +kernel
theorem dX5_copyFrom_10 : decode cX5_copyFrom 10 = .ok (.aload_n 0, 1) := by decide +kernel
theorem dX5_copyFrom_11 : decode cX5_copyFrom 11 = .ok (.getfield 17, 3) := by decide +kernel
theorem dX5_copyFrom_14 : decode cX5_copyFrom 14 = .ok (.arraylength, 1) := by decide +kernel
theorem dX5_copyFrom_15 : decode cX5_copyFrom 15 = .ok (.invokestatic 39, 3) := by decide +kernel
theorem dX5_copyFrom_18 : decode cX5_copyFrom 18 = .ok (.aload_n 1, 1) := by decide +kernel
theorem dX5_copyFrom_19 : decode cX5_copyFrom 19 = .ok (.getfield 20, 3) := by decide +kernel
theorem dX5_copyFrom_22 : decode cX5_copyFrom 22 = .ok (.iconst 0, 1) := by decide +kernel
theorem dX5_copyFrom_23 : decode cX5_copyFrom 23 = .ok (.aload_n 0, 1) := by decide +kernel
theorem dX5_copyFrom_24 : decode cX5_copyFrom 24 = .ok (.getfield 20, 3) := by decide +kernel
theorem dX5_copyFrom_27 : decode cX5_copyFrom 27 = .ok (.iconst 0, 1) := by decide +kernel
theorem dX5_copyFrom_28 : decode cX5_copyFrom 28 = .ok (.aload_n 0, 1) := by decide +kernel
theorem dX5_copyFrom_29 : decode cX5_copyFrom 29 = .ok (.getfield 20, 3) := by decide +kernel
theorem dX5_copyFrom_32 : decode cX5_copyFrom 32 = .ok (.arraylength, 1) := by decide +kernel
theorem dX5_copyFrom_33 : decode cX5_copyFrom 33 = .ok (.invokestatic 39, 3) := by decide +kernel
theorem dX5_copyFrom_36 : decode cX5_copyFrom 36 = .ok (.aload_n 1, 1) := by decide +kernel
theorem dX5_copyFrom_37 : decode cX5_copyFrom 37 = .ok (.getfield 23, 3) := by decide +kernel
theorem dX5_copyFrom_40 : decode cX5_copyFrom 40 = .ok (.iconst 0, 1) := by decide +kernel
theorem dX5_copyFrom_41 : decode cX5_copyFrom 41 = .ok (.aload_n 0, 1) := by decide +kernel
theorem dX5_copyFrom_42 : decode cX5_copyFrom 42 = .ok (.getfield 23, 3) := by decide +kernel
theorem dX5_copyFrom_45 : decode cX5_copyFrom 45 = .ok (.iconst 0, 1) := by decide +kernel
theorem dX5_copyFrom_46 : decode cX5_copyFrom 46 = .ok (.aload_n 0, 1) := by decide +kernel
theorem dX5_copyFrom_47 : decode cX5_copyFrom 47 = .ok (.getfield 23, 3) := by decide +kernel
theorem dX5_copyFrom_50 : decode cX5_copyFrom 50 = .ok (.arraylength, 1) := by decide +kernel
theorem dX5_copyFrom_51 : decode cX5_copyFrom 51 = .ok (.invokestatic 39, 3) := by decide +kernel
theorem dX5_copyFrom_54 : decode cX5_copyFrom 54 = .ok (.return_, 1) := by decide +kernel
theorem dX9_copyFrom_0 : decode cX9_copyFrom 0 = .ok (.aload_n 0, 1) := by decide +kernel
theorem dX9_copyFrom_1 : decode cX9_copyFrom 1 = .ok (.aload_n 1, 1) := by decide +kernel
theorem dX9_copyFrom_2 : decode cX9_copyFrom 2 = .ok (.getfield 43, 3) := by decide +kernel
theorem dX9_copyFrom_5 : decode cX9_copyFrom 5 = .ok (.putfield 43, 3) := by decide +kernel
theorem dX9_copyFrom_8 : decode cX9_copyFrom 8 = .ok (.aload_n 0, 1) := by decide +kernel
theorem dX9_copyFrom_9 : decode cX9_copyFrom 9 = .ok (.aload_n 1, 1) := by decide +kernel
theorem dX9_copyFrom_10 : decode cX9_copyFrom 10 = .ok (.getfield 47, 3) := by decide +kernel
theorem dX9_copyFrom_13 : decode cX9_copyFrom 13 = .ok (.putfield 47, 3) := by decide +kernel
theorem dX9_copyFrom_16 : decode cX9_copyFrom 16 = .ok (.aload_n 0, 1) := by decide +kernel
theorem dX9_copyFrom_17 : decode cX9_copyFrom 17 = .ok (.aload_n 1, 1) := by decide +kernel
theorem dX9_copyFrom_18 : decode cX9_copyFrom 18 = .ok (.getfield 50, 3) := by decide +kernel
theorem dX9_copyFrom_21 : decode cX9_copyFrom 21 = .ok (.putfield 50, 3) := by decide +kernel
theorem dX9_copyFrom_24 : decode cX9_copyFrom 24 = .ok (.aload_n 0, 1) := by decide +kernel
theorem dX9_copyFrom_25 : decode cX9_copyFrom 25 = .ok (.aload_n 1, 1) := by decide +kernel
theorem dX9_copyFrom_26 : decode cX9_copyFrom 26 = .ok (.getfield 53, 3) := by decide +kernel
theorem dX9_copyFrom_29 : decode cX9_copyFrom 29 = .ok (.putfield 53, 3) := by decide +kernel
theorem dX9_copyFrom_32 : decode cX9_copyFrom 32 = .ok (.aload_n 1, 1) := by decide +kernel
theorem dX9_copyFrom_33 : decode cX9_copyFrom 33 = .ok (.getfield 9, 3) := by decide +kernel
theorem dX9_copyFrom_36 : decode cX9_copyFrom 36 = .ok (.iconst 0, 1) := by decide +kernel
theorem dX9_copyFrom_37 : decode cX9_copyFrom 37 = .ok (.aload_n 0, 1) := by decide +kernel
theorem dX9_copyFrom_38 : decode cX9_copyFrom 38 = .ok (.getfield 9, 3) := by decide +kernel
theorem dX9_copyFrom_41 : decode cX9_copyFrom 41 = .ok (.iconst 0, 1) := by decide +kernel
theorem dX9_copyFrom_42 : decode cX9_copyFrom 42 = .ok (.bipush 7, 2) := by decide +kernel
theorem dX9_copyFrom_44 : decode cX9_copyFrom 44 = .ok (.invokestatic 59, 3) := by decide +kernel
theorem dX9_copyFrom_47 : decode cX9_copyFrom 47 = .ok (.aload_n 1, 1) := by decide +kernel
theorem dX9_copyFrom_48 : decode cX9_copyFrom 48 = .ok (.getfield 15, 3) := by decide +kernel
theorem dX9_copyFrom_51 : decode cX9_copyFrom 51 = .ok (.iconst 0, 1) := by decide +kernel
theorem dX9_copyFrom_52 : decode cX9_copyFrom 52 = .ok (.aload_n 0, 1) := by decide +kernel
theorem dX9_copyFrom_53 : decode cX9_copyFrom 53 = .ok (.getfield 15, 3) := by decide +kernel
theorem dX9_copyFrom_56 : decode cX9_copyFrom 56 = .ok (.iconst 0, 1) := by decide +kernel
theorem dX9_copyFrom_57 : decode cX9_copyFrom 57 = .ok (.bipush 7, 2) := by decide +kernel
theorem dX9_copyFrom_59 : decode cX9_copyFrom 59 = .ok (.invokestatic 59, 3) := by decide +kernel
theorem dX9_copyFrom_62 : decode cX9_copyFrom 62 = .ok (.aload_n 1, 1) := by decide +kernel
theorem dX9_copyFrom_63 : decode cX9_copyFrom 63 = .ok (.getfield 18, 3) := by decide +kernel
theorem dX9_copyFrom_66 : decode cX9_copyFrom 66 = .ok (.iconst 0, 1) := by decide +kernel
theorem dX9_copyFrom_67 : decode cX9_copyFrom 67 = .ok (.aload_n 0, 1) := by decide +kernel
theorem dX9_copyFrom_68 : decode cX9_copyFrom 68 = .ok (.getfield 18, 3) := by decide +kernel
theorem dX9_copyFrom_71 : decode cX9_copyFrom 71 = .ok (.iconst 0, 1) := by decide +kernel
theorem dX9_copyFrom_72 : decode cX9_copyFrom 72 = .ok (.bipush 8, 2) := by decide +kernel
theorem dX9_copyFrom_74 : decode cX9_copyFrom 74 = .ok (.invokestatic 59, 3) := by decide +kernel
theorem dX9_copyFrom_77 : decode cX9_copyFrom 77 = .ok (.aload_n 1, 1) := by decide +kernel
theorem dX9_copyFrom_78 : decode cX9_copyFrom 78 = .ok (.getfield 21, 3) := by decide +kernel
theorem dX9_copyFrom_81 : decode cX9_copyFrom 81 = .ok (.iconst 0, 1) := by decide +kernel
theorem dX9_copyFrom_82 : decode cX9_copyFrom 82 = .ok (.aload_n 0, 1) := by decide +kernel
theorem dX9_copyFrom_83 : decode cX9_copyFrom 83 = .ok (.getfield 21, 3) := by decide +kernel
theorem dX9_copyFrom_86 : decode cX9_copyFrom 86 = .ok (.iconst 0, 1) := by decide +kernel
theorem dX9_copyFrom_87 : decode cX9_copyFrom 87 = .ok (.bipush 8, 2) := by decide +kernel
theorem dX9_copyFrom_89 : decode cX9_copyFrom 89 = .ok (.invokestatic 59, 3) := by decide +kernel
theorem dX9_copyFrom_92 : decode cX9_copyFrom 92 = .ok (.aload_n 1, 1) := by decide +kernel
theorem dX9_copyFrom_93 : decode cX9_copyFrom 93 = .ok (.getfield 24, 3) := by decide +kernel
theorem dX9_copyFrom_96 : decode cX9_copyFrom 96 = .ok (.iconst 0, 1) := by decide +kernel
theorem dX9_copyFrom_97 : decode cX9_copyFrom 97 = .ok (.aload_n 0, 1) := by decide +kernel
theorem dX9_copyFrom_98 : decode cX9_copyFrom 98 = .ok (.getfield 24, 3) := by decide +kernel
theorem dX9_copyFrom_101 : decode cX9_copyFrom 101 = .ok (.iconst 0, 1) := by decide +kernel
theorem dX9_copyFrom_102 : decode cX9_copyFrom 102 = .ok (.bipush 8, 2) := by decide +kernel
theorem dX9_copyFrom_104 : decode cX9_copyFrom 104 = .ok (.invokestatic 59, 3) := by decide +kernel
theorem dX9_copyFrom_107 : decode cX9_copyFrom 107 = .ok (.aload_n 1, 1) := by decide +kernel
theorem dX9_copyFrom_108 : decode cX9_copyFrom 108 = .ok (.getfield 27, 3) := by decide +kernel
theorem dX9_copyFrom_111 : decode cX9_copyFrom 111 = .ok (.iconst 0, 1) := by decide +kernel
theorem dX9_copyFrom_112 : decode cX9_copyFrom 112 = .ok (.aload_n 0, 1) := by decide +kernel
theorem dX9_copyFrom_113 : decode cX9_copyFrom 113 = .ok (.getfield 27, 3) := by decide +kernel
theorem dX9_copyFrom_116 : decode cX9_copyFrom 116 = .ok (.iconst 0, 1) := by decide +kernel
theorem dX9_copyFrom_117 : decode cX9_copyFrom 117 = .ok (.bipush 12, 2) := by decide +kernel
theorem dX9_copyFrom_119 : decode cX9_copyFrom 119 = .ok (.invokestatic 59, 3) := by decide +kernel
theorem dX9_copyFrom_122 : decode cX9_copyFrom 122 = .ok (.aload_n 1, 1) := by decide +kernel
theorem dX9_copyFrom_123 : decode cX9_copyFrom 123 = .ok (.getfield 30, 3) := by decide +kernel
theorem dX9_copyFrom_126 : decode cX9_copyFrom 126 = .ok (.iconst 0, 1) := by decide +kernel
theorem dX9_copyFrom_127 : decode cX9_copyFrom 127 = .ok (.aload_n 0, 1) := by decide +kernel
theorem dX9_copyFrom_128 : decode cX9_copyFrom 128 = .ok (.getfield 30, 3) := by decide +kernel
theorem dX9_copyFrom_131 : decode cX9_copyFrom 131 = .ok (.iconst 0, 1) := by decide +kernel
theorem dX9_copyFrom_132 : decode cX9_copyFrom 132 = .ok (.bipush 12, 2) := by decide +kernel
theorem dX9_copyFrom_134 : decode cX9_copyFrom 134 = .ok (.invokestatic 59, 3) := by decide +kernel
theorem dX9_copyFrom_137 : decode cX9_copyFrom 137 = .ok (.aload_n 1, 1) := by decide +kernel
theorem dX9_copyFrom_138 : decode cX9_copyFrom 138 = .ok (.getfield 33, 3) := by decide +kernel
theorem dX9_copyFrom_141 : decode cX9_copyFrom 141 = .ok (.iconst 0, 1) := by decide +kernel
theorem dX9_copyFrom_142 : decode cX9_copyFrom 142 = .ok (.aload_n 0, 1) := by decide +kernel
theorem dX9_copyFrom_143 : decode cX9_copyFrom 143 = .ok (.getfield 33, 3) := by decide +kernel
theorem dX9_copyFrom_146 : decode cX9_copyFrom 146 = .ok (.iconst 0, 1) := by decide +kernel
theorem dX9_copyFrom_147 : decode cX9_copyFrom 147 = .ok (.bipush 12, 2) := by decide +kernel
theorem dX9_copyFrom_149 : decode cX9_copyFrom 149 = .ok (.invokestatic 59, 3) := by decide +kernel
theorem dX9_copyFrom_152 : decode cX9_copyFrom 152 = .ok (.aload_n 0, 1) := by decide +kernel
theorem dX9_copyFrom_153 : decode cX9_copyFrom 153 = .ok (.getfield 39, 3) := by decide +kernel
theorem dX9_copyFrom_156 : decode cX9_copyFrom 156 = .ok (.aload_n 1, 1) := by decide +kernel
theorem dX9_copyFrom_157 : decode cX9_copyFrom 157 = .ok (.getfield 39, 3) := by decide +kernel
theorem dX9_copyFrom_160 : decode cX9_copyFrom 160 = .ok (.invokevirtual 65, 3) := by decide +kernel
theorem dX9_copyFrom_163 : decode cX9_copyFrom 163 = .ok (.return_, 1) := by decide +kernel
theorem dX11_fault_0 : decode cX11_fault 0 = .ok (.iload_n 1, 1) := by decide +kernel
theorem dX11_fault_1 : decode cX11_fault 1 = .ok (.ifCond .ne 11, 3) := by decide +kernel
theorem dX11_fault_4 : decode cX11_fault 4 = .ok (.aload_n 0, 1) := by decide +kernel
theorem dX11_fault_5 : decode cX11_fault 5 = .ok (.getfield 19, 3) := by decide +kernel
theorem dX11_fault_8 : decode cX11_fault 8 = .ok (.getfield 114, 3) := by decide +kernel
theorem dX11_fault_11 : decode cX11_fault 11 = .ok (.ireturn, 1) := by decide +kernel
theorem dX11_fault_12 : decode cX11_fault 12 = .ok (.iload_n 1, 1) := by decide +kernel
theorem dX11_fault_13 : decode cX11_fault 13 = .ok (.iconst 1, 1) := by decide +kernel
theorem dX11_fault_14 : decode cX11_fault 14 = .ok (.if_icmp .ne 13, 3) := by decide +kernel
theorem dX11_fault_17 : decode cX11_fault 17 = .ok (.aload_n 0, 1) := by decide +kernel
theorem dX11_fault_18 : decode cX11_fault 18 = .ok (.getfield 19, 3) := by decide +kernel
theorem dX11_fault_21 : decode cX11_fault 21 = .ok (.getfield 117, 3) := by decide +kernel
theorem dX11_fault_24 : decode cX11_fault 24 = .ok (.goto 4, 3) := by decide +kernel
theorem dX11_fault_27 : decode cX11_fault 27 = .ok (.iconst (-1), 1) := by decide +kernel
theorem dX11_fault_28 : decode cX11_fault 28 = .ok (.ireturn, 1) := by decide +kernel
theorem dX6_countOf_0 : decode cX6_countOf 0 = .ok (.iconst 0, 1) := by decide +kernel
theorem dX6_countOf_1 : decode cX6_countOf 1 = .ok (.istore_n 2, 1) := by decide +kernel
theorem dX6_countOf_2 : decode cX6_countOf 2 = .ok (.iconst 0, 1) := by decide +kernel
theorem dX6_countOf_3 : decode cX6_countOf 3 = .ok (.istore_n 3, 1) := by decide +kernel
theorem dX6_countOf_4 : decode cX6_countOf 4 = .ok (.iload_n 3, 1) := by decide +kernel
theorem dX6_countOf_5 : decode cX6_countOf 5 = .ok (.aload_n 0, 1) := by decide +kernel
theorem dX6_countOf_6 : decode cX6_countOf 6 = .ok (.getfield 48, 3) := by decide +kernel
theorem dX6_countOf_9 : decode cX6_countOf 9 = .ok (.getfield 79, 3) := by decide +kernel
theorem dX6_countOf_12 : decode cX6_countOf 12 = .ok (.if_icmp .ge 22, 3) := by decide +kernel
theorem dX6_countOf_15 : decode cX6_countOf 15 = .ok (.aload_n 0, 1) := by decide +kernel
theorem dX6_countOf_16 : decode cX6_countOf 16 = .ok (.getfield 21, 3) := by decide +kernel
theorem dX6_countOf_19 : decode cX6_countOf 19 = .ok (.iload_n 3, 1) := by decide +kernel
theorem dX6_countOf_20 : decode cX6_countOf 20 = .ok (.iaload, 1) := by decide +kernel
theorem dX6_countOf_21 : decode cX6_countOf 21 = .ok (.iload_n 1, 1) := by decide +kernel
theorem dX6_countOf_22 : decode cX6_countOf 22 = .ok (.if_icmp .ne 6, 3) := by decide +kernel
theorem dX6_countOf_25 : decode cX6_countOf 25 = .ok (.iinc 2 1, 3) := by decide +kernel
theorem dX6_countOf_28 : decode cX6_countOf 28 = .ok (.iinc 3 1, 3) := by decide +kernel
theorem dX6_countOf_31 : decode cX6_countOf 31 = .ok (.goto (-27), 3) := by decide +kernel
theorem dX6_countOf_34 : decode cX6_countOf 34 = .ok (.iload_n 2, 1) := by decide +kernel
theorem dX6_countOf_35 : decode cX6_countOf 35 = .ok (.ireturn, 1) := by decide +kernel
theorem dX6_busyCount_0 : decode cX6_busyCount 0 = .ok (.aload_n 0, 1) := by decide +kernel
theorem dX6_busyCount_1 : decode cX6_busyCount 1 = .ok (.iconst 2, 1) := by decide +kernel
theorem dX6_busyCount_2 : decode cX6_busyCount 2 = .ok (.invokevirtual 85, 3) := by decide +kernel
theorem dX6_busyCount_5 : decode cX6_busyCount 5 = .ok (.ireturn, 1) := by decide +kernel
theorem dX6_struckCount_0 : decode cX6_struckCount 0 = .ok (.iconst 0, 1) := by decide +kernel
theorem dX6_struckCount_1 : decode cX6_struckCount 1 = .ok (.istore_n 1, 1) := by decide +kernel
theorem dX6_struckCount_2 : decode cX6_struckCount 2 = .ok (.iconst 0, 1) := by decide +kernel
theorem dX6_struckCount_3 : decode cX6_struckCount 3 = .ok (.istore_n 2, 1) := by decide +kernel
theorem dX6_struckCount_4 : decode cX6_struckCount 4 = .ok (.iload_n 2, 1) := by decide +kernel
theorem dX6_struckCount_5 : decode cX6_struckCount 5 = .ok (.aload_n 0, 1) := by decide +kernel
theorem dX6_struckCount_6 : decode cX6_struckCount 6 = .ok (.getfield 48, 3) := by decide +kernel
theorem dX6_struckCount_9 : decode cX6_struckCount 9 = .ok (.getfield 82, 3) := by decide +kernel
theorem dX6_struckCount_12 : decode cX6_struckCount 12 = .ok (.if_icmp .ge 21, 3) := by decide +kernel
theorem dX6_struckCount_15 : decode cX6_struckCount 15 = .ok (.aload_n 0, 1) := by decide +kernel
theorem dX6_struckCount_16 : decode cX6_struckCount 16 = .ok (.getfield 15, 3) := by decide +kernel
theorem dX6_struckCount_19 : decode cX6_struckCount 19 = .ok (.iload_n 2, 1) := by decide +kernel
theorem dX6_struckCount_20 : decode cX6_struckCount 20 = .ok (.iaload, 1) := by decide +kernel
theorem dX6_struckCount_21 : decode cX6_struckCount 21 = .ok (.ifCond .eq 6, 3) := by decide +kernel
theorem dX6_struckCount_24 : decode cX6_struckCount 24 = .ok (.iinc 1 1, 3) := by decide +kernel
theorem dX6_struckCount_27 : decode cX6_struckCount 27 = .ok (.iinc 2 1, 3) := by decide +kernel
theorem dX6_struckCount_30 : decode cX6_struckCount 30 = .ok (.goto (-26), 3) := by decide +kernel
theorem dX6_struckCount_33 : decode cX6_struckCount 33 = .ok (.iload_n 1, 1) := by decide +kernel
theorem dX6_struckCount_34 : decode cX6_struckCount 34 = .ok (.ireturn, 1) := by decide +kernel
theorem dX11_has_0 : decode cX11_has 0 = .ok (.iload_n 1, 1) := by decide +kernel
theorem dX11_has_1 : decode cX11_has 1 = .ok (.tableswitch 210 0 15 #[79, 87, 95, 103, 111, 119, 127, 136, 145, 154, 163, 172, 181, 189, 197, 205], 79) := by decide +kernel
theorem dX11_has_80 : decode cX11_has 80 = .ok (.aload_n 0, 1) := by decide +kernel
theorem dX11_has_81 : decode cX11_has 81 = .ok (.getfield 26, 3) := by decide +kernel
theorem dX11_has_84 : decode cX11_has 84 = .ok (.getfield 120, 3) := by decide +kernel
theorem dX11_has_87 : decode cX11_has 87 = .ok (.ireturn, 1) := by decide +kernel
theorem dX11_has_88 : decode cX11_has 88 = .ok (.aload_n 0, 1) := by decide +kernel
theorem dX11_has_89 : decode cX11_has 89 = .ok (.getfield 26, 3) := by decide +kernel
theorem dX11_has_92 : decode cX11_has 92 = .ok (.getfield 123, 3) := by decide +kernel
theorem dX11_has_95 : decode cX11_has 95 = .ok (.ireturn, 1) := by decide +kernel
theorem dX11_has_96 : decode cX11_has 96 = .ok (.aload_n 0, 1) := by decide +kernel
theorem dX11_has_97 : decode cX11_has 97 = .ok (.getfield 26, 3) := by decide +kernel
theorem dX11_has_100 : decode cX11_has 100 = .ok (.getfield 126, 3) := by decide +kernel
theorem dX11_has_103 : decode cX11_has 103 = .ok (.ireturn, 1) := by decide +kernel
theorem dX11_has_104 : decode cX11_has 104 = .ok (.aload_n 0, 1) := by decide +kernel
theorem dX11_has_105 : decode cX11_has 105 = .ok (.getfield 35, 3) := by decide +kernel
theorem dX11_has_108 : decode cX11_has 108 = .ok (.getfield 129, 3) := by decide +kernel
theorem dX11_has_111 : decode cX11_has 111 = .ok (.ireturn, 1) := by decide +kernel
theorem dX11_has_112 : decode cX11_has 112 = .ok (.aload_n 0, 1) := by decide +kernel
theorem dX11_has_113 : decode cX11_has 113 = .ok (.getfield 35, 3) := by decide +kernel
theorem dX11_has_116 : decode cX11_has 116 = .ok (.invokevirtual 132, 3) := by decide +kernel
theorem dX11_has_119 : decode cX11_has 119 = .ok (.ireturn, 1) := by decide +kernel
theorem dX11_has_120 : decode cX11_has 120 = .ok (.aload_n 0, 1) := by decide +kernel
theorem dX11_has_121 : decode cX11_has 121 = .ok (.getfield 35, 3) := by decide +kernel
theorem dX11_has_124 : decode cX11_has 124 = .ok (.invokevirtual 136, 3) := by decide +kernel
theorem dX11_has_127 : decode cX11_has 127 = .ok (.ireturn, 1) := by decide +kernel
theorem dX11_has_128 : decode cX11_has 128 = .ok (.aload_n 0, 1) := by decide +kernel
theorem dX11_has_129 : decode cX11_has 129 = .ok (.getfield 35, 3) := by decide +kernel
theorem dX11_has_132 : decode cX11_has 132 = .ok (.iconst 0, 1) := by decide +kernel
theorem dX11_has_133 : decode cX11_has 133 = .ok (.invokevirtual 139, 3) := by decide +kernel
theorem dX11_has_136 : decode cX11_has 136 = .ok (.ireturn, 1) := by decide +kernel
theorem dX11_has_137 : decode cX11_has 137 = .ok (.aload_n 0, 1) := by decide +kernel
theorem dX11_has_138 : decode cX11_has 138 = .ok (.getfield 35, 3) := by decide +kernel
theorem dX11_has_141 : decode cX11_has 141 = .ok (.iconst 1, 1) := by decide +kernel
theorem dX11_has_142 : decode cX11_has 142 = .ok (.invokevirtual 139, 3) := by decide +kernel
theorem dX11_has_145 : decode cX11_has 145 = .ok (.ireturn, 1) := by decide +kernel
theorem dX11_has_146 : decode cX11_has 146 = .ok (.aload_n 0, 1) := by decide +kernel
theorem dX11_has_147 : decode cX11_has 147 = .ok (.getfield 35, 3) := by decide +kernel
theorem dX11_has_150 : decode cX11_has 150 = .ok (.iconst 2, 1) := by decide +kernel
theorem dX11_has_151 : decode cX11_has 151 = .ok (.invokevirtual 139, 3) := by decide +kernel
theorem dX11_has_154 : decode cX11_has 154 = .ok (.ireturn, 1) := by decide +kernel
theorem dX11_has_155 : decode cX11_has 155 = .ok (.aload_n 0, 1) := by decide +kernel
theorem dX11_has_156 : decode cX11_has 156 = .ok (.getfield 35, 3) := by decide +kernel
theorem dX11_has_159 : decode cX11_has 159 = .ok (.iconst 3, 1) := by decide +kernel
theorem dX11_has_160 : decode cX11_has 160 = .ok (.invokevirtual 139, 3) := by decide +kernel
theorem dX11_has_163 : decode cX11_has 163 = .ok (.ireturn, 1) := by decide +kernel
theorem dX11_has_164 : decode cX11_has 164 = .ok (.aload_n 0, 1) := by decide +kernel
theorem dX11_has_165 : decode cX11_has 165 = .ok (.getfield 35, 3) := by decide +kernel
theorem dX11_has_168 : decode cX11_has 168 = .ok (.iconst 4, 1) := by decide +kernel
theorem dX11_has_169 : decode cX11_has 169 = .ok (.invokevirtual 139, 3) := by decide +kernel
theorem dX11_has_172 : decode cX11_has 172 = .ok (.ireturn, 1) := by decide +kernel
theorem dX11_has_173 : decode cX11_has 173 = .ok (.aload_n 0, 1) := by decide +kernel
theorem dX11_has_174 : decode cX11_has 174 = .ok (.getfield 35, 3) := by decide +kernel
theorem dX11_has_177 : decode cX11_has 177 = .ok (.iconst 5, 1) := by decide +kernel
theorem dX11_has_178 : decode cX11_has 178 = .ok (.invokevirtual 139, 3) := by decide +kernel
theorem dX11_has_181 : decode cX11_has 181 = .ok (.ireturn, 1) := by decide +kernel
theorem dX11_has_182 : decode cX11_has 182 = .ok (.aload_n 0, 1) := by decide +kernel
theorem dX11_has_183 : decode cX11_has 183 = .ok (.getfield 35, 3) := by decide +kernel
theorem dX11_has_186 : decode cX11_has 186 = .ok (.getfield 142, 3) := by decide +kernel
theorem dX11_has_189 : decode cX11_has 189 = .ok (.ireturn, 1) := by decide +kernel
theorem dX11_has_190 : decode cX11_has 190 = .ok (.aload_n 0, 1) := by decide +kernel
theorem dX11_has_191 : decode cX11_has 191 = .ok (.getfield 63, 3) := by decide +kernel
theorem dX11_has_194 : decode cX11_has 194 = .ok (.getfield 145, 3) := by decide +kernel
theorem dX11_has_197 : decode cX11_has 197 = .ok (.ireturn, 1) := by decide +kernel
theorem dX11_has_198 : decode cX11_has 198 = .ok (.aload_n 0, 1) := by decide +kernel
theorem dX11_has_199 : decode cX11_has 199 = .ok (.getfield 45, 3) := by decide +kernel
theorem dX11_has_202 : decode cX11_has 202 = .ok (.getfield 148, 3) := by decide +kernel
theorem dX11_has_205 : decode cX11_has 205 = .ok (.ireturn, 1) := by decide +kernel
theorem dX11_has_206 : decode cX11_has 206 = .ok (.aload_n 0, 1) := by decide +kernel
theorem dX11_has_207 : decode cX11_has 207 = .ok (.getfield 78, 3) := by decide +kernel
theorem dX11_has_210 : decode cX11_has 210 = .ok (.ireturn, 1) := by decide +kernel
theorem dX11_has_211 : decode cX11_has 211 = .ok (.iconst (-1), 1) := by decide +kernel
theorem dX11_has_212 : decode cX11_has 212 = .ok (.ireturn, 1) := by decide +kernel
theorem dX11_isPerson_0 : decode cX11_isPerson 0 = .ok (.iload_n 1, 1) := by decide +kernel
theorem dX11_isPerson_1 : decode cX11_isPerson 1 = .ok (.ifCond .lt 18, 3) := by decide +kernel
theorem dX11_isPerson_4 : decode cX11_isPerson 4 = .ok (.iload_n 1, 1) := by decide +kernel
theorem dX11_isPerson_5 : decode cX11_isPerson 5 = .ok (.aload_n 0, 1) := by decide +kernel
theorem dX11_isPerson_6 : decode cX11_isPerson 6 = .ok (.getfield 26, 3) := by decide +kernel
theorem dX11_isPerson_9 : decode cX11_isPerson 9 = .ok (.getfield 123, 3) := by decide +kernel
theorem dX11_isPerson_12 : decode cX11_isPerson 12 = .ok (.if_icmp .ge 7, 3) := by decide +kernel
theorem dX11_isPerson_15 : decode cX11_isPerson 15 = .ok (.iconst 1, 1) := by decide +kernel
theorem dX11_isPerson_16 : decode cX11_isPerson 16 = .ok (.goto 4, 3) := by decide +kernel
theorem dX11_isPerson_19 : decode cX11_isPerson 19 = .ok (.iconst 0, 1) := by decide +kernel
theorem dX11_isPerson_20 : decode cX11_isPerson 20 = .ok (.ireturn, 1) := by decide +kernel
theorem dX11_isVoice_0 : decode cX11_isVoice 0 = .ok (.iload_n 1, 1) := by decide +kernel
theorem dX11_isVoice_1 : decode cX11_isVoice 1 = .ok (.ifCond .lt 18, 3) := by decide +kernel
theorem dX11_isVoice_4 : decode cX11_isVoice 4 = .ok (.iload_n 1, 1) := by decide +kernel
theorem dX11_isVoice_5 : decode cX11_isVoice 5 = .ok (.aload_n 0, 1) := by decide +kernel
theorem dX11_isVoice_6 : decode cX11_isVoice 6 = .ok (.getfield 26, 3) := by decide +kernel
theorem dX11_isVoice_9 : decode cX11_isVoice 9 = .ok (.getfield 120, 3) := by decide +kernel
theorem dX11_isVoice_12 : decode cX11_isVoice 12 = .ok (.if_icmp .ge 7, 3) := by decide +kernel
theorem dX11_isVoice_15 : decode cX11_isVoice 15 = .ok (.iconst 1, 1) := by decide +kernel
theorem dX11_isVoice_16 : decode cX11_isVoice 16 = .ok (.goto 4, 3) := by decide +kernel
theorem dX11_isVoice_19 : decode cX11_isVoice 19 = .ok (.iconst 0, 1) := by decide +kernel
theorem dX11_isVoice_20 : decode cX11_isVoice 20 = .ok (.ireturn, 1) := by decide +kernel
theorem dX10_letterOf_0 : decode cX10_letterOf 0 = .ok (.iload_n 0, 1) := by decide +kernel
theorem dX10_letterOf_1 : decode cX10_letterOf 1 = .ok (.iconst 5, 1) := by decide +kernel
theorem dX10_letterOf_2 : decode cX10_letterOf 2 = .ok (.iload_n 1, 1) := by decide +kernel
theorem dX10_letterOf_3 : decode cX10_letterOf 3 = .ok (.imul, 1) := by decide +kernel
theorem dX10_letterOf_4 : decode cX10_letterOf 4 = .ok (.ishr, 1) := by decide +kernel
theorem dX10_letterOf_5 : decode cX10_letterOf 5 = .ok (.bipush 31, 2) := by decide +kernel
theorem dX10_letterOf_7 : decode cX10_letterOf 7 = .ok (.iand, 1) := by decide +kernel
theorem dX10_letterOf_8 : decode cX10_letterOf 8 = .ok (.ireturn, 1) := by decide +kernel
theorem dX11_letter_0 : decode cX11_letter 0 = .ok (.iload_n 3, 1) := by decide +kernel
theorem dX11_letter_1 : decode cX11_letter 1 = .ok (.ifCond .lt 9, 3) := by decide +kernel
theorem dX11_letter_4 : decode cX11_letter 4 = .ok (.iload_n 3, 1) := by decide +kernel
theorem dX11_letter_5 : decode cX11_letter 5 = .ok (.bipush 6, 2) := by decide +kernel
theorem dX11_letter_7 : decode cX11_letter 7 = .ok (.if_icmp .lt 5, 3) := by decide +kernel
theorem dX11_letter_10 : decode cX11_letter 10 = .ok (.iconst (-1), 1) := by decide +kernel
theorem dX11_letter_11 : decode cX11_letter 11 = .ok (.ireturn, 1) := by decide +kernel
theorem dX11_letter_12 : decode cX11_letter 12 = .ok (.iload_n 1, 1) := by decide +kernel
theorem dX11_letter_13 : decode cX11_letter 13 = .ok (.ifCond .ne 25, 3) := by decide +kernel
theorem dX11_letter_16 : decode cX11_letter 16 = .ok (.aload_n 0, 1) := by decide +kernel
theorem dX11_letter_17 : decode cX11_letter 17 = .ok (.iload_n 2, 1) := by decide +kernel
theorem dX11_letter_18 : decode cX11_letter 18 = .ok (.invokevirtual 149, 3) := by decide +kernel
theorem dX11_letter_21 : decode cX11_letter 21 = .ok (.ifCond .eq 17, 3) := by decide +kernel
theorem dX11_letter_24 : decode cX11_letter 24 = .ok (.aload_n 0, 1) := by decide +kernel
theorem dX11_letter_25 : decode cX11_letter 25 = .ok (.getfield 26, 3) := by decide +kernel
theorem dX11_letter_28 : decode cX11_letter 28 = .ok (.getfield 152, 3) := by decide +kernel
theorem dX11_letter_31 : decode cX11_letter 31 = .ok (.iload_n 2, 1) := by decide +kernel
theorem dX11_letter_32 : decode cX11_letter 32 = .ok (.iaload, 1) := by decide +kernel
theorem dX11_letter_33 : decode cX11_letter 33 = .ok (.iload_n 3, 1) := by decide +kernel
theorem dX11_letter_34 : decode cX11_letter 34 = .ok (.invokestatic 155, 3) := by decide +kernel
theorem dX11_letter_37 : decode cX11_letter 37 = .ok (.ireturn, 1) := by decide +kernel
theorem dX11_letter_38 : decode cX11_letter 38 = .ok (.iload_n 1, 1) := by decide +kernel
theorem dX11_letter_39 : decode cX11_letter 39 = .ok (.iconst 1, 1) := by decide +kernel
theorem dX11_letter_40 : decode cX11_letter 40 = .ok (.if_icmp .ne 25, 3) := by decide +kernel
theorem dX11_letter_43 : decode cX11_letter 43 = .ok (.aload_n 0, 1) := by decide +kernel
theorem dX11_letter_44 : decode cX11_letter 44 = .ok (.iload_n 2, 1) := by decide +kernel
theorem dX11_letter_45 : decode cX11_letter 45 = .ok (.invokevirtual 161, 3) := by decide +kernel
theorem dX11_letter_48 : decode cX11_letter 48 = .ok (.ifCond .eq 17, 3) := by decide +kernel
theorem dX11_letter_51 : decode cX11_letter 51 = .ok (.aload_n 0, 1) := by decide +kernel
theorem dX11_letter_52 : decode cX11_letter 52 = .ok (.getfield 26, 3) := by decide +kernel
theorem dX11_letter_55 : decode cX11_letter 55 = .ok (.getfield 164, 3) := by decide +kernel
theorem dX11_letter_58 : decode cX11_letter 58 = .ok (.iload_n 2, 1) := by decide +kernel
theorem dX11_letter_59 : decode cX11_letter 59 = .ok (.iaload, 1) := by decide +kernel
theorem dX11_letter_60 : decode cX11_letter 60 = .ok (.iload_n 3, 1) := by decide +kernel
theorem dX11_letter_61 : decode cX11_letter 61 = .ok (.invokestatic 155, 3) := by decide +kernel
theorem dX11_letter_64 : decode cX11_letter 64 = .ok (.ireturn, 1) := by decide +kernel
theorem dX11_letter_65 : decode cX11_letter 65 = .ok (.iconst (-1), 1) := by decide +kernel
theorem dX11_letter_66 : decode cX11_letter 66 = .ok (.ireturn, 1) := by decide +kernel
theorem dX6_sayingBy_0 : decode cX6_sayingBy 0 = .ok (.iconst 0, 1) := by decide +kernel
theorem dX6_sayingBy_1 : decode cX6_sayingBy 1 = .ok (.istore_n 2, 1) := by decide +kernel
theorem dX6_sayingBy_2 : decode cX6_sayingBy 2 = .ok (.iload_n 2, 1) := by decide +kernel
theorem dX6_sayingBy_3 : decode cX6_sayingBy 3 = .ok (.aload_n 0, 1) := by decide +kernel
theorem dX6_sayingBy_4 : decode cX6_sayingBy 4 = .ok (.getfield 48, 3) := by decide +kernel
theorem dX6_sayingBy_7 : decode cX6_sayingBy 7 = .ok (.getfield 79, 3) := by decide +kernel
theorem dX6_sayingBy_10 : decode cX6_sayingBy 10 = .ok (.if_icmp .ge 31, 3) := by decide +kernel
theorem dX6_sayingBy_13 : decode cX6_sayingBy 13 = .ok (.aload_n 0, 1) := by decide +kernel
theorem dX6_sayingBy_14 : decode cX6_sayingBy 14 = .ok (.getfield 21, 3) := by decide +kernel
theorem dX6_sayingBy_17 : decode cX6_sayingBy 17 = .ok (.iload_n 2, 1) := by decide +kernel
theorem dX6_sayingBy_18 : decode cX6_sayingBy 18 = .ok (.iaload, 1) := by decide +kernel
theorem dX6_sayingBy_19 : decode cX6_sayingBy 19 = .ok (.iconst 2, 1) := by decide +kernel
theorem dX6_sayingBy_20 : decode cX6_sayingBy 20 = .ok (.if_icmp .ne 15, 3) := by decide +kernel
theorem dX6_sayingBy_23 : decode cX6_sayingBy 23 = .ok (.aload_n 0, 1) := by decide +kernel
theorem dX6_sayingBy_24 : decode cX6_sayingBy 24 = .ok (.getfield 30, 3) := by decide +kernel
theorem dX6_sayingBy_27 : decode cX6_sayingBy 27 = .ok (.iload_n 2, 1) := by decide +kernel
theorem dX6_sayingBy_28 : decode cX6_sayingBy 28 = .ok (.iaload, 1) := by decide +kernel
theorem dX6_sayingBy_29 : decode cX6_sayingBy 29 = .ok (.iload_n 1, 1) := by decide +kernel
theorem dX6_sayingBy_30 : decode cX6_sayingBy 30 = .ok (.if_icmp .ne 5, 3) := by decide +kernel
theorem dX6_sayingBy_33 : decode cX6_sayingBy 33 = .ok (.iload_n 2, 1) := by decide +kernel
theorem dX6_sayingBy_34 : decode cX6_sayingBy 34 = .ok (.ireturn, 1) := by decide +kernel
theorem dX6_sayingBy_35 : decode cX6_sayingBy 35 = .ok (.iinc 2 1, 3) := by decide +kernel
theorem dX6_sayingBy_38 : decode cX6_sayingBy 38 = .ok (.goto (-36), 3) := by decide +kernel
theorem dX6_sayingBy_41 : decode cX6_sayingBy 41 = .ok (.iconst (-1), 1) := by decide +kernel
theorem dX6_sayingBy_42 : decode cX6_sayingBy 42 = .ok (.ireturn, 1) := by decide +kernel
theorem dX11_voice_0 : decode cX11_voice 0 = .ok (.aload_n 0, 1) := by decide +kernel
theorem dX11_voice_1 : decode cX11_voice 1 = .ok (.iload_n 1, 1) := by decide +kernel
theorem dX11_voice_2 : decode cX11_voice 2 = .ok (.invokevirtual 149, 3) := by decide +kernel
theorem dX11_voice_5 : decode cX11_voice 5 = .ok (.ifCond .ne 5, 3) := by decide +kernel
theorem dX11_voice_8 : decode cX11_voice 8 = .ok (.iconst (-1), 1) := by decide +kernel
theorem dX11_voice_9 : decode cX11_voice 9 = .ok (.ireturn, 1) := by decide +kernel
theorem dX11_voice_10 : decode cX11_voice 10 = .ok (.iload_n 2, 1) := by decide +kernel
theorem dX11_voice_11 : decode cX11_voice 11 = .ok (.tableswitch 68 0 3 #[29, 39, 49, 59], 29) := by decide +kernel
theorem dX11_voice_40 : decode cX11_voice 40 = .ok (.aload_n 0, 1) := by decide +kernel
theorem dX11_voice_41 : decode cX11_voice 41 = .ok (.getfield 35, 3) := by decide +kernel
theorem dX11_voice_44 : decode cX11_voice 44 = .ok (.getfield 167, 3) := by decide +kernel
theorem dX11_voice_47 : decode cX11_voice 47 = .ok (.iload_n 1, 1) := by decide +kernel
theorem dX11_voice_48 : decode cX11_voice 48 = .ok (.iaload, 1) := by decide +kernel
theorem dX11_voice_49 : decode cX11_voice 49 = .ok (.ireturn, 1) := by decide +kernel
theorem dX11_voice_50 : decode cX11_voice 50 = .ok (.aload_n 0, 1) := by decide +kernel
theorem dX11_voice_51 : decode cX11_voice 51 = .ok (.getfield 35, 3) := by decide +kernel
theorem dX11_voice_54 : decode cX11_voice 54 = .ok (.getfield 170, 3) := by decide +kernel
theorem dX11_voice_57 : decode cX11_voice 57 = .ok (.iload_n 1, 1) := by decide +kernel
theorem dX11_voice_58 : decode cX11_voice 58 = .ok (.iaload, 1) := by decide +kernel
theorem dX11_voice_59 : decode cX11_voice 59 = .ok (.ireturn, 1) := by decide +kernel
theorem dX11_voice_60 : decode cX11_voice 60 = .ok (.aload_n 0, 1) := by decide +kernel
theorem dX11_voice_61 : decode cX11_voice 61 = .ok (.getfield 35, 3) := by decide +kernel
theorem dX11_voice_64 : decode cX11_voice 64 = .ok (.getfield 173, 3) := by decide +kernel
theorem dX11_voice_67 : decode cX11_voice 67 = .ok (.iload_n 1, 1) := by decide +kernel
theorem dX11_voice_68 : decode cX11_voice 68 = .ok (.iaload, 1) := by decide +kernel
theorem dX11_voice_69 : decode cX11_voice 69 = .ok (.ireturn, 1) := by decide +kernel
theorem dX11_voice_70 : decode cX11_voice 70 = .ok (.aload_n 0, 1) := by decide +kernel
theorem dX11_voice_71 : decode cX11_voice 71 = .ok (.getfield 35, 3) := by decide +kernel
theorem dX11_voice_74 : decode cX11_voice 74 = .ok (.iload_n 1, 1) := by decide +kernel
theorem dX11_voice_75 : decode cX11_voice 75 = .ok (.invokevirtual 176, 3) := by decide +kernel
theorem dX11_voice_78 : decode cX11_voice 78 = .ok (.ireturn, 1) := by decide +kernel
theorem dX11_voice_79 : decode cX11_voice 79 = .ok (.iconst (-1), 1) := by decide +kernel
theorem dX11_voice_80 : decode cX11_voice 80 = .ok (.ireturn, 1) := by decide +kernel
theorem dX11_sayingsOf_0 : decode cX11_sayingsOf 0 = .ok (.iconst 0, 1) := by decide +kernel
theorem dX11_sayingsOf_1 : decode cX11_sayingsOf 1 = .ok (.istore_n 3, 1) := by decide +kernel
theorem dX11_sayingsOf_2 : decode cX11_sayingsOf 2 = .ok (.iconst 0, 1) := by decide +kernel
theorem dX11_sayingsOf_3 : decode cX11_sayingsOf 3 = .ok (.istore 4, 2) := by decide +kernel
theorem dX11_sayingsOf_5 : decode cX11_sayingsOf 5 = .ok (.iload 4, 2) := by decide +kernel
theorem dX11_sayingsOf_7 : decode cX11_sayingsOf 7 = .ok (.aload_n 0, 1) := by decide +kernel
theorem dX11_sayingsOf_8 : decode cX11_sayingsOf 8 = .ok (.getfield 26, 3) := by decide +kernel
theorem dX11_sayingsOf_11 : decode cX11_sayingsOf 11 = .ok (.getfield 126, 3) := by decide +kernel
theorem dX11_sayingsOf_14 : decode cX11_sayingsOf 14 = .ok (.if_icmp .ge 56, 3) := by decide +kernel
theorem dX11_sayingsOf_17 : decode cX11_sayingsOf 17 = .ok (.iload_n 2, 1) := by decide +kernel
theorem dX11_sayingsOf_18 : decode cX11_sayingsOf 18 = .ok (.ifCond .eq 17, 3) := by decide +kernel
theorem dX11_sayingsOf_21 : decode cX11_sayingsOf 21 = .ok (.aload_n 0, 1) := by decide +kernel
theorem dX11_sayingsOf_22 : decode cX11_sayingsOf 22 = .ok (.getfield 35, 3) := by decide +kernel
theorem dX11_sayingsOf_25 : decode cX11_sayingsOf 25 = .ok (.getfield 201, 3) := by decide +kernel
theorem dX11_sayingsOf_28 : decode cX11_sayingsOf 28 = .ok (.iload 4, 2) := by decide +kernel
theorem dX11_sayingsOf_30 : decode cX11_sayingsOf 30 = .ok (.iaload, 1) := by decide +kernel
theorem dX11_sayingsOf_31 : decode cX11_sayingsOf 31 = .ok (.iconst 2, 1) := by decide +kernel
theorem dX11_sayingsOf_32 : decode cX11_sayingsOf 32 = .ok (.if_icmp .ne 7, 3) := by decide +kernel
theorem dX11_sayingsOf_35 : decode cX11_sayingsOf 35 = .ok (.iconst 1, 1) := by decide +kernel
theorem dX11_sayingsOf_36 : decode cX11_sayingsOf 36 = .ok (.goto 4, 3) := by decide +kernel
theorem dX11_sayingsOf_39 : decode cX11_sayingsOf 39 = .ok (.iconst 0, 1) := by decide +kernel
theorem dX11_sayingsOf_40 : decode cX11_sayingsOf 40 = .ok (.istore 5, 2) := by decide +kernel
theorem dX11_sayingsOf_42 : decode cX11_sayingsOf 42 = .ok (.iload 5, 2) := by decide +kernel
theorem dX11_sayingsOf_44 : decode cX11_sayingsOf 44 = .ok (.ifCond .eq 20, 3) := by decide +kernel
theorem dX11_sayingsOf_47 : decode cX11_sayingsOf 47 = .ok (.aload_n 0, 1) := by decide +kernel
theorem dX11_sayingsOf_48 : decode cX11_sayingsOf 48 = .ok (.getfield 26, 3) := by decide +kernel
theorem dX11_sayingsOf_51 : decode cX11_sayingsOf 51 = .ok (.getfield 192, 3) := by decide +kernel
theorem dX11_sayingsOf_54 : decode cX11_sayingsOf 54 = .ok (.iload 4, 2) := by decide +kernel
theorem dX11_sayingsOf_56 : decode cX11_sayingsOf 56 = .ok (.iaload, 1) := by decide +kernel
theorem dX11_sayingsOf_57 : decode cX11_sayingsOf 57 = .ok (.iload_n 1, 1) := by decide +kernel
theorem dX11_sayingsOf_58 : decode cX11_sayingsOf 58 = .ok (.if_icmp .ne 6, 3) := by decide +kernel
theorem dX11_sayingsOf_61 : decode cX11_sayingsOf 61 = .ok (.iinc 3 1, 3) := by decide +kernel
theorem dX11_sayingsOf_64 : decode cX11_sayingsOf 64 = .ok (.iinc 4 1, 3) := by decide +kernel
theorem dX11_sayingsOf_67 : decode cX11_sayingsOf 67 = .ok (.goto (-62), 3) := by decide +kernel
theorem dX11_sayingsOf_70 : decode cX11_sayingsOf 70 = .ok (.iload_n 3, 1) := by decide +kernel
theorem dX11_sayingsOf_71 : decode cX11_sayingsOf 71 = .ok (.ireturn, 1) := by decide +kernel
theorem dX11_person_0 : decode cX11_person 0 = .ok (.aload_n 0, 1) := by decide +kernel
theorem dX11_person_1 : decode cX11_person 1 = .ok (.iload_n 1, 1) := by decide +kernel
theorem dX11_person_2 : decode cX11_person 2 = .ok (.invokevirtual 161, 3) := by decide +kernel
theorem dX11_person_5 : decode cX11_person 5 = .ok (.ifCond .ne 5, 3) := by decide +kernel
theorem dX11_person_8 : decode cX11_person 8 = .ok (.iconst (-1), 1) := by decide +kernel
theorem dX11_person_9 : decode cX11_person 9 = .ok (.ireturn, 1) := by decide +kernel
theorem dX11_person_10 : decode cX11_person 10 = .ok (.iload_n 2, 1) := by decide +kernel
theorem dX11_person_11 : decode cX11_person 11 = .ok (.tableswitch 63 0 3 #[29, 39, 49, 56], 29) := by decide +kernel
theorem dX11_person_40 : decode cX11_person 40 = .ok (.aload_n 0, 1) := by decide +kernel
theorem dX11_person_41 : decode cX11_person 41 = .ok (.getfield 26, 3) := by decide +kernel
theorem dX11_person_44 : decode cX11_person 44 = .ok (.getfield 179, 3) := by decide +kernel
theorem dX11_person_47 : decode cX11_person 47 = .ok (.iload_n 1, 1) := by decide +kernel
theorem dX11_person_48 : decode cX11_person 48 = .ok (.iaload, 1) := by decide +kernel
theorem dX11_person_49 : decode cX11_person 49 = .ok (.ireturn, 1) := by decide +kernel
theorem dX11_person_50 : decode cX11_person 50 = .ok (.aload_n 0, 1) := by decide +kernel
theorem dX11_person_51 : decode cX11_person 51 = .ok (.getfield 26, 3) := by decide +kernel
theorem dX11_person_54 : decode cX11_person 54 = .ok (.getfield 182, 3) := by decide +kernel
theorem dX11_person_57 : decode cX11_person 57 = .ok (.iload_n 1, 1) := by decide +kernel
theorem dX11_person_58 : decode cX11_person 58 = .ok (.iaload, 1) := by decide +kernel
theorem dX11_person_59 : decode cX11_person 59 = .ok (.ireturn, 1) := by decide +kernel
theorem dX11_person_60 : decode cX11_person 60 = .ok (.aload_n 0, 1) := by decide +kernel
theorem dX11_person_61 : decode cX11_person 61 = .ok (.iload_n 1, 1) := by decide +kernel
theorem dX11_person_62 : decode cX11_person 62 = .ok (.iconst 0, 1) := by decide +kernel
theorem dX11_person_63 : decode cX11_person 63 = .ok (.invokevirtual 185, 3) := by decide +kernel
theorem dX11_person_66 : decode cX11_person 66 = .ok (.ireturn, 1) := by decide +kernel
theorem dX11_person_67 : decode cX11_person 67 = .ok (.aload_n 0, 1) := by decide +kernel
theorem dX11_person_68 : decode cX11_person 68 = .ok (.iload_n 1, 1) := by decide +kernel
theorem dX11_person_69 : decode cX11_person 69 = .ok (.iconst 1, 1) := by decide +kernel
theorem dX11_person_70 : decode cX11_person 70 = .ok (.invokevirtual 185, 3) := by decide +kernel
theorem dX11_person_73 : decode cX11_person 73 = .ok (.ireturn, 1) := by decide +kernel
theorem dX11_person_74 : decode cX11_person 74 = .ok (.iconst (-1), 1) := by decide +kernel
theorem dX11_person_75 : decode cX11_person 75 = .ok (.ireturn, 1) := by decide +kernel
theorem dX11_isSaying_0 : decode cX11_isSaying 0 = .ok (.iload_n 1, 1) := by decide +kernel
theorem dX11_isSaying_1 : decode cX11_isSaying 1 = .ok (.ifCond .lt 18, 3) := by decide +kernel
theorem dX11_isSaying_4 : decode cX11_isSaying 4 = .ok (.iload_n 1, 1) := by decide +kernel
theorem dX11_isSaying_5 : decode cX11_isSaying 5 = .ok (.aload_n 0, 1) := by decide +kernel
theorem dX11_isSaying_6 : decode cX11_isSaying 6 = .ok (.getfield 26, 3) := by decide +kernel
theorem dX11_isSaying_9 : decode cX11_isSaying 9 = .ok (.getfield 126, 3) := by decide +kernel
theorem dX11_isSaying_12 : decode cX11_isSaying 12 = .ok (.if_icmp .ge 7, 3) := by decide +kernel
theorem dX11_isSaying_15 : decode cX11_isSaying 15 = .ok (.iconst 1, 1) := by decide +kernel
theorem dX11_isSaying_16 : decode cX11_isSaying 16 = .ok (.goto 4, 3) := by decide +kernel
theorem dX11_isSaying_19 : decode cX11_isSaying 19 = .ok (.iconst 0, 1) := by decide +kernel
theorem dX11_isSaying_20 : decode cX11_isSaying 20 = .ok (.ireturn, 1) := by decide +kernel
theorem dX11_saying_0 : decode cX11_saying 0 = .ok (.aload_n 0, 1) := by decide +kernel
theorem dX11_saying_1 : decode cX11_saying 1 = .ok (.iload_n 1, 1) := by decide +kernel
theorem dX11_saying_2 : decode cX11_saying 2 = .ok (.invokevirtual 189, 3) := by decide +kernel
theorem dX11_saying_5 : decode cX11_saying 5 = .ok (.ifCond .ne 5, 3) := by decide +kernel
theorem dX11_saying_8 : decode cX11_saying 8 = .ok (.iconst (-1), 1) := by decide +kernel
theorem dX11_saying_9 : decode cX11_saying 9 = .ok (.ireturn, 1) := by decide +kernel
theorem dX11_saying_10 : decode cX11_saying 10 = .ok (.iload_n 2, 1) := by decide +kernel
theorem dX11_saying_11 : decode cX11_saying 11 = .ok (.tableswitch 125 0 7 #[45, 55, 65, 75, 85, 95, 105, 115], 45) := by decide +kernel
theorem dX11_saying_56 : decode cX11_saying 56 = .ok (.aload_n 0, 1) := by decide +kernel
theorem dX11_saying_57 : decode cX11_saying 57 = .ok (.getfield 26, 3) := by decide +kernel
theorem dX11_saying_60 : decode cX11_saying 60 = .ok (.getfield 192, 3) := by decide +kernel
theorem dX11_saying_63 : decode cX11_saying 63 = .ok (.iload_n 1, 1) := by decide +kernel
theorem dX11_saying_64 : decode cX11_saying 64 = .ok (.iaload, 1) := by decide +kernel
theorem dX11_saying_65 : decode cX11_saying 65 = .ok (.ireturn, 1) := by decide +kernel
theorem dX11_saying_66 : decode cX11_saying 66 = .ok (.aload_n 0, 1) := by decide +kernel
theorem dX11_saying_67 : decode cX11_saying 67 = .ok (.getfield 35, 3) := by decide +kernel
theorem dX11_saying_70 : decode cX11_saying 70 = .ok (.getfield 195, 3) := by decide +kernel
theorem dX11_saying_73 : decode cX11_saying 73 = .ok (.iload_n 1, 1) := by decide +kernel
theorem dX11_saying_74 : decode cX11_saying 74 = .ok (.iaload, 1) := by decide +kernel
theorem dX11_saying_75 : decode cX11_saying 75 = .ok (.ireturn, 1) := by decide +kernel
theorem dX11_saying_76 : decode cX11_saying 76 = .ok (.aload_n 0, 1) := by decide +kernel
theorem dX11_saying_77 : decode cX11_saying 77 = .ok (.getfield 26, 3) := by decide +kernel
theorem dX11_saying_80 : decode cX11_saying 80 = .ok (.getfield 198, 3) := by decide +kernel
theorem dX11_saying_83 : decode cX11_saying 83 = .ok (.iload_n 1, 1) := by decide +kernel
theorem dX11_saying_84 : decode cX11_saying 84 = .ok (.iaload, 1) := by decide +kernel
theorem dX11_saying_85 : decode cX11_saying 85 = .ok (.ireturn, 1) := by decide +kernel
theorem dX11_saying_86 : decode cX11_saying 86 = .ok (.aload_n 0, 1) := by decide +kernel
theorem dX11_saying_87 : decode cX11_saying 87 = .ok (.getfield 35, 3) := by decide +kernel
theorem dX11_saying_90 : decode cX11_saying 90 = .ok (.getfield 201, 3) := by decide +kernel
theorem dX11_saying_93 : decode cX11_saying 93 = .ok (.iload_n 1, 1) := by decide +kernel
theorem dX11_saying_94 : decode cX11_saying 94 = .ok (.iaload, 1) := by decide +kernel
theorem dX11_saying_95 : decode cX11_saying 95 = .ok (.ireturn, 1) := by decide +kernel
theorem dX11_saying_96 : decode cX11_saying 96 = .ok (.aload_n 0, 1) := by decide +kernel
theorem dX11_saying_97 : decode cX11_saying 97 = .ok (.getfield 35, 3) := by decide +kernel
theorem dX11_saying_100 : decode cX11_saying 100 = .ok (.getfield 204, 3) := by decide +kernel
theorem dX11_saying_103 : decode cX11_saying 103 = .ok (.iload_n 1, 1) := by decide +kernel
theorem dX11_saying_104 : decode cX11_saying 104 = .ok (.iaload, 1) := by decide +kernel
theorem dX11_saying_105 : decode cX11_saying 105 = .ok (.ireturn, 1) := by decide +kernel
theorem dX11_saying_106 : decode cX11_saying 106 = .ok (.aload_n 0, 1) := by decide +kernel
theorem dX11_saying_107 : decode cX11_saying 107 = .ok (.getfield 35, 3) := by decide +kernel
theorem dX11_saying_110 : decode cX11_saying 110 = .ok (.getfield 207, 3) := by decide +kernel
theorem dX11_saying_113 : decode cX11_saying 113 = .ok (.iload_n 1, 1) := by decide +kernel
theorem dX11_saying_114 : decode cX11_saying 114 = .ok (.iaload, 1) := by decide +kernel
theorem dX11_saying_115 : decode cX11_saying 115 = .ok (.ireturn, 1) := by decide +kernel
theorem dX11_saying_116 : decode cX11_saying 116 = .ok (.aload_n 0, 1) := by decide +kernel
theorem dX11_saying_117 : decode cX11_saying 117 = .ok (.getfield 35, 3) := by decide +kernel
theorem dX11_saying_120 : decode cX11_saying 120 = .ok (.getfield 210, 3) := by decide +kernel
theorem dX11_saying_123 : decode cX11_saying 123 = .ok (.iload_n 1, 1) := by decide +kernel
theorem dX11_saying_124 : decode cX11_saying 124 = .ok (.iaload, 1) := by decide +kernel
theorem dX11_saying_125 : decode cX11_saying 125 = .ok (.ireturn, 1) := by decide +kernel
theorem dX11_saying_126 : decode cX11_saying 126 = .ok (.aload_n 0, 1) := by decide +kernel
theorem dX11_saying_127 : decode cX11_saying 127 = .ok (.getfield 35, 3) := by decide +kernel
theorem dX11_saying_130 : decode cX11_saying 130 = .ok (.getfield 213, 3) := by decide +kernel
theorem dX11_saying_133 : decode cX11_saying 133 = .ok (.iload_n 1, 1) := by decide +kernel
theorem dX11_saying_134 : decode cX11_saying 134 = .ok (.iaload, 1) := by decide +kernel
theorem dX11_saying_135 : decode cX11_saying 135 = .ok (.ireturn, 1) := by decide +kernel
theorem dX11_saying_136 : decode cX11_saying 136 = .ok (.iconst (-1), 1) := by decide +kernel
theorem dX11_saying_137 : decode cX11_saying 137 = .ok (.ireturn, 1) := by decide +kernel
theorem dJ9_floorDiv_7cf53_0 : decode cJ9_floorDiv_7cf53 0 = .ok (.iload_n 0, 1) := by decide +kernel
theorem dJ9_floorDiv_7cf53_1 : decode cJ9_floorDiv_7cf53 1 = .ok (.iload_n 1, 1) := by decide +kernel
theorem dJ9_floorDiv_7cf53_2 : decode cJ9_floorDiv_7cf53 2 = .ok (.idiv, 1) := by decide +kernel
theorem dJ9_floorDiv_7cf53_3 : decode cJ9_floorDiv_7cf53 3 = .ok (.istore_n 2, 1) := by decide +kernel
theorem dJ9_floorDiv_7cf53_4 : decode cJ9_floorDiv_7cf53 4 = .ok (.iload_n 0, 1) := by decide +kernel
theorem dJ9_floorDiv_7cf53_5 : decode cJ9_floorDiv_7cf53 5 = .ok (.iload_n 1, 1) := by decide +kernel
theorem dJ9_floorDiv_7cf53_6 : decode cJ9_floorDiv_7cf53 6 = .ok (.ixor, 1) := by decide +kernel
theorem dJ9_floorDiv_7cf53_7 : decode cJ9_floorDiv_7cf53 7 = .ok (.ifCond .ge 14, 3) := by decide +kernel
theorem dJ9_floorDiv_7cf53_10 : decode cJ9_floorDiv_7cf53 10 = .ok (.iload_n 2, 1) := by decide +kernel
theorem dJ9_floorDiv_7cf53_11 : decode cJ9_floorDiv_7cf53 11 = .ok (.iload_n 1, 1) := by decide +kernel
theorem dJ9_floorDiv_7cf53_12 : decode cJ9_floorDiv_7cf53 12 = .ok (.imul, 1) := by decide +kernel
theorem dJ9_floorDiv_7cf53_13 : decode cJ9_floorDiv_7cf53 13 = .ok (.iload_n 0, 1) := by decide +kernel
theorem dJ9_floorDiv_7cf53_14 : decode cJ9_floorDiv_7cf53 14 = .ok (.if_icmp .eq 7, 3) := by decide +kernel
theorem dJ9_floorDiv_7cf53_17 : decode cJ9_floorDiv_7cf53 17 = .ok (.iload_n 2, 1) := by decide +kernel
theorem dJ9_floorDiv_7cf53_18 : decode cJ9_floorDiv_7cf53 18 = .ok (.iconst 1, 1) := by decide +kernel
theorem dJ9_floorDiv_7cf53_19 : decode cJ9_floorDiv_7cf53 19 = .ok (.isub, 1) := by decide +kernel
theorem dJ9_floorDiv_7cf53_20 : decode cJ9_floorDiv_7cf53 20 = .ok (.ireturn, 1) := by decide +kernel
theorem dJ9_floorDiv_7cf53_21 : decode cJ9_floorDiv_7cf53 21 = .ok (.iload_n 2, 1) := by decide +kernel
theorem dJ9_floorDiv_7cf53_22 : decode cJ9_floorDiv_7cf53 22 = .ok (.ireturn, 1) := by decide +kernel
theorem dJ9_floorMod_7cf53_0 : decode cJ9_floorMod_7cf53 0 = .ok (.iload_n 0, 1) := by decide +kernel
theorem dJ9_floorMod_7cf53_1 : decode cJ9_floorMod_7cf53 1 = .ok (.iload_n 1, 1) := by decide +kernel
theorem dJ9_floorMod_7cf53_2 : decode cJ9_floorMod_7cf53 2 = .ok (.irem, 1) := by decide +kernel
theorem dJ9_floorMod_7cf53_3 : decode cJ9_floorMod_7cf53 3 = .ok (.istore_n 2, 1) := by decide +kernel
theorem dJ9_floorMod_7cf53_4 : decode cJ9_floorMod_7cf53 4 = .ok (.iload_n 0, 1) := by decide +kernel
theorem dJ9_floorMod_7cf53_5 : decode cJ9_floorMod_7cf53 5 = .ok (.iload_n 1, 1) := by decide +kernel
theorem dJ9_floorMod_7cf53_6 : decode cJ9_floorMod_7cf53 6 = .ok (.ixor, 1) := by decide +kernel
theorem dJ9_floorMod_7cf53_7 : decode cJ9_floorMod_7cf53 7 = .ok (.ifCond .ge 11, 3) := by decide +kernel
theorem dJ9_floorMod_7cf53_10 : decode cJ9_floorMod_7cf53 10 = .ok (.iload_n 2, 1) := by decide +kernel
theorem dJ9_floorMod_7cf53_11 : decode cJ9_floorMod_7cf53 11 = .ok (.ifCond .eq 7, 3) := by decide +kernel
theorem dJ9_floorMod_7cf53_14 : decode cJ9_floorMod_7cf53 14 = .ok (.iload_n 2, 1) := by decide +kernel
theorem dJ9_floorMod_7cf53_15 : decode cJ9_floorMod_7cf53 15 = .ok (.iload_n 1, 1) := by decide +kernel
theorem dJ9_floorMod_7cf53_16 : decode cJ9_floorMod_7cf53 16 = .ok (.iadd, 1) := by decide +kernel
theorem dJ9_floorMod_7cf53_17 : decode cJ9_floorMod_7cf53 17 = .ok (.ireturn, 1) := by decide +kernel
theorem dJ9_floorMod_7cf53_18 : decode cJ9_floorMod_7cf53 18 = .ok (.iload_n 2, 1) := by decide +kernel
theorem dJ9_floorMod_7cf53_19 : decode cJ9_floorMod_7cf53 19 = .ok (.ireturn, 1) := by decide +kernel
theorem dJ9_max_7cf53_0 : decode cJ9_max_7cf53 0 = .ok (.iload_n 0, 1) := by decide +kernel
theorem dJ9_max_7cf53_1 : decode cJ9_max_7cf53 1 = .ok (.iload_n 1, 1) := by decide +kernel
theorem dJ9_max_7cf53_2 : decode cJ9_max_7cf53 2 = .ok (.if_icmp .lt 7, 3) := by decide +kernel
theorem dJ9_max_7cf53_5 : decode cJ9_max_7cf53 5 = .ok (.iload_n 0, 1) := by decide +kernel
theorem dJ9_max_7cf53_6 : decode cJ9_max_7cf53 6 = .ok (.goto 4, 3) := by decide +kernel
theorem dJ9_max_7cf53_9 : decode cJ9_max_7cf53 9 = .ok (.iload_n 1, 1) := by decide +kernel
theorem dJ9_max_7cf53_10 : decode cJ9_max_7cf53 10 = .ok (.ireturn, 1) := by decide +kernel
theorem dJ9_max_f86c9_0 : decode cJ9_max_f86c9 0 = .ok (.lload_n 0, 1) := by decide +kernel
theorem dJ9_max_f86c9_1 : decode cJ9_max_f86c9 1 = .ok (.lload_n 2, 1) := by decide +kernel
theorem dJ9_max_f86c9_2 : decode cJ9_max_f86c9 2 = .ok (.lcmp, 1) := by decide +kernel
theorem dJ9_max_f86c9_3 : decode cJ9_max_f86c9 3 = .ok (.ifCond .lt 7, 3) := by decide +kernel
theorem dJ9_max_f86c9_6 : decode cJ9_max_f86c9 6 = .ok (.lload_n 0, 1) := by decide +kernel
theorem dJ9_max_f86c9_7 : decode cJ9_max_f86c9 7 = .ok (.goto 4, 3) := by decide +kernel
theorem dJ9_max_f86c9_10 : decode cJ9_max_f86c9 10 = .ok (.lload_n 2, 1) := by decide +kernel
theorem dJ9_max_f86c9_11 : decode cJ9_max_f86c9 11 = .ok (.lreturn, 1) := by decide +kernel
theorem dJ9_min_7cf53_0 : decode cJ9_min_7cf53 0 = .ok (.iload_n 0, 1) := by decide +kernel
theorem dJ9_min_7cf53_1 : decode cJ9_min_7cf53 1 = .ok (.iload_n 1, 1) := by decide +kernel
theorem dJ9_min_7cf53_2 : decode cJ9_min_7cf53 2 = .ok (.if_icmp .gt 7, 3) := by decide +kernel
theorem dJ9_min_7cf53_5 : decode cJ9_min_7cf53 5 = .ok (.iload_n 0, 1) := by decide +kernel
theorem dJ9_min_7cf53_6 : decode cJ9_min_7cf53 6 = .ok (.goto 4, 3) := by decide +kernel
theorem dJ9_min_7cf53_9 : decode cJ9_min_7cf53 9 = .ok (.iload_n 1, 1) := by decide +kernel
theorem dJ9_min_7cf53_10 : decode cJ9_min_7cf53 10 = .ok (.ireturn, 1) := by decide +kernel
theorem dJ9_min_f86c9_0 : decode cJ9_min_f86c9 0 = .ok (.lload_n 0, 1) := by decide +kernel
theorem dJ9_min_f86c9_1 : decode cJ9_min_f86c9 1 = .ok (.lload_n 2, 1) := by decide +kernel
theorem dJ9_min_f86c9_2 : decode cJ9_min_f86c9 2 = .ok (.lcmp, 1) := by decide +kernel
theorem dJ9_min_f86c9_3 : decode cJ9_min_f86c9 3 = .ok (.ifCond .gt 7, 3) := by decide +kernel
theorem dJ9_min_f86c9_6 : decode cJ9_min_f86c9 6 = .ok (.lload_n 0, 1) := by decide +kernel
theorem dJ9_min_f86c9_7 : decode cJ9_min_f86c9 7 = .ok (.goto 4, 3) := by decide +kernel
theorem dJ9_min_f86c9_10 : decode cJ9_min_f86c9 10 = .ok (.lload_n 2, 1) := by decide +kernel
theorem dJ9_min_f86c9_11 : decode cJ9_min_f86c9 11 = .ok (.lreturn, 1) := by decide +kernel
theorem dX5_combine_0 : decode cX5_combine 0 = .ok (.lconst 0, 1) := by decide +kernel
theorem dX5_combine_1 : decode cX5_combine 1 = .ok (.lstore_n 3, 1) := by decide +kernel
theorem dX5_combine_2 : decode cX5_combine 2 = .ok (.iload_n 0, 1) := by decide +kernel
theorem dX5_combine_3 : decode cX5_combine 3 = .ok (.tableswitch 338 17 62 #[310, 302, 338, 338, 318, 328, 338, 338, 338, 338, 338, 338, 338, 338, 338, 338, 338, 338, 338, 338, 242, 338, 338, 338, 338, 215, 197, 338, 206, 338, 224, 338, 338, 338, 338, 338, 338, 338, 338, 338, 338, 338, 338, 260, 288, 274], 197) := by decide +kernel
theorem dX5_combine_200 : decode cX5_combine 200 = .ok (.iload_n 1, 1) := by decide +kernel
theorem dX5_combine_201 : decode cX5_combine 201 = .ok (.i2l, 1) := by decide +kernel
theorem dX5_combine_202 : decode cX5_combine 202 = .ok (.iload_n 2, 1) := by decide +kernel
theorem dX5_combine_203 : decode cX5_combine 203 = .ok (.i2l, 1) := by decide +kernel
theorem dX5_combine_204 : decode cX5_combine 204 = .ok (.ladd, 1) := by decide +kernel
theorem dX5_combine_205 : decode cX5_combine 205 = .ok (.lstore_n 3, 1) := by decide +kernel
theorem dX5_combine_206 : decode cX5_combine 206 = .ok (.goto 135, 3) := by decide +kernel
theorem dX5_combine_209 : decode cX5_combine 209 = .ok (.iload_n 1, 1) := by decide +kernel
theorem dX5_combine_210 : decode cX5_combine 210 = .ok (.i2l, 1) := by decide +kernel
theorem dX5_combine_211 : decode cX5_combine 211 = .ok (.iload_n 2, 1) := by decide +kernel
theorem dX5_combine_212 : decode cX5_combine 212 = .ok (.i2l, 1) := by decide +kernel
theorem dX5_combine_213 : decode cX5_combine 213 = .ok (.lsub, 1) := by decide +kernel
theorem dX5_combine_214 : decode cX5_combine 214 = .ok (.lstore_n 3, 1) := by decide +kernel
theorem dX5_combine_215 : decode cX5_combine 215 = .ok (.goto 126, 3) := by decide +kernel
theorem dX5_combine_218 : decode cX5_combine 218 = .ok (.iload_n 1, 1) := by decide +kernel
theorem dX5_combine_219 : decode cX5_combine 219 = .ok (.i2l, 1) := by decide +kernel
theorem dX5_combine_220 : decode cX5_combine 220 = .ok (.iload_n 2, 1) := by decide +kernel
theorem dX5_combine_221 : decode cX5_combine 221 = .ok (.i2l, 1) := by decide +kernel
theorem dX5_combine_222 : decode cX5_combine 222 = .ok (.lmul, 1) := by decide +kernel
theorem dX5_combine_223 : decode cX5_combine 223 = .ok (.lstore_n 3, 1) := by decide +kernel
theorem dX5_combine_224 : decode cX5_combine 224 = .ok (.goto 117, 3) := by decide +kernel
theorem dX5_combine_227 : decode cX5_combine 227 = .ok (.iload_n 2, 1) := by decide +kernel
theorem dX5_combine_228 : decode cX5_combine 228 = .ok (.ifCond .ne 7, 3) := by decide +kernel
theorem dX5_combine_231 : decode cX5_combine 231 = .ok (.lconst 0, 1) := by decide +kernel
theorem dX5_combine_232 : decode cX5_combine 232 = .ok (.goto 9, 3) := by decide +kernel
theorem dX5_combine_235 : decode cX5_combine 235 = .ok (.iload_n 1, 1) := by decide +kernel
theorem dX5_combine_236 : decode cX5_combine 236 = .ok (.iload_n 2, 1) := by decide +kernel
theorem dX5_combine_237 : decode cX5_combine 237 = .ok (.invokestatic 61, 3) := by decide +kernel
theorem dX5_combine_240 : decode cX5_combine 240 = .ok (.i2l, 1) := by decide +kernel
theorem dX5_combine_241 : decode cX5_combine 241 = .ok (.lstore_n 3, 1) := by decide +kernel
theorem dX5_combine_242 : decode cX5_combine 242 = .ok (.goto 99, 3) := by decide +kernel
theorem dX5_combine_245 : decode cX5_combine 245 = .ok (.iload_n 2, 1) := by decide +kernel
theorem dX5_combine_246 : decode cX5_combine 246 = .ok (.ifCond .ne 7, 3) := by decide +kernel
theorem dX5_combine_249 : decode cX5_combine 249 = .ok (.lconst 0, 1) := by decide +kernel
theorem dX5_combine_250 : decode cX5_combine 250 = .ok (.goto 9, 3) := by decide +kernel
theorem dX5_combine_253 : decode cX5_combine 253 = .ok (.iload_n 1, 1) := by decide +kernel
theorem dX5_combine_254 : decode cX5_combine 254 = .ok (.iload_n 2, 1) := by decide +kernel
theorem dX5_combine_255 : decode cX5_combine 255 = .ok (.invokestatic 67, 3) := by decide +kernel
theorem dX5_combine_258 : decode cX5_combine 258 = .ok (.i2l, 1) := by decide +kernel
theorem dX5_combine_259 : decode cX5_combine 259 = .ok (.lstore_n 3, 1) := by decide +kernel
theorem dX5_combine_260 : decode cX5_combine 260 = .ok (.goto 81, 3) := by decide +kernel
theorem dX5_combine_263 : decode cX5_combine 263 = .ok (.iload_n 1, 1) := by decide +kernel
theorem dX5_combine_264 : decode cX5_combine 264 = .ok (.iload_n 2, 1) := by decide +kernel
theorem dX5_combine_265 : decode cX5_combine 265 = .ok (.if_icmp .ge 7, 3) := by decide +kernel
theorem dX5_combine_268 : decode cX5_combine 268 = .ok (.lconst 1, 1) := by decide +kernel
theorem dX5_combine_269 : decode cX5_combine 269 = .ok (.goto 4, 3) := by decide +kernel
theorem dX5_combine_272 : decode cX5_combine 272 = .ok (.lconst 0, 1) := by decide +kernel
theorem dX5_combine_273 : decode cX5_combine 273 = .ok (.lstore_n 3, 1) := by decide +kernel
theorem dX5_combine_274 : decode cX5_combine 274 = .ok (.goto 67, 3) := by decide +kernel
theorem dX5_combine_277 : decode cX5_combine 277 = .ok (.iload_n 1, 1) := by decide +kernel
theorem dX5_combine_278 : decode cX5_combine 278 = .ok (.iload_n 2, 1) := by decide +kernel
theorem dX5_combine_279 : decode cX5_combine 279 = .ok (.if_icmp .le 7, 3) := by decide +kernel
theorem dX5_combine_282 : decode cX5_combine 282 = .ok (.lconst 1, 1) := by decide +kernel
theorem dX5_combine_283 : decode cX5_combine 283 = .ok (.goto 4, 3) := by decide +kernel
theorem dX5_combine_286 : decode cX5_combine 286 = .ok (.lconst 0, 1) := by decide +kernel
theorem dX5_combine_287 : decode cX5_combine 287 = .ok (.lstore_n 3, 1) := by decide +kernel
theorem dX5_combine_288 : decode cX5_combine 288 = .ok (.goto 53, 3) := by decide +kernel
theorem dX5_combine_291 : decode cX5_combine 291 = .ok (.iload_n 1, 1) := by decide +kernel
theorem dX5_combine_292 : decode cX5_combine 292 = .ok (.iload_n 2, 1) := by decide +kernel
theorem dX5_combine_293 : decode cX5_combine 293 = .ok (.if_icmp .ne 7, 3) := by decide +kernel
theorem dX5_combine_296 : decode cX5_combine 296 = .ok (.lconst 1, 1) := by decide +kernel
theorem dX5_combine_297 : decode cX5_combine 297 = .ok (.goto 4, 3) := by decide +kernel
theorem dX5_combine_300 : decode cX5_combine 300 = .ok (.lconst 0, 1) := by decide +kernel
theorem dX5_combine_301 : decode cX5_combine 301 = .ok (.lstore_n 3, 1) := by decide +kernel
theorem dX5_combine_302 : decode cX5_combine 302 = .ok (.goto 39, 3) := by decide +kernel
theorem dX5_combine_305 : decode cX5_combine 305 = .ok (.iload_n 1, 1) := by decide +kernel
theorem dX5_combine_306 : decode cX5_combine 306 = .ok (.iload_n 2, 1) := by decide +kernel
theorem dX5_combine_307 : decode cX5_combine 307 = .ok (.iand, 1) := by decide +kernel
theorem dX5_combine_308 : decode cX5_combine 308 = .ok (.i2l, 1) := by decide +kernel
theorem dX5_combine_309 : decode cX5_combine 309 = .ok (.lstore_n 3, 1) := by decide +kernel
theorem dX5_combine_310 : decode cX5_combine 310 = .ok (.goto 31, 3) := by decide +kernel
theorem dX5_combine_313 : decode cX5_combine 313 = .ok (.iload_n 1, 1) := by decide +kernel
theorem dX5_combine_314 : decode cX5_combine 314 = .ok (.iload_n 2, 1) := by decide +kernel
theorem dX5_combine_315 : decode cX5_combine 315 = .ok (.ior, 1) := by decide +kernel
theorem dX5_combine_316 : decode cX5_combine 316 = .ok (.i2l, 1) := by decide +kernel
theorem dX5_combine_317 : decode cX5_combine 317 = .ok (.lstore_n 3, 1) := by decide +kernel
theorem dX5_combine_318 : decode cX5_combine 318 = .ok (.goto 23, 3) := by decide +kernel
theorem dX5_combine_321 : decode cX5_combine 321 = .ok (.iload_n 1, 1) := by decide +kernel
theorem dX5_combine_322 : decode cX5_combine 322 = .ok (.iload_n 2, 1) := by decide +kernel
theorem dX5_combine_323 : decode cX5_combine 323 = .ok (.invokestatic 70, 3) := by decide +kernel
theorem dX5_combine_326 : decode cX5_combine 326 = .ok (.i2l, 1) := by decide +kernel
theorem dX5_combine_327 : decode cX5_combine 327 = .ok (.lstore_n 3, 1) := by decide +kernel
theorem dX5_combine_328 : decode cX5_combine 328 = .ok (.goto 13, 3) := by decide +kernel
theorem dX5_combine_331 : decode cX5_combine 331 = .ok (.iload_n 1, 1) := by decide +kernel
theorem dX5_combine_332 : decode cX5_combine 332 = .ok (.iload_n 2, 1) := by decide +kernel
theorem dX5_combine_333 : decode cX5_combine 333 = .ok (.invokestatic 73, 3) := by decide +kernel
theorem dX5_combine_336 : decode cX5_combine 336 = .ok (.i2l, 1) := by decide +kernel
theorem dX5_combine_337 : decode cX5_combine 337 = .ok (.lstore_n 3, 1) := by decide +kernel
theorem dX5_combine_338 : decode cX5_combine 338 = .ok (.goto 3, 3) := by decide +kernel
theorem dX5_combine_341 : decode cX5_combine 341 = .ok (.ldc2_w 76, 3) := by decide +kernel
theorem dX5_combine_344 : decode cX5_combine 344 = .ok (.ldc2_w 78, 3) := by decide +kernel
theorem dX5_combine_347 : decode cX5_combine 347 = .ok (.lload_n 3, 1) := by decide +kernel
theorem dX5_combine_348 : decode cX5_combine 348 = .ok (.invokestatic 80, 3) := by decide +kernel
theorem dX5_combine_351 : decode cX5_combine 351 = .ok (.invokestatic 83, 3) := by decide +kernel
theorem dX5_combine_354 : decode cX5_combine 354 = .ok (.l2i, 1) := by decide +kernel
theorem dX5_combine_355 : decode cX5_combine 355 = .ok (.ireturn, 1) := by decide +kernel
theorem dX5_factOf_0 : decode cX5_factOf 0 = .ok (.iload_n 1, 1) := by decide +kernel
theorem dX5_factOf_1 : decode cX5_factOf 1 = .ok (.ifCond .lt 21, 3) := by decide +kernel
theorem dX5_factOf_4 : decode cX5_factOf 4 = .ok (.iload_n 1, 1) := by decide +kernel
theorem dX5_factOf_5 : decode cX5_factOf 5 = .ok (.aload_n 0, 1) := by decide +kernel
theorem dX5_factOf_6 : decode cX5_factOf 6 = .ok (.getfield 11, 3) := by decide +kernel
theorem dX5_factOf_9 : decode cX5_factOf 9 = .ok (.arraylength, 1) := by decide +kernel
theorem dX5_factOf_10 : decode cX5_factOf 10 = .ok (.if_icmp .ge 12, 3) := by decide +kernel
theorem dX5_factOf_13 : decode cX5_factOf 13 = .ok (.aload_n 0, 1) := by decide +kernel
theorem dX5_factOf_14 : decode cX5_factOf 14 = .ok (.getfield 11, 3) := by decide +kernel
theorem dX5_factOf_17 : decode cX5_factOf 17 = .ok (.iload_n 1, 1) := by decide +kernel
theorem dX5_factOf_18 : decode cX5_factOf 18 = .ok (.iaload, 1) := by decide +kernel
theorem dX5_factOf_19 : decode cX5_factOf 19 = .ok (.goto 4, 3) := by decide +kernel
theorem dX5_factOf_22 : decode cX5_factOf 22 = .ok (.iconst 0, 1) := by decide +kernel
theorem dX5_factOf_23 : decode cX5_factOf 23 = .ok (.ireturn, 1) := by decide +kernel
theorem dX5_value_0 : decode cX5_value 0 = .ok (.aload_n 0, 1) := by decide +kernel
theorem dX5_value_1 : decode cX5_value 1 = .ok (.iload_n 1, 1) := by decide +kernel
theorem dX5_value_2 : decode cX5_value 2 = .ok (.invokevirtual 49, 3) := by decide +kernel
theorem dX5_value_5 : decode cX5_value 5 = .ok (.ifCond .ne 5, 3) := by decide +kernel
theorem dX5_value_8 : decode cX5_value 8 = .ok (.iconst 0, 1) := by decide +kernel
theorem dX5_value_9 : decode cX5_value 9 = .ok (.ireturn, 1) := by decide +kernel
theorem dX5_value_10 : decode cX5_value 10 = .ok (.iconst 0, 1) := by decide +kernel
theorem dX5_value_11 : decode cX5_value 11 = .ok (.istore_n 2, 1) := by decide +kernel
theorem dX5_value_12 : decode cX5_value 12 = .ok (.aload_n 0, 1) := by decide +kernel
theorem dX5_value_13 : decode cX5_value 13 = .ok (.getfield 20, 3) := by decide +kernel
theorem dX5_value_16 : decode cX5_value 16 = .ok (.iload_n 1, 1) := by decide +kernel
theorem dX5_value_17 : decode cX5_value 17 = .ok (.iaload, 1) := by decide +kernel
theorem dX5_value_18 : decode cX5_value 18 = .ok (.istore_n 3, 1) := by decide +kernel
theorem dX5_value_19 : decode cX5_value 19 = .ok (.iload_n 3, 1) := by decide +kernel
theorem dX5_value_20 : decode cX5_value 20 = .ok (.aload_n 0, 1) := by decide +kernel
theorem dX5_value_21 : decode cX5_value 21 = .ok (.getfield 23, 3) := by decide +kernel
theorem dX5_value_24 : decode cX5_value 24 = .ok (.iload_n 1, 1) := by decide +kernel
theorem dX5_value_25 : decode cX5_value 25 = .ok (.iaload, 1) := by decide +kernel
theorem dX5_value_26 : decode cX5_value 26 = .ok (.if_icmp .ge 222, 3) := by decide +kernel
theorem dX5_value_29 : decode cX5_value 29 = .ok (.iload_n 3, 1) := by decide +kernel
theorem dX5_value_30 : decode cX5_value 30 = .ok (.aload_n 0, 1) := by decide +kernel
theorem dX5_value_31 : decode cX5_value 31 = .ok (.getfield 17, 3) := by decide +kernel
theorem dX5_value_34 : decode cX5_value 34 = .ok (.arraylength, 1) := by decide +kernel
theorem dX5_value_35 : decode cX5_value 35 = .ok (.if_icmp .ge 213, 3) := by decide +kernel
theorem dX5_value_38 : decode cX5_value 38 = .ok (.aload_n 0, 1) := by decide +kernel
theorem dX5_value_39 : decode cX5_value 39 = .ok (.getfield 17, 3) := by decide +kernel
theorem dX5_value_42 : decode cX5_value 42 = .ok (.iload_n 3, 1) := by decide +kernel
theorem dX5_value_43 : decode cX5_value 43 = .ok (.iaload, 1) := by decide +kernel
theorem dX5_value_44 : decode cX5_value 44 = .ok (.istore 4, 2) := by decide +kernel
theorem dX5_value_46 : decode cX5_value 46 = .ok (.iload 4, 2) := by decide +kernel
theorem dX5_value_48 : decode cX5_value 48 = .ok (.sipush 20000, 3) := by decide +kernel
theorem dX5_value_51 : decode cX5_value 51 = .ok (.if_icmp .ge 49, 3) := by decide +kernel
theorem dX5_value_54 : decode cX5_value 54 = .ok (.iload_n 2, 1) := by decide +kernel
theorem dX5_value_55 : decode cX5_value 55 = .ok (.aload_n 0, 1) := by decide +kernel
theorem dX5_value_56 : decode cX5_value 56 = .ok (.getfield 26, 3) := by decide +kernel
theorem dX5_value_59 : decode cX5_value 59 = .ok (.arraylength, 1) := by decide +kernel
theorem dX5_value_60 : decode cX5_value 60 = .ok (.if_icmp .lt 5, 3) := by decide +kernel
theorem dX5_value_63 : decode cX5_value 63 = .ok (.iconst 0, 1) := by decide +kernel
theorem dX5_value_64 : decode cX5_value 64 = .ok (.ireturn, 1) := by decide +kernel
theorem dX5_value_65 : decode cX5_value 65 = .ok (.aload_n 0, 1) := by decide +kernel
theorem dX5_value_66 : decode cX5_value 66 = .ok (.getfield 26, 3) := by decide +kernel
theorem dX5_value_69 : decode cX5_value 69 = .ok (.iload_n 2, 1) := by decide +kernel
theorem dX5_value_70 : decode cX5_value 70 = .ok (.iload 4, 2) := by decide +kernel
theorem dX5_value_72 : decode cX5_value 72 = .ok (.sipush 10000, 3) := by decide +kernel
theorem dX5_value_75 : decode cX5_value 75 = .ok (.if_icmp .ge 8, 3) := by decide +kernel
theorem dX5_value_78 : decode cX5_value 78 = .ok (.iload 4, 2) := by decide +kernel
theorem dX5_value_80 : decode cX5_value 80 = .ok (.goto 13, 3) := by decide +kernel
theorem dX5_value_83 : decode cX5_value 83 = .ok (.aload_n 0, 1) := by decide +kernel
theorem dX5_value_84 : decode cX5_value 84 = .ok (.iload 4, 2) := by decide +kernel
theorem dX5_value_86 : decode cX5_value 86 = .ok (.sipush 10000, 3) := by decide +kernel
theorem dX5_value_89 : decode cX5_value 89 = .ok (.isub, 1) := by decide +kernel
theorem dX5_value_90 : decode cX5_value 90 = .ok (.invokevirtual 53, 3) := by decide +kernel
theorem dX5_value_93 : decode cX5_value 93 = .ok (.iastore, 1) := by decide +kernel
theorem dX5_value_94 : decode cX5_value 94 = .ok (.iinc 2 1, 3) := by decide +kernel
theorem dX5_value_97 : decode cX5_value 97 = .ok (.goto 145, 3) := by decide +kernel
theorem dX5_value_100 : decode cX5_value 100 = .ok (.iload 4, 2) := by decide +kernel
theorem dX5_value_102 : decode cX5_value 102 = .ok (.sipush 20019, 3) := by decide +kernel
theorem dX5_value_105 : decode cX5_value 105 = .ok (.if_icmp .ne 31, 3) := by decide +kernel
theorem dX5_value_108 : decode cX5_value 108 = .ok (.iload_n 2, 1) := by decide +kernel
theorem dX5_value_109 : decode cX5_value 109 = .ok (.iconst 1, 1) := by decide +kernel
theorem dX5_value_110 : decode cX5_value 110 = .ok (.if_icmp .ge 5, 3) := by decide +kernel
theorem dX5_value_113 : decode cX5_value 113 = .ok (.iconst 0, 1) := by decide +kernel
theorem dX5_value_114 : decode cX5_value 114 = .ok (.ireturn, 1) := by decide +kernel
theorem dX5_value_115 : decode cX5_value 115 = .ok (.aload_n 0, 1) := by decide +kernel
theorem dX5_value_116 : decode cX5_value 116 = .ok (.getfield 26, 3) := by decide +kernel
theorem dX5_value_119 : decode cX5_value 119 = .ok (.iload_n 2, 1) := by decide +kernel
theorem dX5_value_120 : decode cX5_value 120 = .ok (.iconst 1, 1) := by decide +kernel
theorem dX5_value_121 : decode cX5_value 121 = .ok (.isub, 1) := by decide +kernel
theorem dX5_value_122 : decode cX5_value 122 = .ok (.iconst 1, 1) := by decide +kernel
theorem dX5_value_123 : decode cX5_value 123 = .ok (.aload_n 0, 1) := by decide +kernel
theorem dX5_value_124 : decode cX5_value 124 = .ok (.getfield 26, 3) := by decide +kernel
theorem dX5_value_127 : decode cX5_value 127 = .ok (.iload_n 2, 1) := by decide +kernel
theorem dX5_value_128 : decode cX5_value 128 = .ok (.iconst 1, 1) := by decide +kernel
theorem dX5_value_129 : decode cX5_value 129 = .ok (.isub, 1) := by decide +kernel
theorem dX5_value_130 : decode cX5_value 130 = .ok (.iaload, 1) := by decide +kernel
theorem dX5_value_131 : decode cX5_value 131 = .ok (.isub, 1) := by decide +kernel
theorem dX5_value_132 : decode cX5_value 132 = .ok (.iastore, 1) := by decide +kernel
theorem dX5_value_133 : decode cX5_value 133 = .ok (.goto 109, 3) := by decide +kernel
theorem dX5_value_136 : decode cX5_value 136 = .ok (.iload 4, 2) := by decide +kernel
theorem dX5_value_138 : decode cX5_value 138 = .ok (.sipush 20016, 3) := by decide +kernel
theorem dX5_value_141 : decode cX5_value 141 = .ok (.if_icmp .ne 60, 3) := by decide +kernel
theorem dX5_value_144 : decode cX5_value 144 = .ok (.iload_n 2, 1) := by decide +kernel
theorem dX5_value_145 : decode cX5_value 145 = .ok (.iconst 3, 1) := by decide +kernel
theorem dX5_value_146 : decode cX5_value 146 = .ok (.if_icmp .ge 5, 3) := by decide +kernel
theorem dX5_value_149 : decode cX5_value 149 = .ok (.iconst 0, 1) := by decide +kernel
theorem dX5_value_150 : decode cX5_value 150 = .ok (.ireturn, 1) := by decide +kernel
theorem dX5_value_151 : decode cX5_value 151 = .ok (.iinc 2 (-2), 3) := by decide +kernel
theorem dX5_value_154 : decode cX5_value 154 = .ok (.aload_n 0, 1) := by decide +kernel
theorem dX5_value_155 : decode cX5_value 155 = .ok (.getfield 26, 3) := by decide +kernel
theorem dX5_value_158 : decode cX5_value 158 = .ok (.iload_n 2, 1) := by decide +kernel
theorem dX5_value_159 : decode cX5_value 159 = .ok (.iconst 1, 1) := by decide +kernel
theorem dX5_value_160 : decode cX5_value 160 = .ok (.isub, 1) := by decide +kernel
theorem dX5_value_161 : decode cX5_value 161 = .ok (.iaload, 1) := by decide +kernel
theorem dX5_value_162 : decode cX5_value 162 = .ok (.ifCond .eq 20, 3) := by decide +kernel
theorem dX5_value_165 : decode cX5_value 165 = .ok (.aload_n 0, 1) := by decide +kernel
theorem dX5_value_166 : decode cX5_value 166 = .ok (.getfield 26, 3) := by decide +kernel
theorem dX5_value_169 : decode cX5_value 169 = .ok (.iload_n 2, 1) := by decide +kernel
theorem dX5_value_170 : decode cX5_value 170 = .ok (.iconst 1, 1) := by decide +kernel
theorem dX5_value_171 : decode cX5_value 171 = .ok (.isub, 1) := by decide +kernel
theorem dX5_value_172 : decode cX5_value 172 = .ok (.aload_n 0, 1) := by decide +kernel
theorem dX5_value_173 : decode cX5_value 173 = .ok (.getfield 26, 3) := by decide +kernel
theorem dX5_value_176 : decode cX5_value 176 = .ok (.iload_n 2, 1) := by decide +kernel
theorem dX5_value_177 : decode cX5_value 177 = .ok (.iaload, 1) := by decide +kernel
theorem dX5_value_178 : decode cX5_value 178 = .ok (.iastore, 1) := by decide +kernel
theorem dX5_value_179 : decode cX5_value 179 = .ok (.goto 63, 3) := by decide +kernel
theorem dX5_value_182 : decode cX5_value 182 = .ok (.aload_n 0, 1) := by decide +kernel
theorem dX5_value_183 : decode cX5_value 183 = .ok (.getfield 26, 3) := by decide +kernel
theorem dX5_value_186 : decode cX5_value 186 = .ok (.iload_n 2, 1) := by decide +kernel
theorem dX5_value_187 : decode cX5_value 187 = .ok (.iconst 1, 1) := by decide +kernel
theorem dX5_value_188 : decode cX5_value 188 = .ok (.isub, 1) := by decide +kernel
theorem dX5_value_189 : decode cX5_value 189 = .ok (.aload_n 0, 1) := by decide +kernel
theorem dX5_value_190 : decode cX5_value 190 = .ok (.getfield 26, 3) := by decide +kernel
theorem dX5_value_193 : decode cX5_value 193 = .ok (.iload_n 2, 1) := by decide +kernel
theorem dX5_value_194 : decode cX5_value 194 = .ok (.iconst 1, 1) := by decide +kernel
theorem dX5_value_195 : decode cX5_value 195 = .ok (.iadd, 1) := by decide +kernel
theorem dX5_value_196 : decode cX5_value 196 = .ok (.iaload, 1) := by decide +kernel
theorem dX5_value_197 : decode cX5_value 197 = .ok (.iastore, 1) := by decide +kernel
theorem dX5_value_198 : decode cX5_value 198 = .ok (.goto 44, 3) := by decide +kernel
theorem dX5_value_201 : decode cX5_value 201 = .ok (.iload_n 2, 1) := by decide +kernel
theorem dX5_value_202 : decode cX5_value 202 = .ok (.iconst 2, 1) := by decide +kernel
theorem dX5_value_203 : decode cX5_value 203 = .ok (.if_icmp .ge 5, 3) := by decide +kernel
theorem dX5_value_206 : decode cX5_value 206 = .ok (.iconst 0, 1) := by decide +kernel
theorem dX5_value_207 : decode cX5_value 207 = .ok (.ireturn, 1) := by decide +kernel
theorem dX5_value_208 : decode cX5_value 208 = .ok (.iinc 2 (-1), 3) := by decide +kernel
theorem dX5_value_211 : decode cX5_value 211 = .ok (.aload_n 0, 1) := by decide +kernel
theorem dX5_value_212 : decode cX5_value 212 = .ok (.getfield 26, 3) := by decide +kernel
theorem dX5_value_215 : decode cX5_value 215 = .ok (.iload_n 2, 1) := by decide +kernel
theorem dX5_value_216 : decode cX5_value 216 = .ok (.iconst 1, 1) := by decide +kernel
theorem dX5_value_217 : decode cX5_value 217 = .ok (.isub, 1) := by decide +kernel
theorem dX5_value_218 : decode cX5_value 218 = .ok (.iload 4, 2) := by decide +kernel
theorem dX5_value_220 : decode cX5_value 220 = .ok (.sipush 20000, 3) := by decide +kernel
theorem dX5_value_223 : decode cX5_value 223 = .ok (.isub, 1) := by decide +kernel
theorem dX5_value_224 : decode cX5_value 224 = .ok (.aload_n 0, 1) := by decide +kernel
theorem dX5_value_225 : decode cX5_value 225 = .ok (.getfield 26, 3) := by decide +kernel
theorem dX5_value_228 : decode cX5_value 228 = .ok (.iload_n 2, 1) := by decide +kernel
theorem dX5_value_229 : decode cX5_value 229 = .ok (.iconst 1, 1) := by decide +kernel
theorem dX5_value_230 : decode cX5_value 230 = .ok (.isub, 1) := by decide +kernel
theorem dX5_value_231 : decode cX5_value 231 = .ok (.iaload, 1) := by decide +kernel
theorem dX5_value_232 : decode cX5_value 232 = .ok (.aload_n 0, 1) := by decide +kernel
theorem dX5_value_233 : decode cX5_value 233 = .ok (.getfield 26, 3) := by decide +kernel
theorem dX5_value_236 : decode cX5_value 236 = .ok (.iload_n 2, 1) := by decide +kernel
theorem dX5_value_237 : decode cX5_value 237 = .ok (.iaload, 1) := by decide +kernel
theorem dX5_value_238 : decode cX5_value 238 = .ok (.invokestatic 57, 3) := by decide +kernel
theorem dX5_value_241 : decode cX5_value 241 = .ok (.iastore, 1) := by decide +kernel
theorem dX5_value_242 : decode cX5_value 242 = .ok (.iinc 3 1, 3) := by decide +kernel
theorem dX5_value_245 : decode cX5_value 245 = .ok (.goto (-226), 3) := by decide +kernel
theorem dX5_value_248 : decode cX5_value 248 = .ok (.iload_n 2, 1) := by decide +kernel
theorem dX5_value_249 : decode cX5_value 249 = .ok (.iconst 1, 1) := by decide +kernel
theorem dX5_value_250 : decode cX5_value 250 = .ok (.if_icmp .ne 12, 3) := by decide +kernel
theorem dX5_value_253 : decode cX5_value 253 = .ok (.aload_n 0, 1) := by decide +kernel
theorem dX5_value_254 : decode cX5_value 254 = .ok (.getfield 26, 3) := by decide +kernel
theorem dX5_value_257 : decode cX5_value 257 = .ok (.iconst 0, 1) := by decide +kernel
theorem dX5_value_258 : decode cX5_value 258 = .ok (.iaload, 1) := by decide +kernel
theorem dX5_value_259 : decode cX5_value 259 = .ok (.goto 4, 3) := by decide +kernel
theorem dX5_value_262 : decode cX5_value 262 = .ok (.iconst 0, 1) := by decide +kernel
theorem dX5_value_263 : decode cX5_value 263 = .ok (.ireturn, 1) := by decide +kernel
theorem dX9_toneOf_0 : decode cX9_toneOf 0 = .ok (.aload_n 0, 1) := by decide +kernel
theorem dX9_toneOf_1 : decode cX9_toneOf 1 = .ok (.getfield 27, 3) := by decide +kernel
theorem dX9_toneOf_4 : decode cX9_toneOf 4 = .ok (.iload_n 1, 1) := by decide +kernel
theorem dX9_toneOf_5 : decode cX9_toneOf 5 = .ok (.iaload, 1) := by decide +kernel
theorem dX9_toneOf_6 : decode cX9_toneOf 6 = .ok (.istore_n 2, 1) := by decide +kernel
theorem dX9_toneOf_7 : decode cX9_toneOf 7 = .ok (.iload_n 2, 1) := by decide +kernel
theorem dX9_toneOf_8 : decode cX9_toneOf 8 = .ok (.ifCond .lt 18, 3) := by decide +kernel
theorem dX9_toneOf_11 : decode cX9_toneOf 11 = .ok (.iload_n 2, 1) := by decide +kernel
theorem dX9_toneOf_12 : decode cX9_toneOf 12 = .ok (.bipush 8, 2) := by decide +kernel
theorem dX9_toneOf_14 : decode cX9_toneOf 14 = .ok (.if_icmp .ge 12, 3) := by decide +kernel
theorem dX9_toneOf_17 : decode cX9_toneOf 17 = .ok (.aload_n 0, 1) := by decide +kernel
theorem dX9_toneOf_18 : decode cX9_toneOf 18 = .ok (.getfield 21, 3) := by decide +kernel
theorem dX9_toneOf_21 : decode cX9_toneOf 21 = .ok (.iload_n 2, 1) := by decide +kernel
theorem dX9_toneOf_22 : decode cX9_toneOf 22 = .ok (.iaload, 1) := by decide +kernel
theorem dX9_toneOf_23 : decode cX9_toneOf 23 = .ok (.goto 4, 3) := by decide +kernel
theorem dX9_toneOf_26 : decode cX9_toneOf 26 = .ok (.iconst 0, 1) := by decide +kernel
theorem dX9_toneOf_27 : decode cX9_toneOf 27 = .ok (.ireturn, 1) := by decide +kernel
theorem dX6_know_0 : decode cX6_know 0 = .ok (.aload_n 0, 1) := by decide +kernel
theorem dX6_know_1 : decode cX6_know 1 = .ok (.getfield 48, 3) := by decide +kernel
theorem dX6_know_4 : decode cX6_know 4 = .ok (.getfield 92, 3) := by decide +kernel
theorem dX6_know_7 : decode cX6_know 7 = .ok (.getfield 114, 3) := by decide +kernel
theorem dX6_know_10 : decode cX6_know 10 = .ok (.bipush 11, 2) := by decide +kernel
theorem dX6_know_12 : decode cX6_know 12 = .ok (.aload_n 0, 1) := by decide +kernel
theorem dX6_know_13 : decode cX6_know 13 = .ok (.getfield 48, 3) := by decide +kernel
theorem dX6_know_16 : decode cX6_know 16 = .ok (.iload_n 1, 1) := by decide +kernel
theorem dX6_know_17 : decode cX6_know 17 = .ok (.invokevirtual 102, 3) := by decide +kernel
theorem dX6_know_20 : decode cX6_know 20 = .ok (.iastore, 1) := by decide +kernel
theorem dX6_know_21 : decode cX6_know 21 = .ok (.aload_n 0, 1) := by decide +kernel
theorem dX6_know_22 : decode cX6_know 22 = .ok (.getfield 48, 3) := by decide +kernel
theorem dX6_know_25 : decode cX6_know 25 = .ok (.getfield 92, 3) := by decide +kernel
theorem dX6_know_28 : decode cX6_know 28 = .ok (.getfield 114, 3) := by decide +kernel
theorem dX6_know_31 : decode cX6_know 31 = .ok (.bipush 12, 2) := by decide +kernel
theorem dX6_know_33 : decode cX6_know 33 = .ok (.aload_n 0, 1) := by decide +kernel
theorem dX6_know_34 : decode cX6_know 34 = .ok (.getfield 27, 3) := by decide +kernel
theorem dX6_know_37 : decode cX6_know 37 = .ok (.iload_n 1, 1) := by decide +kernel
theorem dX6_know_38 : decode cX6_know 38 = .ok (.iaload, 1) := by decide +kernel
theorem dX6_know_39 : decode cX6_know 39 = .ok (.iastore, 1) := by decide +kernel
theorem dX6_know_40 : decode cX6_know 40 = .ok (.aload_n 0, 1) := by decide +kernel
theorem dX6_know_41 : decode cX6_know 41 = .ok (.getfield 48, 3) := by decide +kernel
theorem dX6_know_44 : decode cX6_know 44 = .ok (.getfield 92, 3) := by decide +kernel
theorem dX6_know_47 : decode cX6_know 47 = .ok (.getfield 114, 3) := by decide +kernel
theorem dX6_know_50 : decode cX6_know 50 = .ok (.bipush 13, 2) := by decide +kernel
theorem dX6_know_52 : decode cX6_know 52 = .ok (.aload_n 0, 1) := by decide +kernel
theorem dX6_know_53 : decode cX6_know 53 = .ok (.getfield 76, 3) := by decide +kernel
theorem dX6_know_56 : decode cX6_know 56 = .ok (.iastore, 1) := by decide +kernel
theorem dX6_know_57 : decode cX6_know 57 = .ok (.aload_n 0, 1) := by decide +kernel
theorem dX6_know_58 : decode cX6_know 58 = .ok (.getfield 48, 3) := by decide +kernel
theorem dX6_know_61 : decode cX6_know 61 = .ok (.getfield 92, 3) := by decide +kernel
theorem dX6_know_64 : decode cX6_know 64 = .ok (.getfield 114, 3) := by decide +kernel
theorem dX6_know_67 : decode cX6_know 67 = .ok (.bipush 10, 2) := by decide +kernel
theorem dX6_know_69 : decode cX6_know 69 = .ok (.aload_n 0, 1) := by decide +kernel
theorem dX6_know_70 : decode cX6_know 70 = .ok (.getfield 48, 3) := by decide +kernel
theorem dX6_know_73 : decode cX6_know 73 = .ok (.getfield 149, 3) := by decide +kernel
theorem dX6_know_76 : decode cX6_know 76 = .ok (.iload_n 1, 1) := by decide +kernel
theorem dX6_know_77 : decode cX6_know 77 = .ok (.iaload, 1) := by decide +kernel
theorem dX6_know_78 : decode cX6_know 78 = .ok (.iastore, 1) := by decide +kernel
theorem dX6_know_79 : decode cX6_know 79 = .ok (.return_, 1) := by decide +kernel
theorem dJ9_abs_0f7a4_0 : decode cJ9_abs_0f7a4 0 = .ok (.iload_n 0, 1) := by decide +kernel
theorem dJ9_abs_0f7a4_1 : decode cJ9_abs_0f7a4 1 = .ok (.ifCond .ge 8, 3) := by decide +kernel
theorem dJ9_abs_0f7a4_4 : decode cJ9_abs_0f7a4 4 = .ok (.iload_n 0, 1) := by decide +kernel
theorem dJ9_abs_0f7a4_5 : decode cJ9_abs_0f7a4 5 = .ok (.ineg, 1) := by decide +kernel
theorem dJ9_abs_0f7a4_6 : decode cJ9_abs_0f7a4 6 = .ok (.goto 4, 3) := by decide +kernel
theorem dJ9_abs_0f7a4_9 : decode cJ9_abs_0f7a4 9 = .ok (.iload_n 0, 1) := by decide +kernel
theorem dJ9_abs_0f7a4_10 : decode cJ9_abs_0f7a4 10 = .ok (.ireturn, 1) := by decide +kernel
theorem dX6_sumOfPicks_0 : decode cX6_sumOfPicks 0 = .ok (.aload_n 0, 1) := by decide +kernel
theorem dX6_sumOfPicks_1 : decode cX6_sumOfPicks 1 = .ok (.getfield 48, 3) := by decide +kernel
theorem dX6_sumOfPicks_4 : decode cX6_sumOfPicks 4 = .ok (.getfield 92, 3) := by decide +kernel
theorem dX6_sumOfPicks_7 : decode cX6_sumOfPicks 7 = .ok (.iconst 0, 1) := by decide +kernel
theorem dX6_sumOfPicks_8 : decode cX6_sumOfPicks 8 = .ok (.invokevirtual 96, 3) := by decide +kernel
theorem dX6_sumOfPicks_11 : decode cX6_sumOfPicks 11 = .ok (.ifCond .ne 25, 3) := by decide +kernel
theorem dX6_sumOfPicks_14 : decode cX6_sumOfPicks 14 = .ok (.bipush 9, 2) := by decide +kernel
theorem dX6_sumOfPicks_16 : decode cX6_sumOfPicks 16 = .ok (.aload_n 0, 1) := by decide +kernel
theorem dX6_sumOfPicks_17 : decode cX6_sumOfPicks 17 = .ok (.getfield 9, 3) := by decide +kernel
theorem dX6_sumOfPicks_20 : decode cX6_sumOfPicks 20 = .ok (.iload_n 2, 1) := by decide +kernel
theorem dX6_sumOfPicks_21 : decode cX6_sumOfPicks 21 = .ok (.iaload, 1) := by decide +kernel
theorem dX6_sumOfPicks_22 : decode cX6_sumOfPicks 22 = .ok (.aload_n 0, 1) := by decide +kernel
theorem dX6_sumOfPicks_23 : decode cX6_sumOfPicks 23 = .ok (.getfield 48, 3) := by decide +kernel
theorem dX6_sumOfPicks_26 : decode cX6_sumOfPicks 26 = .ok (.iload_n 1, 1) := by decide +kernel
theorem dX6_sumOfPicks_27 : decode cX6_sumOfPicks 27 = .ok (.invokevirtual 102, 3) := by decide +kernel
theorem dX6_sumOfPicks_30 : decode cX6_sumOfPicks 30 = .ok (.isub, 1) := by decide +kernel
theorem dX6_sumOfPicks_31 : decode cX6_sumOfPicks 31 = .ok (.invokestatic 105, 3) := by decide +kernel
theorem dX6_sumOfPicks_34 : decode cX6_sumOfPicks 34 = .ok (.isub, 1) := by decide +kernel
theorem dX6_sumOfPicks_35 : decode cX6_sumOfPicks 35 = .ok (.ireturn, 1) := by decide +kernel
theorem dX6_sumOfPicks_36 : decode cX6_sumOfPicks 36 = .ok (.aload_n 0, 1) := by decide +kernel
theorem dX6_sumOfPicks_37 : decode cX6_sumOfPicks 37 = .ok (.iload_n 1, 1) := by decide +kernel
theorem dX6_sumOfPicks_38 : decode cX6_sumOfPicks 38 = .ok (.invokevirtual 110, 3) := by decide +kernel
theorem dX6_sumOfPicks_41 : decode cX6_sumOfPicks 41 = .ok (.aload_n 0, 1) := by decide +kernel
theorem dX6_sumOfPicks_42 : decode cX6_sumOfPicks 42 = .ok (.getfield 48, 3) := by decide +kernel
theorem dX6_sumOfPicks_45 : decode cX6_sumOfPicks 45 = .ok (.getfield 92, 3) := by decide +kernel
theorem dX6_sumOfPicks_48 : decode cX6_sumOfPicks 48 = .ok (.getfield 114, 3) := by decide +kernel
theorem dX6_sumOfPicks_51 : decode cX6_sumOfPicks 51 = .ok (.bipush 14, 2) := by decide +kernel
theorem dX6_sumOfPicks_53 : decode cX6_sumOfPicks 53 = .ok (.aload_n 0, 1) := by decide +kernel
theorem dX6_sumOfPicks_54 : decode cX6_sumOfPicks 54 = .ok (.getfield 18, 3) := by decide +kernel
theorem dX6_sumOfPicks_57 : decode cX6_sumOfPicks 57 = .ok (.iload_n 2, 1) := by decide +kernel
theorem dX6_sumOfPicks_58 : decode cX6_sumOfPicks 58 = .ok (.iaload, 1) := by decide +kernel
theorem dX6_sumOfPicks_59 : decode cX6_sumOfPicks 59 = .ok (.iastore, 1) := by decide +kernel
theorem dX6_sumOfPicks_60 : decode cX6_sumOfPicks 60 = .ok (.aload_n 0, 1) := by decide +kernel
theorem dX6_sumOfPicks_61 : decode cX6_sumOfPicks 61 = .ok (.getfield 48, 3) := by decide +kernel
theorem dX6_sumOfPicks_64 : decode cX6_sumOfPicks 64 = .ok (.getfield 92, 3) := by decide +kernel
theorem dX6_sumOfPicks_67 : decode cX6_sumOfPicks 67 = .ok (.getfield 114, 3) := by decide +kernel
theorem dX6_sumOfPicks_70 : decode cX6_sumOfPicks 70 = .ok (.bipush 7, 2) := by decide +kernel
theorem dX6_sumOfPicks_72 : decode cX6_sumOfPicks 72 = .ok (.aload_n 0, 1) := by decide +kernel
theorem dX6_sumOfPicks_73 : decode cX6_sumOfPicks 73 = .ok (.getfield 9, 3) := by decide +kernel
theorem dX6_sumOfPicks_76 : decode cX6_sumOfPicks 76 = .ok (.iload_n 2, 1) := by decide +kernel
theorem dX6_sumOfPicks_77 : decode cX6_sumOfPicks 77 = .ok (.iaload, 1) := by decide +kernel
theorem dX6_sumOfPicks_78 : decode cX6_sumOfPicks 78 = .ok (.iastore, 1) := by decide +kernel
theorem dX6_sumOfPicks_79 : decode cX6_sumOfPicks 79 = .ok (.aload_n 0, 1) := by decide +kernel
theorem dX6_sumOfPicks_80 : decode cX6_sumOfPicks 80 = .ok (.getfield 48, 3) := by decide +kernel
theorem dX6_sumOfPicks_83 : decode cX6_sumOfPicks 83 = .ok (.getfield 92, 3) := by decide +kernel
theorem dX6_sumOfPicks_86 : decode cX6_sumOfPicks 86 = .ok (.iconst 0, 1) := by decide +kernel
theorem dX6_sumOfPicks_87 : decode cX6_sumOfPicks 87 = .ok (.invokevirtual 119, 3) := by decide +kernel
theorem dX6_sumOfPicks_90 : decode cX6_sumOfPicks 90 = .ok (.ireturn, 1) := by decide +kernel
theorem dX11_picks_0 : decode cX11_picks 0 = .ok (.aload_n 0, 1) := by decide +kernel
theorem dX11_picks_1 : decode cX11_picks 1 = .ok (.iload_n 1, 1) := by decide +kernel
theorem dX11_picks_2 : decode cX11_picks 2 = .ok (.invokevirtual 189, 3) := by decide +kernel
theorem dX11_picks_5 : decode cX11_picks 5 = .ok (.ifCond .eq 11, 3) := by decide +kernel
theorem dX11_picks_8 : decode cX11_picks 8 = .ok (.aload_n 0, 1) := by decide +kernel
theorem dX11_picks_9 : decode cX11_picks 9 = .ok (.iload_n 2, 1) := by decide +kernel
theorem dX11_picks_10 : decode cX11_picks 10 = .ok (.invokevirtual 149, 3) := by decide +kernel
theorem dX11_picks_13 : decode cX11_picks 13 = .ok (.ifCond .ne 7, 3) := by decide +kernel
theorem dX11_picks_16 : decode cX11_picks 16 = .ok (.ldc2_w 216, 3) := by decide +kernel
theorem dX11_picks_19 : decode cX11_picks 19 = .ok (.lreturn, 1) := by decide +kernel
theorem dX11_picks_20 : decode cX11_picks 20 = .ok (.aload_n 0, 1) := by decide +kernel
theorem dX11_picks_21 : decode cX11_picks 21 = .ok (.getfield 35, 3) := by decide +kernel
theorem dX11_picks_24 : decode cX11_picks 24 = .ok (.iload_n 1, 1) := by decide +kernel
theorem dX11_picks_25 : decode cX11_picks 25 = .ok (.iload_n 2, 1) := by decide +kernel
theorem dX11_picks_26 : decode cX11_picks 26 = .ok (.invokevirtual 218, 3) := by decide +kernel
theorem dX11_picks_29 : decode cX11_picks 29 = .ok (.i2l, 1) := by decide +kernel
theorem dX11_picks_30 : decode cX11_picks 30 = .ok (.lreturn, 1) := by decide +kernel
theorem dX11_comes_0 : decode cX11_comes 0 = .ok (.iload_n 1, 1) := by decide +kernel
theorem dX11_comes_1 : decode cX11_comes 1 = .ok (.iload_n 2, 1) := by decide +kernel
theorem dX11_comes_2 : decode cX11_comes 2 = .ok (.if_icmp .lt 27, 3) := by decide +kernel
theorem dX11_comes_5 : decode cX11_comes 5 = .ok (.iload_n 1, 1) := by decide +kernel
theorem dX11_comes_6 : decode cX11_comes 6 = .ok (.iload_n 3, 1) := by decide +kernel
theorem dX11_comes_7 : decode cX11_comes 7 = .ok (.if_icmp .gt 22, 3) := by decide +kernel
theorem dX11_comes_10 : decode cX11_comes 10 = .ok (.aload_n 0, 1) := by decide +kernel
theorem dX11_comes_11 : decode cX11_comes 11 = .ok (.getfield 35, 3) := by decide +kernel
theorem dX11_comes_14 : decode cX11_comes 14 = .ok (.getfield 129, 3) := by decide +kernel
theorem dX11_comes_17 : decode cX11_comes 17 = .ok (.iload_n 1, 1) := by decide +kernel
theorem dX11_comes_18 : decode cX11_comes 18 = .ok (.iadd, 1) := by decide +kernel
theorem dX11_comes_19 : decode cX11_comes 19 = .ok (.sipush 999, 3) := by decide +kernel
theorem dX11_comes_22 : decode cX11_comes 22 = .ok (.if_icmp .gt 7, 3) := by decide +kernel
theorem dX11_comes_25 : decode cX11_comes 25 = .ok (.iconst 1, 1) := by decide +kernel
theorem dX11_comes_26 : decode cX11_comes 26 = .ok (.goto 4, 3) := by decide +kernel
theorem dX11_comes_29 : decode cX11_comes 29 = .ok (.iconst 0, 1) := by decide +kernel
theorem dX11_comes_30 : decode cX11_comes 30 = .ok (.ireturn, 1) := by decide +kernel
theorem dX6_copyFrom_0 : decode cX6_copyFrom 0 = .ok (.aload_n 1, 1) := by decide +kernel
theorem dX6_copyFrom_1 : decode cX6_copyFrom 1 = .ok (.getfield 9, 3) := by decide +kernel
theorem dX6_copyFrom_4 : decode cX6_copyFrom 4 = .ok (.iconst 0, 1) := by decide +kernel
theorem dX6_copyFrom_5 : decode cX6_copyFrom 5 = .ok (.aload_n 0, 1) := by decide +kernel
theorem dX6_copyFrom_6 : decode cX6_copyFrom 6 = .ok (.getfield 9, 3) := by decide +kernel
theorem dX6_copyFrom_9 : decode cX6_copyFrom 9 = .ok (.iconst 0, 1) := by decide +kernel
theorem dX6_copyFrom_10 : decode cX6_copyFrom 10 = .ok (.bipush 7, 2) := by decide +kernel
theorem dX6_copyFrom_12 : decode cX6_copyFrom 12 = .ok (.invokestatic 57, 3) := by decide +kernel
theorem dX6_copyFrom_15 : decode cX6_copyFrom 15 = .ok (.aload_n 1, 1) := by decide +kernel
theorem dX6_copyFrom_16 : decode cX6_copyFrom 16 = .ok (.getfield 15, 3) := by decide +kernel
theorem dX6_copyFrom_19 : decode cX6_copyFrom 19 = .ok (.iconst 0, 1) := by decide +kernel
theorem dX6_copyFrom_20 : decode cX6_copyFrom 20 = .ok (.aload_n 0, 1) := by decide +kernel
theorem dX6_copyFrom_21 : decode cX6_copyFrom 21 = .ok (.getfield 15, 3) := by decide +kernel
theorem dX6_copyFrom_24 : decode cX6_copyFrom 24 = .ok (.iconst 0, 1) := by decide +kernel
theorem dX6_copyFrom_25 : decode cX6_copyFrom 25 = .ok (.bipush 7, 2) := by decide +kernel
theorem dX6_copyFrom_27 : decode cX6_copyFrom 27 = .ok (.invokestatic 57, 3) := by decide +kernel
theorem dX6_copyFrom_30 : decode cX6_copyFrom 30 = .ok (.aload_n 1, 1) := by decide +kernel
theorem dX6_copyFrom_31 : decode cX6_copyFrom 31 = .ok (.getfield 18, 3) := by decide +kernel
theorem dX6_copyFrom_34 : decode cX6_copyFrom 34 = .ok (.iconst 0, 1) := by decide +kernel
theorem dX6_copyFrom_35 : decode cX6_copyFrom 35 = .ok (.aload_n 0, 1) := by decide +kernel
theorem dX6_copyFrom_36 : decode cX6_copyFrom 36 = .ok (.getfield 18, 3) := by decide +kernel
theorem dX6_copyFrom_39 : decode cX6_copyFrom 39 = .ok (.iconst 0, 1) := by decide +kernel
theorem dX6_copyFrom_40 : decode cX6_copyFrom 40 = .ok (.bipush 7, 2) := by decide +kernel
theorem dX6_copyFrom_42 : decode cX6_copyFrom 42 = .ok (.invokestatic 57, 3) := by decide +kernel
theorem dX6_copyFrom_45 : decode cX6_copyFrom 45 = .ok (.aload_n 1, 1) := by decide +kernel
theorem dX6_copyFrom_46 : decode cX6_copyFrom 46 = .ok (.getfield 21, 3) := by decide +kernel
theorem dX6_copyFrom_49 : decode cX6_copyFrom 49 = .ok (.iconst 0, 1) := by decide +kernel
theorem dX6_copyFrom_50 : decode cX6_copyFrom 50 = .ok (.aload_n 0, 1) := by decide +kernel
theorem dX6_copyFrom_51 : decode cX6_copyFrom 51 = .ok (.getfield 21, 3) := by decide +kernel
theorem dX6_copyFrom_54 : decode cX6_copyFrom 54 = .ok (.iconst 0, 1) := by decide +kernel
theorem dX6_copyFrom_55 : decode cX6_copyFrom 55 = .ok (.bipush 12, 2) := by decide +kernel
theorem dX6_copyFrom_57 : decode cX6_copyFrom 57 = .ok (.invokestatic 57, 3) := by decide +kernel
theorem dX6_copyFrom_60 : decode cX6_copyFrom 60 = .ok (.aload_n 1, 1) := by decide +kernel
theorem dX6_copyFrom_61 : decode cX6_copyFrom 61 = .ok (.getfield 24, 3) := by decide +kernel
theorem dX6_copyFrom_64 : decode cX6_copyFrom 64 = .ok (.iconst 0, 1) := by decide +kernel
theorem dX6_copyFrom_65 : decode cX6_copyFrom 65 = .ok (.aload_n 0, 1) := by decide +kernel
theorem dX6_copyFrom_66 : decode cX6_copyFrom 66 = .ok (.getfield 24, 3) := by decide +kernel
theorem dX6_copyFrom_69 : decode cX6_copyFrom 69 = .ok (.iconst 0, 1) := by decide +kernel
theorem dX6_copyFrom_70 : decode cX6_copyFrom 70 = .ok (.bipush 12, 2) := by decide +kernel
theorem dX6_copyFrom_72 : decode cX6_copyFrom 72 = .ok (.invokestatic 57, 3) := by decide +kernel
theorem dX6_copyFrom_75 : decode cX6_copyFrom 75 = .ok (.aload_n 1, 1) := by decide +kernel
theorem dX6_copyFrom_76 : decode cX6_copyFrom 76 = .ok (.getfield 27, 3) := by decide +kernel
theorem dX6_copyFrom_79 : decode cX6_copyFrom 79 = .ok (.iconst 0, 1) := by decide +kernel
theorem dX6_copyFrom_80 : decode cX6_copyFrom 80 = .ok (.aload_n 0, 1) := by decide +kernel
theorem dX6_copyFrom_81 : decode cX6_copyFrom 81 = .ok (.getfield 27, 3) := by decide +kernel
theorem dX6_copyFrom_84 : decode cX6_copyFrom 84 = .ok (.iconst 0, 1) := by decide +kernel
theorem dX6_copyFrom_85 : decode cX6_copyFrom 85 = .ok (.bipush 12, 2) := by decide +kernel
theorem dX6_copyFrom_87 : decode cX6_copyFrom 87 = .ok (.invokestatic 57, 3) := by decide +kernel
theorem dX6_copyFrom_90 : decode cX6_copyFrom 90 = .ok (.aload_n 1, 1) := by decide +kernel
theorem dX6_copyFrom_91 : decode cX6_copyFrom 91 = .ok (.getfield 30, 3) := by decide +kernel
theorem dX6_copyFrom_94 : decode cX6_copyFrom 94 = .ok (.iconst 0, 1) := by decide +kernel
theorem dX6_copyFrom_95 : decode cX6_copyFrom 95 = .ok (.aload_n 0, 1) := by decide +kernel
theorem dX6_copyFrom_96 : decode cX6_copyFrom 96 = .ok (.getfield 30, 3) := by decide +kernel
theorem dX6_copyFrom_99 : decode cX6_copyFrom 99 = .ok (.iconst 0, 1) := by decide +kernel
theorem dX6_copyFrom_100 : decode cX6_copyFrom 100 = .ok (.bipush 12, 2) := by decide +kernel
theorem dX6_copyFrom_102 : decode cX6_copyFrom 102 = .ok (.invokestatic 57, 3) := by decide +kernel
theorem dX6_copyFrom_105 : decode cX6_copyFrom 105 = .ok (.aload_n 1, 1) := by decide +kernel
theorem dX6_copyFrom_106 : decode cX6_copyFrom 106 = .ok (.getfield 33, 3) := by decide +kernel
theorem dX6_copyFrom_109 : decode cX6_copyFrom 109 = .ok (.iconst 0, 1) := by decide +kernel
theorem dX6_copyFrom_110 : decode cX6_copyFrom 110 = .ok (.aload_n 0, 1) := by decide +kernel
theorem dX6_copyFrom_111 : decode cX6_copyFrom 111 = .ok (.getfield 33, 3) := by decide +kernel
theorem dX6_copyFrom_114 : decode cX6_copyFrom 114 = .ok (.iconst 0, 1) := by decide +kernel
theorem dX6_copyFrom_115 : decode cX6_copyFrom 115 = .ok (.bipush 12, 2) := by decide +kernel
theorem dX6_copyFrom_117 : decode cX6_copyFrom 117 = .ok (.invokestatic 57, 3) := by decide +kernel
theorem dX6_copyFrom_120 : decode cX6_copyFrom 120 = .ok (.aload_n 1, 1) := by decide +kernel
theorem dX6_copyFrom_121 : decode cX6_copyFrom 121 = .ok (.getfield 36, 3) := by decide +kernel
theorem dX6_copyFrom_124 : decode cX6_copyFrom 124 = .ok (.iconst 0, 1) := by decide +kernel
theorem dX6_copyFrom_125 : decode cX6_copyFrom 125 = .ok (.aload_n 0, 1) := by decide +kernel
theorem dX6_copyFrom_126 : decode cX6_copyFrom 126 = .ok (.getfield 36, 3) := by decide +kernel
theorem dX6_copyFrom_129 : decode cX6_copyFrom 129 = .ok (.iconst 0, 1) := by decide +kernel
theorem dX6_copyFrom_130 : decode cX6_copyFrom 130 = .ok (.bipush 12, 2) := by decide +kernel
theorem dX6_copyFrom_132 : decode cX6_copyFrom 132 = .ok (.invokestatic 57, 3) := by decide +kernel
theorem dX6_copyFrom_135 : decode cX6_copyFrom 135 = .ok (.aload_n 1, 1) := by decide +kernel
theorem dX6_copyFrom_136 : decode cX6_copyFrom 136 = .ok (.getfield 39, 3) := by decide +kernel
theorem dX6_copyFrom_139 : decode cX6_copyFrom 139 = .ok (.iconst 0, 1) := by decide +kernel
theorem dX6_copyFrom_140 : decode cX6_copyFrom 140 = .ok (.aload_n 0, 1) := by decide +kernel
theorem dX6_copyFrom_141 : decode cX6_copyFrom 141 = .ok (.getfield 39, 3) := by decide +kernel
theorem dX6_copyFrom_144 : decode cX6_copyFrom 144 = .ok (.iconst 0, 1) := by decide +kernel
theorem dX6_copyFrom_145 : decode cX6_copyFrom 145 = .ok (.bipush 12, 2) := by decide +kernel
theorem dX6_copyFrom_147 : decode cX6_copyFrom 147 = .ok (.invokestatic 57, 3) := by decide +kernel
theorem dX6_copyFrom_150 : decode cX6_copyFrom 150 = .ok (.aload_n 1, 1) := by decide +kernel
theorem dX6_copyFrom_151 : decode cX6_copyFrom 151 = .ok (.getfield 42, 3) := by decide +kernel
theorem dX6_copyFrom_154 : decode cX6_copyFrom 154 = .ok (.iconst 0, 1) := by decide +kernel
theorem dX6_copyFrom_155 : decode cX6_copyFrom 155 = .ok (.aload_n 0, 1) := by decide +kernel
theorem dX6_copyFrom_156 : decode cX6_copyFrom 156 = .ok (.getfield 42, 3) := by decide +kernel
theorem dX6_copyFrom_159 : decode cX6_copyFrom 159 = .ok (.iconst 0, 1) := by decide +kernel
theorem dX6_copyFrom_160 : decode cX6_copyFrom 160 = .ok (.bipush 12, 2) := by decide +kernel
theorem dX6_copyFrom_162 : decode cX6_copyFrom 162 = .ok (.invokestatic 57, 3) := by decide +kernel
theorem dX6_copyFrom_165 : decode cX6_copyFrom 165 = .ok (.aload_n 1, 1) := by decide +kernel
theorem dX6_copyFrom_166 : decode cX6_copyFrom 166 = .ok (.getfield 45, 3) := by decide +kernel
theorem dX6_copyFrom_169 : decode cX6_copyFrom 169 = .ok (.iconst 0, 1) := by decide +kernel
theorem dX6_copyFrom_170 : decode cX6_copyFrom 170 = .ok (.aload_n 0, 1) := by decide +kernel
theorem dX6_copyFrom_171 : decode cX6_copyFrom 171 = .ok (.getfield 45, 3) := by decide +kernel
theorem dX6_copyFrom_174 : decode cX6_copyFrom 174 = .ok (.iconst 0, 1) := by decide +kernel
theorem dX6_copyFrom_175 : decode cX6_copyFrom 175 = .ok (.bipush 12, 2) := by decide +kernel
theorem dX6_copyFrom_177 : decode cX6_copyFrom 177 = .ok (.invokestatic 57, 3) := by decide +kernel
theorem dX6_copyFrom_180 : decode cX6_copyFrom 180 = .ok (.aload_n 0, 1) := by decide +kernel
theorem dX6_copyFrom_181 : decode cX6_copyFrom 181 = .ok (.aload_n 1, 1) := by decide +kernel
theorem dX6_copyFrom_182 : decode cX6_copyFrom 182 = .ok (.getfield 72, 3) := by decide +kernel
theorem dX6_copyFrom_185 : decode cX6_copyFrom 185 = .ok (.putfield 72, 3) := by decide +kernel
theorem dX6_copyFrom_188 : decode cX6_copyFrom 188 = .ok (.aload_n 0, 1) := by decide +kernel
theorem dX6_copyFrom_189 : decode cX6_copyFrom 189 = .ok (.aload_n 1, 1) := by decide +kernel
theorem dX6_copyFrom_190 : decode cX6_copyFrom 190 = .ok (.getfield 76, 3) := by decide +kernel
theorem dX6_copyFrom_193 : decode cX6_copyFrom 193 = .ok (.putfield 76, 3) := by decide +kernel
theorem dX6_copyFrom_196 : decode cX6_copyFrom 196 = .ok (.return_, 1) := by decide +kernel
section
variable {σ : Nat → Nat} {p : Program} {l : Launch} {e : Env} {s : State} {m : MethodId} {args : Array Value} {below : List Frame} {meth : Method} {c : Code} {D : va_G} {E : Nat → ClassId} {b : Nat}
set_option maxHeartbeats 4000000 in
set_option maxRecDepth 20000 in
theorem c_x_Rules_copyFrom (l : Launch) (th : Nat) (o1 : Nat) (hth : th ∈ xI_Rules) (ho1 : o1 ∈ xI_Rules) {M : Mem} {M0 : Mem} (h : x_Rules_copyFrom th o1 M = some M0) : Ct l yX5_copyFrom cX5_copyFrom 2 none 2 84 vwCl xSh xN xRf (xExt σ) (fun b => [vR b th, vR b o1]) M (fun b => none) M0 := by
  refine Ct_of (xExtOK σ) (by decide) (fun b => Nat.le_of_ble_eq_true rfl) ?_
  intro p e s m args below meth c D E b C hr
  unfold x_Rules_copyFrom at h
  refine (show xWX p l e 2 84 s m args below meth c 2 D E b none M0 M 0 [(0, vR b th), (1, vR b o1)] [] from ?_)
  refine r_aload_n (pc := 0) C 1 rfl rfl dX5_copyFrom_0 ?_
  refine r_getR (pc := 1) C fl_RX5_17 (x_sI_Rules ho1) (x_nI_Rules ho1) x_kRules_1 (x_rI_Rules_1 ho1) dX5_copyFrom_1 ?_
  refine r_iconst (pc := 4) C dX5_copyFrom_4 ?_
  refine r_aload_n (pc := 5) C 0 rfl rfl dX5_copyFrom_5 ?_
  refine r_getR (pc := 6) C fl_RX5_17 (x_sI_Rules hth) (x_nI_Rules hth) x_kRules_1 (x_rI_Rules_1 hth) dX5_copyFrom_6 ?_
  refine r_iconst (pc := 9) C dX5_copyFrom_9 ?_
  refine r_aload_n (pc := 10) C 0 rfl rfl dX5_copyFrom_10 ?_
  refine r_getR (pc := 11) C fl_RX5_17 (x_sI_Rules hth) (x_nI_Rules hth) x_kRules_1 (x_rI_Rules_1 hth) dX5_copyFrom_11 ?_
  refine r_alen (pc := 14) C (x_aI_Rules_1 hth) (x_bI_Rules_1 hth) dX5_copyFrom_14 ?_
  obtain ⟨M1, hM1, h⟩ := lt_inv h
  refine r_copy (pc := 15) (nn := 1600) C ca_RX5_39 (x_aI_Rules_1 ho1) (x_bI_Rules_1 ho1) (by decide) (x_aI_Rules_1 hth) (x_bI_Rules_1 hth) (by decide) rfl (by decide) (by decide) hM1 (by decide) (by decide) dX5_copyFrom_15 ?_
  refine r_aload_n (pc := 18) C 1 rfl rfl dX5_copyFrom_18 ?_
  refine r_getR (pc := 19) C fl_RX5_20 (x_sI_Rules ho1) (x_nI_Rules ho1) x_kRules_2 (x_rI_Rules_2 ho1) dX5_copyFrom_19 ?_
  refine r_iconst (pc := 22) C dX5_copyFrom_22 ?_
  refine r_aload_n (pc := 23) C 0 rfl rfl dX5_copyFrom_23 ?_
  refine r_getR (pc := 24) C fl_RX5_20 (x_sI_Rules hth) (x_nI_Rules hth) x_kRules_2 (x_rI_Rules_2 hth) dX5_copyFrom_24 ?_
  refine r_iconst (pc := 27) C dX5_copyFrom_27 ?_
  refine r_aload_n (pc := 28) C 0 rfl rfl dX5_copyFrom_28 ?_
  refine r_getR (pc := 29) C fl_RX5_20 (x_sI_Rules hth) (x_nI_Rules hth) x_kRules_2 (x_rI_Rules_2 hth) dX5_copyFrom_29 ?_
  refine r_alen (pc := 32) C (x_aI_Rules_2 hth) (x_bI_Rules_2 hth) dX5_copyFrom_32 ?_
  obtain ⟨M2, hM2, h⟩ := lt_inv h
  refine r_copy (pc := 33) (nn := 3) C ca_RX5_39 (x_aI_Rules_2 ho1) (x_bI_Rules_2 ho1) (by decide) (x_aI_Rules_2 hth) (x_bI_Rules_2 hth) (by decide) rfl (by decide) (by decide) hM2 (by decide) (by decide) dX5_copyFrom_33 ?_
  refine r_aload_n (pc := 36) C 1 rfl rfl dX5_copyFrom_36 ?_
  refine r_getR (pc := 37) C fl_RX5_23 (x_sI_Rules ho1) (x_nI_Rules ho1) x_kRules_3 (x_rI_Rules_3 ho1) dX5_copyFrom_37 ?_
  refine r_iconst (pc := 40) C dX5_copyFrom_40 ?_
  refine r_aload_n (pc := 41) C 0 rfl rfl dX5_copyFrom_41 ?_
  refine r_getR (pc := 42) C fl_RX5_23 (x_sI_Rules hth) (x_nI_Rules hth) x_kRules_3 (x_rI_Rules_3 hth) dX5_copyFrom_42 ?_
  refine r_iconst (pc := 45) C dX5_copyFrom_45 ?_
  refine r_aload_n (pc := 46) C 0 rfl rfl dX5_copyFrom_46 ?_
  refine r_getR (pc := 47) C fl_RX5_23 (x_sI_Rules hth) (x_nI_Rules hth) x_kRules_3 (x_rI_Rules_3 hth) dX5_copyFrom_47 ?_
  refine r_alen (pc := 50) C (x_aI_Rules_3 hth) (x_bI_Rules_3 hth) dX5_copyFrom_50 ?_
  obtain ⟨M3, hM3, h⟩ := lt_inv h
  refine r_copy (pc := 51) (nn := 3) C ca_RX5_39 (x_aI_Rules_3 ho1) (x_bI_Rules_3 ho1) (by decide) (x_aI_Rules_3 hth) (x_bI_Rules_3 hth) (by decide) rfl (by decide) (by decide) hM3 (by decide) (by decide) dX5_copyFrom_51 ?_
  have e := Option.some.inj h
  exact r_vret (pc := 54) C hr rfl e.symm dX5_copyFrom_54
set_option maxHeartbeats 4000000 in
set_option maxRecDepth 20000 in
theorem c_x_Town_copyFrom (l : Launch) (th : Nat) (o1 : Nat) (hth : th ∈ xI_Town) (ho1 : o1 ∈ xI_Town) {M : Mem} {M0 : Mem} (h : x_Town_copyFrom th o1 M = some M0) : Ct l yX9_copyFrom cX9_copyFrom 2 none 3 105 vwCl xSh xN xRf (xExt σ) (fun b => [vR b th, vR b o1]) M (fun b => none) M0 := by
  refine Ct_of (xExtOK σ) (by decide) (fun b => Nat.le_of_ble_eq_true rfl) ?_
  intro p e s m args below meth c D E b C hr
  unfold x_Town_copyFrom at h
  refine (show xWX p l e 3 105 s m args below meth c 2 D E b none M0 M 0 [(0, vR b th), (1, vR b o1)] [] from ?_)
  refine r_aload_n (pc := 0) C 0 rfl rfl dX9_copyFrom_0 ?_
  refine r_aload_n (pc := 1) C 1 rfl rfl dX9_copyFrom_1 ?_
  refine r_getI (pc := 2) C fl_RX9_43 (x_sI_Town ho1) (x_nI_Town ho1) x_kTown_0 dX9_copyFrom_2 ?_
  obtain ⟨M_5, hM_5, h⟩ := lt_inv h
  refine r_putI (pc := 5) C fl_RX9_43 x_ft9 x_w9_0 (x_sI_Town hth) (x_nI_Town hth) x_kTown_0 hM_5 dX9_copyFrom_5 ?_
  refine r_aload_n (pc := 8) C 0 rfl rfl dX9_copyFrom_8 ?_
  refine r_aload_n (pc := 9) C 1 rfl rfl dX9_copyFrom_9 ?_
  refine r_getI (pc := 10) C fl_RX9_47 (x_sI_Town ho1) (x_nI_Town ho1) x_kTown_1 dX9_copyFrom_10 ?_
  obtain ⟨M_13, hM_13, h⟩ := lt_inv h
  refine r_putI (pc := 13) C fl_RX9_47 x_ft9 x_w9_1 (x_sI_Town hth) (x_nI_Town hth) x_kTown_1 hM_13 dX9_copyFrom_13 ?_
  refine r_aload_n (pc := 16) C 0 rfl rfl dX9_copyFrom_16 ?_
  refine r_aload_n (pc := 17) C 1 rfl rfl dX9_copyFrom_17 ?_
  refine r_getI (pc := 18) C fl_RX9_50 (x_sI_Town ho1) (x_nI_Town ho1) x_kTown_2 dX9_copyFrom_18 ?_
  obtain ⟨M_21, hM_21, h⟩ := lt_inv h
  refine r_putI (pc := 21) C fl_RX9_50 x_ft9 x_w9_2 (x_sI_Town hth) (x_nI_Town hth) x_kTown_2 hM_21 dX9_copyFrom_21 ?_
  refine r_aload_n (pc := 24) C 0 rfl rfl dX9_copyFrom_24 ?_
  refine r_aload_n (pc := 25) C 1 rfl rfl dX9_copyFrom_25 ?_
  refine r_getI (pc := 26) C fl_RX9_53 (x_sI_Town ho1) (x_nI_Town ho1) x_kTown_3 dX9_copyFrom_26 ?_
  obtain ⟨M_29, hM_29, h⟩ := lt_inv h
  refine r_putI (pc := 29) C fl_RX9_53 x_ft9 x_w9_3 (x_sI_Town hth) (x_nI_Town hth) x_kTown_3 hM_29 dX9_copyFrom_29 ?_
  refine r_aload_n (pc := 32) C 1 rfl rfl dX9_copyFrom_32 ?_
  refine r_getR (pc := 33) C fl_RX9_9 (x_sI_Town ho1) (x_nI_Town ho1) x_kTown_4 (x_rI_Town_4 ho1) dX9_copyFrom_33 ?_
  refine r_iconst (pc := 36) C dX9_copyFrom_36 ?_
  refine r_aload_n (pc := 37) C 0 rfl rfl dX9_copyFrom_37 ?_
  refine r_getR (pc := 38) C fl_RX9_9 (x_sI_Town hth) (x_nI_Town hth) x_kTown_4 (x_rI_Town_4 hth) dX9_copyFrom_38 ?_
  refine r_iconst (pc := 41) C dX9_copyFrom_41 ?_
  refine r_bipush (pc := 42) (j := 7) C (by decide +kernel) dX9_copyFrom_42 ?_
  obtain ⟨M1, hM1, h⟩ := lt_inv h
  refine r_copy (pc := 44) (nn := 7) C ca_RX9_59 (x_aI_Town_4 ho1) (x_bI_Town_4 ho1) (by decide) (x_aI_Town_4 hth) (x_bI_Town_4 hth) (by decide) rfl (by decide) (by decide) hM1 (by decide) (by decide) dX9_copyFrom_44 ?_
  refine r_aload_n (pc := 47) C 1 rfl rfl dX9_copyFrom_47 ?_
  refine r_getR (pc := 48) C fl_RX9_15 (x_sI_Town ho1) (x_nI_Town ho1) x_kTown_5 (x_rI_Town_5 ho1) dX9_copyFrom_48 ?_
  refine r_iconst (pc := 51) C dX9_copyFrom_51 ?_
  refine r_aload_n (pc := 52) C 0 rfl rfl dX9_copyFrom_52 ?_
  refine r_getR (pc := 53) C fl_RX9_15 (x_sI_Town hth) (x_nI_Town hth) x_kTown_5 (x_rI_Town_5 hth) dX9_copyFrom_53 ?_
  refine r_iconst (pc := 56) C dX9_copyFrom_56 ?_
  refine r_bipush (pc := 57) (j := 7) C (by decide +kernel) dX9_copyFrom_57 ?_
  obtain ⟨M2, hM2, h⟩ := lt_inv h
  refine r_copy (pc := 59) (nn := 7) C ca_RX9_59 (x_aI_Town_5 ho1) (x_bI_Town_5 ho1) (by decide) (x_aI_Town_5 hth) (x_bI_Town_5 hth) (by decide) rfl (by decide) (by decide) hM2 (by decide) (by decide) dX9_copyFrom_59 ?_
  refine r_aload_n (pc := 62) C 1 rfl rfl dX9_copyFrom_62 ?_
  refine r_getR (pc := 63) C fl_RX9_18 (x_sI_Town ho1) (x_nI_Town ho1) x_kTown_6 (x_rI_Town_6 ho1) dX9_copyFrom_63 ?_
  refine r_iconst (pc := 66) C dX9_copyFrom_66 ?_
  refine r_aload_n (pc := 67) C 0 rfl rfl dX9_copyFrom_67 ?_
  refine r_getR (pc := 68) C fl_RX9_18 (x_sI_Town hth) (x_nI_Town hth) x_kTown_6 (x_rI_Town_6 hth) dX9_copyFrom_68 ?_
  refine r_iconst (pc := 71) C dX9_copyFrom_71 ?_
  refine r_bipush (pc := 72) (j := 8) C (by decide +kernel) dX9_copyFrom_72 ?_
  obtain ⟨M3, hM3, h⟩ := lt_inv h
  refine r_copy (pc := 74) (nn := 8) C ca_RX9_59 (x_aI_Town_6 ho1) (x_bI_Town_6 ho1) (by decide) (x_aI_Town_6 hth) (x_bI_Town_6 hth) (by decide) rfl (by decide) (by decide) hM3 (by decide) (by decide) dX9_copyFrom_74 ?_
  refine r_aload_n (pc := 77) C 1 rfl rfl dX9_copyFrom_77 ?_
  refine r_getR (pc := 78) C fl_RX9_21 (x_sI_Town ho1) (x_nI_Town ho1) x_kTown_7 (x_rI_Town_7 ho1) dX9_copyFrom_78 ?_
  refine r_iconst (pc := 81) C dX9_copyFrom_81 ?_
  refine r_aload_n (pc := 82) C 0 rfl rfl dX9_copyFrom_82 ?_
  refine r_getR (pc := 83) C fl_RX9_21 (x_sI_Town hth) (x_nI_Town hth) x_kTown_7 (x_rI_Town_7 hth) dX9_copyFrom_83 ?_
  refine r_iconst (pc := 86) C dX9_copyFrom_86 ?_
  refine r_bipush (pc := 87) (j := 8) C (by decide +kernel) dX9_copyFrom_87 ?_
  obtain ⟨M4, hM4, h⟩ := lt_inv h
  refine r_copy (pc := 89) (nn := 8) C ca_RX9_59 (x_aI_Town_7 ho1) (x_bI_Town_7 ho1) (by decide) (x_aI_Town_7 hth) (x_bI_Town_7 hth) (by decide) rfl (by decide) (by decide) hM4 (by decide) (by decide) dX9_copyFrom_89 ?_
  refine r_aload_n (pc := 92) C 1 rfl rfl dX9_copyFrom_92 ?_
  refine r_getR (pc := 93) C fl_RX9_24 (x_sI_Town ho1) (x_nI_Town ho1) x_kTown_8 (x_rI_Town_8 ho1) dX9_copyFrom_93 ?_
  refine r_iconst (pc := 96) C dX9_copyFrom_96 ?_
  refine r_aload_n (pc := 97) C 0 rfl rfl dX9_copyFrom_97 ?_
  refine r_getR (pc := 98) C fl_RX9_24 (x_sI_Town hth) (x_nI_Town hth) x_kTown_8 (x_rI_Town_8 hth) dX9_copyFrom_98 ?_
  refine r_iconst (pc := 101) C dX9_copyFrom_101 ?_
  refine r_bipush (pc := 102) (j := 8) C (by decide +kernel) dX9_copyFrom_102 ?_
  obtain ⟨M5, hM5, h⟩ := lt_inv h
  refine r_copy (pc := 104) (nn := 8) C ca_RX9_59 (x_aI_Town_8 ho1) (x_bI_Town_8 ho1) (by decide) (x_aI_Town_8 hth) (x_bI_Town_8 hth) (by decide) rfl (by decide) (by decide) hM5 (by decide) (by decide) dX9_copyFrom_104 ?_
  refine r_aload_n (pc := 107) C 1 rfl rfl dX9_copyFrom_107 ?_
  refine r_getR (pc := 108) C fl_RX9_27 (x_sI_Town ho1) (x_nI_Town ho1) x_kTown_9 (x_rI_Town_9 ho1) dX9_copyFrom_108 ?_
  refine r_iconst (pc := 111) C dX9_copyFrom_111 ?_
  refine r_aload_n (pc := 112) C 0 rfl rfl dX9_copyFrom_112 ?_
  refine r_getR (pc := 113) C fl_RX9_27 (x_sI_Town hth) (x_nI_Town hth) x_kTown_9 (x_rI_Town_9 hth) dX9_copyFrom_113 ?_
  refine r_iconst (pc := 116) C dX9_copyFrom_116 ?_
  refine r_bipush (pc := 117) (j := 12) C (by decide +kernel) dX9_copyFrom_117 ?_
  obtain ⟨M6, hM6, h⟩ := lt_inv h
  refine r_copy (pc := 119) (nn := 12) C ca_RX9_59 (x_aI_Town_9 ho1) (x_bI_Town_9 ho1) (by decide) (x_aI_Town_9 hth) (x_bI_Town_9 hth) (by decide) rfl (by decide) (by decide) hM6 (by decide) (by decide) dX9_copyFrom_119 ?_
  refine r_aload_n (pc := 122) C 1 rfl rfl dX9_copyFrom_122 ?_
  refine r_getR (pc := 123) C fl_RX9_30 (x_sI_Town ho1) (x_nI_Town ho1) x_kTown_10 (x_rI_Town_10 ho1) dX9_copyFrom_123 ?_
  refine r_iconst (pc := 126) C dX9_copyFrom_126 ?_
  refine r_aload_n (pc := 127) C 0 rfl rfl dX9_copyFrom_127 ?_
  refine r_getR (pc := 128) C fl_RX9_30 (x_sI_Town hth) (x_nI_Town hth) x_kTown_10 (x_rI_Town_10 hth) dX9_copyFrom_128 ?_
  refine r_iconst (pc := 131) C dX9_copyFrom_131 ?_
  refine r_bipush (pc := 132) (j := 12) C (by decide +kernel) dX9_copyFrom_132 ?_
  obtain ⟨M7, hM7, h⟩ := lt_inv h
  refine r_copy (pc := 134) (nn := 12) C ca_RX9_59 (x_aI_Town_10 ho1) (x_bI_Town_10 ho1) (by decide) (x_aI_Town_10 hth) (x_bI_Town_10 hth) (by decide) rfl (by decide) (by decide) hM7 (by decide) (by decide) dX9_copyFrom_134 ?_
  refine r_aload_n (pc := 137) C 1 rfl rfl dX9_copyFrom_137 ?_
  refine r_getR (pc := 138) C fl_RX9_33 (x_sI_Town ho1) (x_nI_Town ho1) x_kTown_11 (x_rI_Town_11 ho1) dX9_copyFrom_138 ?_
  refine r_iconst (pc := 141) C dX9_copyFrom_141 ?_
  refine r_aload_n (pc := 142) C 0 rfl rfl dX9_copyFrom_142 ?_
  refine r_getR (pc := 143) C fl_RX9_33 (x_sI_Town hth) (x_nI_Town hth) x_kTown_11 (x_rI_Town_11 hth) dX9_copyFrom_143 ?_
  refine r_iconst (pc := 146) C dX9_copyFrom_146 ?_
  refine r_bipush (pc := 147) (j := 12) C (by decide +kernel) dX9_copyFrom_147 ?_
  obtain ⟨M8, hM8, h⟩ := lt_inv h
  refine r_copy (pc := 149) (nn := 12) C ca_RX9_59 (x_aI_Town_11 ho1) (x_bI_Town_11 ho1) (by decide) (x_aI_Town_11 hth) (x_bI_Town_11 hth) (by decide) rfl (by decide) (by decide) hM8 (by decide) (by decide) dX9_copyFrom_149 ?_
  refine r_aload_n (pc := 152) C 0 rfl rfl dX9_copyFrom_152 ?_
  refine r_getR (pc := 153) C fl_RX9_39 (x_sI_Town hth) (x_nI_Town hth) x_kTown_12 (x_rI_Town_12 hth) dX9_copyFrom_153 ?_
  refine r_aload_n (pc := 156) C 1 rfl rfl dX9_copyFrom_156 ?_
  refine r_getR (pc := 157) C fl_RX9_39 (x_sI_Town ho1) (x_nI_Town ho1) x_kTown_12 (x_rI_Town_12 ho1) dX9_copyFrom_157 ?_
  obtain ⟨M9, hq9, h⟩ := bnd_inv h
  refine r_callV (pc := 160) (rest := []) (st1 := []) C (xExtOK σ b) [vR b (o1 + 9)] (c_x_Rules_copyFrom l (th + 9) (o1 + 9) (x_oI_Town_12 hth) (x_oI_Town_12 ho1) hq9) cl_RX9_65 (x_sI_Rules (x_oI_Town_12 hth)) (x_nI_Rules (x_oI_Town_12 hth)) rfl rfl rfl rfl ⟨Nat.le_of_ble_eq_true rfl, Nat.le_of_ble_eq_true rfl⟩ (Nat.le_of_ble_eq_true rfl) rfl rfl dX9_copyFrom_160 ?_
  have e := Option.some.inj h
  exact r_vret (pc := 163) C hr rfl e.symm dX9_copyFrom_163
set_option maxHeartbeats 4000000 in
set_option maxRecDepth 20000 in
theorem c_x_X_fault (l : Launch) {x1 : Int} {M : Mem} {r0 : Int} (h : x_X_fault x1 M = some r0) : Ct l yX11_fault cX11_fault 2 (some .int) 1 12 vwCl xSh xN xRf (xExt σ) (fun b => [vR b 0, vI x1]) M (fun b => (some (vI r0))) M := by
  refine Ct_of (xExtOK σ) (by decide) (fun b => Nat.le_of_ble_eq_true rfl) ?_
  intro p e s m args below meth c D E b C hr
  unfold x_X_fault at h
  refine (show xWX p l e 1 12 s m args below meth c 2 D E b (some (vI r0)) M M 0 [(0, vR b 0), (1, vI x1)] [] from ?_)
  refine r_iload_n (pc := 0) C 1 rfl rfl dX11_fault_0 ?_
  refine r_if_ne (pc := 1) (tgt := 12) C h dX11_fault_1 (by decide) (fun hc1 h => ?_) (fun hc1 h => ?_)
  · refine r_iload_n (pc := 12) C 1 rfl rfl dX11_fault_12 ?_
    refine r_iconst (pc := 13) C dX11_fault_13 ?_
    refine r_icmp_ne (pc := 14) (tgt := 27) C h dX11_fault_14 (by decide) (fun hc14 h => ?_) (fun hc14 h => ?_)
    · refine r_iconst (pc := 27) C dX11_fault_27 ?_
      have e := Option.some.inj h
      exact r_iret (pc := 28) C hr (congrArg (fun z => some (vI z)) e.symm) rfl dX11_fault_28
    · refine r_aload_n (pc := 17) C 0 rfl rfl dX11_fault_17 ?_
      refine r_getR (pc := 18) C fl_RX11_19 x_s0 (by decide) x_kX_1 x_r0_1 dX11_fault_18 ?_
      refine r_getI (pc := 21) C fl_RX11_117 x_s3 (by decide) x_kReader_2 dX11_fault_21 ?_
      refine r_goto (pc := 24) (tgt := 28) C dX11_fault_24 (by decide) ?_
      have e := Option.some.inj h
      exact r_iret (pc := 28) C hr (congrArg (fun z => some (vI z)) e.symm) rfl dX11_fault_28
  · refine r_aload_n (pc := 4) C 0 rfl rfl dX11_fault_4 ?_
    refine r_getR (pc := 5) C fl_RX11_19 x_s0 (by decide) x_kX_1 x_r0_1 dX11_fault_5 ?_
    refine r_getI (pc := 8) C fl_RX11_114 x_s3 (by decide) x_kReader_1 dX11_fault_8 ?_
    have e := Option.some.inj h
    exact r_iret (pc := 11) C hr (congrArg (fun z => some (vI z)) e.symm) rfl dX11_fault_11
set_option maxHeartbeats 4000000 in
set_option maxRecDepth 20000 in
theorem w_x_State_countOf_L4_s (C : xCX σ p s m args meth c cX6_countOf 4 RX6 D E b) (hr : meth.sig.returnType = (some .int)) {r0 : Int} (th : Nat) (hth : th ∈ xI_State) {v1 : Int} {M : Mem} {v2 : Int} {v3 : Int} {q : Int × Int} {rec : Int → Int → Option (Int × Int)} (hrec : ∀ (v2 : Int) (v3 : Int), rec v2 v3 = some q → xWX p l e 1 12 s m args below meth c 4 D E b (some (vI r0)) M M 4 [(0, vR b th), (1, vI v1), (2, vI v2), (3, vI v3)] []) (hfol : ∀ (v2 : Int) (v3 : Int), q = (v2, v3) → xWX p l e 1 12 s m args below meth c 4 D E b (some (vI r0)) M M 34 [(2, vI v2)] []) (h : x_State_countOf_L4 th v1 M rec v2 v3 = some q) :
    xWX p l e 1 12 s m args below meth c 4 D E b (some (vI r0)) M M 4 [(0, vR b th), (1, vI v1), (2, vI v2), (3, vI v3)] [] := by
  unfold x_State_countOf_L4 at h
  refine r_iload_n (pc := 4) C 3 rfl rfl dX6_countOf_4 ?_
  refine r_aload_n (pc := 5) C 0 rfl rfl dX6_countOf_5 ?_
  refine r_getR (pc := 6) C fl_RX6_48 (x_sI_State hth) (x_nI_State hth) x_kState_14 (x_rI_State_14 hth) dX6_countOf_6 ?_
  refine r_getI (pc := 9) C fl_RX6_79 x_s23 (by decide) x_kTown_2 dX6_countOf_9 ?_
  refine r_icmp_ge (pc := 12) (tgt := 34) C h dX6_countOf_12 (by decide) (fun hc12 h => ?_) (fun hc12 h => ?_)
  · refine r_sub (lv' := [(2, vI v2)]) [2] rfl ?_
    exact hfol _ _ (Option.some.inj h).symm
  · refine r_aload_n (pc := 15) C 0 rfl rfl dX6_countOf_15 ?_
    refine r_getR (pc := 16) C fl_RX6_21 (x_sI_State hth) (x_nI_State hth) x_kState_3 (x_rI_State_3 hth) dX6_countOf_16 ?_
    refine r_iload_n (pc := 19) C 3 rfl rfl dX6_countOf_19 ?_
    obtain ⟨hi20, h⟩ := chk_inv h
    refine r_iald (pc := 20) C (x_aI_State_3 hth) (x_bI_State_3 hth) (by decide) hi20 rfl dX6_countOf_20 ?_
    refine r_iload_n (pc := 21) C 1 rfl rfl dX6_countOf_21 ?_
    refine r_icmp_ne (pc := 22) (tgt := 28) C h dX6_countOf_22 (by decide) (fun hc22 h => ?_) (fun hc22 h => ?_)
    · obtain ⟨v3_28, hv3_28, h⟩ := lt_inv h
      refine r_iincN (pc := 28) (y := v3_28) (lv' := [(3, vI v3_28), (0, vR b th), (1, vI v1), (2, vI v2)]) C 3 rfl hv3_28 dX6_countOf_28 (by decide) rfl ?_
      refine r_goto (pc := 31) (tgt := 4) C dX6_countOf_31 (by decide) ?_
      refine r_sub (lv' := [(0, vR b th), (1, vI v1), (2, vI v2), (3, vI v3_28)]) [1, 2, 3, 0] rfl ?_
      exact hrec _ _ h
    · obtain ⟨v2_25, hv2_25, h⟩ := lt_inv h
      refine r_iincN (pc := 25) (y := v2_25) (lv' := [(2, vI v2_25), (0, vR b th), (1, vI v1), (3, vI v3)]) C 2 rfl hv2_25 dX6_countOf_25 (by decide) rfl ?_
      obtain ⟨v3_28, hv3_28, h⟩ := lt_inv h
      refine r_iincN (pc := 28) (y := v3_28) (lv' := [(3, vI v3_28), (2, vI v2_25), (0, vR b th), (1, vI v1)]) C 3 rfl hv3_28 dX6_countOf_28 (by decide) rfl ?_
      refine r_goto (pc := 31) (tgt := 4) C dX6_countOf_31 (by decide) ?_
      refine r_sub (lv' := [(0, vR b th), (1, vI v1), (2, vI v2_25), (3, vI v3_28)]) [2, 3, 1, 0] rfl ?_
      exact hrec _ _ h
set_option maxHeartbeats 4000000 in
theorem w_x_State_countOf_L4 (C : xCX σ p s m args meth c cX6_countOf 4 RX6 D E b) (hr : meth.sig.returnType = (some .int)) {r0 : Int} (th : Nat) (hth : th ∈ xI_State) {v1 : Int} {M : Mem} {q : Int × Int} (hfol : ∀ (v2 : Int) (v3 : Int), q = (v2, v3) → xWX p l e 1 12 s m args below meth c 4 D E b (some (vI r0)) M M 34 [(2, vI v2)] []) : ∀ (n : Nat) (v2 : Int) (v3 : Int), itr2 (x_State_countOf_L4 th v1 M) n v2 v3 = some q →
    xWX p l e 1 12 s m args below meth c 4 D E b (some (vI r0)) M M 4 [(0, vR b th), (1, vI v1), (2, vI v2), (3, vI v3)] [] := by
  intro n
  induction n with
  | zero => exact fun _ _ h => itr_z h
  | succ n ih => exact fun _ _ h => w_x_State_countOf_L4_s C hr th hth ih hfol h
set_option maxHeartbeats 4000000 in
set_option maxRecDepth 20000 in
theorem c_x_State_countOf (l : Launch) (th : Nat) (hth : th ∈ xI_State) {x1 : Int} {M : Mem} {r0 : Int} (h : x_State_countOf th x1 M = some r0) : Ct l yX6_countOf cX6_countOf 4 (some .int) 1 12 vwCl xSh xN xRf (xExt σ) (fun b => [vR b th, vI x1]) M (fun b => (some (vI r0))) M := by
  refine Ct_of (xExtOK σ) (by decide) (fun b => Nat.le_of_ble_eq_true rfl) ?_
  intro p e s m args below meth c D E b C hr
  unfold x_State_countOf at h
  refine (show xWX p l e 1 12 s m args below meth c 4 D E b (some (vI r0)) M M 0 [(0, vR b th), (1, vI x1)] [] from ?_)
  refine r_iconst (pc := 0) C dX6_countOf_0 ?_
  refine r_istore_n (pc := 1) (lv' := [(2, vI 0), (0, vR b th), (1, vI x1)]) C rfl dX6_countOf_1 (by decide) rfl ?_
  refine r_iconst (pc := 2) C dX6_countOf_2 ?_
  refine r_istore_n (pc := 3) (lv' := [(3, vI 0), (2, vI 0), (0, vR b th), (1, vI x1)]) C rfl dX6_countOf_3 (by decide) rfl ?_
  refine r_sub (lv' := [(0, vR b th), (1, vI x1), (2, vI 0), (3, vI 0)]) [2, 3, 1, 0] rfl ?_
  obtain ⟨q1, hl1, h⟩ := bnd_inv h
  refine w_x_State_countOf_L4 C hr th hth (fun v2_1 v3_1 hq => ?_) FUEL _ _ hl1
  have hq := hq.symm
  subst hq
  refine r_iload_n (pc := 34) C 0 rfl rfl dX6_countOf_34 ?_
  have e := Option.some.inj h
  exact r_iret (pc := 35) C hr (congrArg (fun z => some (vI z)) e.symm) rfl dX6_countOf_35
set_option maxHeartbeats 4000000 in
set_option maxRecDepth 20000 in
theorem c_x_State_busyCount (l : Launch) (th : Nat) (hth : th ∈ xI_State) {M : Mem} {r0 : Int} (h : x_State_busyCount th M = some r0) : Ct l yX6_busyCount cX6_busyCount 1 (some .int) 2 35 vwCl xSh xN xRf (xExt σ) (fun b => [vR b th]) M (fun b => (some (vI r0))) M := by
  refine Ct_of (xExtOK σ) (by decide) (fun b => Nat.le_of_ble_eq_true rfl) ?_
  intro p e s m args below meth c D E b C hr
  unfold x_State_busyCount at h
  refine (show xWX p l e 2 35 s m args below meth c 1 D E b (some (vI r0)) M M 0 [(0, vR b th)] [] from ?_)
  refine r_aload_n (pc := 0) C 0 rfl rfl dX6_busyCount_0 ?_
  refine r_iconst (pc := 1) C dX6_busyCount_1 ?_
  obtain ⟨r1, hq1, h⟩ := bnd_inv h
  refine r_callV (pc := 2) (rest := []) (st1 := [vI r1]) C (xExtOK σ b) [vI 2] (c_x_State_countOf l th hth hq1) cl_RX6_85 (x_sI_State hth) (x_nI_State hth) rfl rfl rfl rfl ⟨Nat.le_of_ble_eq_true rfl, Nat.le_of_ble_eq_true rfl⟩ (Nat.le_of_ble_eq_true rfl) rfl rfl dX6_busyCount_2 ?_
  have e := Option.some.inj h
  exact r_iret (pc := 5) C hr (congrArg (fun z => some (vI z)) e.symm) rfl dX6_busyCount_5
set_option maxHeartbeats 4000000 in
set_option maxRecDepth 20000 in
theorem w_x_State_struckCount_L4_s (C : xCX σ p s m args meth c cX6_struckCount 3 RX6 D E b) (hr : meth.sig.returnType = (some .int)) {r0 : Int} (th : Nat) (hth : th ∈ xI_State) {M : Mem} {v1 : Int} {v2 : Int} {q : Int × Int} {rec : Int → Int → Option (Int × Int)} (hrec : ∀ (v1 : Int) (v2 : Int), rec v1 v2 = some q → xWX p l e 1 12 s m args below meth c 3 D E b (some (vI r0)) M M 4 [(0, vR b th), (1, vI v1), (2, vI v2)] []) (hfol : ∀ (v1 : Int) (v2 : Int), q = (v1, v2) → xWX p l e 1 12 s m args below meth c 3 D E b (some (vI r0)) M M 33 [(1, vI v1)] []) (h : x_State_struckCount_L4 th M rec v1 v2 = some q) :
    xWX p l e 1 12 s m args below meth c 3 D E b (some (vI r0)) M M 4 [(0, vR b th), (1, vI v1), (2, vI v2)] [] := by
  unfold x_State_struckCount_L4 at h
  refine r_iload_n (pc := 4) C 2 rfl rfl dX6_struckCount_4 ?_
  refine r_aload_n (pc := 5) C 0 rfl rfl dX6_struckCount_5 ?_
  refine r_getR (pc := 6) C fl_RX6_48 (x_sI_State hth) (x_nI_State hth) x_kState_14 (x_rI_State_14 hth) dX6_struckCount_6 ?_
  refine r_getI (pc := 9) C fl_RX6_82 x_s23 (by decide) x_kTown_0 dX6_struckCount_9 ?_
  refine r_icmp_ge (pc := 12) (tgt := 33) C h dX6_struckCount_12 (by decide) (fun hc12 h => ?_) (fun hc12 h => ?_)
  · refine r_sub (lv' := [(1, vI v1)]) [1] rfl ?_
    exact hfol _ _ (Option.some.inj h).symm
  · refine r_aload_n (pc := 15) C 0 rfl rfl dX6_struckCount_15 ?_
    refine r_getR (pc := 16) C fl_RX6_15 (x_sI_State hth) (x_nI_State hth) x_kState_1 (x_rI_State_1 hth) dX6_struckCount_16 ?_
    refine r_iload_n (pc := 19) C 2 rfl rfl dX6_struckCount_19 ?_
    obtain ⟨hi20, h⟩ := chk_inv h
    refine r_iald (pc := 20) C (x_aI_State_1 hth) (x_bI_State_1 hth) (by decide) hi20 rfl dX6_struckCount_20 ?_
    refine r_if_eq (pc := 21) (tgt := 27) C h dX6_struckCount_21 (by decide) (fun hc21 h => ?_) (fun hc21 h => ?_)
    · obtain ⟨v2_27, hv2_27, h⟩ := lt_inv h
      refine r_iincN (pc := 27) (y := v2_27) (lv' := [(2, vI v2_27), (0, vR b th), (1, vI v1)]) C 2 rfl hv2_27 dX6_struckCount_27 (by decide) rfl ?_
      refine r_goto (pc := 30) (tgt := 4) C dX6_struckCount_30 (by decide) ?_
      refine r_sub (lv' := [(0, vR b th), (1, vI v1), (2, vI v2_27)]) [1, 2, 0] rfl ?_
      exact hrec _ _ h
    · obtain ⟨v1_24, hv1_24, h⟩ := lt_inv h
      refine r_iincN (pc := 24) (y := v1_24) (lv' := [(1, vI v1_24), (0, vR b th), (2, vI v2)]) C 1 rfl hv1_24 dX6_struckCount_24 (by decide) rfl ?_
      obtain ⟨v2_27, hv2_27, h⟩ := lt_inv h
      refine r_iincN (pc := 27) (y := v2_27) (lv' := [(2, vI v2_27), (1, vI v1_24), (0, vR b th)]) C 2 rfl hv2_27 dX6_struckCount_27 (by decide) rfl ?_
      refine r_goto (pc := 30) (tgt := 4) C dX6_struckCount_30 (by decide) ?_
      refine r_sub (lv' := [(0, vR b th), (1, vI v1_24), (2, vI v2_27)]) [2, 1, 0] rfl ?_
      exact hrec _ _ h
set_option maxHeartbeats 4000000 in
theorem w_x_State_struckCount_L4 (C : xCX σ p s m args meth c cX6_struckCount 3 RX6 D E b) (hr : meth.sig.returnType = (some .int)) {r0 : Int} (th : Nat) (hth : th ∈ xI_State) {M : Mem} {q : Int × Int} (hfol : ∀ (v1 : Int) (v2 : Int), q = (v1, v2) → xWX p l e 1 12 s m args below meth c 3 D E b (some (vI r0)) M M 33 [(1, vI v1)] []) : ∀ (n : Nat) (v1 : Int) (v2 : Int), itr2 (x_State_struckCount_L4 th M) n v1 v2 = some q →
    xWX p l e 1 12 s m args below meth c 3 D E b (some (vI r0)) M M 4 [(0, vR b th), (1, vI v1), (2, vI v2)] [] := by
  intro n
  induction n with
  | zero => exact fun _ _ h => itr_z h
  | succ n ih => exact fun _ _ h => w_x_State_struckCount_L4_s C hr th hth ih hfol h
set_option maxHeartbeats 4000000 in
set_option maxRecDepth 20000 in
theorem c_x_State_struckCount (l : Launch) (th : Nat) (hth : th ∈ xI_State) {M : Mem} {r0 : Int} (h : x_State_struckCount th M = some r0) : Ct l yX6_struckCount cX6_struckCount 3 (some .int) 1 12 vwCl xSh xN xRf (xExt σ) (fun b => [vR b th]) M (fun b => (some (vI r0))) M := by
  refine Ct_of (xExtOK σ) (by decide) (fun b => Nat.le_of_ble_eq_true rfl) ?_
  intro p e s m args below meth c D E b C hr
  unfold x_State_struckCount at h
  refine (show xWX p l e 1 12 s m args below meth c 3 D E b (some (vI r0)) M M 0 [(0, vR b th)] [] from ?_)
  refine r_iconst (pc := 0) C dX6_struckCount_0 ?_
  refine r_istore_n (pc := 1) (lv' := [(1, vI 0), (0, vR b th)]) C rfl dX6_struckCount_1 (by decide) rfl ?_
  refine r_iconst (pc := 2) C dX6_struckCount_2 ?_
  refine r_istore_n (pc := 3) (lv' := [(2, vI 0), (1, vI 0), (0, vR b th)]) C rfl dX6_struckCount_3 (by decide) rfl ?_
  refine r_sub (lv' := [(0, vR b th), (1, vI 0), (2, vI 0)]) [2, 1, 0] rfl ?_
  obtain ⟨q1, hl1, h⟩ := bnd_inv h
  refine w_x_State_struckCount_L4 C hr th hth (fun v1_1 v2_1 hq => ?_) FUEL _ _ hl1
  have hq := hq.symm
  subst hq
  refine r_iload_n (pc := 33) C 0 rfl rfl dX6_struckCount_33 ?_
  have e := Option.some.inj h
  exact r_iret (pc := 34) C hr (congrArg (fun z => some (vI z)) e.symm) rfl dX6_struckCount_34
set_option maxHeartbeats 4000000 in
set_option maxRecDepth 20000 in
theorem c_x_X_has (l : Launch) {x1 : Int} {M : Mem} {r0 : Int} (h : x_X_has x1 M = some r0) : Ct l yX11_has cX11_has 2 (some .int) 3 55 vwCl xSh xN xRf (xExt σ) (fun b => [vR b 0, vI x1]) M (fun b => (some (vI r0))) M := by
  refine Ct_of (xExtOK σ) (by decide) (fun b => Nat.le_of_ble_eq_true rfl) ?_
  intro p e s m args below meth c D E b C hr
  unfold x_X_has at h
  refine (show xWX p l e 3 55 s m args below meth c 2 D E b (some (vI r0)) M M 0 [(0, vR b 0), (1, vI x1)] [] from ?_)
  refine r_iload_n (pc := 0) C 1 rfl rfl dX11_has_0 ?_
  refine ite_split h (fun hc1_0 h => ?_) (fun hn1_0 h => ?_)
  · refine r_tabI (pc := 1) (tgt := 80) C hc1_0 (by decide) (by decide) rfl dX11_has_1 (by decide) ?_
    refine r_aload_n (pc := 80) C 0 rfl rfl dX11_has_80 ?_
    refine r_getR (pc := 81) C fl_RX11_26 x_s0 (by decide) x_kX_2 x_r0_2 dX11_has_81 ?_
    refine r_getI (pc := 84) C fl_RX11_120 x_s23 (by decide) x_kTown_0 dX11_has_84 ?_
    have e := Option.some.inj h
    exact r_iret (pc := 87) C hr (congrArg (fun z => some (vI z)) e.symm) rfl dX11_has_87
  refine ite_split h (fun hc1_1 h => ?_) (fun hn1_1 h => ?_)
  · refine r_tabI (pc := 1) (tgt := 88) C hc1_1 (by decide) (by decide) rfl dX11_has_1 (by decide) ?_
    refine r_aload_n (pc := 88) C 0 rfl rfl dX11_has_88 ?_
    refine r_getR (pc := 89) C fl_RX11_26 x_s0 (by decide) x_kX_2 x_r0_2 dX11_has_89 ?_
    refine r_getI (pc := 92) C fl_RX11_123 x_s23 (by decide) x_kTown_1 dX11_has_92 ?_
    have e := Option.some.inj h
    exact r_iret (pc := 95) C hr (congrArg (fun z => some (vI z)) e.symm) rfl dX11_has_95
  refine ite_split h (fun hc1_2 h => ?_) (fun hn1_2 h => ?_)
  · refine r_tabI (pc := 1) (tgt := 96) C hc1_2 (by decide) (by decide) rfl dX11_has_1 (by decide) ?_
    refine r_aload_n (pc := 96) C 0 rfl rfl dX11_has_96 ?_
    refine r_getR (pc := 97) C fl_RX11_26 x_s0 (by decide) x_kX_2 x_r0_2 dX11_has_97 ?_
    refine r_getI (pc := 100) C fl_RX11_126 x_s23 (by decide) x_kTown_2 dX11_has_100 ?_
    have e := Option.some.inj h
    exact r_iret (pc := 103) C hr (congrArg (fun z => some (vI z)) e.symm) rfl dX11_has_103
  refine ite_split h (fun hc1_3 h => ?_) (fun hn1_3 h => ?_)
  · refine r_tabI (pc := 1) (tgt := 104) C hc1_3 (by decide) (by decide) rfl dX11_has_1 (by decide) ?_
    refine r_aload_n (pc := 104) C 0 rfl rfl dX11_has_104 ?_
    refine r_getR (pc := 105) C fl_RX11_35 x_s0 (by decide) x_kX_3 x_r0_3 dX11_has_105 ?_
    refine r_getI (pc := 108) C fl_RX11_129 x_s38 (by decide) x_kState_13 dX11_has_108 ?_
    have e := Option.some.inj h
    exact r_iret (pc := 111) C hr (congrArg (fun z => some (vI z)) e.symm) rfl dX11_has_111
  refine ite_split h (fun hc1_4 h => ?_) (fun hn1_4 h => ?_)
  · refine r_tabI (pc := 1) (tgt := 112) C hc1_4 (by decide) (by decide) rfl dX11_has_1 (by decide) ?_
    refine r_aload_n (pc := 112) C 0 rfl rfl dX11_has_112 ?_
    refine r_getR (pc := 113) C fl_RX11_35 x_s0 (by decide) x_kX_3 x_r0_3 dX11_has_113 ?_
    obtain ⟨r1, hq1, h⟩ := bnd_inv h
    refine r_callV (pc := 116) (rest := []) (st1 := [vI r1]) C (xExtOK σ b) [] (c_x_State_struckCount l 38 x_m38 hq1) cl_RX11_132 x_s38 (by decide) rfl rfl rfl rfl ⟨Nat.le_of_ble_eq_true rfl, Nat.le_of_ble_eq_true rfl⟩ (Nat.le_of_ble_eq_true rfl) rfl rfl dX11_has_116 ?_
    have e := Option.some.inj h
    exact r_iret (pc := 119) C hr (congrArg (fun z => some (vI z)) e.symm) rfl dX11_has_119
  refine ite_split h (fun hc1_5 h => ?_) (fun hn1_5 h => ?_)
  · refine r_tabI (pc := 1) (tgt := 120) C hc1_5 (by decide) (by decide) rfl dX11_has_1 (by decide) ?_
    refine r_aload_n (pc := 120) C 0 rfl rfl dX11_has_120 ?_
    refine r_getR (pc := 121) C fl_RX11_35 x_s0 (by decide) x_kX_3 x_r0_3 dX11_has_121 ?_
    obtain ⟨r2, hq2, h⟩ := bnd_inv h
    refine r_callV (pc := 124) (rest := []) (st1 := [vI r2]) C (xExtOK σ b) [] (c_x_State_busyCount l 38 x_m38 hq2) cl_RX11_136 x_s38 (by decide) rfl rfl rfl rfl ⟨Nat.le_of_ble_eq_true rfl, Nat.le_of_ble_eq_true rfl⟩ (Nat.le_of_ble_eq_true rfl) rfl rfl dX11_has_124 ?_
    have e := Option.some.inj h
    exact r_iret (pc := 127) C hr (congrArg (fun z => some (vI z)) e.symm) rfl dX11_has_127
  refine ite_split h (fun hc1_6 h => ?_) (fun hn1_6 h => ?_)
  · refine r_tabI (pc := 1) (tgt := 128) C hc1_6 (by decide) (by decide) rfl dX11_has_1 (by decide) ?_
    refine r_aload_n (pc := 128) C 0 rfl rfl dX11_has_128 ?_
    refine r_getR (pc := 129) C fl_RX11_35 x_s0 (by decide) x_kX_3 x_r0_3 dX11_has_129 ?_
    refine r_iconst (pc := 132) C dX11_has_132 ?_
    obtain ⟨r3, hq3, h⟩ := bnd_inv h
    refine r_callV (pc := 133) (rest := []) (st1 := [vI r3]) C (xExtOK σ b) [vI 0] (c_x_State_countOf l 38 x_m38 hq3) cl_RX11_139 x_s38 (by decide) rfl rfl rfl rfl ⟨Nat.le_of_ble_eq_true rfl, Nat.le_of_ble_eq_true rfl⟩ (Nat.le_of_ble_eq_true rfl) rfl rfl dX11_has_133 ?_
    have e := Option.some.inj h
    exact r_iret (pc := 136) C hr (congrArg (fun z => some (vI z)) e.symm) rfl dX11_has_136
  refine ite_split h (fun hc1_7 h => ?_) (fun hn1_7 h => ?_)
  · refine r_tabI (pc := 1) (tgt := 137) C hc1_7 (by decide) (by decide) rfl dX11_has_1 (by decide) ?_
    refine r_aload_n (pc := 137) C 0 rfl rfl dX11_has_137 ?_
    refine r_getR (pc := 138) C fl_RX11_35 x_s0 (by decide) x_kX_3 x_r0_3 dX11_has_138 ?_
    refine r_iconst (pc := 141) C dX11_has_141 ?_
    obtain ⟨r4, hq4, h⟩ := bnd_inv h
    refine r_callV (pc := 142) (rest := []) (st1 := [vI r4]) C (xExtOK σ b) [vI 1] (c_x_State_countOf l 38 x_m38 hq4) cl_RX11_139 x_s38 (by decide) rfl rfl rfl rfl ⟨Nat.le_of_ble_eq_true rfl, Nat.le_of_ble_eq_true rfl⟩ (Nat.le_of_ble_eq_true rfl) rfl rfl dX11_has_142 ?_
    have e := Option.some.inj h
    exact r_iret (pc := 145) C hr (congrArg (fun z => some (vI z)) e.symm) rfl dX11_has_145
  refine ite_split h (fun hc1_8 h => ?_) (fun hn1_8 h => ?_)
  · refine r_tabI (pc := 1) (tgt := 146) C hc1_8 (by decide) (by decide) rfl dX11_has_1 (by decide) ?_
    refine r_aload_n (pc := 146) C 0 rfl rfl dX11_has_146 ?_
    refine r_getR (pc := 147) C fl_RX11_35 x_s0 (by decide) x_kX_3 x_r0_3 dX11_has_147 ?_
    refine r_iconst (pc := 150) C dX11_has_150 ?_
    obtain ⟨r5, hq5, h⟩ := bnd_inv h
    refine r_callV (pc := 151) (rest := []) (st1 := [vI r5]) C (xExtOK σ b) [vI 2] (c_x_State_countOf l 38 x_m38 hq5) cl_RX11_139 x_s38 (by decide) rfl rfl rfl rfl ⟨Nat.le_of_ble_eq_true rfl, Nat.le_of_ble_eq_true rfl⟩ (Nat.le_of_ble_eq_true rfl) rfl rfl dX11_has_151 ?_
    have e := Option.some.inj h
    exact r_iret (pc := 154) C hr (congrArg (fun z => some (vI z)) e.symm) rfl dX11_has_154
  refine ite_split h (fun hc1_9 h => ?_) (fun hn1_9 h => ?_)
  · refine r_tabI (pc := 1) (tgt := 155) C hc1_9 (by decide) (by decide) rfl dX11_has_1 (by decide) ?_
    refine r_aload_n (pc := 155) C 0 rfl rfl dX11_has_155 ?_
    refine r_getR (pc := 156) C fl_RX11_35 x_s0 (by decide) x_kX_3 x_r0_3 dX11_has_156 ?_
    refine r_iconst (pc := 159) C dX11_has_159 ?_
    obtain ⟨r6, hq6, h⟩ := bnd_inv h
    refine r_callV (pc := 160) (rest := []) (st1 := [vI r6]) C (xExtOK σ b) [vI 3] (c_x_State_countOf l 38 x_m38 hq6) cl_RX11_139 x_s38 (by decide) rfl rfl rfl rfl ⟨Nat.le_of_ble_eq_true rfl, Nat.le_of_ble_eq_true rfl⟩ (Nat.le_of_ble_eq_true rfl) rfl rfl dX11_has_160 ?_
    have e := Option.some.inj h
    exact r_iret (pc := 163) C hr (congrArg (fun z => some (vI z)) e.symm) rfl dX11_has_163
  refine ite_split h (fun hc1_10 h => ?_) (fun hn1_10 h => ?_)
  · refine r_tabI (pc := 1) (tgt := 164) C hc1_10 (by decide) (by decide) rfl dX11_has_1 (by decide) ?_
    refine r_aload_n (pc := 164) C 0 rfl rfl dX11_has_164 ?_
    refine r_getR (pc := 165) C fl_RX11_35 x_s0 (by decide) x_kX_3 x_r0_3 dX11_has_165 ?_
    refine r_iconst (pc := 168) C dX11_has_168 ?_
    obtain ⟨r7, hq7, h⟩ := bnd_inv h
    refine r_callV (pc := 169) (rest := []) (st1 := [vI r7]) C (xExtOK σ b) [vI 4] (c_x_State_countOf l 38 x_m38 hq7) cl_RX11_139 x_s38 (by decide) rfl rfl rfl rfl ⟨Nat.le_of_ble_eq_true rfl, Nat.le_of_ble_eq_true rfl⟩ (Nat.le_of_ble_eq_true rfl) rfl rfl dX11_has_169 ?_
    have e := Option.some.inj h
    exact r_iret (pc := 172) C hr (congrArg (fun z => some (vI z)) e.symm) rfl dX11_has_172
  refine ite_split h (fun hc1_11 h => ?_) (fun hn1_11 h => ?_)
  · refine r_tabI (pc := 1) (tgt := 173) C hc1_11 (by decide) (by decide) rfl dX11_has_1 (by decide) ?_
    refine r_aload_n (pc := 173) C 0 rfl rfl dX11_has_173 ?_
    refine r_getR (pc := 174) C fl_RX11_35 x_s0 (by decide) x_kX_3 x_r0_3 dX11_has_174 ?_
    refine r_iconst (pc := 177) C dX11_has_177 ?_
    obtain ⟨r8, hq8, h⟩ := bnd_inv h
    refine r_callV (pc := 178) (rest := []) (st1 := [vI r8]) C (xExtOK σ b) [vI 5] (c_x_State_countOf l 38 x_m38 hq8) cl_RX11_139 x_s38 (by decide) rfl rfl rfl rfl ⟨Nat.le_of_ble_eq_true rfl, Nat.le_of_ble_eq_true rfl⟩ (Nat.le_of_ble_eq_true rfl) rfl rfl dX11_has_178 ?_
    have e := Option.some.inj h
    exact r_iret (pc := 181) C hr (congrArg (fun z => some (vI z)) e.symm) rfl dX11_has_181
  refine ite_split h (fun hc1_12 h => ?_) (fun hn1_12 h => ?_)
  · refine r_tabI (pc := 1) (tgt := 182) C hc1_12 (by decide) (by decide) rfl dX11_has_1 (by decide) ?_
    refine r_aload_n (pc := 182) C 0 rfl rfl dX11_has_182 ?_
    refine r_getR (pc := 183) C fl_RX11_35 x_s0 (by decide) x_kX_3 x_r0_3 dX11_has_183 ?_
    refine r_getI (pc := 186) C fl_RX11_142 x_s38 (by decide) x_kState_12 dX11_has_186 ?_
    have e := Option.some.inj h
    exact r_iret (pc := 189) C hr (congrArg (fun z => some (vI z)) e.symm) rfl dX11_has_189
  refine ite_split h (fun hc1_13 h => ?_) (fun hn1_13 h => ?_)
  · refine r_tabI (pc := 1) (tgt := 190) C hc1_13 (by decide) (by decide) rfl dX11_has_1 (by decide) ?_
    refine r_aload_n (pc := 190) C 0 rfl rfl dX11_has_190 ?_
    refine r_getR (pc := 191) C fl_RX11_63 x_s0 (by decide) x_kX_7 x_r0_7 dX11_has_191 ?_
    refine r_getI (pc := 194) C fl_RX11_145 x_s354 (by decide) x_kHeard_0 dX11_has_194 ?_
    have e := Option.some.inj h
    exact r_iret (pc := 197) C hr (congrArg (fun z => some (vI z)) e.symm) rfl dX11_has_197
  refine ite_split h (fun hc1_14 h => ?_) (fun hn1_14 h => ?_)
  · refine r_tabI (pc := 1) (tgt := 198) C hc1_14 (by decide) (by decide) rfl dX11_has_1 (by decide) ?_
    refine r_aload_n (pc := 198) C 0 rfl rfl dX11_has_198 ?_
    refine r_getR (pc := 199) C fl_RX11_45 x_s0 (by decide) x_kX_5 x_r0_5 dX11_has_199 ?_
    refine r_getI (pc := 202) C fl_RX11_148 x_s64 (by decide) x_kPast_0 dX11_has_202 ?_
    have e := Option.some.inj h
    exact r_iret (pc := 205) C hr (congrArg (fun z => some (vI z)) e.symm) rfl dX11_has_205
  refine ite_split h (fun hc1_15 h => ?_) (fun hn1_15 h => ?_)
  · refine r_tabI (pc := 1) (tgt := 206) C hc1_15 (by decide) (by decide) rfl dX11_has_1 (by decide) ?_
    refine r_aload_n (pc := 206) C 0 rfl rfl dX11_has_206 ?_
    refine r_getI (pc := 207) C fl_RX11_78 x_s0 (by decide) x_kX_10 dX11_has_207 ?_
    have e := Option.some.inj h
    exact r_iret (pc := 210) C hr (congrArg (fun z => some (vI z)) e.symm) rfl dX11_has_210
  refine r_tabO (pc := 1) (tgt := 211) C (by have hx := w32_rng x1; omega) dX11_has_1 (by decide) ?_
  refine r_iconst (pc := 211) C dX11_has_211 ?_
  have e := Option.some.inj h
  exact r_iret (pc := 212) C hr (congrArg (fun z => some (vI z)) e.symm) rfl dX11_has_212
set_option maxHeartbeats 4000000 in
set_option maxRecDepth 20000 in
theorem c_x_X_isPerson (l : Launch) {x1 : Int} {M : Mem} {r0 : Bool} (h : x_X_isPerson x1 M = some r0) : Ct l yX11_isPerson cX11_isPerson 2 (some .boolean) 1 12 vwCl xSh xN xRf (xExt σ) (fun b => [vR b 0, vI x1]) M (fun b => (some (vB r0))) M := by
  refine Ct_of (xExtOK σ) (by decide) (fun b => Nat.le_of_ble_eq_true rfl) ?_
  intro p e s m args below meth c D E b C hr
  unfold x_X_isPerson at h
  refine (show xWX p l e 1 12 s m args below meth c 2 D E b (some (vB r0)) M M 0 [(0, vR b 0), (1, vI x1)] [] from ?_)
  refine r_iload_n (pc := 0) C 1 rfl rfl dX11_isPerson_0 ?_
  refine r_if_lt (pc := 1) (tgt := 19) C h dX11_isPerson_1 (by decide) (fun hc1 h => ?_) (fun hc1 h => ?_)
  · refine r_iconst (pc := 19) C dX11_isPerson_19 ?_
    have e := Option.some.inj h
    exact r_zret (pc := 20) C hr (Or.inl rfl) (congrArg (fun z => some (vB z)) e.symm) rfl dX11_isPerson_20
  · refine r_iload_n (pc := 4) C 1 rfl rfl dX11_isPerson_4 ?_
    refine r_aload_n (pc := 5) C 0 rfl rfl dX11_isPerson_5 ?_
    refine r_getR (pc := 6) C fl_RX11_26 x_s0 (by decide) x_kX_2 x_r0_2 dX11_isPerson_6 ?_
    refine r_getI (pc := 9) C fl_RX11_123 x_s23 (by decide) x_kTown_1 dX11_isPerson_9 ?_
    refine r_icmp_ge (pc := 12) (tgt := 19) C h dX11_isPerson_12 (by decide) (fun hc12 h => ?_) (fun hc12 h => ?_)
    · refine r_iconst (pc := 19) C dX11_isPerson_19 ?_
      have e := Option.some.inj h
      exact r_zret (pc := 20) C hr (Or.inl rfl) (congrArg (fun z => some (vB z)) e.symm) rfl dX11_isPerson_20
    · refine r_iconst (pc := 15) C dX11_isPerson_15 ?_
      refine r_goto (pc := 16) (tgt := 20) C dX11_isPerson_16 (by decide) ?_
      have e := Option.some.inj h
      exact r_zret (pc := 20) C hr (Or.inr rfl) (congrArg (fun z => some (vB z)) e.symm) rfl dX11_isPerson_20
set_option maxHeartbeats 4000000 in
set_option maxRecDepth 20000 in
theorem c_x_X_isVoice (l : Launch) {x1 : Int} {M : Mem} {r0 : Bool} (h : x_X_isVoice x1 M = some r0) : Ct l yX11_isVoice cX11_isVoice 2 (some .boolean) 1 12 vwCl xSh xN xRf (xExt σ) (fun b => [vR b 0, vI x1]) M (fun b => (some (vB r0))) M := by
  refine Ct_of (xExtOK σ) (by decide) (fun b => Nat.le_of_ble_eq_true rfl) ?_
  intro p e s m args below meth c D E b C hr
  unfold x_X_isVoice at h
  refine (show xWX p l e 1 12 s m args below meth c 2 D E b (some (vB r0)) M M 0 [(0, vR b 0), (1, vI x1)] [] from ?_)
  refine r_iload_n (pc := 0) C 1 rfl rfl dX11_isVoice_0 ?_
  refine r_if_lt (pc := 1) (tgt := 19) C h dX11_isVoice_1 (by decide) (fun hc1 h => ?_) (fun hc1 h => ?_)
  · refine r_iconst (pc := 19) C dX11_isVoice_19 ?_
    have e := Option.some.inj h
    exact r_zret (pc := 20) C hr (Or.inl rfl) (congrArg (fun z => some (vB z)) e.symm) rfl dX11_isVoice_20
  · refine r_iload_n (pc := 4) C 1 rfl rfl dX11_isVoice_4 ?_
    refine r_aload_n (pc := 5) C 0 rfl rfl dX11_isVoice_5 ?_
    refine r_getR (pc := 6) C fl_RX11_26 x_s0 (by decide) x_kX_2 x_r0_2 dX11_isVoice_6 ?_
    refine r_getI (pc := 9) C fl_RX11_120 x_s23 (by decide) x_kTown_0 dX11_isVoice_9 ?_
    refine r_icmp_ge (pc := 12) (tgt := 19) C h dX11_isVoice_12 (by decide) (fun hc12 h => ?_) (fun hc12 h => ?_)
    · refine r_iconst (pc := 19) C dX11_isVoice_19 ?_
      have e := Option.some.inj h
      exact r_zret (pc := 20) C hr (Or.inl rfl) (congrArg (fun z => some (vB z)) e.symm) rfl dX11_isVoice_20
    · refine r_iconst (pc := 15) C dX11_isVoice_15 ?_
      refine r_goto (pc := 16) (tgt := 20) C dX11_isVoice_16 (by decide) ?_
      have e := Option.some.inj h
      exact r_zret (pc := 20) C hr (Or.inr rfl) (congrArg (fun z => some (vB z)) e.symm) rfl dX11_isVoice_20
set_option maxHeartbeats 4000000 in
set_option maxRecDepth 20000 in
theorem c_x_Word_letterOf (l : Launch) {x0 : Int} {x1 : Int} {M : Mem} {r0 : Int} (h : x_Word_letterOf x0 x1 = some r0) : Ct l yX10_letterOf cX10_letterOf 2 (some .int) 1 12 vwCl xSh xN xRf (xExt σ) (fun b => [vI x0, vI x1]) M (fun b => (some (vI r0))) M := by
  refine Ct_of (xExtOK σ) (by decide) (fun b => Nat.le_of_ble_eq_true rfl) ?_
  intro p e s m args below meth c D E b C hr
  unfold x_Word_letterOf at h
  refine (show xWX p l e 1 12 s m args below meth c 2 D E b (some (vI r0)) M M 0 [(0, vI x0), (1, vI x1)] [] from ?_)
  refine r_iload_n (pc := 0) C 0 rfl rfl dX10_letterOf_0 ?_
  refine r_iconst (pc := 1) C dX10_letterOf_1 ?_
  refine r_iload_n (pc := 2) C 1 rfl rfl dX10_letterOf_2 ?_
  refine r_imul (pc := 3) C dX10_letterOf_3 ?_
  refine r_ishr (pc := 4) C dX10_letterOf_4 ?_
  refine r_bipush (pc := 5) (j := 31) C (by decide +kernel) dX10_letterOf_5 ?_
  refine r_iand (pc := 7) C dX10_letterOf_7 ?_
  have e := Option.some.inj h
  exact r_iret (pc := 8) C hr (congrArg (fun z => some (vI z)) e.symm) rfl dX10_letterOf_8
set_option maxHeartbeats 4000000 in
set_option maxRecDepth 20000 in
theorem w_x_X_letter_B38 (C : xCX σ p s m args meth c cX11_letter 4 RX11 D E b) (hr : meth.sig.returnType = (some .int)) {r0 : Int} {M : Mem} {v1 : Int} {v2 : Int} {v3 : Int} (h : x_X_letter_B38 v1 v2 v3 M = some r0) :
    xWX p l e 2 33 s m args below meth c 4 D E b (some (vI r0)) M M 38 [(0, vR b 0), (1, vI v1), (2, vI v2), (3, vI v3)] [] := by
  unfold x_X_letter_B38 at h
  refine r_iload_n (pc := 38) C 1 rfl rfl dX11_letter_38 ?_
  refine r_iconst (pc := 39) C dX11_letter_39 ?_
  refine r_icmp_ne (pc := 40) (tgt := 65) C h dX11_letter_40 (by decide) (fun hc40 h => ?_) (fun hc40 h => ?_)
  · refine r_iconst (pc := 65) C dX11_letter_65 ?_
    have e := Option.some.inj h
    exact r_iret (pc := 66) C hr (congrArg (fun z => some (vI z)) e.symm) rfl dX11_letter_66
  · refine r_aload_n (pc := 43) C 0 rfl rfl dX11_letter_43 ?_
    refine r_iload_n (pc := 44) C 2 rfl rfl dX11_letter_44 ?_
    obtain ⟨r1, hq1, h⟩ := bnd_inv h
    refine r_callV (pc := 45) (rest := []) (st1 := [vB r1]) C (xExtOK σ b) [vI v2] (c_x_X_isPerson l hq1) cl_RX11_161 x_s0 (by decide) rfl rfl rfl rfl ⟨Nat.le_of_ble_eq_true rfl, Nat.le_of_ble_eq_true rfl⟩ (Nat.le_of_ble_eq_true rfl) rfl rfl dX11_letter_45 ?_
    refine r_if_eqB (pc := 48) (tgt := 65) C h dX11_letter_48 (by decide) (fun hc48 h => ?_) (fun hc48 h => ?_)
    · refine r_aload_n (pc := 51) C 0 rfl rfl dX11_letter_51 ?_
      refine r_getR (pc := 52) C fl_RX11_26 x_s0 (by decide) x_kX_2 x_r0_2 dX11_letter_52 ?_
      refine r_getR (pc := 55) C fl_RX11_164 x_s23 (by decide) x_kTown_6 x_r23_6 dX11_letter_55 ?_
      refine r_iload_n (pc := 58) C 2 rfl rfl dX11_letter_58 ?_
      obtain ⟨hi59, h⟩ := chk_inv h
      refine r_iald (pc := 59) C x_s26 (by decide) (by decide) hi59 rfl dX11_letter_59 ?_
      refine r_iload_n (pc := 60) C 3 rfl rfl dX11_letter_60 ?_
      obtain ⟨r2, hq2, h⟩ := bnd_inv h
      refine r_callS (pc := 61) (rest := []) (st1 := [vI r2]) C (xExtOK σ b) [vI (M 26 v2.toNat), vI v3] (c_x_Word_letterOf l hq2) cl_RX11_155 rfl rfl ⟨Nat.le_of_ble_eq_true rfl, Nat.le_of_ble_eq_true rfl⟩ (Nat.le_of_ble_eq_true rfl) rfl rfl dX11_letter_61 ?_
      have e := Option.some.inj h
      exact r_iret (pc := 64) C hr (congrArg (fun z => some (vI z)) e.symm) rfl dX11_letter_64
    · refine r_iconst (pc := 65) C dX11_letter_65 ?_
      have e := Option.some.inj h
      exact r_iret (pc := 66) C hr (congrArg (fun z => some (vI z)) e.symm) rfl dX11_letter_66
set_option maxHeartbeats 4000000 in
set_option maxRecDepth 20000 in
theorem c_x_X_letter (l : Launch) {x1 : Int} {x2 : Int} {x3 : Int} {M : Mem} {r0 : Int} (h : x_X_letter x1 x2 x3 M = some r0) : Ct l yX11_letter cX11_letter 4 (some .int) 2 33 vwCl xSh xN xRf (xExt σ) (fun b => [vR b 0, vI x1, vI x2, vI x3]) M (fun b => (some (vI r0))) M := by
  refine Ct_of (xExtOK σ) (by decide) (fun b => Nat.le_of_ble_eq_true rfl) ?_
  intro p e s m args below meth c D E b C hr
  unfold x_X_letter at h
  refine (show xWX p l e 2 33 s m args below meth c 4 D E b (some (vI r0)) M M 0 [(0, vR b 0), (1, vI x1), (2, vI x2), (3, vI x3)] [] from ?_)
  refine r_iload_n (pc := 0) C 3 rfl rfl dX11_letter_0 ?_
  refine r_if_lt (pc := 1) (tgt := 10) C h dX11_letter_1 (by decide) (fun hc1 h => ?_) (fun hc1 h => ?_)
  · refine r_iconst (pc := 10) C dX11_letter_10 ?_
    have e := Option.some.inj h
    exact r_iret (pc := 11) C hr (congrArg (fun z => some (vI z)) e.symm) rfl dX11_letter_11
  · refine r_iload_n (pc := 4) C 3 rfl rfl dX11_letter_4 ?_
    refine r_bipush (pc := 5) (j := 6) C (by decide +kernel) dX11_letter_5 ?_
    refine r_icmp_lt (pc := 7) (tgt := 12) C h dX11_letter_7 (by decide) (fun hc7 h => ?_) (fun hc7 h => ?_)
    · refine r_iload_n (pc := 12) C 1 rfl rfl dX11_letter_12 ?_
      refine r_if_ne (pc := 13) (tgt := 38) C h dX11_letter_13 (by decide) (fun hc13 h => ?_) (fun hc13 h => ?_)
      · refine r_sub (lv' := [(0, vR b 0), (1, vI x1), (2, vI x2), (3, vI x3)]) [0, 1, 2, 3] rfl ?_
        exact w_x_X_letter_B38 C hr h
      · refine r_aload_n (pc := 16) C 0 rfl rfl dX11_letter_16 ?_
        refine r_iload_n (pc := 17) C 2 rfl rfl dX11_letter_17 ?_
        obtain ⟨r3, hq3, h⟩ := bnd_inv h
        refine r_callV (pc := 18) (rest := []) (st1 := [vB r3]) C (xExtOK σ b) [vI x2] (c_x_X_isVoice l hq3) cl_RX11_149 x_s0 (by decide) rfl rfl rfl rfl ⟨Nat.le_of_ble_eq_true rfl, Nat.le_of_ble_eq_true rfl⟩ (Nat.le_of_ble_eq_true rfl) rfl rfl dX11_letter_18 ?_
        refine r_if_eqB (pc := 21) (tgt := 38) C h dX11_letter_21 (by decide) (fun hc21 h => ?_) (fun hc21 h => ?_)
        · refine r_aload_n (pc := 24) C 0 rfl rfl dX11_letter_24 ?_
          refine r_getR (pc := 25) C fl_RX11_26 x_s0 (by decide) x_kX_2 x_r0_2 dX11_letter_25 ?_
          refine r_getR (pc := 28) C fl_RX11_152 x_s23 (by decide) x_kTown_4 x_r23_4 dX11_letter_28 ?_
          refine r_iload_n (pc := 31) C 2 rfl rfl dX11_letter_31 ?_
          obtain ⟨hi32, h⟩ := chk_inv h
          refine r_iald (pc := 32) C x_s24 (by decide) (by decide) hi32 rfl dX11_letter_32 ?_
          refine r_iload_n (pc := 33) C 3 rfl rfl dX11_letter_33 ?_
          obtain ⟨r4, hq4, h⟩ := bnd_inv h
          refine r_callS (pc := 34) (rest := []) (st1 := [vI r4]) C (xExtOK σ b) [vI (M 24 x2.toNat), vI x3] (c_x_Word_letterOf l hq4) cl_RX11_155 rfl rfl ⟨Nat.le_of_ble_eq_true rfl, Nat.le_of_ble_eq_true rfl⟩ (Nat.le_of_ble_eq_true rfl) rfl rfl dX11_letter_34 ?_
          have e := Option.some.inj h
          exact r_iret (pc := 37) C hr (congrArg (fun z => some (vI z)) e.symm) rfl dX11_letter_37
        · refine r_sub (lv' := [(0, vR b 0), (1, vI x1), (2, vI x2), (3, vI x3)]) [0, 1, 2, 3] rfl ?_
          exact w_x_X_letter_B38 C hr h
    · refine r_iconst (pc := 10) C dX11_letter_10 ?_
      have e := Option.some.inj h
      exact r_iret (pc := 11) C hr (congrArg (fun z => some (vI z)) e.symm) rfl dX11_letter_11
set_option maxHeartbeats 4000000 in
set_option maxRecDepth 20000 in
theorem w_x_State_sayingBy_L2_s (C : xCX σ p s m args meth c cX6_sayingBy 3 RX6 D E b) (hr : meth.sig.returnType = (some .int)) {r0 : Int} (th : Nat) (hth : th ∈ xI_State) {v1 : Int} {M : Mem} {v2 : Int} {q : (Int) ⊕ (Int)} {rec : Int → Option ((Int) ⊕ (Int))} (hrec : ∀ (v2 : Int), rec v2 = some q → xWX p l e 1 12 s m args below meth c 3 D E b (some (vI r0)) M M 2 [(0, vR b th), (1, vI v1), (2, vI v2)] []) (hret : ∀ r, q = .inl r → r = r0) (hfol : ∀ (v2 : Int), q = .inr v2 → xWX p l e 1 12 s m args below meth c 3 D E b (some (vI r0)) M M 41 [] []) (h : x_State_sayingBy_L2 th v1 M rec v2 = some q) :
    xWX p l e 1 12 s m args below meth c 3 D E b (some (vI r0)) M M 2 [(0, vR b th), (1, vI v1), (2, vI v2)] [] := by
  unfold x_State_sayingBy_L2 at h
  refine r_iload_n (pc := 2) C 2 rfl rfl dX6_sayingBy_2 ?_
  refine r_aload_n (pc := 3) C 0 rfl rfl dX6_sayingBy_3 ?_
  refine r_getR (pc := 4) C fl_RX6_48 (x_sI_State hth) (x_nI_State hth) x_kState_14 (x_rI_State_14 hth) dX6_sayingBy_4 ?_
  refine r_getI (pc := 7) C fl_RX6_79 x_s23 (by decide) x_kTown_2 dX6_sayingBy_7 ?_
  refine r_icmp_ge (pc := 10) (tgt := 41) C h dX6_sayingBy_10 (by decide) (fun hc10 h => ?_) (fun hc10 h => ?_)
  · refine r_sub (lv' := []) [] rfl ?_
    exact hfol _ (Option.some.inj h).symm
  · refine r_aload_n (pc := 13) C 0 rfl rfl dX6_sayingBy_13 ?_
    refine r_getR (pc := 14) C fl_RX6_21 (x_sI_State hth) (x_nI_State hth) x_kState_3 (x_rI_State_3 hth) dX6_sayingBy_14 ?_
    refine r_iload_n (pc := 17) C 2 rfl rfl dX6_sayingBy_17 ?_
    obtain ⟨hi18, h⟩ := chk_inv h
    refine r_iald (pc := 18) C (x_aI_State_3 hth) (x_bI_State_3 hth) (by decide) hi18 rfl dX6_sayingBy_18 ?_
    refine r_iconst (pc := 19) C dX6_sayingBy_19 ?_
    refine r_icmp_ne (pc := 20) (tgt := 35) C h dX6_sayingBy_20 (by decide) (fun hc20 h => ?_) (fun hc20 h => ?_)
    · obtain ⟨v2_35, hv2_35, h⟩ := lt_inv h
      refine r_iincN (pc := 35) (y := v2_35) (lv' := [(2, vI v2_35), (0, vR b th), (1, vI v1)]) C 2 rfl hv2_35 dX6_sayingBy_35 (by decide) rfl ?_
      refine r_goto (pc := 38) (tgt := 2) C dX6_sayingBy_38 (by decide) ?_
      refine r_sub (lv' := [(0, vR b th), (1, vI v1), (2, vI v2_35)]) [1, 2, 0] rfl ?_
      exact hrec _ h
    · refine r_aload_n (pc := 23) C 0 rfl rfl dX6_sayingBy_23 ?_
      refine r_getR (pc := 24) C fl_RX6_30 (x_sI_State hth) (x_nI_State hth) x_kState_6 (x_rI_State_6 hth) dX6_sayingBy_24 ?_
      refine r_iload_n (pc := 27) C 2 rfl rfl dX6_sayingBy_27 ?_
      obtain ⟨hi28, h⟩ := chk_inv h
      refine r_iald (pc := 28) C (x_aI_State_6 hth) (x_bI_State_6 hth) (by decide) hi28 rfl dX6_sayingBy_28 ?_
      refine r_iload_n (pc := 29) C 1 rfl rfl dX6_sayingBy_29 ?_
      refine r_icmp_ne (pc := 30) (tgt := 35) C h dX6_sayingBy_30 (by decide) (fun hc30 h => ?_) (fun hc30 h => ?_)
      · obtain ⟨v2_35, hv2_35, h⟩ := lt_inv h
        refine r_iincN (pc := 35) (y := v2_35) (lv' := [(2, vI v2_35), (0, vR b th), (1, vI v1)]) C 2 rfl hv2_35 dX6_sayingBy_35 (by decide) rfl ?_
        refine r_goto (pc := 38) (tgt := 2) C dX6_sayingBy_38 (by decide) ?_
        refine r_sub (lv' := [(0, vR b th), (1, vI v1), (2, vI v2_35)]) [1, 2, 0] rfl ?_
        exact hrec _ h
      · refine r_iload_n (pc := 33) C 2 rfl rfl dX6_sayingBy_33 ?_
        have e := hret _ (Option.some.inj h).symm
        exact r_iret (pc := 34) C hr (congrArg (fun z => some (vI z)) e.symm) rfl dX6_sayingBy_34
set_option maxHeartbeats 4000000 in
theorem w_x_State_sayingBy_L2 (C : xCX σ p s m args meth c cX6_sayingBy 3 RX6 D E b) (hr : meth.sig.returnType = (some .int)) {r0 : Int} (th : Nat) (hth : th ∈ xI_State) {v1 : Int} {M : Mem} {q : (Int) ⊕ (Int)} (hret : ∀ r, q = .inl r → r = r0) (hfol : ∀ (v2 : Int), q = .inr v2 → xWX p l e 1 12 s m args below meth c 3 D E b (some (vI r0)) M M 41 [] []) : ∀ (n : Nat) (v2 : Int), itr1 (x_State_sayingBy_L2 th v1 M) n v2 = some q →
    xWX p l e 1 12 s m args below meth c 3 D E b (some (vI r0)) M M 2 [(0, vR b th), (1, vI v1), (2, vI v2)] [] := by
  intro n
  induction n with
  | zero => exact fun _ h => itr_z h
  | succ n ih => exact fun _ h => w_x_State_sayingBy_L2_s C hr th hth ih hret hfol h
set_option maxHeartbeats 4000000 in
set_option maxRecDepth 20000 in
theorem c_x_State_sayingBy (l : Launch) (th : Nat) (hth : th ∈ xI_State) {x1 : Int} {M : Mem} {r0 : Int} (h : x_State_sayingBy th x1 M = some r0) : Ct l yX6_sayingBy cX6_sayingBy 3 (some .int) 1 12 vwCl xSh xN xRf (xExt σ) (fun b => [vR b th, vI x1]) M (fun b => (some (vI r0))) M := by
  refine Ct_of (xExtOK σ) (by decide) (fun b => Nat.le_of_ble_eq_true rfl) ?_
  intro p e s m args below meth c D E b C hr
  unfold x_State_sayingBy at h
  refine (show xWX p l e 1 12 s m args below meth c 3 D E b (some (vI r0)) M M 0 [(0, vR b th), (1, vI x1)] [] from ?_)
  refine r_iconst (pc := 0) C dX6_sayingBy_0 ?_
  refine r_istore_n (pc := 1) (lv' := [(2, vI 0), (0, vR b th), (1, vI x1)]) C rfl dX6_sayingBy_1 (by decide) rfl ?_
  refine r_sub (lv' := [(0, vR b th), (1, vI x1), (2, vI 0)]) [1, 2, 0] rfl ?_
  obtain ⟨q1, hl1, h⟩ := bnd_inv h
  refine w_x_State_sayingBy_L2 C hr th hth (fun r hq => ?_) (fun v2_1 hq => ?_) FUEL _ hl1
  · have hq := hq.symm
    subst hq
    exact Option.some.inj h
  · have hq := hq.symm
    subst hq
    refine r_iconst (pc := 41) C dX6_sayingBy_41 ?_
    have e := Option.some.inj h
    exact r_iret (pc := 42) C hr (congrArg (fun z => some (vI z)) e.symm) rfl dX6_sayingBy_42
set_option maxHeartbeats 4000000 in
set_option maxRecDepth 20000 in
theorem c_x_X_voice (l : Launch) {x1 : Int} {x2 : Int} {M : Mem} {r0 : Int} (h : x_X_voice x1 x2 M = some r0) : Ct l yX11_voice cX11_voice 3 (some .int) 2 34 vwCl xSh xN xRf (xExt σ) (fun b => [vR b 0, vI x1, vI x2]) M (fun b => (some (vI r0))) M := by
  refine Ct_of (xExtOK σ) (by decide) (fun b => Nat.le_of_ble_eq_true rfl) ?_
  intro p e s m args below meth c D E b C hr
  unfold x_X_voice at h
  refine (show xWX p l e 2 34 s m args below meth c 3 D E b (some (vI r0)) M M 0 [(0, vR b 0), (1, vI x1), (2, vI x2)] [] from ?_)
  refine r_aload_n (pc := 0) C 0 rfl rfl dX11_voice_0 ?_
  refine r_iload_n (pc := 1) C 1 rfl rfl dX11_voice_1 ?_
  obtain ⟨r1, hq1, h⟩ := bnd_inv h
  refine r_callV (pc := 2) (rest := []) (st1 := [vB r1]) C (xExtOK σ b) [vI x1] (c_x_X_isVoice l hq1) cl_RX11_149 x_s0 (by decide) rfl rfl rfl rfl ⟨Nat.le_of_ble_eq_true rfl, Nat.le_of_ble_eq_true rfl⟩ (Nat.le_of_ble_eq_true rfl) rfl rfl dX11_voice_2 ?_
  refine r_if_neB (pc := 5) (tgt := 10) C h dX11_voice_5 (by decide) (fun hc5 h => ?_) (fun hc5 h => ?_)
  · refine r_iload_n (pc := 10) C 2 rfl rfl dX11_voice_10 ?_
    refine ite_split h (fun hc11_0 h => ?_) (fun hn11_0 h => ?_)
    · refine r_tabI (pc := 11) (tgt := 40) C hc11_0 (by decide) (by decide) rfl dX11_voice_11 (by decide) ?_
      refine r_aload_n (pc := 40) C 0 rfl rfl dX11_voice_40 ?_
      refine r_getR (pc := 41) C fl_RX11_35 x_s0 (by decide) x_kX_3 x_r0_3 dX11_voice_41 ?_
      refine r_getR (pc := 44) C fl_RX11_167 x_s38 (by decide) x_kState_0 x_r38_0 dX11_voice_44 ?_
      refine r_iload_n (pc := 47) C 1 rfl rfl dX11_voice_47 ?_
      obtain ⟨hi48, h⟩ := chk_inv h
      refine r_iald (pc := 48) C x_s39 (by decide) (by decide) hi48 rfl dX11_voice_48 ?_
      have e := Option.some.inj h
      exact r_iret (pc := 49) C hr (congrArg (fun z => some (vI z)) e.symm) rfl dX11_voice_49
    refine ite_split h (fun hc11_1 h => ?_) (fun hn11_1 h => ?_)
    · refine r_tabI (pc := 11) (tgt := 50) C hc11_1 (by decide) (by decide) rfl dX11_voice_11 (by decide) ?_
      refine r_aload_n (pc := 50) C 0 rfl rfl dX11_voice_50 ?_
      refine r_getR (pc := 51) C fl_RX11_35 x_s0 (by decide) x_kX_3 x_r0_3 dX11_voice_51 ?_
      refine r_getR (pc := 54) C fl_RX11_170 x_s38 (by decide) x_kState_1 x_r38_1 dX11_voice_54 ?_
      refine r_iload_n (pc := 57) C 1 rfl rfl dX11_voice_57 ?_
      obtain ⟨hi58, h⟩ := chk_inv h
      refine r_iald (pc := 58) C x_s40 (by decide) (by decide) hi58 rfl dX11_voice_58 ?_
      have e := Option.some.inj h
      exact r_iret (pc := 59) C hr (congrArg (fun z => some (vI z)) e.symm) rfl dX11_voice_59
    refine ite_split h (fun hc11_2 h => ?_) (fun hn11_2 h => ?_)
    · refine r_tabI (pc := 11) (tgt := 60) C hc11_2 (by decide) (by decide) rfl dX11_voice_11 (by decide) ?_
      refine r_aload_n (pc := 60) C 0 rfl rfl dX11_voice_60 ?_
      refine r_getR (pc := 61) C fl_RX11_35 x_s0 (by decide) x_kX_3 x_r0_3 dX11_voice_61 ?_
      refine r_getR (pc := 64) C fl_RX11_173 x_s38 (by decide) x_kState_2 x_r38_2 dX11_voice_64 ?_
      refine r_iload_n (pc := 67) C 1 rfl rfl dX11_voice_67 ?_
      obtain ⟨hi68, h⟩ := chk_inv h
      refine r_iald (pc := 68) C x_s41 (by decide) (by decide) hi68 rfl dX11_voice_68 ?_
      have e := Option.some.inj h
      exact r_iret (pc := 69) C hr (congrArg (fun z => some (vI z)) e.symm) rfl dX11_voice_69
    refine ite_split h (fun hc11_3 h => ?_) (fun hn11_3 h => ?_)
    · refine r_tabI (pc := 11) (tgt := 70) C hc11_3 (by decide) (by decide) rfl dX11_voice_11 (by decide) ?_
      refine r_aload_n (pc := 70) C 0 rfl rfl dX11_voice_70 ?_
      refine r_getR (pc := 71) C fl_RX11_35 x_s0 (by decide) x_kX_3 x_r0_3 dX11_voice_71 ?_
      refine r_iload_n (pc := 74) C 1 rfl rfl dX11_voice_74 ?_
      obtain ⟨r2, hq2, h⟩ := bnd_inv h
      refine r_callV (pc := 75) (rest := []) (st1 := [vI r2]) C (xExtOK σ b) [vI x1] (c_x_State_sayingBy l 38 x_m38 hq2) cl_RX11_176 x_s38 (by decide) rfl rfl rfl rfl ⟨Nat.le_of_ble_eq_true rfl, Nat.le_of_ble_eq_true rfl⟩ (Nat.le_of_ble_eq_true rfl) rfl rfl dX11_voice_75 ?_
      have e := Option.some.inj h
      exact r_iret (pc := 78) C hr (congrArg (fun z => some (vI z)) e.symm) rfl dX11_voice_78
    refine r_tabO (pc := 11) (tgt := 79) C (by have hx := w32_rng x2; omega) dX11_voice_11 (by decide) ?_
    refine r_iconst (pc := 79) C dX11_voice_79 ?_
    have e := Option.some.inj h
    exact r_iret (pc := 80) C hr (congrArg (fun z => some (vI z)) e.symm) rfl dX11_voice_80
  · refine r_iconst (pc := 8) C dX11_voice_8 ?_
    have e := Option.some.inj h
    exact r_iret (pc := 9) C hr (congrArg (fun z => some (vI z)) e.symm) rfl dX11_voice_9
set_option maxHeartbeats 4000000 in
set_option maxRecDepth 20000 in
theorem w_x_X_sayingsOf_L5_B40 (C : xCX σ p s m args meth c cX11_sayingsOf 6 RX11 D E b) (hr : meth.sig.returnType = (some .int)) {r0 : Int} {M : Mem} {v1 : Int} {v2 : Int} {v3 : Int} {v4 : Int} {s0 : Int} {q : Int × Int} {rec : Int → Int → Option (Int × Int)} (hrec : ∀ (v3 : Int) (v4 : Int), rec v3 v4 = some q → xWX p l e 1 12 s m args below meth c 6 D E b (some (vI r0)) M M 5 [(0, vR b 0), (1, vI v1), (2, vI v2), (3, vI v3), (4, vI v4)] []) (hfol : ∀ (v3 : Int) (v4 : Int), q = (v3, v4) → xWX p l e 1 12 s m args below meth c 6 D E b (some (vI r0)) M M 70 [(3, vI v3)] []) (h : x_X_sayingsOf_L5_B40 rec v1 v2 v3 v4 s0 M = some q) :
    xWX p l e 1 12 s m args below meth c 6 D E b (some (vI r0)) M M 40 [(0, vR b 0), (1, vI v1), (2, vI v2), (3, vI v3), (4, vI v4)] [vI s0] := by
  unfold x_X_sayingsOf_L5_B40 at h
  refine r_istore (pc := 40) (lv' := [(5, vI s0), (0, vR b 0), (1, vI v1), (2, vI v2), (3, vI v3), (4, vI v4)]) C dX11_sayingsOf_40 (by decide) rfl ?_
  refine r_iload (pc := 42) C 0 rfl dX11_sayingsOf_42 ?_
  refine r_if_eq (pc := 44) (tgt := 64) C h dX11_sayingsOf_44 (by decide) (fun hc44 h => ?_) (fun hc44 h => ?_)
  · obtain ⟨v4_64, hv4_64, h⟩ := lt_inv h
    refine r_iincN (pc := 64) (y := v4_64) (lv' := [(4, vI v4_64), (5, vI s0), (0, vR b 0), (1, vI v1), (2, vI v2), (3, vI v3)]) C 5 rfl hv4_64 dX11_sayingsOf_64 (by decide) rfl ?_
    refine r_goto (pc := 67) (tgt := 5) C dX11_sayingsOf_67 (by decide) ?_
    refine r_sub (lv' := [(0, vR b 0), (1, vI v1), (2, vI v2), (3, vI v3), (4, vI v4_64)]) [2, 3, 4, 5, 0] rfl ?_
    exact hrec _ _ h
  · refine r_aload_n (pc := 47) C 1 rfl rfl dX11_sayingsOf_47 ?_
    refine r_getR (pc := 48) C fl_RX11_26 x_s0 (by decide) x_kX_2 x_r0_2 dX11_sayingsOf_48 ?_
    refine r_getR (pc := 51) C fl_RX11_192 x_s23 (by decide) x_kTown_9 x_r23_9 dX11_sayingsOf_51 ?_
    refine r_iload (pc := 54) C 5 rfl dX11_sayingsOf_54 ?_
    obtain ⟨hi56, h⟩ := chk_inv h
    refine r_iald (pc := 56) C x_s29 (by decide) (by decide) hi56 rfl dX11_sayingsOf_56 ?_
    refine r_iload_n (pc := 57) C 2 rfl rfl dX11_sayingsOf_57 ?_
    refine r_icmp_ne (pc := 58) (tgt := 64) C h dX11_sayingsOf_58 (by decide) (fun hc58 h => ?_) (fun hc58 h => ?_)
    · obtain ⟨v4_64, hv4_64, h⟩ := lt_inv h
      refine r_iincN (pc := 64) (y := v4_64) (lv' := [(4, vI v4_64), (5, vI s0), (0, vR b 0), (1, vI v1), (2, vI v2), (3, vI v3)]) C 5 rfl hv4_64 dX11_sayingsOf_64 (by decide) rfl ?_
      refine r_goto (pc := 67) (tgt := 5) C dX11_sayingsOf_67 (by decide) ?_
      refine r_sub (lv' := [(0, vR b 0), (1, vI v1), (2, vI v2), (3, vI v3), (4, vI v4_64)]) [2, 3, 4, 5, 0] rfl ?_
      exact hrec _ _ h
    · obtain ⟨v3_61, hv3_61, h⟩ := lt_inv h
      refine r_iincN (pc := 61) (y := v3_61) (lv' := [(3, vI v3_61), (5, vI s0), (0, vR b 0), (1, vI v1), (2, vI v2), (4, vI v4)]) C 4 rfl hv3_61 dX11_sayingsOf_61 (by decide) rfl ?_
      obtain ⟨v4_64, hv4_64, h⟩ := lt_inv h
      refine r_iincN (pc := 64) (y := v4_64) (lv' := [(4, vI v4_64), (3, vI v3_61), (5, vI s0), (0, vR b 0), (1, vI v1), (2, vI v2)]) C 5 rfl hv4_64 dX11_sayingsOf_64 (by decide) rfl ?_
      refine r_goto (pc := 67) (tgt := 5) C dX11_sayingsOf_67 (by decide) ?_
      refine r_sub (lv' := [(0, vR b 0), (1, vI v1), (2, vI v2), (3, vI v3_61), (4, vI v4_64)]) [3, 4, 5, 1, 0] rfl ?_
      exact hrec _ _ h
set_option maxHeartbeats 4000000 in
set_option maxRecDepth 20000 in
theorem w_x_X_sayingsOf_L5_B35 (C : xCX σ p s m args meth c cX11_sayingsOf 6 RX11 D E b) (hr : meth.sig.returnType = (some .int)) {r0 : Int} {M : Mem} {v1 : Int} {v2 : Int} {v3 : Int} {v4 : Int} {q : Int × Int} {rec : Int → Int → Option (Int × Int)} (hrec : ∀ (v3 : Int) (v4 : Int), rec v3 v4 = some q → xWX p l e 1 12 s m args below meth c 6 D E b (some (vI r0)) M M 5 [(0, vR b 0), (1, vI v1), (2, vI v2), (3, vI v3), (4, vI v4)] []) (hfol : ∀ (v3 : Int) (v4 : Int), q = (v3, v4) → xWX p l e 1 12 s m args below meth c 6 D E b (some (vI r0)) M M 70 [(3, vI v3)] []) (h : x_X_sayingsOf_L5_B35 rec v1 v2 v3 v4 M = some q) :
    xWX p l e 1 12 s m args below meth c 6 D E b (some (vI r0)) M M 35 [(0, vR b 0), (1, vI v1), (2, vI v2), (3, vI v3), (4, vI v4)] [] := by
  unfold x_X_sayingsOf_L5_B35 at h
  refine r_iconst (pc := 35) C dX11_sayingsOf_35 ?_
  refine r_goto (pc := 36) (tgt := 40) C dX11_sayingsOf_36 (by decide) ?_
  refine r_sub (lv' := [(0, vR b 0), (1, vI v1), (2, vI v2), (3, vI v3), (4, vI v4)]) [0, 1, 2, 3, 4] rfl ?_
  exact w_x_X_sayingsOf_L5_B40 C hr hrec hfol h
set_option maxHeartbeats 4000000 in
set_option maxRecDepth 20000 in
theorem w_x_X_sayingsOf_L5_s (C : xCX σ p s m args meth c cX11_sayingsOf 6 RX11 D E b) (hr : meth.sig.returnType = (some .int)) {r0 : Int} {v1 : Int} {v2 : Int} {M : Mem} {v3 : Int} {v4 : Int} {q : Int × Int} {rec : Int → Int → Option (Int × Int)} (hrec : ∀ (v3 : Int) (v4 : Int), rec v3 v4 = some q → xWX p l e 1 12 s m args below meth c 6 D E b (some (vI r0)) M M 5 [(0, vR b 0), (1, vI v1), (2, vI v2), (3, vI v3), (4, vI v4)] []) (hfol : ∀ (v3 : Int) (v4 : Int), q = (v3, v4) → xWX p l e 1 12 s m args below meth c 6 D E b (some (vI r0)) M M 70 [(3, vI v3)] []) (h : x_X_sayingsOf_L5 v1 v2 M rec v3 v4 = some q) :
    xWX p l e 1 12 s m args below meth c 6 D E b (some (vI r0)) M M 5 [(0, vR b 0), (1, vI v1), (2, vI v2), (3, vI v3), (4, vI v4)] [] := by
  unfold x_X_sayingsOf_L5 at h
  refine r_iload (pc := 5) C 4 rfl dX11_sayingsOf_5 ?_
  refine r_aload_n (pc := 7) C 0 rfl rfl dX11_sayingsOf_7 ?_
  refine r_getR (pc := 8) C fl_RX11_26 x_s0 (by decide) x_kX_2 x_r0_2 dX11_sayingsOf_8 ?_
  refine r_getI (pc := 11) C fl_RX11_126 x_s23 (by decide) x_kTown_2 dX11_sayingsOf_11 ?_
  refine r_icmp_ge (pc := 14) (tgt := 70) C h dX11_sayingsOf_14 (by decide) (fun hc14 h => ?_) (fun hc14 h => ?_)
  · refine r_sub (lv' := [(3, vI v3)]) [3] rfl ?_
    exact hfol _ _ (Option.some.inj h).symm
  · refine r_iload_n (pc := 17) C 2 rfl rfl dX11_sayingsOf_17 ?_
    refine r_if_eq (pc := 18) (tgt := 35) C h dX11_sayingsOf_18 (by decide) (fun hc18 h => ?_) (fun hc18 h => ?_)
    · refine r_sub (lv' := [(0, vR b 0), (1, vI v1), (2, vI v2), (3, vI v3), (4, vI v4)]) [0, 1, 2, 3, 4] rfl ?_
      exact w_x_X_sayingsOf_L5_B35 C hr hrec hfol h
    · refine r_aload_n (pc := 21) C 0 rfl rfl dX11_sayingsOf_21 ?_
      refine r_getR (pc := 22) C fl_RX11_35 x_s0 (by decide) x_kX_3 x_r0_3 dX11_sayingsOf_22 ?_
      refine r_getR (pc := 25) C fl_RX11_201 x_s38 (by decide) x_kState_3 x_r38_3 dX11_sayingsOf_25 ?_
      refine r_iload (pc := 28) C 4 rfl dX11_sayingsOf_28 ?_
      obtain ⟨hi30, h⟩ := chk_inv h
      refine r_iald (pc := 30) C x_s42 (by decide) (by decide) hi30 rfl dX11_sayingsOf_30 ?_
      refine r_iconst (pc := 31) C dX11_sayingsOf_31 ?_
      refine r_icmp_ne (pc := 32) (tgt := 39) C h dX11_sayingsOf_32 (by decide) (fun hc32 h => ?_) (fun hc32 h => ?_)
      · refine r_iconst (pc := 39) C dX11_sayingsOf_39 ?_
        refine r_sub (lv' := [(0, vR b 0), (1, vI v1), (2, vI v2), (3, vI v3), (4, vI v4)]) [0, 1, 2, 3, 4] rfl ?_
        exact w_x_X_sayingsOf_L5_B40 C hr hrec hfol h
      · refine r_sub (lv' := [(0, vR b 0), (1, vI v1), (2, vI v2), (3, vI v3), (4, vI v4)]) [0, 1, 2, 3, 4] rfl ?_
        exact w_x_X_sayingsOf_L5_B35 C hr hrec hfol h
set_option maxHeartbeats 4000000 in
theorem w_x_X_sayingsOf_L5 (C : xCX σ p s m args meth c cX11_sayingsOf 6 RX11 D E b) (hr : meth.sig.returnType = (some .int)) {r0 : Int} {v1 : Int} {v2 : Int} {M : Mem} {q : Int × Int} (hfol : ∀ (v3 : Int) (v4 : Int), q = (v3, v4) → xWX p l e 1 12 s m args below meth c 6 D E b (some (vI r0)) M M 70 [(3, vI v3)] []) : ∀ (n : Nat) (v3 : Int) (v4 : Int), itr2 (x_X_sayingsOf_L5 v1 v2 M) n v3 v4 = some q →
    xWX p l e 1 12 s m args below meth c 6 D E b (some (vI r0)) M M 5 [(0, vR b 0), (1, vI v1), (2, vI v2), (3, vI v3), (4, vI v4)] [] := by
  intro n
  induction n with
  | zero => exact fun _ _ h => itr_z h
  | succ n ih => exact fun _ _ h => w_x_X_sayingsOf_L5_s C hr ih hfol h
set_option maxHeartbeats 4000000 in
set_option maxRecDepth 20000 in
theorem c_x_X_sayingsOf (l : Launch) {x1 : Int} {x2 : Int} {M : Mem} {r0 : Int} (h : x_X_sayingsOf x1 x2 M = some r0) : Ct l yX11_sayingsOf cX11_sayingsOf 6 (some .int) 1 12 vwCl xSh xN xRf (xExt σ) (fun b => [vR b 0, vI x1, vI x2]) M (fun b => (some (vI r0))) M := by
  refine Ct_of (xExtOK σ) (by decide) (fun b => Nat.le_of_ble_eq_true rfl) ?_
  intro p e s m args below meth c D E b C hr
  unfold x_X_sayingsOf at h
  refine (show xWX p l e 1 12 s m args below meth c 6 D E b (some (vI r0)) M M 0 [(0, vR b 0), (1, vI x1), (2, vI x2)] [] from ?_)
  refine r_iconst (pc := 0) C dX11_sayingsOf_0 ?_
  refine r_istore_n (pc := 1) (lv' := [(3, vI 0), (0, vR b 0), (1, vI x1), (2, vI x2)]) C rfl dX11_sayingsOf_1 (by decide) rfl ?_
  refine r_iconst (pc := 2) C dX11_sayingsOf_2 ?_
  refine r_istore (pc := 3) (lv' := [(4, vI 0), (3, vI 0), (0, vR b 0), (1, vI x1), (2, vI x2)]) C dX11_sayingsOf_3 (by decide) rfl ?_
  refine r_sub (lv' := [(0, vR b 0), (1, vI x1), (2, vI x2), (3, vI 0), (4, vI 0)]) [2, 3, 4, 1, 0] rfl ?_
  obtain ⟨q1, hl1, h⟩ := bnd_inv h
  refine w_x_X_sayingsOf_L5 C hr (fun v3_1 v4_1 hq => ?_) FUEL _ _ hl1
  have hq := hq.symm
  subst hq
  refine r_iload_n (pc := 70) C 0 rfl rfl dX11_sayingsOf_70 ?_
  have e := Option.some.inj h
  exact r_iret (pc := 71) C hr (congrArg (fun z => some (vI z)) e.symm) rfl dX11_sayingsOf_71
set_option maxHeartbeats 4000000 in
set_option maxRecDepth 20000 in
theorem c_x_X_person (l : Launch) {x1 : Int} {x2 : Int} {M : Mem} {r0 : Int} (h : x_X_person x1 x2 M = some r0) : Ct l yX11_person cX11_person 3 (some .int) 2 37 vwCl xSh xN xRf (xExt σ) (fun b => [vR b 0, vI x1, vI x2]) M (fun b => (some (vI r0))) M := by
  refine Ct_of (xExtOK σ) (by decide) (fun b => Nat.le_of_ble_eq_true rfl) ?_
  intro p e s m args below meth c D E b C hr
  unfold x_X_person at h
  refine (show xWX p l e 2 37 s m args below meth c 3 D E b (some (vI r0)) M M 0 [(0, vR b 0), (1, vI x1), (2, vI x2)] [] from ?_)
  refine r_aload_n (pc := 0) C 0 rfl rfl dX11_person_0 ?_
  refine r_iload_n (pc := 1) C 1 rfl rfl dX11_person_1 ?_
  obtain ⟨r1, hq1, h⟩ := bnd_inv h
  refine r_callV (pc := 2) (rest := []) (st1 := [vB r1]) C (xExtOK σ b) [vI x1] (c_x_X_isPerson l hq1) cl_RX11_161 x_s0 (by decide) rfl rfl rfl rfl ⟨Nat.le_of_ble_eq_true rfl, Nat.le_of_ble_eq_true rfl⟩ (Nat.le_of_ble_eq_true rfl) rfl rfl dX11_person_2 ?_
  refine r_if_neB (pc := 5) (tgt := 10) C h dX11_person_5 (by decide) (fun hc5 h => ?_) (fun hc5 h => ?_)
  · refine r_iload_n (pc := 10) C 2 rfl rfl dX11_person_10 ?_
    refine ite_split h (fun hc11_0 h => ?_) (fun hn11_0 h => ?_)
    · refine r_tabI (pc := 11) (tgt := 40) C hc11_0 (by decide) (by decide) rfl dX11_person_11 (by decide) ?_
      refine r_aload_n (pc := 40) C 0 rfl rfl dX11_person_40 ?_
      refine r_getR (pc := 41) C fl_RX11_26 x_s0 (by decide) x_kX_2 x_r0_2 dX11_person_41 ?_
      refine r_getR (pc := 44) C fl_RX11_179 x_s23 (by decide) x_kTown_7 x_r23_7 dX11_person_44 ?_
      refine r_iload_n (pc := 47) C 1 rfl rfl dX11_person_47 ?_
      obtain ⟨hi48, h⟩ := chk_inv h
      refine r_iald (pc := 48) C x_s27 (by decide) (by decide) hi48 rfl dX11_person_48 ?_
      have e := Option.some.inj h
      exact r_iret (pc := 49) C hr (congrArg (fun z => some (vI z)) e.symm) rfl dX11_person_49
    refine ite_split h (fun hc11_1 h => ?_) (fun hn11_1 h => ?_)
    · refine r_tabI (pc := 11) (tgt := 50) C hc11_1 (by decide) (by decide) rfl dX11_person_11 (by decide) ?_
      refine r_aload_n (pc := 50) C 0 rfl rfl dX11_person_50 ?_
      refine r_getR (pc := 51) C fl_RX11_26 x_s0 (by decide) x_kX_2 x_r0_2 dX11_person_51 ?_
      refine r_getR (pc := 54) C fl_RX11_182 x_s23 (by decide) x_kTown_8 x_r23_8 dX11_person_54 ?_
      refine r_iload_n (pc := 57) C 1 rfl rfl dX11_person_57 ?_
      obtain ⟨hi58, h⟩ := chk_inv h
      refine r_iald (pc := 58) C x_s28 (by decide) (by decide) hi58 rfl dX11_person_58 ?_
      have e := Option.some.inj h
      exact r_iret (pc := 59) C hr (congrArg (fun z => some (vI z)) e.symm) rfl dX11_person_59
    refine ite_split h (fun hc11_2 h => ?_) (fun hn11_2 h => ?_)
    · refine r_tabI (pc := 11) (tgt := 60) C hc11_2 (by decide) (by decide) rfl dX11_person_11 (by decide) ?_
      refine r_aload_n (pc := 60) C 0 rfl rfl dX11_person_60 ?_
      refine r_iload_n (pc := 61) C 1 rfl rfl dX11_person_61 ?_
      refine r_iconst (pc := 62) C dX11_person_62 ?_
      obtain ⟨r2, hq2, h⟩ := bnd_inv h
      refine r_callV (pc := 63) (rest := []) (st1 := [vI r2]) C (xExtOK σ b) [vI x1, vI 0] (c_x_X_sayingsOf l hq2) cl_RX11_185 x_s0 (by decide) rfl rfl rfl rfl ⟨Nat.le_of_ble_eq_true rfl, Nat.le_of_ble_eq_true rfl⟩ (Nat.le_of_ble_eq_true rfl) rfl rfl dX11_person_63 ?_
      have e := Option.some.inj h
      exact r_iret (pc := 66) C hr (congrArg (fun z => some (vI z)) e.symm) rfl dX11_person_66
    refine ite_split h (fun hc11_3 h => ?_) (fun hn11_3 h => ?_)
    · refine r_tabI (pc := 11) (tgt := 67) C hc11_3 (by decide) (by decide) rfl dX11_person_11 (by decide) ?_
      refine r_aload_n (pc := 67) C 0 rfl rfl dX11_person_67 ?_
      refine r_iload_n (pc := 68) C 1 rfl rfl dX11_person_68 ?_
      refine r_iconst (pc := 69) C dX11_person_69 ?_
      obtain ⟨r3, hq3, h⟩ := bnd_inv h
      refine r_callV (pc := 70) (rest := []) (st1 := [vI r3]) C (xExtOK σ b) [vI x1, vI 1] (c_x_X_sayingsOf l hq3) cl_RX11_185 x_s0 (by decide) rfl rfl rfl rfl ⟨Nat.le_of_ble_eq_true rfl, Nat.le_of_ble_eq_true rfl⟩ (Nat.le_of_ble_eq_true rfl) rfl rfl dX11_person_70 ?_
      have e := Option.some.inj h
      exact r_iret (pc := 73) C hr (congrArg (fun z => some (vI z)) e.symm) rfl dX11_person_73
    refine r_tabO (pc := 11) (tgt := 74) C (by have hx := w32_rng x2; omega) dX11_person_11 (by decide) ?_
    refine r_iconst (pc := 74) C dX11_person_74 ?_
    have e := Option.some.inj h
    exact r_iret (pc := 75) C hr (congrArg (fun z => some (vI z)) e.symm) rfl dX11_person_75
  · refine r_iconst (pc := 8) C dX11_person_8 ?_
    have e := Option.some.inj h
    exact r_iret (pc := 9) C hr (congrArg (fun z => some (vI z)) e.symm) rfl dX11_person_9
set_option maxHeartbeats 4000000 in
set_option maxRecDepth 20000 in
theorem c_x_X_isSaying (l : Launch) {x1 : Int} {M : Mem} {r0 : Bool} (h : x_X_isSaying x1 M = some r0) : Ct l yX11_isSaying cX11_isSaying 2 (some .boolean) 1 12 vwCl xSh xN xRf (xExt σ) (fun b => [vR b 0, vI x1]) M (fun b => (some (vB r0))) M := by
  refine Ct_of (xExtOK σ) (by decide) (fun b => Nat.le_of_ble_eq_true rfl) ?_
  intro p e s m args below meth c D E b C hr
  unfold x_X_isSaying at h
  refine (show xWX p l e 1 12 s m args below meth c 2 D E b (some (vB r0)) M M 0 [(0, vR b 0), (1, vI x1)] [] from ?_)
  refine r_iload_n (pc := 0) C 1 rfl rfl dX11_isSaying_0 ?_
  refine r_if_lt (pc := 1) (tgt := 19) C h dX11_isSaying_1 (by decide) (fun hc1 h => ?_) (fun hc1 h => ?_)
  · refine r_iconst (pc := 19) C dX11_isSaying_19 ?_
    have e := Option.some.inj h
    exact r_zret (pc := 20) C hr (Or.inl rfl) (congrArg (fun z => some (vB z)) e.symm) rfl dX11_isSaying_20
  · refine r_iload_n (pc := 4) C 1 rfl rfl dX11_isSaying_4 ?_
    refine r_aload_n (pc := 5) C 0 rfl rfl dX11_isSaying_5 ?_
    refine r_getR (pc := 6) C fl_RX11_26 x_s0 (by decide) x_kX_2 x_r0_2 dX11_isSaying_6 ?_
    refine r_getI (pc := 9) C fl_RX11_126 x_s23 (by decide) x_kTown_2 dX11_isSaying_9 ?_
    refine r_icmp_ge (pc := 12) (tgt := 19) C h dX11_isSaying_12 (by decide) (fun hc12 h => ?_) (fun hc12 h => ?_)
    · refine r_iconst (pc := 19) C dX11_isSaying_19 ?_
      have e := Option.some.inj h
      exact r_zret (pc := 20) C hr (Or.inl rfl) (congrArg (fun z => some (vB z)) e.symm) rfl dX11_isSaying_20
    · refine r_iconst (pc := 15) C dX11_isSaying_15 ?_
      refine r_goto (pc := 16) (tgt := 20) C dX11_isSaying_16 (by decide) ?_
      have e := Option.some.inj h
      exact r_zret (pc := 20) C hr (Or.inr rfl) (congrArg (fun z => some (vB z)) e.symm) rfl dX11_isSaying_20
set_option maxHeartbeats 4000000 in
set_option maxRecDepth 20000 in
theorem c_x_X_saying (l : Launch) {x1 : Int} {x2 : Int} {M : Mem} {r0 : Int} (h : x_X_saying x1 x2 M = some r0) : Ct l yX11_saying cX11_saying 3 (some .int) 2 33 vwCl xSh xN xRf (xExt σ) (fun b => [vR b 0, vI x1, vI x2]) M (fun b => (some (vI r0))) M := by
  refine Ct_of (xExtOK σ) (by decide) (fun b => Nat.le_of_ble_eq_true rfl) ?_
  intro p e s m args below meth c D E b C hr
  unfold x_X_saying at h
  refine (show xWX p l e 2 33 s m args below meth c 3 D E b (some (vI r0)) M M 0 [(0, vR b 0), (1, vI x1), (2, vI x2)] [] from ?_)
  refine r_aload_n (pc := 0) C 0 rfl rfl dX11_saying_0 ?_
  refine r_iload_n (pc := 1) C 1 rfl rfl dX11_saying_1 ?_
  obtain ⟨r1, hq1, h⟩ := bnd_inv h
  refine r_callV (pc := 2) (rest := []) (st1 := [vB r1]) C (xExtOK σ b) [vI x1] (c_x_X_isSaying l hq1) cl_RX11_189 x_s0 (by decide) rfl rfl rfl rfl ⟨Nat.le_of_ble_eq_true rfl, Nat.le_of_ble_eq_true rfl⟩ (Nat.le_of_ble_eq_true rfl) rfl rfl dX11_saying_2 ?_
  refine r_if_neB (pc := 5) (tgt := 10) C h dX11_saying_5 (by decide) (fun hc5 h => ?_) (fun hc5 h => ?_)
  · refine r_iload_n (pc := 10) C 2 rfl rfl dX11_saying_10 ?_
    refine ite_split h (fun hc11_0 h => ?_) (fun hn11_0 h => ?_)
    · refine r_tabI (pc := 11) (tgt := 56) C hc11_0 (by decide) (by decide) rfl dX11_saying_11 (by decide) ?_
      refine r_aload_n (pc := 56) C 0 rfl rfl dX11_saying_56 ?_
      refine r_getR (pc := 57) C fl_RX11_26 x_s0 (by decide) x_kX_2 x_r0_2 dX11_saying_57 ?_
      refine r_getR (pc := 60) C fl_RX11_192 x_s23 (by decide) x_kTown_9 x_r23_9 dX11_saying_60 ?_
      refine r_iload_n (pc := 63) C 1 rfl rfl dX11_saying_63 ?_
      obtain ⟨hi64, h⟩ := chk_inv h
      refine r_iald (pc := 64) C x_s29 (by decide) (by decide) hi64 rfl dX11_saying_64 ?_
      have e := Option.some.inj h
      exact r_iret (pc := 65) C hr (congrArg (fun z => some (vI z)) e.symm) rfl dX11_saying_65
    refine ite_split h (fun hc11_1 h => ?_) (fun hn11_1 h => ?_)
    · refine r_tabI (pc := 11) (tgt := 66) C hc11_1 (by decide) (by decide) rfl dX11_saying_11 (by decide) ?_
      refine r_aload_n (pc := 66) C 0 rfl rfl dX11_saying_66 ?_
      refine r_getR (pc := 67) C fl_RX11_35 x_s0 (by decide) x_kX_3 x_r0_3 dX11_saying_67 ?_
      refine r_getR (pc := 70) C fl_RX11_195 x_s38 (by decide) x_kState_4 x_r38_4 dX11_saying_70 ?_
      refine r_iload_n (pc := 73) C 1 rfl rfl dX11_saying_73 ?_
      obtain ⟨hi74, h⟩ := chk_inv h
      refine r_iald (pc := 74) C x_s43 (by decide) (by decide) hi74 rfl dX11_saying_74 ?_
      have e := Option.some.inj h
      exact r_iret (pc := 75) C hr (congrArg (fun z => some (vI z)) e.symm) rfl dX11_saying_75
    refine ite_split h (fun hc11_2 h => ?_) (fun hn11_2 h => ?_)
    · refine r_tabI (pc := 11) (tgt := 76) C hc11_2 (by decide) (by decide) rfl dX11_saying_11 (by decide) ?_
      refine r_aload_n (pc := 76) C 0 rfl rfl dX11_saying_76 ?_
      refine r_getR (pc := 77) C fl_RX11_26 x_s0 (by decide) x_kX_2 x_r0_2 dX11_saying_77 ?_
      refine r_getR (pc := 80) C fl_RX11_198 x_s23 (by decide) x_kTown_11 x_r23_11 dX11_saying_80 ?_
      refine r_iload_n (pc := 83) C 1 rfl rfl dX11_saying_83 ?_
      obtain ⟨hi84, h⟩ := chk_inv h
      refine r_iald (pc := 84) C x_s31 (by decide) (by decide) hi84 rfl dX11_saying_84 ?_
      have e := Option.some.inj h
      exact r_iret (pc := 85) C hr (congrArg (fun z => some (vI z)) e.symm) rfl dX11_saying_85
    refine ite_split h (fun hc11_3 h => ?_) (fun hn11_3 h => ?_)
    · refine r_tabI (pc := 11) (tgt := 86) C hc11_3 (by decide) (by decide) rfl dX11_saying_11 (by decide) ?_
      refine r_aload_n (pc := 86) C 0 rfl rfl dX11_saying_86 ?_
      refine r_getR (pc := 87) C fl_RX11_35 x_s0 (by decide) x_kX_3 x_r0_3 dX11_saying_87 ?_
      refine r_getR (pc := 90) C fl_RX11_201 x_s38 (by decide) x_kState_3 x_r38_3 dX11_saying_90 ?_
      refine r_iload_n (pc := 93) C 1 rfl rfl dX11_saying_93 ?_
      obtain ⟨hi94, h⟩ := chk_inv h
      refine r_iald (pc := 94) C x_s42 (by decide) (by decide) hi94 rfl dX11_saying_94 ?_
      have e := Option.some.inj h
      exact r_iret (pc := 95) C hr (congrArg (fun z => some (vI z)) e.symm) rfl dX11_saying_95
    refine ite_split h (fun hc11_4 h => ?_) (fun hn11_4 h => ?_)
    · refine r_tabI (pc := 11) (tgt := 96) C hc11_4 (by decide) (by decide) rfl dX11_saying_11 (by decide) ?_
      refine r_aload_n (pc := 96) C 0 rfl rfl dX11_saying_96 ?_
      refine r_getR (pc := 97) C fl_RX11_35 x_s0 (by decide) x_kX_3 x_r0_3 dX11_saying_97 ?_
      refine r_getR (pc := 100) C fl_RX11_204 x_s38 (by decide) x_kState_5 x_r38_5 dX11_saying_100 ?_
      refine r_iload_n (pc := 103) C 1 rfl rfl dX11_saying_103 ?_
      obtain ⟨hi104, h⟩ := chk_inv h
      refine r_iald (pc := 104) C x_s44 (by decide) (by decide) hi104 rfl dX11_saying_104 ?_
      have e := Option.some.inj h
      exact r_iret (pc := 105) C hr (congrArg (fun z => some (vI z)) e.symm) rfl dX11_saying_105
    refine ite_split h (fun hc11_5 h => ?_) (fun hn11_5 h => ?_)
    · refine r_tabI (pc := 11) (tgt := 106) C hc11_5 (by decide) (by decide) rfl dX11_saying_11 (by decide) ?_
      refine r_aload_n (pc := 106) C 0 rfl rfl dX11_saying_106 ?_
      refine r_getR (pc := 107) C fl_RX11_35 x_s0 (by decide) x_kX_3 x_r0_3 dX11_saying_107 ?_
      refine r_getR (pc := 110) C fl_RX11_207 x_s38 (by decide) x_kState_6 x_r38_6 dX11_saying_110 ?_
      refine r_iload_n (pc := 113) C 1 rfl rfl dX11_saying_113 ?_
      obtain ⟨hi114, h⟩ := chk_inv h
      refine r_iald (pc := 114) C x_s45 (by decide) (by decide) hi114 rfl dX11_saying_114 ?_
      have e := Option.some.inj h
      exact r_iret (pc := 115) C hr (congrArg (fun z => some (vI z)) e.symm) rfl dX11_saying_115
    refine ite_split h (fun hc11_6 h => ?_) (fun hn11_6 h => ?_)
    · refine r_tabI (pc := 11) (tgt := 116) C hc11_6 (by decide) (by decide) rfl dX11_saying_11 (by decide) ?_
      refine r_aload_n (pc := 116) C 0 rfl rfl dX11_saying_116 ?_
      refine r_getR (pc := 117) C fl_RX11_35 x_s0 (by decide) x_kX_3 x_r0_3 dX11_saying_117 ?_
      refine r_getR (pc := 120) C fl_RX11_210 x_s38 (by decide) x_kState_7 x_r38_7 dX11_saying_120 ?_
      refine r_iload_n (pc := 123) C 1 rfl rfl dX11_saying_123 ?_
      obtain ⟨hi124, h⟩ := chk_inv h
      refine r_iald (pc := 124) C x_s46 (by decide) (by decide) hi124 rfl dX11_saying_124 ?_
      have e := Option.some.inj h
      exact r_iret (pc := 125) C hr (congrArg (fun z => some (vI z)) e.symm) rfl dX11_saying_125
    refine ite_split h (fun hc11_7 h => ?_) (fun hn11_7 h => ?_)
    · refine r_tabI (pc := 11) (tgt := 126) C hc11_7 (by decide) (by decide) rfl dX11_saying_11 (by decide) ?_
      refine r_aload_n (pc := 126) C 0 rfl rfl dX11_saying_126 ?_
      refine r_getR (pc := 127) C fl_RX11_35 x_s0 (by decide) x_kX_3 x_r0_3 dX11_saying_127 ?_
      refine r_getR (pc := 130) C fl_RX11_213 x_s38 (by decide) x_kState_8 x_r38_8 dX11_saying_130 ?_
      refine r_iload_n (pc := 133) C 1 rfl rfl dX11_saying_133 ?_
      obtain ⟨hi134, h⟩ := chk_inv h
      refine r_iald (pc := 134) C x_s47 (by decide) (by decide) hi134 rfl dX11_saying_134 ?_
      have e := Option.some.inj h
      exact r_iret (pc := 135) C hr (congrArg (fun z => some (vI z)) e.symm) rfl dX11_saying_135
    refine r_tabO (pc := 11) (tgt := 136) C (by have hx := w32_rng x2; omega) dX11_saying_11 (by decide) ?_
    refine r_iconst (pc := 136) C dX11_saying_136 ?_
    have e := Option.some.inj h
    exact r_iret (pc := 137) C hr (congrArg (fun z => some (vI z)) e.symm) rfl dX11_saying_137
  · refine r_iconst (pc := 8) C dX11_saying_8 ?_
    have e := Option.some.inj h
    exact r_iret (pc := 9) C hr (congrArg (fun z => some (vI z)) e.symm) rfl dX11_saying_9
set_option maxHeartbeats 4000000 in
set_option maxRecDepth 20000 in
theorem c_j_Math_floorDiv_7cf53 (l : Launch) {x0 : Int} {x1 : Int} {M : Mem} {r0 : Int} (h : j_Math_floorDiv_7cf53 x0 x1 = some r0) : Ct l yJ9_floorDiv_7cf53 cJ9_floorDiv_7cf53 3 (some .int) 1 12 vwCl xSh xN xRf (xExt σ) (fun b => [vI x0, vI x1]) M (fun b => (some (vI r0))) M := by
  refine Ct_ofF (xExtOK σ) (by decide +kernel) (fun b => Nat.le_of_ble_eq_true rfl) ?_
  intro p e s m args below meth c D E b C hr
  unfold j_Math_floorDiv_7cf53 at h
  refine (show xWX p l e 1 12 s m args below meth c 3 D E b (some (vI r0)) M M 0 [(0, vI x0), (1, vI x1)] [] from ?_)
  refine r_iload_n (pc := 0) C 0 rfl rfl dJ9_floorDiv_7cf53_0 ?_
  refine r_iload_n (pc := 1) C 1 rfl rfl dJ9_floorDiv_7cf53_1 ?_
  obtain ⟨hz2, h⟩ := chk_inv h
  refine r_idiv (pc := 2) C hz2 dJ9_floorDiv_7cf53_2 ?_
  obtain ⟨v2_3, hv2_3, h⟩ := lt_inv h
  refine r_topI hv2_3 ?_
  refine r_istore_n (pc := 3) (lv' := [(2, vI v2_3), (0, vI x0), (1, vI x1)]) C rfl dJ9_floorDiv_7cf53_3 (by decide) rfl ?_
  refine r_iload_n (pc := 4) C 1 rfl rfl dJ9_floorDiv_7cf53_4 ?_
  refine r_iload_n (pc := 5) C 2 rfl rfl dJ9_floorDiv_7cf53_5 ?_
  refine r_ixor (pc := 6) C dJ9_floorDiv_7cf53_6 ?_
  refine r_if_ge (pc := 7) (tgt := 21) C h dJ9_floorDiv_7cf53_7 (by decide) (fun hc7 h => ?_) (fun hc7 h => ?_)
  · refine r_iload_n (pc := 21) C 0 rfl rfl dJ9_floorDiv_7cf53_21 ?_
    have e := Option.some.inj h
    exact r_iret (pc := 22) C hr (congrArg (fun z => some (vI z)) e.symm) rfl dJ9_floorDiv_7cf53_22
  · refine r_iload_n (pc := 10) C 0 rfl rfl dJ9_floorDiv_7cf53_10 ?_
    refine r_iload_n (pc := 11) C 2 rfl rfl dJ9_floorDiv_7cf53_11 ?_
    refine r_imul (pc := 12) C dJ9_floorDiv_7cf53_12 ?_
    refine r_iload_n (pc := 13) C 1 rfl rfl dJ9_floorDiv_7cf53_13 ?_
    refine r_icmp_eq (pc := 14) (tgt := 21) C h dJ9_floorDiv_7cf53_14 (by decide) (fun hc14 h => ?_) (fun hc14 h => ?_)
    · refine r_iload_n (pc := 21) C 0 rfl rfl dJ9_floorDiv_7cf53_21 ?_
      have e := Option.some.inj h
      exact r_iret (pc := 22) C hr (congrArg (fun z => some (vI z)) e.symm) rfl dJ9_floorDiv_7cf53_22
    · refine r_iload_n (pc := 17) C 0 rfl rfl dJ9_floorDiv_7cf53_17 ?_
      refine r_iconst (pc := 18) C dJ9_floorDiv_7cf53_18 ?_
      refine r_isub (pc := 19) C dJ9_floorDiv_7cf53_19 ?_
      have e := Option.some.inj h
      exact r_iret (pc := 20) C hr (congrArg (fun z => some (vI z)) e.symm) rfl dJ9_floorDiv_7cf53_20
set_option maxHeartbeats 4000000 in
set_option maxRecDepth 20000 in
theorem c_j_Math_floorMod_7cf53 (l : Launch) {x0 : Int} {x1 : Int} {M : Mem} {r0 : Int} (h : j_Math_floorMod_7cf53 x0 x1 = some r0) : Ct l yJ9_floorMod_7cf53 cJ9_floorMod_7cf53 3 (some .int) 1 12 vwCl xSh xN xRf (xExt σ) (fun b => [vI x0, vI x1]) M (fun b => (some (vI r0))) M := by
  refine Ct_ofF (xExtOK σ) (by decide +kernel) (fun b => Nat.le_of_ble_eq_true rfl) ?_
  intro p e s m args below meth c D E b C hr
  unfold j_Math_floorMod_7cf53 at h
  refine (show xWX p l e 1 12 s m args below meth c 3 D E b (some (vI r0)) M M 0 [(0, vI x0), (1, vI x1)] [] from ?_)
  refine r_iload_n (pc := 0) C 0 rfl rfl dJ9_floorMod_7cf53_0 ?_
  refine r_iload_n (pc := 1) C 1 rfl rfl dJ9_floorMod_7cf53_1 ?_
  obtain ⟨hz2, h⟩ := chk_inv h
  refine r_irem (pc := 2) C hz2 dJ9_floorMod_7cf53_2 ?_
  obtain ⟨v2_3, hv2_3, h⟩ := lt_inv h
  refine r_topI hv2_3 ?_
  refine r_istore_n (pc := 3) (lv' := [(2, vI v2_3), (0, vI x0), (1, vI x1)]) C rfl dJ9_floorMod_7cf53_3 (by decide) rfl ?_
  refine r_iload_n (pc := 4) C 1 rfl rfl dJ9_floorMod_7cf53_4 ?_
  refine r_iload_n (pc := 5) C 2 rfl rfl dJ9_floorMod_7cf53_5 ?_
  refine r_ixor (pc := 6) C dJ9_floorMod_7cf53_6 ?_
  refine r_if_ge (pc := 7) (tgt := 18) C h dJ9_floorMod_7cf53_7 (by decide) (fun hc7 h => ?_) (fun hc7 h => ?_)
  · refine r_iload_n (pc := 18) C 0 rfl rfl dJ9_floorMod_7cf53_18 ?_
    have e := Option.some.inj h
    exact r_iret (pc := 19) C hr (congrArg (fun z => some (vI z)) e.symm) rfl dJ9_floorMod_7cf53_19
  · refine r_iload_n (pc := 10) C 0 rfl rfl dJ9_floorMod_7cf53_10 ?_
    refine r_if_eq (pc := 11) (tgt := 18) C h dJ9_floorMod_7cf53_11 (by decide) (fun hc11 h => ?_) (fun hc11 h => ?_)
    · refine r_iload_n (pc := 18) C 0 rfl rfl dJ9_floorMod_7cf53_18 ?_
      have e := Option.some.inj h
      exact r_iret (pc := 19) C hr (congrArg (fun z => some (vI z)) e.symm) rfl dJ9_floorMod_7cf53_19
    · refine r_iload_n (pc := 14) C 0 rfl rfl dJ9_floorMod_7cf53_14 ?_
      refine r_iload_n (pc := 15) C 2 rfl rfl dJ9_floorMod_7cf53_15 ?_
      refine r_iadd (pc := 16) C dJ9_floorMod_7cf53_16 ?_
      have e := Option.some.inj h
      exact r_iret (pc := 17) C hr (congrArg (fun z => some (vI z)) e.symm) rfl dJ9_floorMod_7cf53_17
set_option maxHeartbeats 4000000 in
set_option maxRecDepth 20000 in
theorem c_j_Math_max_7cf53 (l : Launch) {x0 : Int} {x1 : Int} {M : Mem} {r0 : Int} (h : j_Math_max_7cf53 x0 x1 = some r0) : Ct l yJ9_max_7cf53 cJ9_max_7cf53 2 (some .int) 1 12 vwCl xSh xN xRf (xExt σ) (fun b => [vI x0, vI x1]) M (fun b => (some (vI r0))) M := by
  refine Ct_ofF (xExtOK σ) (by decide +kernel) (fun b => Nat.le_of_ble_eq_true rfl) ?_
  intro p e s m args below meth c D E b C hr
  unfold j_Math_max_7cf53 at h
  refine (show xWX p l e 1 12 s m args below meth c 2 D E b (some (vI r0)) M M 0 [(0, vI x0), (1, vI x1)] [] from ?_)
  refine r_iload_n (pc := 0) C 0 rfl rfl dJ9_max_7cf53_0 ?_
  refine r_iload_n (pc := 1) C 1 rfl rfl dJ9_max_7cf53_1 ?_
  refine r_icmp_lt (pc := 2) (tgt := 9) C h dJ9_max_7cf53_2 (by decide) (fun hc2 h => ?_) (fun hc2 h => ?_)
  · refine r_iload_n (pc := 9) C 1 rfl rfl dJ9_max_7cf53_9 ?_
    have e := Option.some.inj h
    exact r_iret (pc := 10) C hr (congrArg (fun z => some (vI z)) e.symm) rfl dJ9_max_7cf53_10
  · refine r_iload_n (pc := 5) C 0 rfl rfl dJ9_max_7cf53_5 ?_
    refine r_goto (pc := 6) (tgt := 10) C dJ9_max_7cf53_6 (by decide) ?_
    have e := Option.some.inj h
    exact r_iret (pc := 10) C hr (congrArg (fun z => some (vI z)) e.symm) rfl dJ9_max_7cf53_10
set_option maxHeartbeats 4000000 in
set_option maxRecDepth 20000 in
theorem c_j_Math_max_f86c9 (l : Launch) {x0 : Int} {x2 : Int} {M : Mem} {r0 : Int} (h : j_Math_max_f86c9 x0 x2 = some r0) : Ct l yJ9_max_f86c9 cJ9_max_f86c9 4 (some .long) 1 12 vwCl xSh xN xRf (xExt σ) (fun b => [vL x0, vL x2]) M (fun b => (some (vL r0))) M := by
  refine Ct_ofF (xExtOK σ) (by decide +kernel) (fun b => Nat.le_of_ble_eq_true rfl) ?_
  intro p e s m args below meth c D E b C hr
  unfold j_Math_max_f86c9 at h
  refine (show xWX p l e 1 12 s m args below meth c 4 D E b (some (vL r0)) M M 0 [(0, vL x0), (2, vL x2)] [] from ?_)
  refine r_lload_n (pc := 0) C 0 rfl rfl dJ9_max_f86c9_0 ?_
  refine r_lload_n (pc := 1) C 1 rfl rfl dJ9_max_f86c9_1 ?_
  refine r_lcmp (pc := 2) C dJ9_max_f86c9_2 ?_
  refine r_if_lt (pc := 3) (tgt := 10) C h dJ9_max_f86c9_3 (by decide) (fun hc3 h => ?_) (fun hc3 h => ?_)
  · refine r_lload_n (pc := 10) C 1 rfl rfl dJ9_max_f86c9_10 ?_
    have e := Option.some.inj h
    exact r_lret (pc := 11) C hr (congrArg (fun z => some (vL z)) e.symm) rfl dJ9_max_f86c9_11
  · refine r_lload_n (pc := 6) C 0 rfl rfl dJ9_max_f86c9_6 ?_
    refine r_goto (pc := 7) (tgt := 11) C dJ9_max_f86c9_7 (by decide) ?_
    have e := Option.some.inj h
    exact r_lret (pc := 11) C hr (congrArg (fun z => some (vL z)) e.symm) rfl dJ9_max_f86c9_11
set_option maxHeartbeats 4000000 in
set_option maxRecDepth 20000 in
theorem c_j_Math_min_7cf53 (l : Launch) {x0 : Int} {x1 : Int} {M : Mem} {r0 : Int} (h : j_Math_min_7cf53 x0 x1 = some r0) : Ct l yJ9_min_7cf53 cJ9_min_7cf53 2 (some .int) 1 12 vwCl xSh xN xRf (xExt σ) (fun b => [vI x0, vI x1]) M (fun b => (some (vI r0))) M := by
  refine Ct_ofF (xExtOK σ) (by decide +kernel) (fun b => Nat.le_of_ble_eq_true rfl) ?_
  intro p e s m args below meth c D E b C hr
  unfold j_Math_min_7cf53 at h
  refine (show xWX p l e 1 12 s m args below meth c 2 D E b (some (vI r0)) M M 0 [(0, vI x0), (1, vI x1)] [] from ?_)
  refine r_iload_n (pc := 0) C 0 rfl rfl dJ9_min_7cf53_0 ?_
  refine r_iload_n (pc := 1) C 1 rfl rfl dJ9_min_7cf53_1 ?_
  refine r_icmp_gt (pc := 2) (tgt := 9) C h dJ9_min_7cf53_2 (by decide) (fun hc2 h => ?_) (fun hc2 h => ?_)
  · refine r_iload_n (pc := 9) C 1 rfl rfl dJ9_min_7cf53_9 ?_
    have e := Option.some.inj h
    exact r_iret (pc := 10) C hr (congrArg (fun z => some (vI z)) e.symm) rfl dJ9_min_7cf53_10
  · refine r_iload_n (pc := 5) C 0 rfl rfl dJ9_min_7cf53_5 ?_
    refine r_goto (pc := 6) (tgt := 10) C dJ9_min_7cf53_6 (by decide) ?_
    have e := Option.some.inj h
    exact r_iret (pc := 10) C hr (congrArg (fun z => some (vI z)) e.symm) rfl dJ9_min_7cf53_10
set_option maxHeartbeats 4000000 in
set_option maxRecDepth 20000 in
theorem c_j_Math_min_f86c9 (l : Launch) {x0 : Int} {x2 : Int} {M : Mem} {r0 : Int} (h : j_Math_min_f86c9 x0 x2 = some r0) : Ct l yJ9_min_f86c9 cJ9_min_f86c9 4 (some .long) 1 12 vwCl xSh xN xRf (xExt σ) (fun b => [vL x0, vL x2]) M (fun b => (some (vL r0))) M := by
  refine Ct_ofF (xExtOK σ) (by decide +kernel) (fun b => Nat.le_of_ble_eq_true rfl) ?_
  intro p e s m args below meth c D E b C hr
  unfold j_Math_min_f86c9 at h
  refine (show xWX p l e 1 12 s m args below meth c 4 D E b (some (vL r0)) M M 0 [(0, vL x0), (2, vL x2)] [] from ?_)
  refine r_lload_n (pc := 0) C 0 rfl rfl dJ9_min_f86c9_0 ?_
  refine r_lload_n (pc := 1) C 1 rfl rfl dJ9_min_f86c9_1 ?_
  refine r_lcmp (pc := 2) C dJ9_min_f86c9_2 ?_
  refine r_if_gt (pc := 3) (tgt := 10) C h dJ9_min_f86c9_3 (by decide) (fun hc3 h => ?_) (fun hc3 h => ?_)
  · refine r_lload_n (pc := 10) C 1 rfl rfl dJ9_min_f86c9_10 ?_
    have e := Option.some.inj h
    exact r_lret (pc := 11) C hr (congrArg (fun z => some (vL z)) e.symm) rfl dJ9_min_f86c9_11
  · refine r_lload_n (pc := 6) C 0 rfl rfl dJ9_min_f86c9_6 ?_
    refine r_goto (pc := 7) (tgt := 11) C dJ9_min_f86c9_7 (by decide) ?_
    have e := Option.some.inj h
    exact r_lret (pc := 11) C hr (congrArg (fun z => some (vL z)) e.symm) rfl dJ9_min_f86c9_11
set_option maxHeartbeats 4000000 in
set_option maxRecDepth 20000 in
theorem w_x_Rules_combine_B341 (C : xCX σ p s m args meth c cX5_combine 5 RX5 D E b) (hr : meth.sig.returnType = (some .int)) {r0 : Int} {M : Mem} {v3 : Int} (h : x_Rules_combine_B341 v3 M = some r0) :
    xWX p l e 2 35 s m args below meth c 5 D E b (some (vI r0)) M M 341 [(3, vL v3)] [] := by
  unfold x_Rules_combine_B341 at h
  refine r_ldc2 (pc := 341) (j := (-1000000)) C (by decide +kernel) gk_RX5_76 dX5_combine_341 ?_
  refine r_ldc2 (pc := 344) (j := 1000000) C (by decide +kernel) gk_RX5_78 dX5_combine_344 ?_
  refine r_lload_n (pc := 347) C 0 rfl rfl dX5_combine_347 ?_
  obtain ⟨r1, hq1, h⟩ := bnd_inv h
  refine r_callS (pc := 348) (rest := [vL (-1000000)]) (st1 := [vL r1, vL (-1000000)]) C (xExtOK σ b) [vL 1000000, vL v3] (c_j_Math_min_f86c9 l hq1) cl_RX5_80 rfl rfl ⟨Nat.le_of_ble_eq_true rfl, Nat.le_of_ble_eq_true rfl⟩ (Nat.le_of_ble_eq_true rfl) rfl rfl dX5_combine_348 ?_
  obtain ⟨r2, hq2, h⟩ := bnd_inv h
  refine r_callS (pc := 351) (rest := []) (st1 := [vL r2]) C (xExtOK σ b) [vL (-1000000), vL r1] (c_j_Math_max_f86c9 l hq2) cl_RX5_83 rfl rfl ⟨Nat.le_of_ble_eq_true rfl, Nat.le_of_ble_eq_true rfl⟩ (Nat.le_of_ble_eq_true rfl) rfl rfl dX5_combine_351 ?_
  refine r_l2i (pc := 354) C dX5_combine_354 ?_
  have e := Option.some.inj h
  exact r_iret (pc := 355) C hr (congrArg (fun z => some (vI z)) e.symm) rfl dX5_combine_355
set_option maxHeartbeats 4000000 in
set_option maxRecDepth 20000 in
theorem w_x_Rules_combine_B259 (C : xCX σ p s m args meth c cX5_combine 5 RX5 D E b) (hr : meth.sig.returnType = (some .int)) {r0 : Int} {M : Mem} {s0 : Int} (h : x_Rules_combine_B259 s0 M = some r0) :
    xWX p l e 2 35 s m args below meth c 5 D E b (some (vI r0)) M M 259 [] [vL s0] := by
  unfold x_Rules_combine_B259 at h
  refine r_lstore_n (pc := 259) (lv' := [(3, vL s0)]) C rfl dX5_combine_259 (by decide) rfl ?_
  refine r_goto (pc := 260) (tgt := 341) C dX5_combine_260 (by decide) ?_
  refine r_sub (lv' := [(3, vL s0)]) [0] rfl ?_
  exact w_x_Rules_combine_B341 C hr h
set_option maxHeartbeats 4000000 in
set_option maxRecDepth 20000 in
theorem w_x_Rules_combine_B241 (C : xCX σ p s m args meth c cX5_combine 5 RX5 D E b) (hr : meth.sig.returnType = (some .int)) {r0 : Int} {M : Mem} {s0 : Int} (h : x_Rules_combine_B241 s0 M = some r0) :
    xWX p l e 2 35 s m args below meth c 5 D E b (some (vI r0)) M M 241 [] [vL s0] := by
  unfold x_Rules_combine_B241 at h
  refine r_lstore_n (pc := 241) (lv' := [(3, vL s0)]) C rfl dX5_combine_241 (by decide) rfl ?_
  refine r_goto (pc := 242) (tgt := 341) C dX5_combine_242 (by decide) ?_
  refine r_sub (lv' := [(3, vL s0)]) [0] rfl ?_
  exact w_x_Rules_combine_B341 C hr h
set_option maxHeartbeats 4000000 in
set_option maxRecDepth 20000 in
theorem w_x_Rules_combine_B273 (C : xCX σ p s m args meth c cX5_combine 5 RX5 D E b) (hr : meth.sig.returnType = (some .int)) {r0 : Int} {M : Mem} {s0 : Int} (h : x_Rules_combine_B273 s0 M = some r0) :
    xWX p l e 2 35 s m args below meth c 5 D E b (some (vI r0)) M M 273 [] [vL s0] := by
  unfold x_Rules_combine_B273 at h
  refine r_lstore_n (pc := 273) (lv' := [(3, vL s0)]) C rfl dX5_combine_273 (by decide) rfl ?_
  refine r_goto (pc := 274) (tgt := 341) C dX5_combine_274 (by decide) ?_
  refine r_sub (lv' := [(3, vL s0)]) [0] rfl ?_
  exact w_x_Rules_combine_B341 C hr h
set_option maxHeartbeats 4000000 in
set_option maxRecDepth 20000 in
theorem w_x_Rules_combine_B301 (C : xCX σ p s m args meth c cX5_combine 5 RX5 D E b) (hr : meth.sig.returnType = (some .int)) {r0 : Int} {M : Mem} {s0 : Int} (h : x_Rules_combine_B301 s0 M = some r0) :
    xWX p l e 2 35 s m args below meth c 5 D E b (some (vI r0)) M M 301 [] [vL s0] := by
  unfold x_Rules_combine_B301 at h
  refine r_lstore_n (pc := 301) (lv' := [(3, vL s0)]) C rfl dX5_combine_301 (by decide) rfl ?_
  refine r_goto (pc := 302) (tgt := 341) C dX5_combine_302 (by decide) ?_
  refine r_sub (lv' := [(3, vL s0)]) [0] rfl ?_
  exact w_x_Rules_combine_B341 C hr h
set_option maxHeartbeats 4000000 in
set_option maxRecDepth 20000 in
theorem w_x_Rules_combine_B287 (C : xCX σ p s m args meth c cX5_combine 5 RX5 D E b) (hr : meth.sig.returnType = (some .int)) {r0 : Int} {M : Mem} {s0 : Int} (h : x_Rules_combine_B287 s0 M = some r0) :
    xWX p l e 2 35 s m args below meth c 5 D E b (some (vI r0)) M M 287 [] [vL s0] := by
  unfold x_Rules_combine_B287 at h
  refine r_lstore_n (pc := 287) (lv' := [(3, vL s0)]) C rfl dX5_combine_287 (by decide) rfl ?_
  refine r_goto (pc := 288) (tgt := 341) C dX5_combine_288 (by decide) ?_
  refine r_sub (lv' := [(3, vL s0)]) [0] rfl ?_
  exact w_x_Rules_combine_B341 C hr h
set_option maxHeartbeats 4000000 in
set_option maxRecDepth 20000 in
theorem c_x_Rules_combine (l : Launch) {x0 : Int} {x1 : Int} {x2 : Int} {M : Mem} {r0 : Int} (h : x_Rules_combine x0 x1 x2 M = some r0) : Ct l yX5_combine cX5_combine 5 (some .int) 2 35 vwCl xSh xN xRf (xExt σ) (fun b => [vI x0, vI x1, vI x2]) M (fun b => (some (vI r0))) M := by
  refine Ct_of (xExtOK σ) (by decide) (fun b => Nat.le_of_ble_eq_true rfl) ?_
  intro p e s m args below meth c D E b C hr
  unfold x_Rules_combine at h
  refine (show xWX p l e 2 35 s m args below meth c 5 D E b (some (vI r0)) M M 0 [(0, vI x0), (1, vI x1), (2, vI x2)] [] from ?_)
  refine r_lconst (pc := 0) (j := 0) C rfl dX5_combine_0 ?_
  refine r_lstore_n (pc := 1) (lv' := [(3, vL 0), (0, vI x0), (1, vI x1), (2, vI x2)]) C rfl dX5_combine_1 (by decide) rfl ?_
  refine r_iload_n (pc := 2) C 1 rfl rfl dX5_combine_2 ?_
  refine ite_split h (fun hc3_17 h => ?_) (fun hn3_17 h => ?_)
  · refine r_tabI (pc := 3) (tgt := 313) C hc3_17 (by decide) (by decide) rfl dX5_combine_3 (by decide) ?_
    refine r_iload_n (pc := 313) C 2 rfl rfl dX5_combine_313 ?_
    refine r_iload_n (pc := 314) C 3 rfl rfl dX5_combine_314 ?_
    refine r_ior (pc := 315) C dX5_combine_315 ?_
    refine r_i2l (pc := 316) C dX5_combine_316 ?_
    obtain ⟨v3_317, hv3_317, h⟩ := lt_inv h
    refine r_topL hv3_317 ?_
    refine r_lstore_n (pc := 317) (lv' := [(3, vL v3_317), (0, vI x0), (1, vI x1), (2, vI x2)]) C rfl dX5_combine_317 (by decide) rfl ?_
    refine r_goto (pc := 318) (tgt := 341) C dX5_combine_318 (by decide) ?_
    refine r_sub (lv' := [(3, vL v3_317)]) [0] rfl ?_
    exact w_x_Rules_combine_B341 C hr h
  refine ite_split h (fun hc3_18 h => ?_) (fun hn3_18 h => ?_)
  · refine r_tabI (pc := 3) (tgt := 305) C hc3_18 (by decide) (by decide) rfl dX5_combine_3 (by decide) ?_
    refine r_iload_n (pc := 305) C 2 rfl rfl dX5_combine_305 ?_
    refine r_iload_n (pc := 306) C 3 rfl rfl dX5_combine_306 ?_
    refine r_iand (pc := 307) C dX5_combine_307 ?_
    refine r_i2l (pc := 308) C dX5_combine_308 ?_
    obtain ⟨v3_309, hv3_309, h⟩ := lt_inv h
    refine r_topL hv3_309 ?_
    refine r_lstore_n (pc := 309) (lv' := [(3, vL v3_309), (0, vI x0), (1, vI x1), (2, vI x2)]) C rfl dX5_combine_309 (by decide) rfl ?_
    refine r_goto (pc := 310) (tgt := 341) C dX5_combine_310 (by decide) ?_
    refine r_sub (lv' := [(3, vL v3_309)]) [0] rfl ?_
    exact w_x_Rules_combine_B341 C hr h
  refine ite_split h (fun hc3_21 h => ?_) (fun hn3_21 h => ?_)
  · refine r_tabI (pc := 3) (tgt := 321) C hc3_21 (by decide) (by decide) rfl dX5_combine_3 (by decide) ?_
    refine r_iload_n (pc := 321) C 2 rfl rfl dX5_combine_321 ?_
    refine r_iload_n (pc := 322) C 3 rfl rfl dX5_combine_322 ?_
    obtain ⟨r3, hq3, h⟩ := bnd_inv h
    refine r_callS (pc := 323) (rest := []) (st1 := [vI r3]) C (xExtOK σ b) [vI x1, vI x2] (c_j_Math_min_7cf53 l hq3) cl_RX5_70 rfl rfl ⟨Nat.le_of_ble_eq_true rfl, Nat.le_of_ble_eq_true rfl⟩ (Nat.le_of_ble_eq_true rfl) rfl rfl dX5_combine_323 ?_
    refine r_i2l (pc := 326) C dX5_combine_326 ?_
    obtain ⟨v3_327, hv3_327, h⟩ := lt_inv h
    refine r_topL hv3_327 ?_
    refine r_lstore_n (pc := 327) (lv' := [(3, vL v3_327), (0, vI x0), (1, vI x1), (2, vI x2)]) C rfl dX5_combine_327 (by decide) rfl ?_
    refine r_goto (pc := 328) (tgt := 341) C dX5_combine_328 (by decide) ?_
    refine r_sub (lv' := [(3, vL v3_327)]) [0] rfl ?_
    exact w_x_Rules_combine_B341 C hr h
  refine ite_split h (fun hc3_22 h => ?_) (fun hn3_22 h => ?_)
  · refine r_tabI (pc := 3) (tgt := 331) C hc3_22 (by decide) (by decide) rfl dX5_combine_3 (by decide) ?_
    refine r_iload_n (pc := 331) C 2 rfl rfl dX5_combine_331 ?_
    refine r_iload_n (pc := 332) C 3 rfl rfl dX5_combine_332 ?_
    obtain ⟨r4, hq4, h⟩ := bnd_inv h
    refine r_callS (pc := 333) (rest := []) (st1 := [vI r4]) C (xExtOK σ b) [vI x1, vI x2] (c_j_Math_max_7cf53 l hq4) cl_RX5_73 rfl rfl ⟨Nat.le_of_ble_eq_true rfl, Nat.le_of_ble_eq_true rfl⟩ (Nat.le_of_ble_eq_true rfl) rfl rfl dX5_combine_333 ?_
    refine r_i2l (pc := 336) C dX5_combine_336 ?_
    obtain ⟨v3_337, hv3_337, h⟩ := lt_inv h
    refine r_topL hv3_337 ?_
    refine r_lstore_n (pc := 337) (lv' := [(3, vL v3_337), (0, vI x0), (1, vI x1), (2, vI x2)]) C rfl dX5_combine_337 (by decide) rfl ?_
    refine r_goto (pc := 338) (tgt := 341) C dX5_combine_338 (by decide) ?_
    refine r_sub (lv' := [(3, vL v3_337)]) [0] rfl ?_
    exact w_x_Rules_combine_B341 C hr h
  refine ite_split h (fun hc3_37 h => ?_) (fun hn3_37 h => ?_)
  · refine r_tabI (pc := 3) (tgt := 245) C hc3_37 (by decide) (by decide) rfl dX5_combine_3 (by decide) ?_
    refine r_iload_n (pc := 245) C 3 rfl rfl dX5_combine_245 ?_
    refine r_if_ne (pc := 246) (tgt := 253) C h dX5_combine_246 (by decide) (fun hc246 h => ?_) (fun hc246 h => ?_)
    · refine r_iload_n (pc := 253) C 2 rfl rfl dX5_combine_253 ?_
      refine r_iload_n (pc := 254) C 3 rfl rfl dX5_combine_254 ?_
      obtain ⟨r5, hq5, h⟩ := bnd_inv h
      refine r_callS (pc := 255) (rest := []) (st1 := [vI r5]) C (xExtOK σ b) [vI x1, vI x2] (c_j_Math_floorMod_7cf53 l hq5) cl_RX5_67 rfl rfl ⟨Nat.le_of_ble_eq_true rfl, Nat.le_of_ble_eq_true rfl⟩ (Nat.le_of_ble_eq_true rfl) rfl rfl dX5_combine_255 ?_
      refine r_i2l (pc := 258) C dX5_combine_258 ?_
      refine r_sub (lv' := []) [] rfl ?_
      exact w_x_Rules_combine_B259 C hr h
    · refine r_lconst (pc := 249) (j := 0) C rfl dX5_combine_249 ?_
      refine r_goto (pc := 250) (tgt := 259) C dX5_combine_250 (by decide) ?_
      refine r_sub (lv' := []) [] rfl ?_
      exact w_x_Rules_combine_B259 C hr h
  refine ite_split h (fun hc3_42 h => ?_) (fun hn3_42 h => ?_)
  · refine r_tabI (pc := 3) (tgt := 218) C hc3_42 (by decide) (by decide) rfl dX5_combine_3 (by decide) ?_
    refine r_iload_n (pc := 218) C 2 rfl rfl dX5_combine_218 ?_
    refine r_i2l (pc := 219) C dX5_combine_219 ?_
    refine r_iload_n (pc := 220) C 3 rfl rfl dX5_combine_220 ?_
    refine r_i2l (pc := 221) C dX5_combine_221 ?_
    refine r_lmul (pc := 222) C dX5_combine_222 ?_
    obtain ⟨v3_223, hv3_223, h⟩ := lt_inv h
    refine r_topL hv3_223 ?_
    refine r_lstore_n (pc := 223) (lv' := [(3, vL v3_223), (0, vI x0), (1, vI x1), (2, vI x2)]) C rfl dX5_combine_223 (by decide) rfl ?_
    refine r_goto (pc := 224) (tgt := 341) C dX5_combine_224 (by decide) ?_
    refine r_sub (lv' := [(3, vL v3_223)]) [0] rfl ?_
    exact w_x_Rules_combine_B341 C hr h
  refine ite_split h (fun hc3_43 h => ?_) (fun hn3_43 h => ?_)
  · refine r_tabI (pc := 3) (tgt := 200) C hc3_43 (by decide) (by decide) rfl dX5_combine_3 (by decide) ?_
    refine r_iload_n (pc := 200) C 2 rfl rfl dX5_combine_200 ?_
    refine r_i2l (pc := 201) C dX5_combine_201 ?_
    refine r_iload_n (pc := 202) C 3 rfl rfl dX5_combine_202 ?_
    refine r_i2l (pc := 203) C dX5_combine_203 ?_
    refine r_ladd (pc := 204) C dX5_combine_204 ?_
    obtain ⟨v3_205, hv3_205, h⟩ := lt_inv h
    refine r_topL hv3_205 ?_
    refine r_lstore_n (pc := 205) (lv' := [(3, vL v3_205), (0, vI x0), (1, vI x1), (2, vI x2)]) C rfl dX5_combine_205 (by decide) rfl ?_
    refine r_goto (pc := 206) (tgt := 341) C dX5_combine_206 (by decide) ?_
    refine r_sub (lv' := [(3, vL v3_205)]) [0] rfl ?_
    exact w_x_Rules_combine_B341 C hr h
  refine ite_split h (fun hc3_45 h => ?_) (fun hn3_45 h => ?_)
  · refine r_tabI (pc := 3) (tgt := 209) C hc3_45 (by decide) (by decide) rfl dX5_combine_3 (by decide) ?_
    refine r_iload_n (pc := 209) C 2 rfl rfl dX5_combine_209 ?_
    refine r_i2l (pc := 210) C dX5_combine_210 ?_
    refine r_iload_n (pc := 211) C 3 rfl rfl dX5_combine_211 ?_
    refine r_i2l (pc := 212) C dX5_combine_212 ?_
    refine r_lsub (pc := 213) C dX5_combine_213 ?_
    obtain ⟨v3_214, hv3_214, h⟩ := lt_inv h
    refine r_topL hv3_214 ?_
    refine r_lstore_n (pc := 214) (lv' := [(3, vL v3_214), (0, vI x0), (1, vI x1), (2, vI x2)]) C rfl dX5_combine_214 (by decide) rfl ?_
    refine r_goto (pc := 215) (tgt := 341) C dX5_combine_215 (by decide) ?_
    refine r_sub (lv' := [(3, vL v3_214)]) [0] rfl ?_
    exact w_x_Rules_combine_B341 C hr h
  refine ite_split h (fun hc3_47 h => ?_) (fun hn3_47 h => ?_)
  · refine r_tabI (pc := 3) (tgt := 227) C hc3_47 (by decide) (by decide) rfl dX5_combine_3 (by decide) ?_
    refine r_iload_n (pc := 227) C 3 rfl rfl dX5_combine_227 ?_
    refine r_if_ne (pc := 228) (tgt := 235) C h dX5_combine_228 (by decide) (fun hc228 h => ?_) (fun hc228 h => ?_)
    · refine r_iload_n (pc := 235) C 2 rfl rfl dX5_combine_235 ?_
      refine r_iload_n (pc := 236) C 3 rfl rfl dX5_combine_236 ?_
      obtain ⟨r6, hq6, h⟩ := bnd_inv h
      refine r_callS (pc := 237) (rest := []) (st1 := [vI r6]) C (xExtOK σ b) [vI x1, vI x2] (c_j_Math_floorDiv_7cf53 l hq6) cl_RX5_61 rfl rfl ⟨Nat.le_of_ble_eq_true rfl, Nat.le_of_ble_eq_true rfl⟩ (Nat.le_of_ble_eq_true rfl) rfl rfl dX5_combine_237 ?_
      refine r_i2l (pc := 240) C dX5_combine_240 ?_
      refine r_sub (lv' := []) [] rfl ?_
      exact w_x_Rules_combine_B241 C hr h
    · refine r_lconst (pc := 231) (j := 0) C rfl dX5_combine_231 ?_
      refine r_goto (pc := 232) (tgt := 241) C dX5_combine_232 (by decide) ?_
      refine r_sub (lv' := []) [] rfl ?_
      exact w_x_Rules_combine_B241 C hr h
  refine ite_split h (fun hc3_60 h => ?_) (fun hn3_60 h => ?_)
  · refine r_tabI (pc := 3) (tgt := 263) C hc3_60 (by decide) (by decide) rfl dX5_combine_3 (by decide) ?_
    refine r_iload_n (pc := 263) C 2 rfl rfl dX5_combine_263 ?_
    refine r_iload_n (pc := 264) C 3 rfl rfl dX5_combine_264 ?_
    refine r_icmp_ge (pc := 265) (tgt := 272) C h dX5_combine_265 (by decide) (fun hc265 h => ?_) (fun hc265 h => ?_)
    · refine r_lconst (pc := 272) (j := 0) C rfl dX5_combine_272 ?_
      refine r_sub (lv' := []) [] rfl ?_
      exact w_x_Rules_combine_B273 C hr h
    · refine r_lconst (pc := 268) (j := 1) C rfl dX5_combine_268 ?_
      refine r_goto (pc := 269) (tgt := 273) C dX5_combine_269 (by decide) ?_
      refine r_sub (lv' := []) [] rfl ?_
      exact w_x_Rules_combine_B273 C hr h
  refine ite_split h (fun hc3_61 h => ?_) (fun hn3_61 h => ?_)
  · refine r_tabI (pc := 3) (tgt := 291) C hc3_61 (by decide) (by decide) rfl dX5_combine_3 (by decide) ?_
    refine r_iload_n (pc := 291) C 2 rfl rfl dX5_combine_291 ?_
    refine r_iload_n (pc := 292) C 3 rfl rfl dX5_combine_292 ?_
    refine r_icmp_ne (pc := 293) (tgt := 300) C h dX5_combine_293 (by decide) (fun hc293 h => ?_) (fun hc293 h => ?_)
    · refine r_lconst (pc := 300) (j := 0) C rfl dX5_combine_300 ?_
      refine r_sub (lv' := []) [] rfl ?_
      exact w_x_Rules_combine_B301 C hr h
    · refine r_lconst (pc := 296) (j := 1) C rfl dX5_combine_296 ?_
      refine r_goto (pc := 297) (tgt := 301) C dX5_combine_297 (by decide) ?_
      refine r_sub (lv' := []) [] rfl ?_
      exact w_x_Rules_combine_B301 C hr h
  refine ite_split h (fun hc3_62 h => ?_) (fun hn3_62 h => ?_)
  · refine r_tabI (pc := 3) (tgt := 277) C hc3_62 (by decide) (by decide) rfl dX5_combine_3 (by decide) ?_
    refine r_iload_n (pc := 277) C 2 rfl rfl dX5_combine_277 ?_
    refine r_iload_n (pc := 278) C 3 rfl rfl dX5_combine_278 ?_
    refine r_icmp_le (pc := 279) (tgt := 286) C h dX5_combine_279 (by decide) (fun hc279 h => ?_) (fun hc279 h => ?_)
    · refine r_lconst (pc := 286) (j := 0) C rfl dX5_combine_286 ?_
      refine r_sub (lv' := []) [] rfl ?_
      exact w_x_Rules_combine_B287 C hr h
    · refine r_lconst (pc := 282) (j := 1) C rfl dX5_combine_282 ?_
      refine r_goto (pc := 283) (tgt := 287) C dX5_combine_283 (by decide) ?_
      refine r_sub (lv' := []) [] rfl ?_
      exact w_x_Rules_combine_B287 C hr h
  rcases Classical.em (w32 x0 = 19) with hg3_19 | hg3_19
  · refine r_tabI (pc := 3) (tgt := 341) C hg3_19 (by decide) (by decide) rfl dX5_combine_3 (by decide) ?_
    refine r_sub (lv' := [(3, vL 0)]) [0] rfl ?_
    exact w_x_Rules_combine_B341 C hr h
  rcases Classical.em (w32 x0 = 20) with hg3_20 | hg3_20
  · refine r_tabI (pc := 3) (tgt := 341) C hg3_20 (by decide) (by decide) rfl dX5_combine_3 (by decide) ?_
    refine r_sub (lv' := [(3, vL 0)]) [0] rfl ?_
    exact w_x_Rules_combine_B341 C hr h
  rcases Classical.em (w32 x0 = 23) with hg3_23 | hg3_23
  · refine r_tabI (pc := 3) (tgt := 341) C hg3_23 (by decide) (by decide) rfl dX5_combine_3 (by decide) ?_
    refine r_sub (lv' := [(3, vL 0)]) [0] rfl ?_
    exact w_x_Rules_combine_B341 C hr h
  rcases Classical.em (w32 x0 = 24) with hg3_24 | hg3_24
  · refine r_tabI (pc := 3) (tgt := 341) C hg3_24 (by decide) (by decide) rfl dX5_combine_3 (by decide) ?_
    refine r_sub (lv' := [(3, vL 0)]) [0] rfl ?_
    exact w_x_Rules_combine_B341 C hr h
  rcases Classical.em (w32 x0 = 25) with hg3_25 | hg3_25
  · refine r_tabI (pc := 3) (tgt := 341) C hg3_25 (by decide) (by decide) rfl dX5_combine_3 (by decide) ?_
    refine r_sub (lv' := [(3, vL 0)]) [0] rfl ?_
    exact w_x_Rules_combine_B341 C hr h
  rcases Classical.em (w32 x0 = 26) with hg3_26 | hg3_26
  · refine r_tabI (pc := 3) (tgt := 341) C hg3_26 (by decide) (by decide) rfl dX5_combine_3 (by decide) ?_
    refine r_sub (lv' := [(3, vL 0)]) [0] rfl ?_
    exact w_x_Rules_combine_B341 C hr h
  rcases Classical.em (w32 x0 = 27) with hg3_27 | hg3_27
  · refine r_tabI (pc := 3) (tgt := 341) C hg3_27 (by decide) (by decide) rfl dX5_combine_3 (by decide) ?_
    refine r_sub (lv' := [(3, vL 0)]) [0] rfl ?_
    exact w_x_Rules_combine_B341 C hr h
  rcases Classical.em (w32 x0 = 28) with hg3_28 | hg3_28
  · refine r_tabI (pc := 3) (tgt := 341) C hg3_28 (by decide) (by decide) rfl dX5_combine_3 (by decide) ?_
    refine r_sub (lv' := [(3, vL 0)]) [0] rfl ?_
    exact w_x_Rules_combine_B341 C hr h
  rcases Classical.em (w32 x0 = 29) with hg3_29 | hg3_29
  · refine r_tabI (pc := 3) (tgt := 341) C hg3_29 (by decide) (by decide) rfl dX5_combine_3 (by decide) ?_
    refine r_sub (lv' := [(3, vL 0)]) [0] rfl ?_
    exact w_x_Rules_combine_B341 C hr h
  rcases Classical.em (w32 x0 = 30) with hg3_30 | hg3_30
  · refine r_tabI (pc := 3) (tgt := 341) C hg3_30 (by decide) (by decide) rfl dX5_combine_3 (by decide) ?_
    refine r_sub (lv' := [(3, vL 0)]) [0] rfl ?_
    exact w_x_Rules_combine_B341 C hr h
  rcases Classical.em (w32 x0 = 31) with hg3_31 | hg3_31
  · refine r_tabI (pc := 3) (tgt := 341) C hg3_31 (by decide) (by decide) rfl dX5_combine_3 (by decide) ?_
    refine r_sub (lv' := [(3, vL 0)]) [0] rfl ?_
    exact w_x_Rules_combine_B341 C hr h
  rcases Classical.em (w32 x0 = 32) with hg3_32 | hg3_32
  · refine r_tabI (pc := 3) (tgt := 341) C hg3_32 (by decide) (by decide) rfl dX5_combine_3 (by decide) ?_
    refine r_sub (lv' := [(3, vL 0)]) [0] rfl ?_
    exact w_x_Rules_combine_B341 C hr h
  rcases Classical.em (w32 x0 = 33) with hg3_33 | hg3_33
  · refine r_tabI (pc := 3) (tgt := 341) C hg3_33 (by decide) (by decide) rfl dX5_combine_3 (by decide) ?_
    refine r_sub (lv' := [(3, vL 0)]) [0] rfl ?_
    exact w_x_Rules_combine_B341 C hr h
  rcases Classical.em (w32 x0 = 34) with hg3_34 | hg3_34
  · refine r_tabI (pc := 3) (tgt := 341) C hg3_34 (by decide) (by decide) rfl dX5_combine_3 (by decide) ?_
    refine r_sub (lv' := [(3, vL 0)]) [0] rfl ?_
    exact w_x_Rules_combine_B341 C hr h
  rcases Classical.em (w32 x0 = 35) with hg3_35 | hg3_35
  · refine r_tabI (pc := 3) (tgt := 341) C hg3_35 (by decide) (by decide) rfl dX5_combine_3 (by decide) ?_
    refine r_sub (lv' := [(3, vL 0)]) [0] rfl ?_
    exact w_x_Rules_combine_B341 C hr h
  rcases Classical.em (w32 x0 = 36) with hg3_36 | hg3_36
  · refine r_tabI (pc := 3) (tgt := 341) C hg3_36 (by decide) (by decide) rfl dX5_combine_3 (by decide) ?_
    refine r_sub (lv' := [(3, vL 0)]) [0] rfl ?_
    exact w_x_Rules_combine_B341 C hr h
  rcases Classical.em (w32 x0 = 38) with hg3_38 | hg3_38
  · refine r_tabI (pc := 3) (tgt := 341) C hg3_38 (by decide) (by decide) rfl dX5_combine_3 (by decide) ?_
    refine r_sub (lv' := [(3, vL 0)]) [0] rfl ?_
    exact w_x_Rules_combine_B341 C hr h
  rcases Classical.em (w32 x0 = 39) with hg3_39 | hg3_39
  · refine r_tabI (pc := 3) (tgt := 341) C hg3_39 (by decide) (by decide) rfl dX5_combine_3 (by decide) ?_
    refine r_sub (lv' := [(3, vL 0)]) [0] rfl ?_
    exact w_x_Rules_combine_B341 C hr h
  rcases Classical.em (w32 x0 = 40) with hg3_40 | hg3_40
  · refine r_tabI (pc := 3) (tgt := 341) C hg3_40 (by decide) (by decide) rfl dX5_combine_3 (by decide) ?_
    refine r_sub (lv' := [(3, vL 0)]) [0] rfl ?_
    exact w_x_Rules_combine_B341 C hr h
  rcases Classical.em (w32 x0 = 41) with hg3_41 | hg3_41
  · refine r_tabI (pc := 3) (tgt := 341) C hg3_41 (by decide) (by decide) rfl dX5_combine_3 (by decide) ?_
    refine r_sub (lv' := [(3, vL 0)]) [0] rfl ?_
    exact w_x_Rules_combine_B341 C hr h
  rcases Classical.em (w32 x0 = 44) with hg3_44 | hg3_44
  · refine r_tabI (pc := 3) (tgt := 341) C hg3_44 (by decide) (by decide) rfl dX5_combine_3 (by decide) ?_
    refine r_sub (lv' := [(3, vL 0)]) [0] rfl ?_
    exact w_x_Rules_combine_B341 C hr h
  rcases Classical.em (w32 x0 = 46) with hg3_46 | hg3_46
  · refine r_tabI (pc := 3) (tgt := 341) C hg3_46 (by decide) (by decide) rfl dX5_combine_3 (by decide) ?_
    refine r_sub (lv' := [(3, vL 0)]) [0] rfl ?_
    exact w_x_Rules_combine_B341 C hr h
  rcases Classical.em (w32 x0 = 48) with hg3_48 | hg3_48
  · refine r_tabI (pc := 3) (tgt := 341) C hg3_48 (by decide) (by decide) rfl dX5_combine_3 (by decide) ?_
    refine r_sub (lv' := [(3, vL 0)]) [0] rfl ?_
    exact w_x_Rules_combine_B341 C hr h
  rcases Classical.em (w32 x0 = 49) with hg3_49 | hg3_49
  · refine r_tabI (pc := 3) (tgt := 341) C hg3_49 (by decide) (by decide) rfl dX5_combine_3 (by decide) ?_
    refine r_sub (lv' := [(3, vL 0)]) [0] rfl ?_
    exact w_x_Rules_combine_B341 C hr h
  rcases Classical.em (w32 x0 = 50) with hg3_50 | hg3_50
  · refine r_tabI (pc := 3) (tgt := 341) C hg3_50 (by decide) (by decide) rfl dX5_combine_3 (by decide) ?_
    refine r_sub (lv' := [(3, vL 0)]) [0] rfl ?_
    exact w_x_Rules_combine_B341 C hr h
  rcases Classical.em (w32 x0 = 51) with hg3_51 | hg3_51
  · refine r_tabI (pc := 3) (tgt := 341) C hg3_51 (by decide) (by decide) rfl dX5_combine_3 (by decide) ?_
    refine r_sub (lv' := [(3, vL 0)]) [0] rfl ?_
    exact w_x_Rules_combine_B341 C hr h
  rcases Classical.em (w32 x0 = 52) with hg3_52 | hg3_52
  · refine r_tabI (pc := 3) (tgt := 341) C hg3_52 (by decide) (by decide) rfl dX5_combine_3 (by decide) ?_
    refine r_sub (lv' := [(3, vL 0)]) [0] rfl ?_
    exact w_x_Rules_combine_B341 C hr h
  rcases Classical.em (w32 x0 = 53) with hg3_53 | hg3_53
  · refine r_tabI (pc := 3) (tgt := 341) C hg3_53 (by decide) (by decide) rfl dX5_combine_3 (by decide) ?_
    refine r_sub (lv' := [(3, vL 0)]) [0] rfl ?_
    exact w_x_Rules_combine_B341 C hr h
  rcases Classical.em (w32 x0 = 54) with hg3_54 | hg3_54
  · refine r_tabI (pc := 3) (tgt := 341) C hg3_54 (by decide) (by decide) rfl dX5_combine_3 (by decide) ?_
    refine r_sub (lv' := [(3, vL 0)]) [0] rfl ?_
    exact w_x_Rules_combine_B341 C hr h
  rcases Classical.em (w32 x0 = 55) with hg3_55 | hg3_55
  · refine r_tabI (pc := 3) (tgt := 341) C hg3_55 (by decide) (by decide) rfl dX5_combine_3 (by decide) ?_
    refine r_sub (lv' := [(3, vL 0)]) [0] rfl ?_
    exact w_x_Rules_combine_B341 C hr h
  rcases Classical.em (w32 x0 = 56) with hg3_56 | hg3_56
  · refine r_tabI (pc := 3) (tgt := 341) C hg3_56 (by decide) (by decide) rfl dX5_combine_3 (by decide) ?_
    refine r_sub (lv' := [(3, vL 0)]) [0] rfl ?_
    exact w_x_Rules_combine_B341 C hr h
  rcases Classical.em (w32 x0 = 57) with hg3_57 | hg3_57
  · refine r_tabI (pc := 3) (tgt := 341) C hg3_57 (by decide) (by decide) rfl dX5_combine_3 (by decide) ?_
    refine r_sub (lv' := [(3, vL 0)]) [0] rfl ?_
    exact w_x_Rules_combine_B341 C hr h
  rcases Classical.em (w32 x0 = 58) with hg3_58 | hg3_58
  · refine r_tabI (pc := 3) (tgt := 341) C hg3_58 (by decide) (by decide) rfl dX5_combine_3 (by decide) ?_
    refine r_sub (lv' := [(3, vL 0)]) [0] rfl ?_
    exact w_x_Rules_combine_B341 C hr h
  rcases Classical.em (w32 x0 = 59) with hg3_59 | hg3_59
  · refine r_tabI (pc := 3) (tgt := 341) C hg3_59 (by decide) (by decide) rfl dX5_combine_3 (by decide) ?_
    refine r_sub (lv' := [(3, vL 0)]) [0] rfl ?_
    exact w_x_Rules_combine_B341 C hr h
  refine r_tabO (pc := 3) (tgt := 341) C (by have hx := w32_rng x0; omega) dX5_combine_3 (by decide) ?_
  refine r_sub (lv' := [(3, vL 0)]) [0] rfl ?_
  exact w_x_Rules_combine_B341 C hr h
set_option maxHeartbeats 4000000 in
set_option maxRecDepth 20000 in
theorem c_x_Rules_factOf (l : Launch) (th : Nat) (hth : th ∈ xI_Rules) {x1 : Int} {M : Mem} {r0 : Int} (h : x_Rules_factOf th x1 M = some r0) : Ct l yX5_factOf cX5_factOf 2 (some .int) 1 12 vwCl xSh xN xRf (xExt σ) (fun b => [vR b th, vI x1]) M (fun b => (some (vI r0))) M := by
  refine Ct_of (xExtOK σ) (by decide) (fun b => Nat.le_of_ble_eq_true rfl) ?_
  intro p e s m args below meth c D E b C hr
  unfold x_Rules_factOf at h
  refine (show xWX p l e 1 12 s m args below meth c 2 D E b (some (vI r0)) M M 0 [(0, vR b th), (1, vI x1)] [] from ?_)
  refine r_iload_n (pc := 0) C 1 rfl rfl dX5_factOf_0 ?_
  refine r_if_lt (pc := 1) (tgt := 22) C h dX5_factOf_1 (by decide) (fun hc1 h => ?_) (fun hc1 h => ?_)
  · refine r_iconst (pc := 22) C dX5_factOf_22 ?_
    have e := Option.some.inj h
    exact r_iret (pc := 23) C hr (congrArg (fun z => some (vI z)) e.symm) rfl dX5_factOf_23
  · refine r_iload_n (pc := 4) C 1 rfl rfl dX5_factOf_4 ?_
    refine r_aload_n (pc := 5) C 0 rfl rfl dX5_factOf_5 ?_
    refine r_getR (pc := 6) C fl_RX5_11 (x_sI_Rules hth) (x_nI_Rules hth) x_kRules_0 (x_rI_Rules_0 hth) dX5_factOf_6 ?_
    refine r_alen (pc := 9) C (x_aI_Rules_0 hth) (x_bI_Rules_0 hth) dX5_factOf_9 ?_
    refine r_icmp_ge (pc := 10) (tgt := 22) C h dX5_factOf_10 (by decide) (fun hc10 h => ?_) (fun hc10 h => ?_)
    · refine r_iconst (pc := 22) C dX5_factOf_22 ?_
      have e := Option.some.inj h
      exact r_iret (pc := 23) C hr (congrArg (fun z => some (vI z)) e.symm) rfl dX5_factOf_23
    · refine r_aload_n (pc := 13) C 0 rfl rfl dX5_factOf_13 ?_
      refine r_getR (pc := 14) C fl_RX5_11 (x_sI_Rules hth) (x_nI_Rules hth) x_kRules_0 (x_rI_Rules_0 hth) dX5_factOf_14 ?_
      refine r_iload_n (pc := 17) C 1 rfl rfl dX5_factOf_17 ?_
      obtain ⟨hi18, h⟩ := chk_inv h
      refine r_iald (pc := 18) C (x_aI_Rules_0 hth) (x_bI_Rules_0 hth) (by decide) hi18 rfl dX5_factOf_18 ?_
      refine r_goto (pc := 19) (tgt := 23) C dX5_factOf_19 (by decide) ?_
      have e := Option.some.inj h
      exact r_iret (pc := 23) C hr (congrArg (fun z => some (vI z)) e.symm) rfl dX5_factOf_23
set_option maxHeartbeats 4000000 in
set_option maxRecDepth 20000 in
theorem w_x_Rules_value_L19_s (C : xCX σ p s m args meth c cX5_value 5 RX5 D E b) (hr : meth.sig.returnType = (some .int)) {r0 : Int} {M0 : Mem} (th : Nat) (hth : th ∈ xI_Rules) {v1 : Int} {v2 : Int} {v3 : Int} {M : Mem} {q : (Int × Mem) ⊕ (Int × Int × Mem)} {rec : Int → Int → Mem → Option ((Int × Mem) ⊕ (Int × Int × Mem))} (hrec : ∀ (v2 : Int) (v3 : Int) (M : Mem), rec v2 v3 M = some q → xWX p l e 3 59 s m args below meth c 5 D E b (some (vI r0)) M0 M 19 [(0, vR b th), (1, vI v1), (2, vI v2), (3, vI v3)] []) (hret : ∀ r, q = .inl r → r = (r0, M0)) (hfol : ∀ (v2 : Int) (v3 : Int) (M : Mem), q = .inr (v2, v3, M) → xWX p l e 3 59 s m args below meth c 5 D E b (some (vI r0)) M0 M 248 [(0, vR b th), (2, vI v2)] []) (h : x_Rules_value_L19 th v1 rec v2 v3 M = some q) :
    xWX p l e 3 59 s m args below meth c 5 D E b (some (vI r0)) M0 M 19 [(0, vR b th), (1, vI v1), (2, vI v2), (3, vI v3)] [] := by
  unfold x_Rules_value_L19 at h
  refine r_iload_n (pc := 19) C 3 rfl rfl dX5_value_19 ?_
  refine r_aload_n (pc := 20) C 0 rfl rfl dX5_value_20 ?_
  refine r_getR (pc := 21) C fl_RX5_23 (x_sI_Rules hth) (x_nI_Rules hth) x_kRules_3 (x_rI_Rules_3 hth) dX5_value_21 ?_
  refine r_iload_n (pc := 24) C 1 rfl rfl dX5_value_24 ?_
  obtain ⟨hi25, h⟩ := chk_inv h
  refine r_iald (pc := 25) C (x_aI_Rules_3 hth) (x_bI_Rules_3 hth) (by decide) hi25 rfl dX5_value_25 ?_
  refine r_icmp_ge (pc := 26) (tgt := 248) C h dX5_value_26 (by decide) (fun hc26 h => ?_) (fun hc26 h => ?_)
  · refine r_sub (lv' := [(0, vR b th), (2, vI v2)]) [0, 2] rfl ?_
    exact hfol _ _ _ (Option.some.inj h).symm
  · refine r_iload_n (pc := 29) C 3 rfl rfl dX5_value_29 ?_
    refine r_aload_n (pc := 30) C 0 rfl rfl dX5_value_30 ?_
    refine r_getR (pc := 31) C fl_RX5_17 (x_sI_Rules hth) (x_nI_Rules hth) x_kRules_1 (x_rI_Rules_1 hth) dX5_value_31 ?_
    refine r_alen (pc := 34) C (x_aI_Rules_1 hth) (x_bI_Rules_1 hth) dX5_value_34 ?_
    refine r_icmp_ge (pc := 35) (tgt := 248) C h dX5_value_35 (by decide) (fun hc35 h => ?_) (fun hc35 h => ?_)
    · refine r_sub (lv' := [(0, vR b th), (2, vI v2)]) [0, 2] rfl ?_
      exact hfol _ _ _ (Option.some.inj h).symm
    · refine r_aload_n (pc := 38) C 0 rfl rfl dX5_value_38 ?_
      refine r_getR (pc := 39) C fl_RX5_17 (x_sI_Rules hth) (x_nI_Rules hth) x_kRules_1 (x_rI_Rules_1 hth) dX5_value_39 ?_
      refine r_iload_n (pc := 42) C 3 rfl rfl dX5_value_42 ?_
      obtain ⟨hi43, h⟩ := chk_inv h
      refine r_iald (pc := 43) C (x_aI_Rules_1 hth) (x_bI_Rules_1 hth) (by decide) hi43 rfl dX5_value_43 ?_
      obtain ⟨v4_44, hv4_44, h⟩ := lt_inv h
      refine r_topI hv4_44 ?_
      refine r_istore (pc := 44) (lv' := [(4, vI v4_44), (0, vR b th), (1, vI v1), (2, vI v2), (3, vI v3)]) C dX5_value_44 (by decide) rfl ?_
      refine r_iload (pc := 46) C 0 rfl dX5_value_46 ?_
      refine r_sipush (pc := 48) (j := 20000) C (by decide +kernel) dX5_value_48 ?_
      refine r_icmp_ge (pc := 51) (tgt := 100) C h dX5_value_51 (by decide) (fun hc51 h => ?_) (fun hc51 h => ?_)
      · refine r_iload (pc := 100) C 0 rfl dX5_value_100 ?_
        refine r_sipush (pc := 102) (j := 20019) C (by decide +kernel) dX5_value_102 ?_
        refine r_icmp_ne (pc := 105) (tgt := 136) C h dX5_value_105 (by decide) (fun hc105 h => ?_) (fun hc105 h => ?_)
        · refine r_iload (pc := 136) C 0 rfl dX5_value_136 ?_
          refine r_sipush (pc := 138) (j := 20016) C (by decide +kernel) dX5_value_138 ?_
          refine r_icmp_ne (pc := 141) (tgt := 201) C h dX5_value_141 (by decide) (fun hc141 h => ?_) (fun hc141 h => ?_)
          · refine r_iload_n (pc := 201) C 3 rfl rfl dX5_value_201 ?_
            refine r_iconst (pc := 202) C dX5_value_202 ?_
            refine r_icmp_ge (pc := 203) (tgt := 208) C h dX5_value_203 (by decide) (fun hc203 h => ?_) (fun hc203 h => ?_)
            · obtain ⟨v2_208, hv2_208, h⟩ := lt_inv h
              refine r_iincN (pc := 208) (y := v2_208) (lv' := [(2, vI v2_208), (4, vI v4_44), (0, vR b th), (1, vI v1), (3, vI v3)]) C 3 rfl hv2_208 dX5_value_208 (by decide) rfl ?_
              refine r_aload_n (pc := 211) C 2 rfl rfl dX5_value_211 ?_
              refine r_getR (pc := 212) C fl_RX5_26 (x_sI_Rules hth) (x_nI_Rules hth) x_kRules_4 (x_rI_Rules_4 hth) dX5_value_212 ?_
              refine r_iload_n (pc := 215) C 0 rfl rfl dX5_value_215 ?_
              refine r_iconst (pc := 216) C dX5_value_216 ?_
              refine r_isub (pc := 217) C dX5_value_217 ?_
              refine r_iload (pc := 218) C 1 rfl dX5_value_218 ?_
              refine r_sipush (pc := 220) (j := 20000) C (by decide +kernel) dX5_value_220 ?_
              refine r_isub (pc := 223) C dX5_value_223 ?_
              refine r_aload_n (pc := 224) C 2 rfl rfl dX5_value_224 ?_
              refine r_getR (pc := 225) C fl_RX5_26 (x_sI_Rules hth) (x_nI_Rules hth) x_kRules_4 (x_rI_Rules_4 hth) dX5_value_225 ?_
              refine r_iload_n (pc := 228) C 0 rfl rfl dX5_value_228 ?_
              refine r_iconst (pc := 229) C dX5_value_229 ?_
              refine r_isub (pc := 230) C dX5_value_230 ?_
              obtain ⟨hi231, h⟩ := chk_inv h
              refine r_iald (pc := 231) C (x_aI_Rules_4 hth) (x_bI_Rules_4 hth) (by decide) hi231 rfl dX5_value_231 ?_
              refine r_aload_n (pc := 232) C 2 rfl rfl dX5_value_232 ?_
              refine r_getR (pc := 233) C fl_RX5_26 (x_sI_Rules hth) (x_nI_Rules hth) x_kRules_4 (x_rI_Rules_4 hth) dX5_value_233 ?_
              refine r_iload_n (pc := 236) C 0 rfl rfl dX5_value_236 ?_
              obtain ⟨hi237, h⟩ := chk_inv h
              refine r_iald (pc := 237) C (x_aI_Rules_4 hth) (x_bI_Rules_4 hth) (by decide) hi237 rfl dX5_value_237 ?_
              obtain ⟨r2, hq2, h⟩ := bnd_inv h
              refine r_callS (pc := 238) (rest := [vI (v2_208 - 1), vR b (th + 5)]) (st1 := [vI r2, vI (v2_208 - 1), vR b (th + 5)]) C (xExtOK σ b) [vI (v4_44 - 20000), vI (M (th + 5) (v2_208 - 1).toNat), vI (M (th + 5) v2_208.toNat)] (c_x_Rules_combine l hq2) cl_RX5_57 rfl rfl ⟨Nat.le_of_ble_eq_true rfl, Nat.le_of_ble_eq_true rfl⟩ (Nat.le_of_ble_eq_true rfl) rfl rfl dX5_value_238 ?_
              obtain ⟨hi241, h⟩ := chk_inv h
              obtain ⟨M_241, hM_241, h⟩ := lt_inv h
              refine r_iast (pc := 241) C (x_aI_Rules_4 hth) (x_bI_Rules_4 hth) (by decide) hi241 rfl hM_241 dX5_value_241 ?_
              obtain ⟨v3_242, hv3_242, h⟩ := lt_inv h
              refine r_iincN (pc := 242) (y := v3_242) (lv' := [(3, vI v3_242), (2, vI v2_208), (4, vI v4_44), (0, vR b th), (1, vI v1)]) C 4 rfl hv3_242 dX5_value_242 (by decide) rfl ?_
              refine r_goto (pc := 245) (tgt := 19) C dX5_value_245 (by decide) ?_
              refine r_sub (lv' := [(0, vR b th), (1, vI v1), (2, vI v2_208), (3, vI v3_242)]) [3, 4, 1, 0] rfl ?_
              exact hrec _ _ _ h
            · refine r_iconst (pc := 206) C dX5_value_206 ?_
              have e := hret _ (Option.some.inj h).symm
              exact r_iret (pc := 207) C hr (congrArg (fun z => some (vI z)) (Prod.mk.inj e).1.symm) (Prod.mk.inj e).2.symm dX5_value_207
          · refine r_iload_n (pc := 144) C 3 rfl rfl dX5_value_144 ?_
            refine r_iconst (pc := 145) C dX5_value_145 ?_
            refine r_icmp_ge (pc := 146) (tgt := 151) C h dX5_value_146 (by decide) (fun hc146 h => ?_) (fun hc146 h => ?_)
            · obtain ⟨v2_151, hv2_151, h⟩ := lt_inv h
              refine r_iincN (pc := 151) (y := v2_151) (lv' := [(2, vI v2_151), (4, vI v4_44), (0, vR b th), (1, vI v1), (3, vI v3)]) C 3 rfl hv2_151 dX5_value_151 (by decide) rfl ?_
              refine r_aload_n (pc := 154) C 2 rfl rfl dX5_value_154 ?_
              refine r_getR (pc := 155) C fl_RX5_26 (x_sI_Rules hth) (x_nI_Rules hth) x_kRules_4 (x_rI_Rules_4 hth) dX5_value_155 ?_
              refine r_iload_n (pc := 158) C 0 rfl rfl dX5_value_158 ?_
              refine r_iconst (pc := 159) C dX5_value_159 ?_
              refine r_isub (pc := 160) C dX5_value_160 ?_
              obtain ⟨hi161, h⟩ := chk_inv h
              refine r_iald (pc := 161) C (x_aI_Rules_4 hth) (x_bI_Rules_4 hth) (by decide) hi161 rfl dX5_value_161 ?_
              refine r_if_eq (pc := 162) (tgt := 182) C h dX5_value_162 (by decide) (fun hc162 h => ?_) (fun hc162 h => ?_)
              · refine r_aload_n (pc := 182) C 2 rfl rfl dX5_value_182 ?_
                refine r_getR (pc := 183) C fl_RX5_26 (x_sI_Rules hth) (x_nI_Rules hth) x_kRules_4 (x_rI_Rules_4 hth) dX5_value_183 ?_
                refine r_iload_n (pc := 186) C 0 rfl rfl dX5_value_186 ?_
                refine r_iconst (pc := 187) C dX5_value_187 ?_
                refine r_isub (pc := 188) C dX5_value_188 ?_
                refine r_aload_n (pc := 189) C 2 rfl rfl dX5_value_189 ?_
                refine r_getR (pc := 190) C fl_RX5_26 (x_sI_Rules hth) (x_nI_Rules hth) x_kRules_4 (x_rI_Rules_4 hth) dX5_value_190 ?_
                refine r_iload_n (pc := 193) C 0 rfl rfl dX5_value_193 ?_
                refine r_iconst (pc := 194) C dX5_value_194 ?_
                refine r_iadd (pc := 195) C dX5_value_195 ?_
                obtain ⟨hi196, h⟩ := chk_inv h
                refine r_iald (pc := 196) C (x_aI_Rules_4 hth) (x_bI_Rules_4 hth) (by decide) hi196 rfl dX5_value_196 ?_
                obtain ⟨hi197, h⟩ := chk_inv h
                obtain ⟨M_197, hM_197, h⟩ := lt_inv h
                refine r_iast (pc := 197) C (x_aI_Rules_4 hth) (x_bI_Rules_4 hth) (by decide) hi197 rfl hM_197 dX5_value_197 ?_
                refine r_goto (pc := 198) (tgt := 242) C dX5_value_198 (by decide) ?_
                obtain ⟨v3_242, hv3_242, h⟩ := lt_inv h
                refine r_iincN (pc := 242) (y := v3_242) (lv' := [(3, vI v3_242), (2, vI v2_151), (4, vI v4_44), (0, vR b th), (1, vI v1)]) C 4 rfl hv3_242 dX5_value_242 (by decide) rfl ?_
                refine r_goto (pc := 245) (tgt := 19) C dX5_value_245 (by decide) ?_
                refine r_sub (lv' := [(0, vR b th), (1, vI v1), (2, vI v2_151), (3, vI v3_242)]) [3, 4, 1, 0] rfl ?_
                exact hrec _ _ _ h
              · refine r_aload_n (pc := 165) C 2 rfl rfl dX5_value_165 ?_
                refine r_getR (pc := 166) C fl_RX5_26 (x_sI_Rules hth) (x_nI_Rules hth) x_kRules_4 (x_rI_Rules_4 hth) dX5_value_166 ?_
                refine r_iload_n (pc := 169) C 0 rfl rfl dX5_value_169 ?_
                refine r_iconst (pc := 170) C dX5_value_170 ?_
                refine r_isub (pc := 171) C dX5_value_171 ?_
                refine r_aload_n (pc := 172) C 2 rfl rfl dX5_value_172 ?_
                refine r_getR (pc := 173) C fl_RX5_26 (x_sI_Rules hth) (x_nI_Rules hth) x_kRules_4 (x_rI_Rules_4 hth) dX5_value_173 ?_
                refine r_iload_n (pc := 176) C 0 rfl rfl dX5_value_176 ?_
                obtain ⟨hi177, h⟩ := chk_inv h
                refine r_iald (pc := 177) C (x_aI_Rules_4 hth) (x_bI_Rules_4 hth) (by decide) hi177 rfl dX5_value_177 ?_
                obtain ⟨hi178, h⟩ := chk_inv h
                obtain ⟨M_178, hM_178, h⟩ := lt_inv h
                refine r_iast (pc := 178) C (x_aI_Rules_4 hth) (x_bI_Rules_4 hth) (by decide) hi178 rfl hM_178 dX5_value_178 ?_
                refine r_goto (pc := 179) (tgt := 242) C dX5_value_179 (by decide) ?_
                obtain ⟨v3_242, hv3_242, h⟩ := lt_inv h
                refine r_iincN (pc := 242) (y := v3_242) (lv' := [(3, vI v3_242), (2, vI v2_151), (4, vI v4_44), (0, vR b th), (1, vI v1)]) C 4 rfl hv3_242 dX5_value_242 (by decide) rfl ?_
                refine r_goto (pc := 245) (tgt := 19) C dX5_value_245 (by decide) ?_
                refine r_sub (lv' := [(0, vR b th), (1, vI v1), (2, vI v2_151), (3, vI v3_242)]) [3, 4, 1, 0] rfl ?_
                exact hrec _ _ _ h
            · refine r_iconst (pc := 149) C dX5_value_149 ?_
              have e := hret _ (Option.some.inj h).symm
              exact r_iret (pc := 150) C hr (congrArg (fun z => some (vI z)) (Prod.mk.inj e).1.symm) (Prod.mk.inj e).2.symm dX5_value_150
        · refine r_iload_n (pc := 108) C 3 rfl rfl dX5_value_108 ?_
          refine r_iconst (pc := 109) C dX5_value_109 ?_
          refine r_icmp_ge (pc := 110) (tgt := 115) C h dX5_value_110 (by decide) (fun hc110 h => ?_) (fun hc110 h => ?_)
          · refine r_aload_n (pc := 115) C 1 rfl rfl dX5_value_115 ?_
            refine r_getR (pc := 116) C fl_RX5_26 (x_sI_Rules hth) (x_nI_Rules hth) x_kRules_4 (x_rI_Rules_4 hth) dX5_value_116 ?_
            refine r_iload_n (pc := 119) C 3 rfl rfl dX5_value_119 ?_
            refine r_iconst (pc := 120) C dX5_value_120 ?_
            refine r_isub (pc := 121) C dX5_value_121 ?_
            refine r_iconst (pc := 122) C dX5_value_122 ?_
            refine r_aload_n (pc := 123) C 1 rfl rfl dX5_value_123 ?_
            refine r_getR (pc := 124) C fl_RX5_26 (x_sI_Rules hth) (x_nI_Rules hth) x_kRules_4 (x_rI_Rules_4 hth) dX5_value_124 ?_
            refine r_iload_n (pc := 127) C 3 rfl rfl dX5_value_127 ?_
            refine r_iconst (pc := 128) C dX5_value_128 ?_
            refine r_isub (pc := 129) C dX5_value_129 ?_
            obtain ⟨hi130, h⟩ := chk_inv h
            refine r_iald (pc := 130) C (x_aI_Rules_4 hth) (x_bI_Rules_4 hth) (by decide) hi130 rfl dX5_value_130 ?_
            refine r_isub (pc := 131) C dX5_value_131 ?_
            obtain ⟨hi132, h⟩ := chk_inv h
            obtain ⟨M_132, hM_132, h⟩ := lt_inv h
            refine r_iast (pc := 132) C (x_aI_Rules_4 hth) (x_bI_Rules_4 hth) (by decide) hi132 rfl hM_132 dX5_value_132 ?_
            refine r_goto (pc := 133) (tgt := 242) C dX5_value_133 (by decide) ?_
            obtain ⟨v3_242, hv3_242, h⟩ := lt_inv h
            refine r_iincN (pc := 242) (y := v3_242) (lv' := [(3, vI v3_242), (4, vI v4_44), (0, vR b th), (1, vI v1), (2, vI v2)]) C 4 rfl hv3_242 dX5_value_242 (by decide) rfl ?_
            refine r_goto (pc := 245) (tgt := 19) C dX5_value_245 (by decide) ?_
            refine r_sub (lv' := [(0, vR b th), (1, vI v1), (2, vI v2), (3, vI v3_242)]) [2, 3, 4, 0] rfl ?_
            exact hrec _ _ _ h
          · refine r_iconst (pc := 113) C dX5_value_113 ?_
            have e := hret _ (Option.some.inj h).symm
            exact r_iret (pc := 114) C hr (congrArg (fun z => some (vI z)) (Prod.mk.inj e).1.symm) (Prod.mk.inj e).2.symm dX5_value_114
      · refine r_iload_n (pc := 54) C 3 rfl rfl dX5_value_54 ?_
        refine r_aload_n (pc := 55) C 1 rfl rfl dX5_value_55 ?_
        refine r_getR (pc := 56) C fl_RX5_26 (x_sI_Rules hth) (x_nI_Rules hth) x_kRules_4 (x_rI_Rules_4 hth) dX5_value_56 ?_
        refine r_alen (pc := 59) C (x_aI_Rules_4 hth) (x_bI_Rules_4 hth) dX5_value_59 ?_
        refine r_icmp_lt (pc := 60) (tgt := 65) C h dX5_value_60 (by decide) (fun hc60 h => ?_) (fun hc60 h => ?_)
        · refine r_aload_n (pc := 65) C 1 rfl rfl dX5_value_65 ?_
          refine r_getR (pc := 66) C fl_RX5_26 (x_sI_Rules hth) (x_nI_Rules hth) x_kRules_4 (x_rI_Rules_4 hth) dX5_value_66 ?_
          refine r_iload_n (pc := 69) C 3 rfl rfl dX5_value_69 ?_
          refine r_iload (pc := 70) C 0 rfl dX5_value_70 ?_
          refine r_sipush (pc := 72) (j := 10000) C (by decide +kernel) dX5_value_72 ?_
          refine r_icmp_ge (pc := 75) (tgt := 83) C h dX5_value_75 (by decide) (fun hc75 h => ?_) (fun hc75 h => ?_)
          · refine r_aload_n (pc := 83) C 1 rfl rfl dX5_value_83 ?_
            refine r_iload (pc := 84) C 0 rfl dX5_value_84 ?_
            refine r_sipush (pc := 86) (j := 10000) C (by decide +kernel) dX5_value_86 ?_
            refine r_isub (pc := 89) C dX5_value_89 ?_
            obtain ⟨r3, hq3, h⟩ := bnd_inv h
            refine r_callV (pc := 90) (rest := [vI v2, vR b (th + 5)]) (st1 := [vI r3, vI v2, vR b (th + 5)]) C (xExtOK σ b) [vI (v4_44 - 10000)] (c_x_Rules_factOf l th hth hq3) cl_RX5_53 (x_sI_Rules hth) (x_nI_Rules hth) rfl rfl rfl rfl ⟨Nat.le_of_ble_eq_true rfl, Nat.le_of_ble_eq_true rfl⟩ (Nat.le_of_ble_eq_true rfl) rfl rfl dX5_value_90 ?_
            obtain ⟨hi93, h⟩ := chk_inv h
            obtain ⟨M_93, hM_93, h⟩ := lt_inv h
            refine r_iast (pc := 93) C (x_aI_Rules_4 hth) (x_bI_Rules_4 hth) (by decide) hi93 rfl hM_93 dX5_value_93 ?_
            obtain ⟨v2_94, hv2_94, h⟩ := lt_inv h
            refine r_iincN (pc := 94) (y := v2_94) (lv' := [(2, vI v2_94), (4, vI v4_44), (0, vR b th), (1, vI v1), (3, vI v3)]) C 3 rfl hv2_94 dX5_value_94 (by decide) rfl ?_
            refine r_goto (pc := 97) (tgt := 242) C dX5_value_97 (by decide) ?_
            obtain ⟨v3_242, hv3_242, h⟩ := lt_inv h
            refine r_iincN (pc := 242) (y := v3_242) (lv' := [(3, vI v3_242), (2, vI v2_94), (4, vI v4_44), (0, vR b th), (1, vI v1)]) C 4 rfl hv3_242 dX5_value_242 (by decide) rfl ?_
            refine r_goto (pc := 245) (tgt := 19) C dX5_value_245 (by decide) ?_
            refine r_sub (lv' := [(0, vR b th), (1, vI v1), (2, vI v2_94), (3, vI v3_242)]) [3, 4, 1, 0] rfl ?_
            exact hrec _ _ _ h
          · refine r_iload (pc := 78) C 0 rfl dX5_value_78 ?_
            refine r_goto (pc := 80) (tgt := 93) C dX5_value_80 (by decide) ?_
            obtain ⟨hi93, h⟩ := chk_inv h
            obtain ⟨M_93, hM_93, h⟩ := lt_inv h
            refine r_iast (pc := 93) C (x_aI_Rules_4 hth) (x_bI_Rules_4 hth) (by decide) hi93 rfl hM_93 dX5_value_93 ?_
            obtain ⟨v2_94, hv2_94, h⟩ := lt_inv h
            refine r_iincN (pc := 94) (y := v2_94) (lv' := [(2, vI v2_94), (4, vI v4_44), (0, vR b th), (1, vI v1), (3, vI v3)]) C 3 rfl hv2_94 dX5_value_94 (by decide) rfl ?_
            refine r_goto (pc := 97) (tgt := 242) C dX5_value_97 (by decide) ?_
            obtain ⟨v3_242, hv3_242, h⟩ := lt_inv h
            refine r_iincN (pc := 242) (y := v3_242) (lv' := [(3, vI v3_242), (2, vI v2_94), (4, vI v4_44), (0, vR b th), (1, vI v1)]) C 4 rfl hv3_242 dX5_value_242 (by decide) rfl ?_
            refine r_goto (pc := 245) (tgt := 19) C dX5_value_245 (by decide) ?_
            refine r_sub (lv' := [(0, vR b th), (1, vI v1), (2, vI v2_94), (3, vI v3_242)]) [3, 4, 1, 0] rfl ?_
            exact hrec _ _ _ h
        · refine r_iconst (pc := 63) C dX5_value_63 ?_
          have e := hret _ (Option.some.inj h).symm
          exact r_iret (pc := 64) C hr (congrArg (fun z => some (vI z)) (Prod.mk.inj e).1.symm) (Prod.mk.inj e).2.symm dX5_value_64
set_option maxHeartbeats 4000000 in
theorem w_x_Rules_value_L19 (C : xCX σ p s m args meth c cX5_value 5 RX5 D E b) (hr : meth.sig.returnType = (some .int)) {r0 : Int} {M0 : Mem} (th : Nat) (hth : th ∈ xI_Rules) {v1 : Int} {q : (Int × Mem) ⊕ (Int × Int × Mem)} (hret : ∀ r, q = .inl r → r = (r0, M0)) (hfol : ∀ (v2 : Int) (v3 : Int) (M : Mem), q = .inr (v2, v3, M) → xWX p l e 3 59 s m args below meth c 5 D E b (some (vI r0)) M0 M 248 [(0, vR b th), (2, vI v2)] []) : ∀ (n : Nat) (v2 : Int) (v3 : Int) (M : Mem), itr3 (x_Rules_value_L19 th v1) n v2 v3 M = some q →
    xWX p l e 3 59 s m args below meth c 5 D E b (some (vI r0)) M0 M 19 [(0, vR b th), (1, vI v1), (2, vI v2), (3, vI v3)] [] := by
  intro n
  induction n with
  | zero => exact fun _ _ _ h => itr_z h
  | succ n ih => exact fun _ _ _ h => w_x_Rules_value_L19_s C hr th hth ih hret hfol h
set_option maxHeartbeats 4000000 in
set_option maxRecDepth 20000 in
theorem c_x_Rules_value (l : Launch) (th : Nat) (hth : th ∈ xI_Rules) {x1 : Int} {M : Mem} {r0 : Int} {M0 : Mem} (h : x_Rules_value th x1 M = some (r0, M0)) : Ct l yX5_value cX5_value 5 (some .int) 3 59 vwCl xSh xN xRf (xExt σ) (fun b => [vR b th, vI x1]) M (fun b => (some (vI r0))) M0 := by
  refine Ct_of (xExtOK σ) (by decide) (fun b => Nat.le_of_ble_eq_true rfl) ?_
  intro p e s m args below meth c D E b C hr
  unfold x_Rules_value at h
  refine (show xWX p l e 3 59 s m args below meth c 5 D E b (some (vI r0)) M0 M 0 [(0, vR b th), (1, vI x1)] [] from ?_)
  refine r_aload_n (pc := 0) C 0 rfl rfl dX5_value_0 ?_
  refine r_iload_n (pc := 1) C 1 rfl rfl dX5_value_1 ?_
  obtain ⟨r1, hq1, h⟩ := bnd_inv h
  refine r_callV (pc := 2) (rest := []) (st1 := [vB r1]) C (xExtOK σ b) [vI x1] (c_x_Rules_isTold l th hth hq1) cl_RX5_49 (x_sI_Rules hth) (x_nI_Rules hth) rfl rfl rfl rfl ⟨Nat.le_of_ble_eq_true rfl, Nat.le_of_ble_eq_true rfl⟩ (Nat.le_of_ble_eq_true rfl) rfl rfl dX5_value_2 ?_
  refine r_if_neB (pc := 5) (tgt := 10) C h dX5_value_5 (by decide) (fun hc5 h => ?_) (fun hc5 h => ?_)
  · refine r_iconst (pc := 10) C dX5_value_10 ?_
    refine r_istore_n (pc := 11) (lv' := [(2, vI 0), (0, vR b th), (1, vI x1)]) C rfl dX5_value_11 (by decide) rfl ?_
    refine r_aload_n (pc := 12) C 1 rfl rfl dX5_value_12 ?_
    refine r_getR (pc := 13) C fl_RX5_20 (x_sI_Rules hth) (x_nI_Rules hth) x_kRules_2 (x_rI_Rules_2 hth) dX5_value_13 ?_
    refine r_iload_n (pc := 16) C 2 rfl rfl dX5_value_16 ?_
    obtain ⟨hi17, h⟩ := chk_inv h
    refine r_iald (pc := 17) C (x_aI_Rules_2 hth) (x_bI_Rules_2 hth) (by decide) hi17 rfl dX5_value_17 ?_
    obtain ⟨v3_18, hv3_18, h⟩ := lt_inv h
    refine r_topI hv3_18 ?_
    refine r_istore_n (pc := 18) (lv' := [(3, vI v3_18), (2, vI 0), (0, vR b th), (1, vI x1)]) C rfl dX5_value_18 (by decide) rfl ?_
    refine r_sub (lv' := [(0, vR b th), (1, vI x1), (2, vI 0), (3, vI v3_18)]) [2, 3, 1, 0] rfl ?_
    obtain ⟨q4, hl4, h⟩ := bnd_inv h
    refine w_x_Rules_value_L19 C hr th hth (fun r hq => ?_) (fun v2_4 v3_4 M_4 hq => ?_) FUEL _ _ _ hl4
    · have hq := hq.symm
      subst hq
      exact Option.some.inj h
    · have hq := hq.symm
      subst hq
      refine r_iload_n (pc := 248) C 1 rfl rfl dX5_value_248 ?_
      refine r_iconst (pc := 249) C dX5_value_249 ?_
      refine r_icmp_ne (pc := 250) (tgt := 262) C h dX5_value_250 (by decide) (fun hc250 h => ?_) (fun hc250 h => ?_)
      · refine r_iconst (pc := 262) C dX5_value_262 ?_
        have e := Option.some.inj h
        exact r_iret (pc := 263) C hr (congrArg (fun z => some (vI z)) (Prod.mk.inj e).1.symm) (Prod.mk.inj e).2.symm dX5_value_263
      · refine r_aload_n (pc := 253) C 0 rfl rfl dX5_value_253 ?_
        refine r_getR (pc := 254) C fl_RX5_26 (x_sI_Rules hth) (x_nI_Rules hth) x_kRules_4 (x_rI_Rules_4 hth) dX5_value_254 ?_
        refine r_iconst (pc := 257) C dX5_value_257 ?_
        refine r_iald (pc := 258) C (x_aI_Rules_4 hth) (x_bI_Rules_4 hth) (by decide) (by decide) rfl dX5_value_258 ?_
        refine r_goto (pc := 259) (tgt := 263) C dX5_value_259 (by decide) ?_
        have e := Option.some.inj h
        exact r_iret (pc := 263) C hr (congrArg (fun z => some (vI z)) (Prod.mk.inj e).1.symm) (Prod.mk.inj e).2.symm dX5_value_263
  · refine r_iconst (pc := 8) C dX5_value_8 ?_
    have e := Option.some.inj h
    exact r_iret (pc := 9) C hr (congrArg (fun z => some (vI z)) (Prod.mk.inj e).1.symm) (Prod.mk.inj e).2.symm dX5_value_9
set_option maxHeartbeats 4000000 in
set_option maxRecDepth 20000 in
theorem c_x_Town_toneOf (l : Launch) (th : Nat) (hth : th ∈ xI_Town) {x1 : Int} {M : Mem} {r0 : Int} (h : x_Town_toneOf th x1 M = some r0) : Ct l yX9_toneOf cX9_toneOf 3 (some .int) 1 12 vwCl xSh xN xRf (xExt σ) (fun b => [vR b th, vI x1]) M (fun b => (some (vI r0))) M := by
  refine Ct_of (xExtOK σ) (by decide) (fun b => Nat.le_of_ble_eq_true rfl) ?_
  intro p e s m args below meth c D E b C hr
  unfold x_Town_toneOf at h
  refine (show xWX p l e 1 12 s m args below meth c 3 D E b (some (vI r0)) M M 0 [(0, vR b th), (1, vI x1)] [] from ?_)
  refine r_aload_n (pc := 0) C 0 rfl rfl dX9_toneOf_0 ?_
  refine r_getR (pc := 1) C fl_RX9_27 (x_sI_Town hth) (x_nI_Town hth) x_kTown_9 (x_rI_Town_9 hth) dX9_toneOf_1 ?_
  refine r_iload_n (pc := 4) C 1 rfl rfl dX9_toneOf_4 ?_
  obtain ⟨hi5, h⟩ := chk_inv h
  refine r_iald (pc := 5) C (x_aI_Town_9 hth) (x_bI_Town_9 hth) (by decide) hi5 rfl dX9_toneOf_5 ?_
  obtain ⟨v2_6, hv2_6, h⟩ := lt_inv h
  refine r_topI hv2_6 ?_
  refine r_istore_n (pc := 6) (lv' := [(2, vI v2_6), (0, vR b th), (1, vI x1)]) C rfl dX9_toneOf_6 (by decide) rfl ?_
  refine r_iload_n (pc := 7) C 0 rfl rfl dX9_toneOf_7 ?_
  refine r_if_lt (pc := 8) (tgt := 26) C h dX9_toneOf_8 (by decide) (fun hc8 h => ?_) (fun hc8 h => ?_)
  · refine r_iconst (pc := 26) C dX9_toneOf_26 ?_
    have e := Option.some.inj h
    exact r_iret (pc := 27) C hr (congrArg (fun z => some (vI z)) e.symm) rfl dX9_toneOf_27
  · refine r_iload_n (pc := 11) C 0 rfl rfl dX9_toneOf_11 ?_
    refine r_bipush (pc := 12) (j := 8) C (by decide +kernel) dX9_toneOf_12 ?_
    refine r_icmp_ge (pc := 14) (tgt := 26) C h dX9_toneOf_14 (by decide) (fun hc14 h => ?_) (fun hc14 h => ?_)
    · refine r_iconst (pc := 26) C dX9_toneOf_26 ?_
      have e := Option.some.inj h
      exact r_iret (pc := 27) C hr (congrArg (fun z => some (vI z)) e.symm) rfl dX9_toneOf_27
    · refine r_aload_n (pc := 17) C 1 rfl rfl dX9_toneOf_17 ?_
      refine r_getR (pc := 18) C fl_RX9_21 (x_sI_Town hth) (x_nI_Town hth) x_kTown_7 (x_rI_Town_7 hth) dX9_toneOf_18 ?_
      refine r_iload_n (pc := 21) C 0 rfl rfl dX9_toneOf_21 ?_
      obtain ⟨hi22, h⟩ := chk_inv h
      refine r_iald (pc := 22) C (x_aI_Town_7 hth) (x_bI_Town_7 hth) (by decide) hi22 rfl dX9_toneOf_22 ?_
      refine r_goto (pc := 23) (tgt := 27) C dX9_toneOf_23 (by decide) ?_
      have e := Option.some.inj h
      exact r_iret (pc := 27) C hr (congrArg (fun z => some (vI z)) e.symm) rfl dX9_toneOf_27
set_option maxHeartbeats 4000000 in
set_option maxRecDepth 20000 in
theorem c_x_State_know (l : Launch) (th : Nat) (hth : th ∈ xI_State) {x1 : Int} {M : Mem} {M0 : Mem} (h : x_State_know th x1 M = some M0) : Ct l yX6_know cX6_know 2 none 2 34 vwCl xSh xN xRf (xExt σ) (fun b => [vR b th, vI x1]) M (fun b => none) M0 := by
  refine Ct_of (xExtOK σ) (by decide) (fun b => Nat.le_of_ble_eq_true rfl) ?_
  intro p e s m args below meth c D E b C hr
  unfold x_State_know at h
  refine (show xWX p l e 2 34 s m args below meth c 2 D E b none M0 M 0 [(0, vR b th), (1, vI x1)] [] from ?_)
  refine r_aload_n (pc := 0) C 0 rfl rfl dX6_know_0 ?_
  refine r_getR (pc := 1) C fl_RX6_48 (x_sI_State hth) (x_nI_State hth) x_kState_14 (x_rI_State_14 hth) dX6_know_1 ?_
  refine r_getR (pc := 4) C fl_RX6_92 x_s23 (by decide) x_kTown_12 x_r23_12 dX6_know_4 ?_
  refine r_getR (pc := 7) C fl_RX6_114 x_s32 (by decide) x_kRules_0 x_r32_0 dX6_know_7 ?_
  refine r_bipush (pc := 10) (j := 11) C (by decide +kernel) dX6_know_10 ?_
  refine r_aload_n (pc := 12) C 0 rfl rfl dX6_know_12 ?_
  refine r_getR (pc := 13) C fl_RX6_48 (x_sI_State hth) (x_nI_State hth) x_kState_14 (x_rI_State_14 hth) dX6_know_13 ?_
  refine r_iload_n (pc := 16) C 1 rfl rfl dX6_know_16 ?_
  obtain ⟨r1, hq1, h⟩ := bnd_inv h
  refine r_callV (pc := 17) (rest := [vI 11, vR b 33]) (st1 := [vI r1, vI 11, vR b 33]) C (xExtOK σ b) [vI x1] (c_x_Town_toneOf l 23 x_m23 hq1) cl_RX6_102 x_s23 (by decide) rfl rfl rfl rfl ⟨Nat.le_of_ble_eq_true rfl, Nat.le_of_ble_eq_true rfl⟩ (Nat.le_of_ble_eq_true rfl) rfl rfl dX6_know_17 ?_
  obtain ⟨M_20, hM_20, h⟩ := lt_inv h
  refine r_iast (pc := 20) C x_s33 (by decide) (by decide) (by decide) rfl hM_20 dX6_know_20 ?_
  refine r_aload_n (pc := 21) C 0 rfl rfl dX6_know_21 ?_
  refine r_getR (pc := 22) C fl_RX6_48 (x_sI_State hth) (x_nI_State hth) x_kState_14 (x_rI_State_14 hth) dX6_know_22 ?_
  refine r_getR (pc := 25) C fl_RX6_92 x_s23 (by decide) x_kTown_12 x_r23_12 dX6_know_25 ?_
  refine r_getR (pc := 28) C fl_RX6_114 x_s32 (by decide) x_kRules_0 x_r32_0 dX6_know_28 ?_
  refine r_bipush (pc := 31) (j := 12) C (by decide +kernel) dX6_know_31 ?_
  refine r_aload_n (pc := 33) C 0 rfl rfl dX6_know_33 ?_
  refine r_getR (pc := 34) C fl_RX6_27 (x_sI_State hth) (x_nI_State hth) x_kState_5 (x_rI_State_5 hth) dX6_know_34 ?_
  refine r_iload_n (pc := 37) C 1 rfl rfl dX6_know_37 ?_
  obtain ⟨hi38, h⟩ := chk_inv h
  refine r_iald (pc := 38) C (x_aI_State_5 hth) (x_bI_State_5 hth) (by decide) hi38 rfl dX6_know_38 ?_
  obtain ⟨M_39, hM_39, h⟩ := lt_inv h
  refine r_iast (pc := 39) C x_s33 (by decide) (by decide) (by decide) rfl hM_39 dX6_know_39 ?_
  refine r_aload_n (pc := 40) C 0 rfl rfl dX6_know_40 ?_
  refine r_getR (pc := 41) C fl_RX6_48 (x_sI_State hth) (x_nI_State hth) x_kState_14 (x_rI_State_14 hth) dX6_know_41 ?_
  refine r_getR (pc := 44) C fl_RX6_92 x_s23 (by decide) x_kTown_12 x_r23_12 dX6_know_44 ?_
  refine r_getR (pc := 47) C fl_RX6_114 x_s32 (by decide) x_kRules_0 x_r32_0 dX6_know_47 ?_
  refine r_bipush (pc := 50) (j := 13) C (by decide +kernel) dX6_know_50 ?_
  refine r_aload_n (pc := 52) C 0 rfl rfl dX6_know_52 ?_
  refine r_getI (pc := 53) C fl_RX6_76 (x_sI_State hth) (x_nI_State hth) x_kState_13 dX6_know_53 ?_
  obtain ⟨M_56, hM_56, h⟩ := lt_inv h
  refine r_iast (pc := 56) C x_s33 (by decide) (by decide) (by decide) rfl hM_56 dX6_know_56 ?_
  refine r_aload_n (pc := 57) C 0 rfl rfl dX6_know_57 ?_
  refine r_getR (pc := 58) C fl_RX6_48 (x_sI_State hth) (x_nI_State hth) x_kState_14 (x_rI_State_14 hth) dX6_know_58 ?_
  refine r_getR (pc := 61) C fl_RX6_92 x_s23 (by decide) x_kTown_12 x_r23_12 dX6_know_61 ?_
  refine r_getR (pc := 64) C fl_RX6_114 x_s32 (by decide) x_kRules_0 x_r32_0 dX6_know_64 ?_
  refine r_bipush (pc := 67) (j := 10) C (by decide +kernel) dX6_know_67 ?_
  refine r_aload_n (pc := 69) C 0 rfl rfl dX6_know_69 ?_
  refine r_getR (pc := 70) C fl_RX6_48 (x_sI_State hth) (x_nI_State hth) x_kState_14 (x_rI_State_14 hth) dX6_know_70 ?_
  refine r_getR (pc := 73) C fl_RX6_149 x_s23 (by decide) x_kTown_11 x_r23_11 dX6_know_73 ?_
  refine r_iload_n (pc := 76) C 1 rfl rfl dX6_know_76 ?_
  obtain ⟨hi77, h⟩ := chk_inv h
  refine r_iald (pc := 77) C x_s31 (by decide) (by decide) hi77 rfl dX6_know_77 ?_
  obtain ⟨M_78, hM_78, h⟩ := lt_inv h
  refine r_iast (pc := 78) C x_s33 (by decide) (by decide) (by decide) rfl hM_78 dX6_know_78 ?_
  have e := Option.some.inj h
  exact r_vret (pc := 79) C hr rfl e.symm dX6_know_79
set_option maxHeartbeats 4000000 in
set_option maxRecDepth 20000 in
theorem c_j_Math_abs_0f7a4 (l : Launch) {x0 : Int} {M : Mem} {r0 : Int} (h : j_Math_abs_0f7a4 x0 = some r0) : Ct l yJ9_abs_0f7a4 cJ9_abs_0f7a4 1 (some .int) 1 12 vwCl xSh xN xRf (xExt σ) (fun b => [vI x0]) M (fun b => (some (vI r0))) M := by
  refine Ct_ofF (xExtOK σ) (by decide +kernel) (fun b => Nat.le_of_ble_eq_true rfl) ?_
  intro p e s m args below meth c D E b C hr
  unfold j_Math_abs_0f7a4 at h
  refine (show xWX p l e 1 12 s m args below meth c 1 D E b (some (vI r0)) M M 0 [(0, vI x0)] [] from ?_)
  refine r_iload_n (pc := 0) C 0 rfl rfl dJ9_abs_0f7a4_0 ?_
  refine r_if_ge (pc := 1) (tgt := 9) C h dJ9_abs_0f7a4_1 (by decide) (fun hc1 h => ?_) (fun hc1 h => ?_)
  · refine r_iload_n (pc := 9) C 0 rfl rfl dJ9_abs_0f7a4_9 ?_
    have e := Option.some.inj h
    exact r_iret (pc := 10) C hr (congrArg (fun z => some (vI z)) e.symm) rfl dJ9_abs_0f7a4_10
  · refine r_iload_n (pc := 4) C 0 rfl rfl dJ9_abs_0f7a4_4 ?_
    refine r_ineg (pc := 5) C dJ9_abs_0f7a4_5 ?_
    refine r_goto (pc := 6) (tgt := 10) C dJ9_abs_0f7a4_6 (by decide) ?_
    have e := Option.some.inj h
    exact r_iret (pc := 10) C hr (congrArg (fun z => some (vI z)) e.symm) rfl dJ9_abs_0f7a4_10
set_option maxHeartbeats 4000000 in
set_option maxRecDepth 20000 in
theorem c_x_State_sumOfPicks (l : Launch) (th : Nat) (hth : th ∈ xI_State) {x1 : Int} {x2 : Int} {M : Mem} {r0 : Int} {M0 : Mem} (h : x_State_sumOfPicks th x1 x2 M = some (r0, M0)) : Ct l yX6_sumOfPicks cX6_sumOfPicks 3 (some .int) 4 83 vwCl xSh xN xRf (xExt σ) (fun b => [vR b th, vI x1, vI x2]) M (fun b => (some (vI r0))) M0 := by
  refine Ct_of (xExtOK σ) (by decide) (fun b => Nat.le_of_ble_eq_true rfl) ?_
  intro p e s m args below meth c D E b C hr
  unfold x_State_sumOfPicks at h
  refine (show xWX p l e 4 83 s m args below meth c 3 D E b (some (vI r0)) M0 M 0 [(0, vR b th), (1, vI x1), (2, vI x2)] [] from ?_)
  refine r_aload_n (pc := 0) C 0 rfl rfl dX6_sumOfPicks_0 ?_
  refine r_getR (pc := 1) C fl_RX6_48 (x_sI_State hth) (x_nI_State hth) x_kState_14 (x_rI_State_14 hth) dX6_sumOfPicks_1 ?_
  refine r_getR (pc := 4) C fl_RX6_92 x_s23 (by decide) x_kTown_12 x_r23_12 dX6_sumOfPicks_4 ?_
  refine r_iconst (pc := 7) C dX6_sumOfPicks_7 ?_
  obtain ⟨r1, hq1, h⟩ := bnd_inv h
  refine r_callV (pc := 8) (rest := []) (st1 := [vB r1]) C (xExtOK σ b) [vI 0] (c_x_Rules_isTold l 32 x_m32 hq1) cl_RX6_96 x_s32 (by decide) rfl rfl rfl rfl ⟨Nat.le_of_ble_eq_true rfl, Nat.le_of_ble_eq_true rfl⟩ (Nat.le_of_ble_eq_true rfl) rfl rfl dX6_sumOfPicks_8 ?_
  refine r_if_neB (pc := 11) (tgt := 36) C h dX6_sumOfPicks_11 (by decide) (fun hc11 h => ?_) (fun hc11 h => ?_)
  · refine r_aload_n (pc := 36) C 0 rfl rfl dX6_sumOfPicks_36 ?_
    refine r_iload_n (pc := 37) C 1 rfl rfl dX6_sumOfPicks_37 ?_
    obtain ⟨M2, hq2, h⟩ := bnd_inv h
    refine r_callV (pc := 38) (rest := []) (st1 := []) C (xExtOK σ b) [vI x1] (c_x_State_know l th hth hq2) cl_RX6_110 (x_sI_State hth) (x_nI_State hth) rfl rfl rfl rfl ⟨Nat.le_of_ble_eq_true rfl, Nat.le_of_ble_eq_true rfl⟩ (Nat.le_of_ble_eq_true rfl) rfl rfl dX6_sumOfPicks_38 ?_
    refine r_aload_n (pc := 41) C 0 rfl rfl dX6_sumOfPicks_41 ?_
    refine r_getR (pc := 42) C fl_RX6_48 (x_sI_State hth) (x_nI_State hth) x_kState_14 (x_rI_State_14 hth) dX6_sumOfPicks_42 ?_
    refine r_getR (pc := 45) C fl_RX6_92 x_s23 (by decide) x_kTown_12 x_r23_12 dX6_sumOfPicks_45 ?_
    refine r_getR (pc := 48) C fl_RX6_114 x_s32 (by decide) x_kRules_0 x_r32_0 dX6_sumOfPicks_48 ?_
    refine r_bipush (pc := 51) (j := 14) C (by decide +kernel) dX6_sumOfPicks_51 ?_
    refine r_aload_n (pc := 53) C 0 rfl rfl dX6_sumOfPicks_53 ?_
    refine r_getR (pc := 54) C fl_RX6_18 (x_sI_State hth) (x_nI_State hth) x_kState_2 (x_rI_State_2 hth) dX6_sumOfPicks_54 ?_
    refine r_iload_n (pc := 57) C 2 rfl rfl dX6_sumOfPicks_57 ?_
    obtain ⟨hi58, h⟩ := chk_inv h
    refine r_iald (pc := 58) C (x_aI_State_2 hth) (x_bI_State_2 hth) (by decide) hi58 rfl dX6_sumOfPicks_58 ?_
    obtain ⟨M_59, hM_59, h⟩ := lt_inv h
    refine r_iast (pc := 59) C x_s33 (by decide) (by decide) (by decide) rfl hM_59 dX6_sumOfPicks_59 ?_
    refine r_aload_n (pc := 60) C 0 rfl rfl dX6_sumOfPicks_60 ?_
    refine r_getR (pc := 61) C fl_RX6_48 (x_sI_State hth) (x_nI_State hth) x_kState_14 (x_rI_State_14 hth) dX6_sumOfPicks_61 ?_
    refine r_getR (pc := 64) C fl_RX6_92 x_s23 (by decide) x_kTown_12 x_r23_12 dX6_sumOfPicks_64 ?_
    refine r_getR (pc := 67) C fl_RX6_114 x_s32 (by decide) x_kRules_0 x_r32_0 dX6_sumOfPicks_67 ?_
    refine r_bipush (pc := 70) (j := 7) C (by decide +kernel) dX6_sumOfPicks_70 ?_
    refine r_aload_n (pc := 72) C 0 rfl rfl dX6_sumOfPicks_72 ?_
    refine r_getR (pc := 73) C fl_RX6_9 (x_sI_State hth) (x_nI_State hth) x_kState_0 (x_rI_State_0 hth) dX6_sumOfPicks_73 ?_
    refine r_iload_n (pc := 76) C 2 rfl rfl dX6_sumOfPicks_76 ?_
    obtain ⟨hi77, h⟩ := chk_inv h
    refine r_iald (pc := 77) C (x_aI_State_0 hth) (x_bI_State_0 hth) (by decide) hi77 rfl dX6_sumOfPicks_77 ?_
    obtain ⟨M_78, hM_78, h⟩ := lt_inv h
    refine r_iast (pc := 78) C x_s33 (by decide) (by decide) (by decide) rfl hM_78 dX6_sumOfPicks_78 ?_
    refine r_aload_n (pc := 79) C 0 rfl rfl dX6_sumOfPicks_79 ?_
    refine r_getR (pc := 80) C fl_RX6_48 (x_sI_State hth) (x_nI_State hth) x_kState_14 (x_rI_State_14 hth) dX6_sumOfPicks_80 ?_
    refine r_getR (pc := 83) C fl_RX6_92 x_s23 (by decide) x_kTown_12 x_r23_12 dX6_sumOfPicks_83 ?_
    refine r_iconst (pc := 86) C dX6_sumOfPicks_86 ?_
    obtain ⟨r3, M3, hq3, h⟩ := bnd2_inv h
    refine r_callV (pc := 87) (rest := []) (st1 := [vI r3]) C (xExtOK σ b) [vI 0] (c_x_Rules_value l 32 x_m32 hq3) cl_RX6_119 x_s32 (by decide) rfl rfl rfl rfl ⟨Nat.le_of_ble_eq_true rfl, Nat.le_of_ble_eq_true rfl⟩ (Nat.le_of_ble_eq_true rfl) rfl rfl dX6_sumOfPicks_87 ?_
    have e := Option.some.inj h
    exact r_iret (pc := 90) C hr (congrArg (fun z => some (vI z)) (Prod.mk.inj e).1.symm) (Prod.mk.inj e).2.symm dX6_sumOfPicks_90
  · refine r_bipush (pc := 14) (j := 9) C (by decide +kernel) dX6_sumOfPicks_14 ?_
    refine r_aload_n (pc := 16) C 0 rfl rfl dX6_sumOfPicks_16 ?_
    refine r_getR (pc := 17) C fl_RX6_9 (x_sI_State hth) (x_nI_State hth) x_kState_0 (x_rI_State_0 hth) dX6_sumOfPicks_17 ?_
    refine r_iload_n (pc := 20) C 2 rfl rfl dX6_sumOfPicks_20 ?_
    obtain ⟨hi21, h⟩ := chk_inv h
    refine r_iald (pc := 21) C (x_aI_State_0 hth) (x_bI_State_0 hth) (by decide) hi21 rfl dX6_sumOfPicks_21 ?_
    refine r_aload_n (pc := 22) C 0 rfl rfl dX6_sumOfPicks_22 ?_
    refine r_getR (pc := 23) C fl_RX6_48 (x_sI_State hth) (x_nI_State hth) x_kState_14 (x_rI_State_14 hth) dX6_sumOfPicks_23 ?_
    refine r_iload_n (pc := 26) C 1 rfl rfl dX6_sumOfPicks_26 ?_
    obtain ⟨r4, hq4, h⟩ := bnd_inv h
    refine r_callV (pc := 27) (rest := [vI (M (th + 1) x2.toNat), vI 9]) (st1 := [vI r4, vI (M (th + 1) x2.toNat), vI 9]) C (xExtOK σ b) [vI x1] (c_x_Town_toneOf l 23 x_m23 hq4) cl_RX6_102 x_s23 (by decide) rfl rfl rfl rfl ⟨Nat.le_of_ble_eq_true rfl, Nat.le_of_ble_eq_true rfl⟩ (Nat.le_of_ble_eq_true rfl) rfl rfl dX6_sumOfPicks_27 ?_
    refine r_isub (pc := 30) C dX6_sumOfPicks_30 ?_
    obtain ⟨r5, hq5, h⟩ := bnd_inv h
    refine r_callS (pc := 31) (rest := [vI 9]) (st1 := [vI r5, vI 9]) C (xExtOK σ b) [vI ((M (th + 1) x2.toNat) - r4)] (c_j_Math_abs_0f7a4 l hq5) cl_RX6_105 rfl rfl ⟨Nat.le_of_ble_eq_true rfl, Nat.le_of_ble_eq_true rfl⟩ (Nat.le_of_ble_eq_true rfl) rfl rfl dX6_sumOfPicks_31 ?_
    refine r_isub (pc := 34) C dX6_sumOfPicks_34 ?_
    have e := Option.some.inj h
    exact r_iret (pc := 35) C hr (congrArg (fun z => some (vI z)) (Prod.mk.inj e).1.symm) (Prod.mk.inj e).2.symm dX6_sumOfPicks_35
set_option maxHeartbeats 4000000 in
set_option maxRecDepth 20000 in
theorem c_x_X_picks (l : Launch) {x1 : Int} {x2 : Int} {M : Mem} {r0 : Int} {M0 : Mem} (h : x_X_picks x1 x2 M = some (r0, M0)) : Ct l yX11_picks cX11_picks 3 (some .long) 5 105 vwCl xSh xN xRf (xExt σ) (fun b => [vR b 0, vI x1, vI x2]) M (fun b => (some (vL r0))) M0 := by
  refine Ct_of (xExtOK σ) (by decide) (fun b => Nat.le_of_ble_eq_true rfl) ?_
  intro p e s m args below meth c D E b C hr
  unfold x_X_picks at h
  refine (show xWX p l e 5 105 s m args below meth c 3 D E b (some (vL r0)) M0 M 0 [(0, vR b 0), (1, vI x1), (2, vI x2)] [] from ?_)
  refine r_aload_n (pc := 0) C 0 rfl rfl dX11_picks_0 ?_
  refine r_iload_n (pc := 1) C 1 rfl rfl dX11_picks_1 ?_
  obtain ⟨r1, hq1, h⟩ := bnd_inv h
  refine r_callV (pc := 2) (rest := []) (st1 := [vB r1]) C (xExtOK σ b) [vI x1] (c_x_X_isSaying l hq1) cl_RX11_189 x_s0 (by decide) rfl rfl rfl rfl ⟨Nat.le_of_ble_eq_true rfl, Nat.le_of_ble_eq_true rfl⟩ (Nat.le_of_ble_eq_true rfl) rfl rfl dX11_picks_2 ?_
  refine r_if_eqB (pc := 5) (tgt := 16) C h dX11_picks_5 (by decide) (fun hc5 h => ?_) (fun hc5 h => ?_)
  · refine r_aload_n (pc := 8) C 0 rfl rfl dX11_picks_8 ?_
    refine r_iload_n (pc := 9) C 2 rfl rfl dX11_picks_9 ?_
    obtain ⟨r2, hq2, h⟩ := bnd_inv h
    refine r_callV (pc := 10) (rest := []) (st1 := [vB r2]) C (xExtOK σ b) [vI x2] (c_x_X_isVoice l hq2) cl_RX11_149 x_s0 (by decide) rfl rfl rfl rfl ⟨Nat.le_of_ble_eq_true rfl, Nat.le_of_ble_eq_true rfl⟩ (Nat.le_of_ble_eq_true rfl) rfl rfl dX11_picks_10 ?_
    refine r_if_neB (pc := 13) (tgt := 20) C h dX11_picks_13 (by decide) (fun hc13 h => ?_) (fun hc13 h => ?_)
    · refine r_aload_n (pc := 20) C 0 rfl rfl dX11_picks_20 ?_
      refine r_getR (pc := 21) C fl_RX11_35 x_s0 (by decide) x_kX_3 x_r0_3 dX11_picks_21 ?_
      refine r_iload_n (pc := 24) C 1 rfl rfl dX11_picks_24 ?_
      refine r_iload_n (pc := 25) C 2 rfl rfl dX11_picks_25 ?_
      obtain ⟨r3, M3, hq3, h⟩ := bnd2_inv h
      refine r_callV (pc := 26) (rest := []) (st1 := [vI r3]) C (xExtOK σ b) [vI x1, vI x2] (c_x_State_sumOfPicks l 38 x_m38 hq3) cl_RX11_218 x_s38 (by decide) rfl rfl rfl rfl ⟨Nat.le_of_ble_eq_true rfl, Nat.le_of_ble_eq_true rfl⟩ (Nat.le_of_ble_eq_true rfl) rfl rfl dX11_picks_26 ?_
      refine r_i2l (pc := 29) C dX11_picks_29 ?_
      have e := Option.some.inj h
      exact r_lret (pc := 30) C hr (congrArg (fun z => some (vL z)) (Prod.mk.inj e).1.symm) (Prod.mk.inj e).2.symm dX11_picks_30
    · refine r_ldc2 (pc := 16) (j := (-1000000000000000)) C (by decide +kernel) gk_RX11_216 dX11_picks_16 ?_
      have e := Option.some.inj h
      exact r_lret (pc := 19) C hr (congrArg (fun z => some (vL z)) (Prod.mk.inj e).1.symm) (Prod.mk.inj e).2.symm dX11_picks_19
  · refine r_ldc2 (pc := 16) (j := (-1000000000000000)) C (by decide +kernel) gk_RX11_216 dX11_picks_16 ?_
    have e := Option.some.inj h
    exact r_lret (pc := 19) C hr (congrArg (fun z => some (vL z)) (Prod.mk.inj e).1.symm) (Prod.mk.inj e).2.symm dX11_picks_19
set_option maxHeartbeats 4000000 in
set_option maxRecDepth 20000 in
theorem c_x_X_comes (l : Launch) {x1 : Int} {x2 : Int} {x3 : Int} {M : Mem} {r0 : Bool} (h : x_X_comes x1 x2 x3 M = some r0) : Ct l yX11_comes cX11_comes 4 (some .boolean) 1 12 vwCl xSh xN xRf (xExt σ) (fun b => [vR b 0, vI x1, vI x2, vI x3]) M (fun b => (some (vB r0))) M := by
  refine Ct_of (xExtOK σ) (by decide) (fun b => Nat.le_of_ble_eq_true rfl) ?_
  intro p e s m args below meth c D E b C hr
  unfold x_X_comes at h
  refine (show xWX p l e 1 12 s m args below meth c 4 D E b (some (vB r0)) M M 0 [(0, vR b 0), (1, vI x1), (2, vI x2), (3, vI x3)] [] from ?_)
  refine r_iload_n (pc := 0) C 1 rfl rfl dX11_comes_0 ?_
  refine r_iload_n (pc := 1) C 2 rfl rfl dX11_comes_1 ?_
  refine r_icmp_lt (pc := 2) (tgt := 29) C h dX11_comes_2 (by decide) (fun hc2 h => ?_) (fun hc2 h => ?_)
  · refine r_iconst (pc := 29) C dX11_comes_29 ?_
    have e := Option.some.inj h
    exact r_zret (pc := 30) C hr (Or.inl rfl) (congrArg (fun z => some (vB z)) e.symm) rfl dX11_comes_30
  · refine r_iload_n (pc := 5) C 1 rfl rfl dX11_comes_5 ?_
    refine r_iload_n (pc := 6) C 3 rfl rfl dX11_comes_6 ?_
    refine r_icmp_gt (pc := 7) (tgt := 29) C h dX11_comes_7 (by decide) (fun hc7 h => ?_) (fun hc7 h => ?_)
    · refine r_iconst (pc := 29) C dX11_comes_29 ?_
      have e := Option.some.inj h
      exact r_zret (pc := 30) C hr (Or.inl rfl) (congrArg (fun z => some (vB z)) e.symm) rfl dX11_comes_30
    · refine r_aload_n (pc := 10) C 0 rfl rfl dX11_comes_10 ?_
      refine r_getR (pc := 11) C fl_RX11_35 x_s0 (by decide) x_kX_3 x_r0_3 dX11_comes_11 ?_
      refine r_getI (pc := 14) C fl_RX11_129 x_s38 (by decide) x_kState_13 dX11_comes_14 ?_
      refine r_iload_n (pc := 17) C 1 rfl rfl dX11_comes_17 ?_
      refine r_iadd (pc := 18) C dX11_comes_18 ?_
      refine r_sipush (pc := 19) (j := 999) C (by decide +kernel) dX11_comes_19 ?_
      refine r_icmp_gt (pc := 22) (tgt := 29) C h dX11_comes_22 (by decide) (fun hc22 h => ?_) (fun hc22 h => ?_)
      · refine r_iconst (pc := 29) C dX11_comes_29 ?_
        have e := Option.some.inj h
        exact r_zret (pc := 30) C hr (Or.inl rfl) (congrArg (fun z => some (vB z)) e.symm) rfl dX11_comes_30
      · refine r_iconst (pc := 25) C dX11_comes_25 ?_
        refine r_goto (pc := 26) (tgt := 30) C dX11_comes_26 (by decide) ?_
        have e := Option.some.inj h
        exact r_zret (pc := 30) C hr (Or.inr rfl) (congrArg (fun z => some (vB z)) e.symm) rfl dX11_comes_30
set_option maxHeartbeats 4000000 in
set_option maxRecDepth 20000 in
theorem c_x_State_copyFrom (l : Launch) (th : Nat) (o1 : Nat) (hth : th ∈ xI_State) (ho1 : o1 ∈ xI_State) {M : Mem} {M0 : Mem} (h : x_State_copyFrom th o1 M = some M0) : Ct l yX6_copyFrom cX6_copyFrom 2 none 2 84 vwCl xSh xN xRf (xExt σ) (fun b => [vR b th, vR b o1]) M (fun b => none) M0 := by
  refine Ct_of (xExtOK σ) (by decide) (fun b => Nat.le_of_ble_eq_true rfl) ?_
  intro p e s m args below meth c D E b C hr
  unfold x_State_copyFrom at h
  refine (show xWX p l e 2 84 s m args below meth c 2 D E b none M0 M 0 [(0, vR b th), (1, vR b o1)] [] from ?_)
  refine r_aload_n (pc := 0) C 1 rfl rfl dX6_copyFrom_0 ?_
  refine r_getR (pc := 1) C fl_RX6_9 (x_sI_State ho1) (x_nI_State ho1) x_kState_0 (x_rI_State_0 ho1) dX6_copyFrom_1 ?_
  refine r_iconst (pc := 4) C dX6_copyFrom_4 ?_
  refine r_aload_n (pc := 5) C 0 rfl rfl dX6_copyFrom_5 ?_
  refine r_getR (pc := 6) C fl_RX6_9 (x_sI_State hth) (x_nI_State hth) x_kState_0 (x_rI_State_0 hth) dX6_copyFrom_6 ?_
  refine r_iconst (pc := 9) C dX6_copyFrom_9 ?_
  refine r_bipush (pc := 10) (j := 7) C (by decide +kernel) dX6_copyFrom_10 ?_
  obtain ⟨M1, hM1, h⟩ := lt_inv h
  refine r_copy (pc := 12) (nn := 7) C ca_RX6_57 (x_aI_State_0 ho1) (x_bI_State_0 ho1) (by decide) (x_aI_State_0 hth) (x_bI_State_0 hth) (by decide) rfl (by decide) (by decide) hM1 (by decide) (by decide) dX6_copyFrom_12 ?_
  refine r_aload_n (pc := 15) C 1 rfl rfl dX6_copyFrom_15 ?_
  refine r_getR (pc := 16) C fl_RX6_15 (x_sI_State ho1) (x_nI_State ho1) x_kState_1 (x_rI_State_1 ho1) dX6_copyFrom_16 ?_
  refine r_iconst (pc := 19) C dX6_copyFrom_19 ?_
  refine r_aload_n (pc := 20) C 0 rfl rfl dX6_copyFrom_20 ?_
  refine r_getR (pc := 21) C fl_RX6_15 (x_sI_State hth) (x_nI_State hth) x_kState_1 (x_rI_State_1 hth) dX6_copyFrom_21 ?_
  refine r_iconst (pc := 24) C dX6_copyFrom_24 ?_
  refine r_bipush (pc := 25) (j := 7) C (by decide +kernel) dX6_copyFrom_25 ?_
  obtain ⟨M2, hM2, h⟩ := lt_inv h
  refine r_copy (pc := 27) (nn := 7) C ca_RX6_57 (x_aI_State_1 ho1) (x_bI_State_1 ho1) (by decide) (x_aI_State_1 hth) (x_bI_State_1 hth) (by decide) rfl (by decide) (by decide) hM2 (by decide) (by decide) dX6_copyFrom_27 ?_
  refine r_aload_n (pc := 30) C 1 rfl rfl dX6_copyFrom_30 ?_
  refine r_getR (pc := 31) C fl_RX6_18 (x_sI_State ho1) (x_nI_State ho1) x_kState_2 (x_rI_State_2 ho1) dX6_copyFrom_31 ?_
  refine r_iconst (pc := 34) C dX6_copyFrom_34 ?_
  refine r_aload_n (pc := 35) C 0 rfl rfl dX6_copyFrom_35 ?_
  refine r_getR (pc := 36) C fl_RX6_18 (x_sI_State hth) (x_nI_State hth) x_kState_2 (x_rI_State_2 hth) dX6_copyFrom_36 ?_
  refine r_iconst (pc := 39) C dX6_copyFrom_39 ?_
  refine r_bipush (pc := 40) (j := 7) C (by decide +kernel) dX6_copyFrom_40 ?_
  obtain ⟨M3, hM3, h⟩ := lt_inv h
  refine r_copy (pc := 42) (nn := 7) C ca_RX6_57 (x_aI_State_2 ho1) (x_bI_State_2 ho1) (by decide) (x_aI_State_2 hth) (x_bI_State_2 hth) (by decide) rfl (by decide) (by decide) hM3 (by decide) (by decide) dX6_copyFrom_42 ?_
  refine r_aload_n (pc := 45) C 1 rfl rfl dX6_copyFrom_45 ?_
  refine r_getR (pc := 46) C fl_RX6_21 (x_sI_State ho1) (x_nI_State ho1) x_kState_3 (x_rI_State_3 ho1) dX6_copyFrom_46 ?_
  refine r_iconst (pc := 49) C dX6_copyFrom_49 ?_
  refine r_aload_n (pc := 50) C 0 rfl rfl dX6_copyFrom_50 ?_
  refine r_getR (pc := 51) C fl_RX6_21 (x_sI_State hth) (x_nI_State hth) x_kState_3 (x_rI_State_3 hth) dX6_copyFrom_51 ?_
  refine r_iconst (pc := 54) C dX6_copyFrom_54 ?_
  refine r_bipush (pc := 55) (j := 12) C (by decide +kernel) dX6_copyFrom_55 ?_
  obtain ⟨M4, hM4, h⟩ := lt_inv h
  refine r_copy (pc := 57) (nn := 12) C ca_RX6_57 (x_aI_State_3 ho1) (x_bI_State_3 ho1) (by decide) (x_aI_State_3 hth) (x_bI_State_3 hth) (by decide) rfl (by decide) (by decide) hM4 (by decide) (by decide) dX6_copyFrom_57 ?_
  refine r_aload_n (pc := 60) C 1 rfl rfl dX6_copyFrom_60 ?_
  refine r_getR (pc := 61) C fl_RX6_24 (x_sI_State ho1) (x_nI_State ho1) x_kState_4 (x_rI_State_4 ho1) dX6_copyFrom_61 ?_
  refine r_iconst (pc := 64) C dX6_copyFrom_64 ?_
  refine r_aload_n (pc := 65) C 0 rfl rfl dX6_copyFrom_65 ?_
  refine r_getR (pc := 66) C fl_RX6_24 (x_sI_State hth) (x_nI_State hth) x_kState_4 (x_rI_State_4 hth) dX6_copyFrom_66 ?_
  refine r_iconst (pc := 69) C dX6_copyFrom_69 ?_
  refine r_bipush (pc := 70) (j := 12) C (by decide +kernel) dX6_copyFrom_70 ?_
  obtain ⟨M5, hM5, h⟩ := lt_inv h
  refine r_copy (pc := 72) (nn := 12) C ca_RX6_57 (x_aI_State_4 ho1) (x_bI_State_4 ho1) (by decide) (x_aI_State_4 hth) (x_bI_State_4 hth) (by decide) rfl (by decide) (by decide) hM5 (by decide) (by decide) dX6_copyFrom_72 ?_
  refine r_aload_n (pc := 75) C 1 rfl rfl dX6_copyFrom_75 ?_
  refine r_getR (pc := 76) C fl_RX6_27 (x_sI_State ho1) (x_nI_State ho1) x_kState_5 (x_rI_State_5 ho1) dX6_copyFrom_76 ?_
  refine r_iconst (pc := 79) C dX6_copyFrom_79 ?_
  refine r_aload_n (pc := 80) C 0 rfl rfl dX6_copyFrom_80 ?_
  refine r_getR (pc := 81) C fl_RX6_27 (x_sI_State hth) (x_nI_State hth) x_kState_5 (x_rI_State_5 hth) dX6_copyFrom_81 ?_
  refine r_iconst (pc := 84) C dX6_copyFrom_84 ?_
  refine r_bipush (pc := 85) (j := 12) C (by decide +kernel) dX6_copyFrom_85 ?_
  obtain ⟨M6, hM6, h⟩ := lt_inv h
  refine r_copy (pc := 87) (nn := 12) C ca_RX6_57 (x_aI_State_5 ho1) (x_bI_State_5 ho1) (by decide) (x_aI_State_5 hth) (x_bI_State_5 hth) (by decide) rfl (by decide) (by decide) hM6 (by decide) (by decide) dX6_copyFrom_87 ?_
  refine r_aload_n (pc := 90) C 1 rfl rfl dX6_copyFrom_90 ?_
  refine r_getR (pc := 91) C fl_RX6_30 (x_sI_State ho1) (x_nI_State ho1) x_kState_6 (x_rI_State_6 ho1) dX6_copyFrom_91 ?_
  refine r_iconst (pc := 94) C dX6_copyFrom_94 ?_
  refine r_aload_n (pc := 95) C 0 rfl rfl dX6_copyFrom_95 ?_
  refine r_getR (pc := 96) C fl_RX6_30 (x_sI_State hth) (x_nI_State hth) x_kState_6 (x_rI_State_6 hth) dX6_copyFrom_96 ?_
  refine r_iconst (pc := 99) C dX6_copyFrom_99 ?_
  refine r_bipush (pc := 100) (j := 12) C (by decide +kernel) dX6_copyFrom_100 ?_
  obtain ⟨M7, hM7, h⟩ := lt_inv h
  refine r_copy (pc := 102) (nn := 12) C ca_RX6_57 (x_aI_State_6 ho1) (x_bI_State_6 ho1) (by decide) (x_aI_State_6 hth) (x_bI_State_6 hth) (by decide) rfl (by decide) (by decide) hM7 (by decide) (by decide) dX6_copyFrom_102 ?_
  refine r_aload_n (pc := 105) C 1 rfl rfl dX6_copyFrom_105 ?_
  refine r_getR (pc := 106) C fl_RX6_33 (x_sI_State ho1) (x_nI_State ho1) x_kState_7 (x_rI_State_7 ho1) dX6_copyFrom_106 ?_
  refine r_iconst (pc := 109) C dX6_copyFrom_109 ?_
  refine r_aload_n (pc := 110) C 0 rfl rfl dX6_copyFrom_110 ?_
  refine r_getR (pc := 111) C fl_RX6_33 (x_sI_State hth) (x_nI_State hth) x_kState_7 (x_rI_State_7 hth) dX6_copyFrom_111 ?_
  refine r_iconst (pc := 114) C dX6_copyFrom_114 ?_
  refine r_bipush (pc := 115) (j := 12) C (by decide +kernel) dX6_copyFrom_115 ?_
  obtain ⟨M8, hM8, h⟩ := lt_inv h
  refine r_copy (pc := 117) (nn := 12) C ca_RX6_57 (x_aI_State_7 ho1) (x_bI_State_7 ho1) (by decide) (x_aI_State_7 hth) (x_bI_State_7 hth) (by decide) rfl (by decide) (by decide) hM8 (by decide) (by decide) dX6_copyFrom_117 ?_
  refine r_aload_n (pc := 120) C 1 rfl rfl dX6_copyFrom_120 ?_
  refine r_getR (pc := 121) C fl_RX6_36 (x_sI_State ho1) (x_nI_State ho1) x_kState_8 (x_rI_State_8 ho1) dX6_copyFrom_121 ?_
  refine r_iconst (pc := 124) C dX6_copyFrom_124 ?_
  refine r_aload_n (pc := 125) C 0 rfl rfl dX6_copyFrom_125 ?_
  refine r_getR (pc := 126) C fl_RX6_36 (x_sI_State hth) (x_nI_State hth) x_kState_8 (x_rI_State_8 hth) dX6_copyFrom_126 ?_
  refine r_iconst (pc := 129) C dX6_copyFrom_129 ?_
  refine r_bipush (pc := 130) (j := 12) C (by decide +kernel) dX6_copyFrom_130 ?_
  obtain ⟨M9, hM9, h⟩ := lt_inv h
  refine r_copy (pc := 132) (nn := 12) C ca_RX6_57 (x_aI_State_8 ho1) (x_bI_State_8 ho1) (by decide) (x_aI_State_8 hth) (x_bI_State_8 hth) (by decide) rfl (by decide) (by decide) hM9 (by decide) (by decide) dX6_copyFrom_132 ?_
  refine r_aload_n (pc := 135) C 1 rfl rfl dX6_copyFrom_135 ?_
  refine r_getR (pc := 136) C fl_RX6_39 (x_sI_State ho1) (x_nI_State ho1) x_kState_9 (x_rI_State_9 ho1) dX6_copyFrom_136 ?_
  refine r_iconst (pc := 139) C dX6_copyFrom_139 ?_
  refine r_aload_n (pc := 140) C 0 rfl rfl dX6_copyFrom_140 ?_
  refine r_getR (pc := 141) C fl_RX6_39 (x_sI_State hth) (x_nI_State hth) x_kState_9 (x_rI_State_9 hth) dX6_copyFrom_141 ?_
  refine r_iconst (pc := 144) C dX6_copyFrom_144 ?_
  refine r_bipush (pc := 145) (j := 12) C (by decide +kernel) dX6_copyFrom_145 ?_
  obtain ⟨M10, hM10, h⟩ := lt_inv h
  refine r_copy (pc := 147) (nn := 12) C ca_RX6_57 (x_aI_State_9 ho1) (x_bI_State_9 ho1) (by decide) (x_aI_State_9 hth) (x_bI_State_9 hth) (by decide) rfl (by decide) (by decide) hM10 (by decide) (by decide) dX6_copyFrom_147 ?_
  refine r_aload_n (pc := 150) C 1 rfl rfl dX6_copyFrom_150 ?_
  refine r_getR (pc := 151) C fl_RX6_42 (x_sI_State ho1) (x_nI_State ho1) x_kState_10 (x_rI_State_10 ho1) dX6_copyFrom_151 ?_
  refine r_iconst (pc := 154) C dX6_copyFrom_154 ?_
  refine r_aload_n (pc := 155) C 0 rfl rfl dX6_copyFrom_155 ?_
  refine r_getR (pc := 156) C fl_RX6_42 (x_sI_State hth) (x_nI_State hth) x_kState_10 (x_rI_State_10 hth) dX6_copyFrom_156 ?_
  refine r_iconst (pc := 159) C dX6_copyFrom_159 ?_
  refine r_bipush (pc := 160) (j := 12) C (by decide +kernel) dX6_copyFrom_160 ?_
  obtain ⟨M11, hM11, h⟩ := lt_inv h
  refine r_copy (pc := 162) (nn := 12) C ca_RX6_57 (x_aI_State_10 ho1) (x_bI_State_10 ho1) (by decide) (x_aI_State_10 hth) (x_bI_State_10 hth) (by decide) rfl (by decide) (by decide) hM11 (by decide) (by decide) dX6_copyFrom_162 ?_
  refine r_aload_n (pc := 165) C 1 rfl rfl dX6_copyFrom_165 ?_
  refine r_getR (pc := 166) C fl_RX6_45 (x_sI_State ho1) (x_nI_State ho1) x_kState_11 (x_rI_State_11 ho1) dX6_copyFrom_166 ?_
  refine r_iconst (pc := 169) C dX6_copyFrom_169 ?_
  refine r_aload_n (pc := 170) C 0 rfl rfl dX6_copyFrom_170 ?_
  refine r_getR (pc := 171) C fl_RX6_45 (x_sI_State hth) (x_nI_State hth) x_kState_11 (x_rI_State_11 hth) dX6_copyFrom_171 ?_
  refine r_iconst (pc := 174) C dX6_copyFrom_174 ?_
  refine r_bipush (pc := 175) (j := 12) C (by decide +kernel) dX6_copyFrom_175 ?_
  obtain ⟨M12, hM12, h⟩ := lt_inv h
  refine r_copy (pc := 177) (nn := 12) C ca_RX6_57 (x_aI_State_11 ho1) (x_bI_State_11 ho1) (by decide) (x_aI_State_11 hth) (x_bI_State_11 hth) (by decide) rfl (by decide) (by decide) hM12 (by decide) (by decide) dX6_copyFrom_177 ?_
  refine r_aload_n (pc := 180) C 0 rfl rfl dX6_copyFrom_180 ?_
  refine r_aload_n (pc := 181) C 1 rfl rfl dX6_copyFrom_181 ?_
  refine r_getI (pc := 182) C fl_RX6_72 (x_sI_State ho1) (x_nI_State ho1) x_kState_12 dX6_copyFrom_182 ?_
  obtain ⟨M_185, hM_185, h⟩ := lt_inv h
  refine r_putI (pc := 185) C fl_RX6_72 x_ft6 x_w6_12 (x_sI_State hth) (x_nI_State hth) x_kState_12 hM_185 dX6_copyFrom_185 ?_
  refine r_aload_n (pc := 188) C 0 rfl rfl dX6_copyFrom_188 ?_
  refine r_aload_n (pc := 189) C 1 rfl rfl dX6_copyFrom_189 ?_
  refine r_getI (pc := 190) C fl_RX6_76 (x_sI_State ho1) (x_nI_State ho1) x_kState_13 dX6_copyFrom_190 ?_
  obtain ⟨M_193, hM_193, h⟩ := lt_inv h
  refine r_putI (pc := 193) C fl_RX6_76 x_ft6 x_w6_13 (x_sI_State hth) (x_nI_State hth) x_kState_13 hM_193 dX6_copyFrom_193 ?_
  have e := Option.some.inj h
  exact r_vret (pc := 196) C hr rfl e.symm dX6_copyFrom_196
end
