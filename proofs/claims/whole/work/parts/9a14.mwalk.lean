theorem dX12_worst_0 : decode cX12_worst 0 = .ok (.aload_n 0, 1) := by decide +kernel
theorem dX12_worst_1 : decode cX12_worst 1 = .ok (.iload_n 1, 1) := by decide +kernel
theorem dX12_worst_2 : decode cX12_worst 2 = .ok (.iconst 1, 1) := by decide +kernel
theorem dX12_worst_3 : decode cX12_worst 3 = .ok (.bipush 30, 2) := by decide +kernel
theorem dX12_worst_5 : decode cX12_worst 5 = .ok (.invokevirtual 478, 3) := by decide +kernel
theorem dX12_worst_8 : decode cX12_worst 8 = .ok (.ifCond .eq 12, 3) := by decide +kernel
theorem dX12_worst_11 : decode cX12_worst 11 = .ok (.iload_n 2, 1) := by decide +kernel
theorem dX12_worst_12 : decode cX12_worst 12 = .ok (.iconst 0, 1) := by decide +kernel
theorem dX12_worst_13 : decode cX12_worst 13 = .ok (.iconst 1, 1) := by decide +kernel
theorem dX12_worst_14 : decode cX12_worst 14 = .ok (.invokestatic 303, 3) := by decide +kernel
theorem dX12_worst_17 : decode cX12_worst 17 = .ok (.ifCond .ne 5, 3) := by decide +kernel
theorem dX12_worst_20 : decode cX12_worst 20 = .ok (.iconst (-1), 1) := by decide +kernel
theorem dX12_worst_21 : decode cX12_worst 21 = .ok (.ireturn, 1) := by decide +kernel
theorem dX12_worst_22 : decode cX12_worst 22 = .ok (.iconst (-1), 1) := by decide +kernel
theorem dX12_worst_23 : decode cX12_worst 23 = .ok (.istore_n 3, 1) := by decide +kernel
theorem dX12_worst_24 : decode cX12_worst 24 = .ok (.iconst (-1), 1) := by decide +kernel
theorem dX12_worst_25 : decode cX12_worst 25 = .ok (.istore 4, 2) := by decide +kernel
theorem dX12_worst_27 : decode cX12_worst 27 = .ok (.iconst 0, 1) := by decide +kernel
theorem dX12_worst_28 : decode cX12_worst 28 = .ok (.istore 5, 2) := by decide +kernel
theorem dX12_worst_30 : decode cX12_worst 30 = .ok (.iload 5, 2) := by decide +kernel
theorem dX12_worst_32 : decode cX12_worst 32 = .ok (.aload_n 0, 1) := by decide +kernel
theorem dX12_worst_33 : decode cX12_worst 33 = .ok (.getfield 54, 3) := by decide +kernel
theorem dX12_worst_36 : decode cX12_worst 36 = .ok (.aload_n 0, 1) := by decide +kernel
theorem dX12_worst_37 : decode cX12_worst 37 = .ok (.getfield 51, 3) := by decide +kernel
theorem dX12_worst_40 : decode cX12_worst 40 = .ok (.iaload, 1) := by decide +kernel
theorem dX12_worst_41 : decode cX12_worst 41 = .ok (.if_icmp .ge 74, 3) := by decide +kernel
theorem dX12_worst_44 : decode cX12_worst 44 = .ok (.aload_n 0, 1) := by decide +kernel
theorem dX12_worst_45 : decode cX12_worst 45 = .ok (.getfield 156, 3) := by decide +kernel
theorem dX12_worst_48 : decode cX12_worst 48 = .ok (.iconst 0, 1) := by decide +kernel
theorem dX12_worst_49 : decode cX12_worst 49 = .ok (.iaload, 1) := by decide +kernel
theorem dX12_worst_50 : decode cX12_worst 50 = .ok (.iload 5, 2) := by decide +kernel
theorem dX12_worst_52 : decode cX12_worst 52 = .ok (.invokestatic 428, 3) := by decide +kernel
theorem dX12_worst_55 : decode cX12_worst 55 = .ok (.ifCond .eq 6, 3) := by decide +kernel
theorem dX12_worst_58 : decode cX12_worst 58 = .ok (.goto 51, 3) := by decide +kernel
theorem dX12_worst_61 : decode cX12_worst 61 = .ok (.aload_n 0, 1) := by decide +kernel
theorem dX12_worst_62 : decode cX12_worst 62 = .ok (.iconst 1, 1) := by decide +kernel
theorem dX12_worst_63 : decode cX12_worst 63 = .ok (.iconst 0, 1) := by decide +kernel
theorem dX12_worst_64 : decode cX12_worst 64 = .ok (.invokevirtual 396, 3) := by decide +kernel
theorem dX12_worst_67 : decode cX12_worst 67 = .ok (.aload_n 0, 1) := by decide +kernel
theorem dX12_worst_68 : decode cX12_worst 68 = .ok (.iconst 1, 1) := by decide +kernel
theorem dX12_worst_69 : decode cX12_worst 69 = .ok (.iload 5, 2) := by decide +kernel
theorem dX12_worst_71 : decode cX12_worst 71 = .ok (.invokevirtual 493, 3) := by decide +kernel
theorem dX12_worst_74 : decode cX12_worst 74 = .ok (.aload_n 0, 1) := by decide +kernel
theorem dX12_worst_75 : decode cX12_worst 75 = .ok (.iload_n 1, 1) := by decide +kernel
theorem dX12_worst_76 : decode cX12_worst 76 = .ok (.aload_n 0, 1) := by decide +kernel
theorem dX12_worst_77 : decode cX12_worst 77 = .ok (.invokevirtual 481, 3) := by decide +kernel
theorem dX12_worst_80 : decode cX12_worst 80 = .ok (.invokevirtual 485, 3) := by decide +kernel
theorem dX12_worst_83 : decode cX12_worst 83 = .ok (.aload_n 0, 1) := by decide +kernel
theorem dX12_worst_84 : decode cX12_worst 84 = .ok (.iconst 1, 1) := by decide +kernel
theorem dX12_worst_85 : decode cX12_worst 85 = .ok (.iconst 4, 1) := by decide +kernel
theorem dX12_worst_86 : decode cX12_worst 86 = .ok (.iconst 5, 1) := by decide +kernel
theorem dX12_worst_87 : decode cX12_worst 87 = .ok (.invokevirtual 458, 3) := by decide +kernel
theorem dX12_worst_90 : decode cX12_worst 90 = .ok (.istore 6, 2) := by decide +kernel
theorem dX12_worst_92 : decode cX12_worst 92 = .ok (.iload 6, 2) := by decide +kernel
theorem dX12_worst_94 : decode cX12_worst 94 = .ok (.iload 4, 2) := by decide +kernel
theorem dX12_worst_96 : decode cX12_worst 96 = .ok (.if_icmp .gt 6, 3) := by decide +kernel
theorem dX12_worst_99 : decode cX12_worst 99 = .ok (.goto 10, 3) := by decide +kernel
theorem dX12_worst_102 : decode cX12_worst 102 = .ok (.iload 6, 2) := by decide +kernel
theorem dX12_worst_104 : decode cX12_worst 104 = .ok (.istore 4, 2) := by decide +kernel
theorem dX12_worst_106 : decode cX12_worst 106 = .ok (.iload 5, 2) := by decide +kernel
theorem dX12_worst_108 : decode cX12_worst 108 = .ok (.istore_n 3, 1) := by decide +kernel
theorem dX12_worst_109 : decode cX12_worst 109 = .ok (.iinc 5 1, 3) := by decide +kernel
theorem dX12_worst_112 : decode cX12_worst 112 = .ok (.goto (-82), 3) := by decide +kernel
theorem dX12_worst_115 : decode cX12_worst 115 = .ok (.iload_n 2, 1) := by decide +kernel
theorem dX12_worst_116 : decode cX12_worst 116 = .ok (.ifCond .ne 7, 3) := by decide +kernel
theorem dX12_worst_119 : decode cX12_worst 119 = .ok (.iload_n 3, 1) := by decide +kernel
theorem dX12_worst_120 : decode cX12_worst 120 = .ok (.goto 5, 3) := by decide +kernel
theorem dX12_worst_123 : decode cX12_worst 123 = .ok (.iload 4, 2) := by decide +kernel
theorem dX12_worst_125 : decode cX12_worst 125 = .ok (.ireturn, 1) := by decide +kernel
theorem dX12_tune_0 : decode cX12_tune 0 = .ok (.aload_n 0, 1) := by decide +kernel
theorem dX12_tune_1 : decode cX12_tune 1 = .ok (.iload_n 1, 1) := by decide +kernel
theorem dX12_tune_2 : decode cX12_tune 2 = .ok (.invokevirtual 462, 3) := by decide +kernel
theorem dX12_tune_5 : decode cX12_tune 5 = .ok (.ifCond .eq 23, 3) := by decide +kernel
theorem dX12_tune_8 : decode cX12_tune 8 = .ok (.aload_n 0, 1) := by decide +kernel
theorem dX12_tune_9 : decode cX12_tune 9 = .ok (.iload_n 2, 1) := by decide +kernel
theorem dX12_tune_10 : decode cX12_tune 10 = .ok (.iconst 1, 1) := by decide +kernel
theorem dX12_tune_11 : decode cX12_tune 11 = .ok (.bipush 30, 2) := by decide +kernel
theorem dX12_tune_13 : decode cX12_tune 13 = .ok (.invokevirtual 478, 3) := by decide +kernel
theorem dX12_tune_16 : decode cX12_tune 16 = .ok (.ifCond .eq 12, 3) := by decide +kernel
theorem dX12_tune_19 : decode cX12_tune 19 = .ok (.iload_n 3, 1) := by decide +kernel
theorem dX12_tune_20 : decode cX12_tune 20 = .ok (.iconst 0, 1) := by decide +kernel
theorem dX12_tune_21 : decode cX12_tune 21 = .ok (.iconst 1, 1) := by decide +kernel
theorem dX12_tune_22 : decode cX12_tune 22 = .ok (.invokestatic 303, 3) := by decide +kernel
theorem dX12_tune_25 : decode cX12_tune 25 = .ok (.ifCond .ne 5, 3) := by decide +kernel
theorem dX12_tune_28 : decode cX12_tune 28 = .ok (.iconst (-1), 1) := by decide +kernel
theorem dX12_tune_29 : decode cX12_tune 29 = .ok (.ireturn, 1) := by decide +kernel
theorem dX12_tune_30 : decode cX12_tune 30 = .ok (.iconst (-1), 1) := by decide +kernel
theorem dX12_tune_31 : decode cX12_tune 31 = .ok (.istore 4, 2) := by decide +kernel
theorem dX12_tune_33 : decode cX12_tune 33 = .ok (.iconst (-1), 1) := by decide +kernel
theorem dX12_tune_34 : decode cX12_tune 34 = .ok (.istore 5, 2) := by decide +kernel
theorem dX12_tune_36 : decode cX12_tune 36 = .ok (.iconst 0, 1) := by decide +kernel
theorem dX12_tune_37 : decode cX12_tune 37 = .ok (.istore 6, 2) := by decide +kernel
theorem dX12_tune_39 : decode cX12_tune 39 = .ok (.iload 6, 2) := by decide +kernel
theorem dX12_tune_41 : decode cX12_tune 41 = .ok (.bipush 10, 2) := by decide +kernel
theorem dX12_tune_43 : decode cX12_tune 43 = .ok (.if_icmp .ge 62, 3) := by decide +kernel
theorem dX12_tune_46 : decode cX12_tune 46 = .ok (.aload_n 0, 1) := by decide +kernel
theorem dX12_tune_47 : decode cX12_tune 47 = .ok (.iconst 1, 1) := by decide +kernel
theorem dX12_tune_48 : decode cX12_tune 48 = .ok (.iconst 0, 1) := by decide +kernel
theorem dX12_tune_49 : decode cX12_tune 49 = .ok (.invokevirtual 396, 3) := by decide +kernel
theorem dX12_tune_52 : decode cX12_tune 52 = .ok (.aload_n 0, 1) := by decide +kernel
theorem dX12_tune_53 : decode cX12_tune 53 = .ok (.getfield 150, 3) := by decide +kernel
theorem dX12_tune_56 : decode cX12_tune 56 = .ok (.bipush 7, 2) := by decide +kernel
theorem dX12_tune_58 : decode cX12_tune 58 = .ok (.iload_n 1, 1) := by decide +kernel
theorem dX12_tune_59 : decode cX12_tune 59 = .ok (.iadd, 1) := by decide +kernel
theorem dX12_tune_60 : decode cX12_tune 60 = .ok (.iload 6, 2) := by decide +kernel
theorem dX12_tune_62 : decode cX12_tune 62 = .ok (.iastore, 1) := by decide +kernel
theorem dX12_tune_63 : decode cX12_tune 63 = .ok (.aload_n 0, 1) := by decide +kernel
theorem dX12_tune_64 : decode cX12_tune 64 = .ok (.iload_n 2, 1) := by decide +kernel
theorem dX12_tune_65 : decode cX12_tune 65 = .ok (.aload_n 0, 1) := by decide +kernel
theorem dX12_tune_66 : decode cX12_tune 66 = .ok (.invokevirtual 481, 3) := by decide +kernel
theorem dX12_tune_69 : decode cX12_tune 69 = .ok (.invokevirtual 485, 3) := by decide +kernel
theorem dX12_tune_72 : decode cX12_tune 72 = .ok (.aload_n 0, 1) := by decide +kernel
theorem dX12_tune_73 : decode cX12_tune 73 = .ok (.iconst 1, 1) := by decide +kernel
theorem dX12_tune_74 : decode cX12_tune 74 = .ok (.iconst 3, 1) := by decide +kernel
theorem dX12_tune_75 : decode cX12_tune 75 = .ok (.iconst 3, 1) := by decide +kernel
theorem dX12_tune_76 : decode cX12_tune 76 = .ok (.invokevirtual 458, 3) := by decide +kernel
theorem dX12_tune_79 : decode cX12_tune 79 = .ok (.istore 7, 2) := by decide +kernel
theorem dX12_tune_81 : decode cX12_tune 81 = .ok (.iload 7, 2) := by decide +kernel
theorem dX12_tune_83 : decode cX12_tune 83 = .ok (.iload 5, 2) := by decide +kernel
theorem dX12_tune_85 : decode cX12_tune 85 = .ok (.if_icmp .gt 6, 3) := by decide +kernel
theorem dX12_tune_88 : decode cX12_tune 88 = .ok (.goto 11, 3) := by decide +kernel
theorem dX12_tune_91 : decode cX12_tune 91 = .ok (.iload 7, 2) := by decide +kernel
theorem dX12_tune_93 : decode cX12_tune 93 = .ok (.istore 5, 2) := by decide +kernel
theorem dX12_tune_95 : decode cX12_tune 95 = .ok (.iload 6, 2) := by decide +kernel
theorem dX12_tune_97 : decode cX12_tune 97 = .ok (.istore 4, 2) := by decide +kernel
theorem dX12_tune_99 : decode cX12_tune 99 = .ok (.iinc 6 1, 3) := by decide +kernel
theorem dX12_tune_102 : decode cX12_tune 102 = .ok (.goto (-63), 3) := by decide +kernel
theorem dX12_tune_105 : decode cX12_tune 105 = .ok (.iload_n 3, 1) := by decide +kernel
theorem dX12_tune_106 : decode cX12_tune 106 = .ok (.ifCond .ne 8, 3) := by decide +kernel
theorem dX12_tune_109 : decode cX12_tune 109 = .ok (.iload 4, 2) := by decide +kernel
theorem dX12_tune_111 : decode cX12_tune 111 = .ok (.goto 5, 3) := by decide +kernel
theorem dX12_tune_114 : decode cX12_tune 114 = .ok (.iload 5, 2) := by decide +kernel
theorem dX12_tune_116 : decode cX12_tune 116 = .ok (.ireturn, 1) := by decide +kernel
theorem dX12_doesNeed_0 : decode cX12_doesNeed 0 = .ok (.iconst 0, 1) := by decide +kernel
theorem dX12_doesNeed_1 : decode cX12_doesNeed 1 = .ok (.istore_n 3, 1) := by decide +kernel
theorem dX12_doesNeed_2 : decode cX12_doesNeed 2 = .ok (.iload_n 3, 1) := by decide +kernel
theorem dX12_doesNeed_3 : decode cX12_doesNeed 3 = .ok (.aload_n 0, 1) := by decide +kernel
theorem dX12_doesNeed_4 : decode cX12_doesNeed 4 = .ok (.getfield 54, 3) := by decide +kernel
theorem dX12_doesNeed_7 : decode cX12_doesNeed 7 = .ok (.aload_n 0, 1) := by decide +kernel
theorem dX12_doesNeed_8 : decode cX12_doesNeed 8 = .ok (.getfield 51, 3) := by decide +kernel
theorem dX12_doesNeed_11 : decode cX12_doesNeed 11 = .ok (.iaload, 1) := by decide +kernel
theorem dX12_doesNeed_12 : decode cX12_doesNeed 12 = .ok (.if_icmp .ge 50, 3) := by decide +kernel
theorem dX12_doesNeed_15 : decode cX12_doesNeed 15 = .ok (.aload_n 0, 1) := by decide +kernel
theorem dX12_doesNeed_16 : decode cX12_doesNeed 16 = .ok (.iconst 0, 1) := by decide +kernel
theorem dX12_doesNeed_17 : decode cX12_doesNeed 17 = .ok (.iload_n 3, 1) := by decide +kernel
theorem dX12_doesNeed_18 : decode cX12_doesNeed 18 = .ok (.invokevirtual 439, 3) := by decide +kernel
theorem dX12_doesNeed_21 : decode cX12_doesNeed 21 = .ok (.ifCond .eq 35, 3) := by decide +kernel
theorem dX12_doesNeed_24 : decode cX12_doesNeed 24 = .ok (.aload_n 0, 1) := by decide +kernel
theorem dX12_doesNeed_25 : decode cX12_doesNeed 25 = .ok (.iconst 0, 1) := by decide +kernel
theorem dX12_doesNeed_26 : decode cX12_doesNeed 26 = .ok (.iload_n 1, 1) := by decide +kernel
theorem dX12_doesNeed_27 : decode cX12_doesNeed 27 = .ok (.iload_n 3, 1) := by decide +kernel
theorem dX12_doesNeed_28 : decode cX12_doesNeed 28 = .ok (.invokevirtual 442, 3) := by decide +kernel
theorem dX12_doesNeed_31 : decode cX12_doesNeed 31 = .ok (.lconst 0, 1) := by decide +kernel
theorem dX12_doesNeed_32 : decode cX12_doesNeed 32 = .ok (.lcmp, 1) := by decide +kernel
theorem dX12_doesNeed_33 : decode cX12_doesNeed 33 = .ok (.ifCond .le 7, 3) := by decide +kernel
theorem dX12_doesNeed_36 : decode cX12_doesNeed 36 = .ok (.iconst 1, 1) := by decide +kernel
theorem dX12_doesNeed_37 : decode cX12_doesNeed 37 = .ok (.goto 4, 3) := by decide +kernel
theorem dX12_doesNeed_40 : decode cX12_doesNeed 40 = .ok (.iconst 0, 1) := by decide +kernel
theorem dX12_doesNeed_41 : decode cX12_doesNeed 41 = .ok (.iload_n 3, 1) := by decide +kernel
theorem dX12_doesNeed_42 : decode cX12_doesNeed 42 = .ok (.iload_n 2, 1) := by decide +kernel
theorem dX12_doesNeed_43 : decode cX12_doesNeed 43 = .ok (.if_icmp .ne 7, 3) := by decide +kernel
theorem dX12_doesNeed_46 : decode cX12_doesNeed 46 = .ok (.iconst 1, 1) := by decide +kernel
theorem dX12_doesNeed_47 : decode cX12_doesNeed 47 = .ok (.goto 4, 3) := by decide +kernel
theorem dX12_doesNeed_50 : decode cX12_doesNeed 50 = .ok (.iconst 0, 1) := by decide +kernel
theorem dX12_doesNeed_51 : decode cX12_doesNeed 51 = .ok (.if_icmp .eq 5, 3) := by decide +kernel
theorem dX12_doesNeed_54 : decode cX12_doesNeed 54 = .ok (.iconst 0, 1) := by decide +kernel
theorem dX12_doesNeed_55 : decode cX12_doesNeed 55 = .ok (.ireturn, 1) := by decide +kernel
theorem dX12_doesNeed_56 : decode cX12_doesNeed 56 = .ok (.iinc 3 1, 3) := by decide +kernel
theorem dX12_doesNeed_59 : decode cX12_doesNeed 59 = .ok (.goto (-57), 3) := by decide +kernel
theorem dX12_doesNeed_62 : decode cX12_doesNeed 62 = .ok (.aload_n 0, 1) := by decide +kernel
theorem dX12_doesNeed_63 : decode cX12_doesNeed 63 = .ok (.iconst 0, 1) := by decide +kernel
theorem dX12_doesNeed_64 : decode cX12_doesNeed 64 = .ok (.iload_n 2, 1) := by decide +kernel
theorem dX12_doesNeed_65 : decode cX12_doesNeed 65 = .ok (.invokevirtual 439, 3) := by decide +kernel
theorem dX12_doesNeed_68 : decode cX12_doesNeed 68 = .ok (.ireturn, 1) := by decide +kernel
theorem dX12_needed_0 : decode cX12_needed 0 = .ok (.aload_n 0, 1) := by decide +kernel
theorem dX12_needed_1 : decode cX12_needed 1 = .ok (.iload_n 1, 1) := by decide +kernel
theorem dX12_needed_2 : decode cX12_needed 2 = .ok (.invokevirtual 462, 3) := by decide +kernel
theorem dX12_needed_5 : decode cX12_needed 5 = .ok (.ifCond .ne 5, 3) := by decide +kernel
theorem dX12_needed_8 : decode cX12_needed 8 = .ok (.iconst (-1), 1) := by decide +kernel
theorem dX12_needed_9 : decode cX12_needed 9 = .ok (.ireturn, 1) := by decide +kernel
theorem dX12_needed_10 : decode cX12_needed 10 = .ok (.iconst 0, 1) := by decide +kernel
theorem dX12_needed_11 : decode cX12_needed 11 = .ok (.istore_n 2, 1) := by decide +kernel
theorem dX12_needed_12 : decode cX12_needed 12 = .ok (.iconst 0, 1) := by decide +kernel
theorem dX12_needed_13 : decode cX12_needed 13 = .ok (.istore_n 3, 1) := by decide +kernel
theorem dX12_needed_14 : decode cX12_needed 14 = .ok (.iload_n 3, 1) := by decide +kernel
theorem dX12_needed_15 : decode cX12_needed 15 = .ok (.aload_n 0, 1) := by decide +kernel
theorem dX12_needed_16 : decode cX12_needed 16 = .ok (.getfield 69, 3) := by decide +kernel
theorem dX12_needed_19 : decode cX12_needed 19 = .ok (.aload_n 0, 1) := by decide +kernel
theorem dX12_needed_20 : decode cX12_needed 20 = .ok (.getfield 51, 3) := by decide +kernel
theorem dX12_needed_23 : decode cX12_needed 23 = .ok (.iaload, 1) := by decide +kernel
theorem dX12_needed_24 : decode cX12_needed 24 = .ok (.if_icmp .ge 36, 3) := by decide +kernel
theorem dX12_needed_27 : decode cX12_needed 27 = .ok (.iload_n 2, 1) := by decide +kernel
theorem dX12_needed_28 : decode cX12_needed 28 = .ok (.aload_n 0, 1) := by decide +kernel
theorem dX12_needed_29 : decode cX12_needed 29 = .ok (.getfield 159, 3) := by decide +kernel
theorem dX12_needed_32 : decode cX12_needed 32 = .ok (.iload_n 3, 1) := by decide +kernel
theorem dX12_needed_33 : decode cX12_needed 33 = .ok (.iaload, 1) := by decide +kernel
theorem dX12_needed_34 : decode cX12_needed 34 = .ok (.iconst 1, 1) := by decide +kernel
theorem dX12_needed_35 : decode cX12_needed 35 = .ok (.if_icmp .ne 16, 3) := by decide +kernel
theorem dX12_needed_38 : decode cX12_needed 38 = .ok (.aload_n 0, 1) := by decide +kernel
theorem dX12_needed_39 : decode cX12_needed 39 = .ok (.iload_n 3, 1) := by decide +kernel
theorem dX12_needed_40 : decode cX12_needed 40 = .ok (.iload_n 1, 1) := by decide +kernel
theorem dX12_needed_41 : decode cX12_needed 41 = .ok (.invokevirtual 496, 3) := by decide +kernel
theorem dX12_needed_44 : decode cX12_needed 44 = .ok (.ifCond .eq 7, 3) := by decide +kernel
theorem dX12_needed_47 : decode cX12_needed 47 = .ok (.iconst 1, 1) := by decide +kernel
theorem dX12_needed_48 : decode cX12_needed 48 = .ok (.goto 4, 3) := by decide +kernel
theorem dX12_needed_51 : decode cX12_needed 51 = .ok (.iconst 0, 1) := by decide +kernel
theorem dX12_needed_52 : decode cX12_needed 52 = .ok (.iadd, 1) := by decide +kernel
theorem dX12_needed_53 : decode cX12_needed 53 = .ok (.istore_n 2, 1) := by decide +kernel
theorem dX12_needed_54 : decode cX12_needed 54 = .ok (.iinc 3 1, 3) := by decide +kernel
theorem dX12_needed_57 : decode cX12_needed 57 = .ok (.goto (-43), 3) := by decide +kernel
theorem dX12_needed_60 : decode cX12_needed 60 = .ok (.iload_n 2, 1) := by decide +kernel
theorem dX12_needed_61 : decode cX12_needed 61 = .ok (.ireturn, 1) := by decide +kernel
theorem dX12_odds_0 : decode cX12_odds 0 = .ok (.iload_n 1, 1) := by decide +kernel
theorem dX12_odds_1 : decode cX12_odds 1 = .ok (.iconst (-1), 1) := by decide +kernel
theorem dX12_odds_2 : decode cX12_odds 2 = .ok (.if_icmp .eq 11, 3) := by decide +kernel
theorem dX12_odds_5 : decode cX12_odds 5 = .ok (.aload_n 0, 1) := by decide +kernel
theorem dX12_odds_6 : decode cX12_odds 6 = .ok (.iload_n 1, 1) := by decide +kernel
theorem dX12_odds_7 : decode cX12_odds 7 = .ok (.invokevirtual 470, 3) := by decide +kernel
theorem dX12_odds_10 : decode cX12_odds 10 = .ok (.ifCond .eq 25, 3) := by decide +kernel
theorem dX12_odds_13 : decode cX12_odds 13 = .ok (.aload_n 0, 1) := by decide +kernel
theorem dX12_odds_14 : decode cX12_odds 14 = .ok (.getfield 54, 3) := by decide +kernel
theorem dX12_odds_17 : decode cX12_odds 17 = .ok (.aload_n 0, 1) := by decide +kernel
theorem dX12_odds_18 : decode cX12_odds 18 = .ok (.getfield 51, 3) := by decide +kernel
theorem dX12_odds_21 : decode cX12_odds 21 = .ok (.iaload, 1) := by decide +kernel
theorem dX12_odds_22 : decode cX12_odds 22 = .ok (.ifCond .eq 13, 3) := by decide +kernel
theorem dX12_odds_25 : decode cX12_odds 25 = .ok (.aload_n 0, 1) := by decide +kernel
theorem dX12_odds_26 : decode cX12_odds 26 = .ok (.iconst 1, 1) := by decide +kernel
theorem dX12_odds_27 : decode cX12_odds 27 = .ok (.iconst 1, 1) := by decide +kernel
theorem dX12_odds_28 : decode cX12_odds 28 = .ok (.iconst 1, 1) := by decide +kernel
theorem dX12_odds_29 : decode cX12_odds 29 = .ok (.invokevirtual 478, 3) := by decide +kernel
theorem dX12_odds_32 : decode cX12_odds 32 = .ok (.ifCond .ne 5, 3) := by decide +kernel
theorem dX12_odds_35 : decode cX12_odds 35 = .ok (.iconst (-1), 1) := by decide +kernel
theorem dX12_odds_36 : decode cX12_odds 36 = .ok (.ireturn, 1) := by decide +kernel
theorem dX12_odds_37 : decode cX12_odds 37 = .ok (.iload_n 1, 1) := by decide +kernel
theorem dX12_odds_38 : decode cX12_odds 38 = .ok (.iconst (-1), 1) := by decide +kernel
theorem dX12_odds_39 : decode cX12_odds 39 = .ok (.if_icmp .ne 16, 3) := by decide +kernel
theorem dX12_odds_42 : decode cX12_odds 42 = .ok (.bipush 100, 2) := by decide +kernel
theorem dX12_odds_44 : decode cX12_odds 44 = .ok (.aload_n 0, 1) := by decide +kernel
theorem dX12_odds_45 : decode cX12_odds 45 = .ok (.getfield 54, 3) := by decide +kernel
theorem dX12_odds_48 : decode cX12_odds 48 = .ok (.aload_n 0, 1) := by decide +kernel
theorem dX12_odds_49 : decode cX12_odds 49 = .ok (.getfield 51, 3) := by decide +kernel
theorem dX12_odds_52 : decode cX12_odds 52 = .ok (.iaload, 1) := by decide +kernel
theorem dX12_odds_53 : decode cX12_odds 53 = .ok (.imul, 1) := by decide +kernel
theorem dX12_odds_54 : decode cX12_odds 54 = .ok (.ireturn, 1) := by decide +kernel
theorem dX12_odds_55 : decode cX12_odds 55 = .ok (.aload_n 0, 1) := by decide +kernel
theorem dX12_odds_56 : decode cX12_odds 56 = .ok (.iconst 1, 1) := by decide +kernel
theorem dX12_odds_57 : decode cX12_odds 57 = .ok (.iconst 0, 1) := by decide +kernel
theorem dX12_odds_58 : decode cX12_odds 58 = .ok (.invokevirtual 396, 3) := by decide +kernel
theorem dX12_odds_61 : decode cX12_odds 61 = .ok (.aload_n 0, 1) := by decide +kernel
theorem dX12_odds_62 : decode cX12_odds 62 = .ok (.iconst 1, 1) := by decide +kernel
theorem dX12_odds_63 : decode cX12_odds 63 = .ok (.aload_n 0, 1) := by decide +kernel
theorem dX12_odds_64 : decode cX12_odds 64 = .ok (.invokevirtual 481, 3) := by decide +kernel
theorem dX12_odds_67 : decode cX12_odds 67 = .ok (.invokevirtual 475, 3) := by decide +kernel
theorem dX12_odds_70 : decode cX12_odds 70 = .ok (.aload_n 0, 1) := by decide +kernel
theorem dX12_odds_71 : decode cX12_odds 71 = .ok (.getfield 159, 3) := by decide +kernel
theorem dX12_odds_74 : decode cX12_odds 74 = .ok (.bipush 12, 2) := by decide +kernel
theorem dX12_odds_76 : decode cX12_odds 76 = .ok (.iload_n 1, 1) := by decide +kernel
theorem dX12_odds_77 : decode cX12_odds 77 = .ok (.iadd, 1) := by decide +kernel
theorem dX12_odds_78 : decode cX12_odds 78 = .ok (.iaload, 1) := by decide +kernel
theorem dX12_odds_79 : decode cX12_odds 79 = .ok (.iconst 5, 1) := by decide +kernel
theorem dX12_odds_80 : decode cX12_odds 80 = .ok (.if_icmp .ne 28, 3) := by decide +kernel
theorem dX12_odds_83 : decode cX12_odds 83 = .ok (.bipush 100, 2) := by decide +kernel
theorem dX12_odds_85 : decode cX12_odds 85 = .ok (.aload_n 0, 1) := by decide +kernel
theorem dX12_odds_86 : decode cX12_odds 86 = .ok (.getfield 81, 3) := by decide +kernel
theorem dX12_odds_89 : decode cX12_odds 89 = .ok (.aload_n 0, 1) := by decide +kernel
theorem dX12_odds_90 : decode cX12_odds 90 = .ok (.getfield 51, 3) := by decide +kernel
theorem dX12_odds_93 : decode cX12_odds 93 = .ok (.iaload, 1) := by decide +kernel
theorem dX12_odds_94 : decode cX12_odds 94 = .ok (.isub, 1) := by decide +kernel
theorem dX12_odds_95 : decode cX12_odds 95 = .ok (.aload_n 0, 1) := by decide +kernel
theorem dX12_odds_96 : decode cX12_odds 96 = .ok (.getfield 54, 3) := by decide +kernel
theorem dX12_odds_99 : decode cX12_odds 99 = .ok (.aload_n 0, 1) := by decide +kernel
theorem dX12_odds_100 : decode cX12_odds 100 = .ok (.getfield 51, 3) := by decide +kernel
theorem dX12_odds_103 : decode cX12_odds 103 = .ok (.iaload, 1) := by decide +kernel
theorem dX12_odds_104 : decode cX12_odds 104 = .ok (.imul, 1) := by decide +kernel
theorem dX12_odds_105 : decode cX12_odds 105 = .ok (.goto 4, 3) := by decide +kernel
theorem dX12_odds_108 : decode cX12_odds 108 = .ok (.iconst 0, 1) := by decide +kernel
theorem dX12_odds_109 : decode cX12_odds 109 = .ok (.istore_n 2, 1) := by decide +kernel
theorem dX12_odds_110 : decode cX12_odds 110 = .ok (.iconst 0, 1) := by decide +kernel
theorem dX12_odds_111 : decode cX12_odds 111 = .ok (.istore_n 3, 1) := by decide +kernel
theorem dX12_odds_112 : decode cX12_odds 112 = .ok (.iload_n 3, 1) := by decide +kernel
theorem dX12_odds_113 : decode cX12_odds 113 = .ok (.aload_n 0, 1) := by decide +kernel
theorem dX12_odds_114 : decode cX12_odds 114 = .ok (.getfield 54, 3) := by decide +kernel
theorem dX12_odds_117 : decode cX12_odds 117 = .ok (.aload_n 0, 1) := by decide +kernel
theorem dX12_odds_118 : decode cX12_odds 118 = .ok (.getfield 51, 3) := by decide +kernel
theorem dX12_odds_121 : decode cX12_odds 121 = .ok (.iaload, 1) := by decide +kernel
theorem dX12_odds_122 : decode cX12_odds 122 = .ok (.if_icmp .ge 72, 3) := by decide +kernel
theorem dX12_odds_125 : decode cX12_odds 125 = .ok (.aload_n 0, 1) := by decide +kernel
theorem dX12_odds_126 : decode cX12_odds 126 = .ok (.iconst 1, 1) := by decide +kernel
theorem dX12_odds_127 : decode cX12_odds 127 = .ok (.iconst 0, 1) := by decide +kernel
theorem dX12_odds_128 : decode cX12_odds 128 = .ok (.invokevirtual 396, 3) := by decide +kernel
theorem dX12_odds_131 : decode cX12_odds 131 = .ok (.aload_n 0, 1) := by decide +kernel
theorem dX12_odds_132 : decode cX12_odds 132 = .ok (.getfield 156, 3) := by decide +kernel
theorem dX12_odds_135 : decode cX12_odds 135 = .ok (.iconst 0, 1) := by decide +kernel
theorem dX12_odds_136 : decode cX12_odds 136 = .ok (.iaload, 1) := by decide +kernel
theorem dX12_odds_137 : decode cX12_odds 137 = .ok (.iload_n 3, 1) := by decide +kernel
theorem dX12_odds_138 : decode cX12_odds 138 = .ok (.invokestatic 428, 3) := by decide +kernel
theorem dX12_odds_141 : decode cX12_odds 141 = .ok (.ifCond .ne 9, 3) := by decide +kernel
theorem dX12_odds_144 : decode cX12_odds 144 = .ok (.aload_n 0, 1) := by decide +kernel
theorem dX12_odds_145 : decode cX12_odds 145 = .ok (.iconst 1, 1) := by decide +kernel
theorem dX12_odds_146 : decode cX12_odds 146 = .ok (.iload_n 3, 1) := by decide +kernel
theorem dX12_odds_147 : decode cX12_odds 147 = .ok (.invokevirtual 493, 3) := by decide +kernel
theorem dX12_odds_150 : decode cX12_odds 150 = .ok (.aload_n 0, 1) := by decide +kernel
theorem dX12_odds_151 : decode cX12_odds 151 = .ok (.iconst 1, 1) := by decide +kernel
theorem dX12_odds_152 : decode cX12_odds 152 = .ok (.aload_n 0, 1) := by decide +kernel
theorem dX12_odds_153 : decode cX12_odds 153 = .ok (.invokevirtual 481, 3) := by decide +kernel
theorem dX12_odds_156 : decode cX12_odds 156 = .ok (.invokevirtual 475, 3) := by decide +kernel
theorem dX12_odds_159 : decode cX12_odds 159 = .ok (.iload_n 2, 1) := by decide +kernel
theorem dX12_odds_160 : decode cX12_odds 160 = .ok (.aload_n 0, 1) := by decide +kernel
theorem dX12_odds_161 : decode cX12_odds 161 = .ok (.getfield 159, 3) := by decide +kernel
theorem dX12_odds_164 : decode cX12_odds 164 = .ok (.bipush 12, 2) := by decide +kernel
theorem dX12_odds_166 : decode cX12_odds 166 = .ok (.iload_n 1, 1) := by decide +kernel
theorem dX12_odds_167 : decode cX12_odds 167 = .ok (.iadd, 1) := by decide +kernel
theorem dX12_odds_168 : decode cX12_odds 168 = .ok (.iaload, 1) := by decide +kernel
theorem dX12_odds_169 : decode cX12_odds 169 = .ok (.iconst 5, 1) := by decide +kernel
theorem dX12_odds_170 : decode cX12_odds 170 = .ok (.if_icmp .ne 15, 3) := by decide +kernel
theorem dX12_odds_173 : decode cX12_odds 173 = .ok (.aload_n 0, 1) := by decide +kernel
theorem dX12_odds_174 : decode cX12_odds 174 = .ok (.getfield 81, 3) := by decide +kernel
theorem dX12_odds_177 : decode cX12_odds 177 = .ok (.aload_n 0, 1) := by decide +kernel
theorem dX12_odds_178 : decode cX12_odds 178 = .ok (.getfield 51, 3) := by decide +kernel
theorem dX12_odds_181 : decode cX12_odds 181 = .ok (.iaload, 1) := by decide +kernel
theorem dX12_odds_182 : decode cX12_odds 182 = .ok (.goto 4, 3) := by decide +kernel
theorem dX12_odds_185 : decode cX12_odds 185 = .ok (.iconst 0, 1) := by decide +kernel
theorem dX12_odds_186 : decode cX12_odds 186 = .ok (.iadd, 1) := by decide +kernel
theorem dX12_odds_187 : decode cX12_odds 187 = .ok (.istore_n 2, 1) := by decide +kernel
theorem dX12_odds_188 : decode cX12_odds 188 = .ok (.iinc 3 1, 3) := by decide +kernel
theorem dX12_odds_191 : decode cX12_odds 191 = .ok (.goto (-79), 3) := by decide +kernel
theorem dX12_odds_194 : decode cX12_odds 194 = .ok (.iload_n 2, 1) := by decide +kernel
theorem dX12_odds_195 : decode cX12_odds 195 = .ok (.ireturn, 1) := by decide +kernel
theorem dX12_hear_0 : decode cX12_hear 0 = .ok (.aload_n 0, 1) := by decide +kernel
theorem dX12_hear_1 : decode cX12_hear 1 = .ok (.getfield 13, 3) := by decide +kernel
theorem dX12_hear_4 : decode cX12_hear 4 = .ok (.istore_n 1, 1) := by decide +kernel
theorem dX12_hear_5 : decode cX12_hear 5 = .ok (.aload_n 0, 1) := by decide +kernel
theorem dX12_hear_6 : decode cX12_hear 6 = .ok (.iconst 0, 1) := by decide +kernel
theorem dX12_hear_7 : decode cX12_hear 7 = .ok (.putfield 13, 3) := by decide +kernel
theorem dX12_hear_10 : decode cX12_hear 10 = .ok (.iload_n 1, 1) := by decide +kernel
theorem dX12_hear_11 : decode cX12_hear 11 = .ok (.ifCond .le 19, 3) := by decide +kernel
theorem dX12_hear_14 : decode cX12_hear 14 = .ok (.iload_n 1, 1) := by decide +kernel
theorem dX12_hear_15 : decode cX12_hear 15 = .ok (.iconst 3, 1) := by decide +kernel
theorem dX12_hear_16 : decode cX12_hear 16 = .ok (.irem, 1) := by decide +kernel
theorem dX12_hear_17 : decode cX12_hear 17 = .ok (.ifCond .ne 13, 3) := by decide +kernel
theorem dX12_hear_20 : decode cX12_hear 20 = .ok (.iload_n 1, 1) := by decide +kernel
theorem dX12_hear_21 : decode cX12_hear 21 = .ok (.bipush 48, 2) := by decide +kernel
theorem dX12_hear_23 : decode cX12_hear 23 = .ok (.if_icmp .gt 7, 3) := by decide +kernel
theorem dX12_hear_26 : decode cX12_hear 26 = .ok (.iconst 1, 1) := by decide +kernel
theorem dX12_hear_27 : decode cX12_hear 27 = .ok (.goto 4, 3) := by decide +kernel
theorem dX12_hear_30 : decode cX12_hear 30 = .ok (.iconst 0, 1) := by decide +kernel
theorem dX12_hear_31 : decode cX12_hear 31 = .ok (.istore_n 2, 1) := by decide +kernel
theorem dX12_hear_32 : decode cX12_hear 32 = .ok (.iconst 0, 1) := by decide +kernel
theorem dX12_hear_33 : decode cX12_hear 33 = .ok (.istore_n 3, 1) := by decide +kernel
theorem dX12_hear_34 : decode cX12_hear 34 = .ok (.iload_n 3, 1) := by decide +kernel
theorem dX12_hear_35 : decode cX12_hear 35 = .ok (.iload_n 1, 1) := by decide +kernel
theorem dX12_hear_36 : decode cX12_hear 36 = .ok (.if_icmp .ge 74, 3) := by decide +kernel
theorem dX12_hear_39 : decode cX12_hear 39 = .ok (.iload_n 2, 1) := by decide +kernel
theorem dX12_hear_40 : decode cX12_hear 40 = .ok (.ifCond .eq 70, 3) := by decide +kernel
theorem dX12_hear_43 : decode cX12_hear 43 = .ok (.aload_n 0, 1) := by decide +kernel
theorem dX12_hear_44 : decode cX12_hear 44 = .ok (.getfield 7, 3) := by decide +kernel
theorem dX12_hear_47 : decode cX12_hear 47 = .ok (.iload_n 3, 1) := by decide +kernel
theorem dX12_hear_48 : decode cX12_hear 48 = .ok (.iaload, 1) := by decide +kernel
theorem dX12_hear_49 : decode cX12_hear 49 = .ok (.bipush 30, 2) := by decide +kernel
theorem dX12_hear_51 : decode cX12_hear 51 = .ok (.if_icmp .gt 51, 3) := by decide +kernel
theorem dX12_hear_54 : decode cX12_hear 54 = .ok (.aload_n 0, 1) := by decide +kernel
theorem dX12_hear_55 : decode cX12_hear 55 = .ok (.aload_n 0, 1) := by decide +kernel
theorem dX12_hear_56 : decode cX12_hear 56 = .ok (.getfield 7, 3) := by decide +kernel
theorem dX12_hear_59 : decode cX12_hear 59 = .ok (.iload_n 3, 1) := by decide +kernel
theorem dX12_hear_60 : decode cX12_hear 60 = .ok (.iconst 1, 1) := by decide +kernel
theorem dX12_hear_61 : decode cX12_hear 61 = .ok (.iadd, 1) := by decide +kernel
theorem dX12_hear_62 : decode cX12_hear 62 = .ok (.iaload, 1) := by decide +kernel
theorem dX12_hear_63 : decode cX12_hear 63 = .ok (.invokevirtual 470, 3) := by decide +kernel
theorem dX12_hear_66 : decode cX12_hear 66 = .ok (.ifCond .eq 36, 3) := by decide +kernel
theorem dX12_hear_69 : decode cX12_hear 69 = .ok (.aload_n 0, 1) := by decide +kernel
theorem dX12_hear_70 : decode cX12_hear 70 = .ok (.aload_n 0, 1) := by decide +kernel
theorem dX12_hear_71 : decode cX12_hear 71 = .ok (.getfield 7, 3) := by decide +kernel
theorem dX12_hear_74 : decode cX12_hear 74 = .ok (.iload_n 3, 1) := by decide +kernel
theorem dX12_hear_75 : decode cX12_hear 75 = .ok (.iconst 2, 1) := by decide +kernel
theorem dX12_hear_76 : decode cX12_hear 76 = .ok (.iadd, 1) := by decide +kernel
theorem dX12_hear_77 : decode cX12_hear 77 = .ok (.iaload, 1) := by decide +kernel
theorem dX12_hear_78 : decode cX12_hear 78 = .ok (.invokevirtual 462, 3) := by decide +kernel
theorem dX12_hear_81 : decode cX12_hear 81 = .ok (.ifCond .ne 17, 3) := by decide +kernel
theorem dX12_hear_84 : decode cX12_hear 84 = .ok (.aload_n 0, 1) := by decide +kernel
theorem dX12_hear_85 : decode cX12_hear 85 = .ok (.getfield 7, 3) := by decide +kernel
theorem dX12_hear_88 : decode cX12_hear 88 = .ok (.iload_n 3, 1) := by decide +kernel
theorem dX12_hear_89 : decode cX12_hear 89 = .ok (.iconst 2, 1) := by decide +kernel
theorem dX12_hear_90 : decode cX12_hear 90 = .ok (.iadd, 1) := by decide +kernel
theorem dX12_hear_91 : decode cX12_hear 91 = .ok (.iaload, 1) := by decide +kernel
theorem dX12_hear_92 : decode cX12_hear 92 = .ok (.sipush 255, 3) := by decide +kernel
theorem dX12_hear_95 : decode cX12_hear 95 = .ok (.if_icmp .ne 7, 3) := by decide +kernel
theorem dX12_hear_98 : decode cX12_hear 98 = .ok (.iconst 1, 1) := by decide +kernel
theorem dX12_hear_99 : decode cX12_hear 99 = .ok (.goto 4, 3) := by decide +kernel
theorem dX12_hear_102 : decode cX12_hear 102 = .ok (.iconst 0, 1) := by decide +kernel
theorem dX12_hear_103 : decode cX12_hear 103 = .ok (.istore_n 2, 1) := by decide +kernel
theorem dX12_hear_104 : decode cX12_hear 104 = .ok (.iinc 3 3, 3) := by decide +kernel
theorem dX12_hear_107 : decode cX12_hear 107 = .ok (.goto (-73), 3) := by decide +kernel
theorem dX12_hear_110 : decode cX12_hear 110 = .ok (.iload_n 2, 1) := by decide +kernel
theorem dX12_hear_111 : decode cX12_hear 111 = .ok (.ifCond .ne 9, 3) := by decide +kernel
theorem dX12_hear_114 : decode cX12_hear 114 = .ok (.aload_n 0, 1) := by decide +kernel
theorem dX12_hear_115 : decode cX12_hear 115 = .ok (.iconst 5, 1) := by decide +kernel
theorem dX12_hear_116 : decode cX12_hear 116 = .ok (.invokevirtual 225, 3) := by decide +kernel
theorem dX12_hear_119 : decode cX12_hear 119 = .ok (.ireturn, 1) := by decide +kernel
theorem dX12_hear_120 : decode cX12_hear 120 = .ok (.aload_n 0, 1) := by decide +kernel
theorem dX12_hear_121 : decode cX12_hear 121 = .ok (.iload_n 1, 1) := by decide +kernel
theorem dX12_hear_122 : decode cX12_hear 122 = .ok (.iconst 3, 1) := by decide +kernel
theorem dX12_hear_123 : decode cX12_hear 123 = .ok (.idiv, 1) := by decide +kernel
theorem dX12_hear_124 : decode cX12_hear 124 = .ok (.putfield 204, 3) := by decide +kernel
theorem dX12_hear_127 : decode cX12_hear 127 = .ok (.iconst 0, 1) := by decide +kernel
theorem dX12_hear_128 : decode cX12_hear 128 = .ok (.istore_n 3, 1) := by decide +kernel
theorem dX12_hear_129 : decode cX12_hear 129 = .ok (.iload_n 3, 1) := by decide +kernel
theorem dX12_hear_130 : decode cX12_hear 130 = .ok (.aload_n 0, 1) := by decide +kernel
theorem dX12_hear_131 : decode cX12_hear 131 = .ok (.getfield 204, 3) := by decide +kernel
theorem dX12_hear_134 : decode cX12_hear 134 = .ok (.if_icmp .ge 75, 3) := by decide +kernel
theorem dX12_hear_137 : decode cX12_hear 137 = .ok (.aload_n 0, 1) := by decide +kernel
theorem dX12_hear_138 : decode cX12_hear 138 = .ok (.getfield 207, 3) := by decide +kernel
theorem dX12_hear_141 : decode cX12_hear 141 = .ok (.iload_n 3, 1) := by decide +kernel
theorem dX12_hear_142 : decode cX12_hear 142 = .ok (.aload_n 0, 1) := by decide +kernel
theorem dX12_hear_143 : decode cX12_hear 143 = .ok (.getfield 7, 3) := by decide +kernel
theorem dX12_hear_146 : decode cX12_hear 146 = .ok (.iconst 3, 1) := by decide +kernel
theorem dX12_hear_147 : decode cX12_hear 147 = .ok (.iload_n 3, 1) := by decide +kernel
theorem dX12_hear_148 : decode cX12_hear 148 = .ok (.imul, 1) := by decide +kernel
theorem dX12_hear_149 : decode cX12_hear 149 = .ok (.iaload, 1) := by decide +kernel
theorem dX12_hear_150 : decode cX12_hear 150 = .ok (.iastore, 1) := by decide +kernel
theorem dX12_hear_151 : decode cX12_hear 151 = .ok (.aload_n 0, 1) := by decide +kernel
theorem dX12_hear_152 : decode cX12_hear 152 = .ok (.getfield 210, 3) := by decide +kernel
theorem dX12_hear_155 : decode cX12_hear 155 = .ok (.iload_n 3, 1) := by decide +kernel
theorem dX12_hear_156 : decode cX12_hear 156 = .ok (.aload_n 0, 1) := by decide +kernel
theorem dX12_hear_157 : decode cX12_hear 157 = .ok (.getfield 7, 3) := by decide +kernel
theorem dX12_hear_160 : decode cX12_hear 160 = .ok (.iconst 3, 1) := by decide +kernel
theorem dX12_hear_161 : decode cX12_hear 161 = .ok (.iload_n 3, 1) := by decide +kernel
theorem dX12_hear_162 : decode cX12_hear 162 = .ok (.imul, 1) := by decide +kernel
theorem dX12_hear_163 : decode cX12_hear 163 = .ok (.iconst 1, 1) := by decide +kernel
theorem dX12_hear_164 : decode cX12_hear 164 = .ok (.iadd, 1) := by decide +kernel
theorem dX12_hear_165 : decode cX12_hear 165 = .ok (.iaload, 1) := by decide +kernel
theorem dX12_hear_166 : decode cX12_hear 166 = .ok (.iastore, 1) := by decide +kernel
theorem dX12_hear_167 : decode cX12_hear 167 = .ok (.aload_n 0, 1) := by decide +kernel
theorem dX12_hear_168 : decode cX12_hear 168 = .ok (.getfield 213, 3) := by decide +kernel
theorem dX12_hear_171 : decode cX12_hear 171 = .ok (.iload_n 3, 1) := by decide +kernel
theorem dX12_hear_172 : decode cX12_hear 172 = .ok (.aload_n 0, 1) := by decide +kernel
theorem dX12_hear_173 : decode cX12_hear 173 = .ok (.getfield 7, 3) := by decide +kernel
theorem dX12_hear_176 : decode cX12_hear 176 = .ok (.iconst 3, 1) := by decide +kernel
theorem dX12_hear_177 : decode cX12_hear 177 = .ok (.iload_n 3, 1) := by decide +kernel
theorem dX12_hear_178 : decode cX12_hear 178 = .ok (.imul, 1) := by decide +kernel
theorem dX12_hear_179 : decode cX12_hear 179 = .ok (.iconst 2, 1) := by decide +kernel
theorem dX12_hear_180 : decode cX12_hear 180 = .ok (.iadd, 1) := by decide +kernel
theorem dX12_hear_181 : decode cX12_hear 181 = .ok (.iaload, 1) := by decide +kernel
theorem dX12_hear_182 : decode cX12_hear 182 = .ok (.sipush 255, 3) := by decide +kernel
theorem dX12_hear_185 : decode cX12_hear 185 = .ok (.if_icmp .ne 7, 3) := by decide +kernel
theorem dX12_hear_188 : decode cX12_hear 188 = .ok (.iconst (-1), 1) := by decide +kernel
theorem dX12_hear_189 : decode cX12_hear 189 = .ok (.goto 13, 3) := by decide +kernel
theorem dX12_hear_192 : decode cX12_hear 192 = .ok (.aload_n 0, 1) := by decide +kernel
theorem dX12_hear_193 : decode cX12_hear 193 = .ok (.getfield 7, 3) := by decide +kernel
theorem dX12_hear_196 : decode cX12_hear 196 = .ok (.iconst 3, 1) := by decide +kernel
theorem dX12_hear_197 : decode cX12_hear 197 = .ok (.iload_n 3, 1) := by decide +kernel
theorem dX12_hear_198 : decode cX12_hear 198 = .ok (.imul, 1) := by decide +kernel
theorem dX12_hear_199 : decode cX12_hear 199 = .ok (.iconst 2, 1) := by decide +kernel
theorem dX12_hear_200 : decode cX12_hear 200 = .ok (.iadd, 1) := by decide +kernel
theorem dX12_hear_201 : decode cX12_hear 201 = .ok (.iaload, 1) := by decide +kernel
theorem dX12_hear_202 : decode cX12_hear 202 = .ok (.iastore, 1) := by decide +kernel
theorem dX12_hear_203 : decode cX12_hear 203 = .ok (.iinc 3 1, 3) := by decide +kernel
theorem dX12_hear_206 : decode cX12_hear 206 = .ok (.goto (-77), 3) := by decide +kernel
theorem dX12_hear_209 : decode cX12_hear 209 = .ok (.aload_n 0, 1) := by decide +kernel
theorem dX12_hear_210 : decode cX12_hear 210 = .ok (.getfield 204, 3) := by decide +kernel
theorem dX12_hear_213 : decode cX12_hear 213 = .ok (.ireturn, 1) := by decide +kernel
theorem dX12_pitchBits_0 : decode cX12_pitchBits 0 = .ok (.iconst 0, 1) := by decide +kernel
theorem dX12_pitchBits_1 : decode cX12_pitchBits 1 = .ok (.istore_n 2, 1) := by decide +kernel
theorem dX12_pitchBits_2 : decode cX12_pitchBits 2 = .ok (.iconst 0, 1) := by decide +kernel
theorem dX12_pitchBits_3 : decode cX12_pitchBits 3 = .ok (.istore_n 3, 1) := by decide +kernel
theorem dX12_pitchBits_4 : decode cX12_pitchBits 4 = .ok (.iload_n 3, 1) := by decide +kernel
theorem dX12_pitchBits_5 : decode cX12_pitchBits 5 = .ok (.bipush 10, 2) := by decide +kernel
theorem dX12_pitchBits_7 : decode cX12_pitchBits 7 = .ok (.if_icmp .ge 189, 3) := by decide +kernel
theorem dX12_pitchBits_10 : decode cX12_pitchBits 10 = .ok (.aload_n 0, 1) := by decide +kernel
theorem dX12_pitchBits_11 : decode cX12_pitchBits 11 = .ok (.iconst 1, 1) := by decide +kernel
theorem dX12_pitchBits_12 : decode cX12_pitchBits 12 = .ok (.iconst 0, 1) := by decide +kernel
theorem dX12_pitchBits_13 : decode cX12_pitchBits 13 = .ok (.invokevirtual 396, 3) := by decide +kernel
theorem dX12_pitchBits_16 : decode cX12_pitchBits 16 = .ok (.aload_n 0, 1) := by decide +kernel
theorem dX12_pitchBits_17 : decode cX12_pitchBits 17 = .ok (.getfield 150, 3) := by decide +kernel
theorem dX12_pitchBits_20 : decode cX12_pitchBits 20 = .ok (.bipush 7, 2) := by decide +kernel
theorem dX12_pitchBits_22 : decode cX12_pitchBits 22 = .ok (.iload_n 1, 1) := by decide +kernel
theorem dX12_pitchBits_23 : decode cX12_pitchBits 23 = .ok (.iadd, 1) := by decide +kernel
theorem dX12_pitchBits_24 : decode cX12_pitchBits 24 = .ok (.iload_n 3, 1) := by decide +kernel
theorem dX12_pitchBits_25 : decode cX12_pitchBits 25 = .ok (.iastore, 1) := by decide +kernel
theorem dX12_pitchBits_26 : decode cX12_pitchBits 26 = .ok (.iconst 0, 1) := by decide +kernel
theorem dX12_pitchBits_27 : decode cX12_pitchBits 27 = .ok (.istore 4, 2) := by decide +kernel
theorem dX12_pitchBits_29 : decode cX12_pitchBits 29 = .ok (.iconst 0, 1) := by decide +kernel
theorem dX12_pitchBits_30 : decode cX12_pitchBits 30 = .ok (.istore 5, 2) := by decide +kernel
theorem dX12_pitchBits_32 : decode cX12_pitchBits 32 = .ok (.aload_n 0, 1) := by decide +kernel
theorem dX12_pitchBits_33 : decode cX12_pitchBits 33 = .ok (.iload 5, 2) := by decide +kernel
theorem dX12_pitchBits_35 : decode cX12_pitchBits 35 = .ok (.iconst 1, 1) := by decide +kernel
theorem dX12_pitchBits_36 : decode cX12_pitchBits 36 = .ok (.iadd, 1) := by decide +kernel
theorem dX12_pitchBits_37 : decode cX12_pitchBits 37 = .ok (.iconst 1, 1) := by decide +kernel
theorem dX12_pitchBits_38 : decode cX12_pitchBits 38 = .ok (.bipush 31, 2) := by decide +kernel
theorem dX12_pitchBits_40 : decode cX12_pitchBits 40 = .ok (.invokevirtual 478, 3) := by decide +kernel
theorem dX12_pitchBits_43 : decode cX12_pitchBits 43 = .ok (.ifCond .eq 128, 3) := by decide +kernel
theorem dX12_pitchBits_46 : decode cX12_pitchBits 46 = .ok (.aload_n 0, 1) := by decide +kernel
theorem dX12_pitchBits_47 : decode cX12_pitchBits 47 = .ok (.iconst 1, 1) := by decide +kernel
theorem dX12_pitchBits_48 : decode cX12_pitchBits 48 = .ok (.aload_n 0, 1) := by decide +kernel
theorem dX12_pitchBits_49 : decode cX12_pitchBits 49 = .ok (.invokevirtual 481, 3) := by decide +kernel
theorem dX12_pitchBits_52 : decode cX12_pitchBits 52 = .ok (.invokevirtual 475, 3) := by decide +kernel
theorem dX12_pitchBits_55 : decode cX12_pitchBits 55 = .ok (.iconst 0, 1) := by decide +kernel
theorem dX12_pitchBits_56 : decode cX12_pitchBits 56 = .ok (.istore 6, 2) := by decide +kernel
theorem dX12_pitchBits_58 : decode cX12_pitchBits 58 = .ok (.iload 6, 2) := by decide +kernel
theorem dX12_pitchBits_60 : decode cX12_pitchBits 60 = .ok (.aload_n 0, 1) := by decide +kernel
theorem dX12_pitchBits_61 : decode cX12_pitchBits 61 = .ok (.getfield 69, 3) := by decide +kernel
theorem dX12_pitchBits_64 : decode cX12_pitchBits 64 = .ok (.aload_n 0, 1) := by decide +kernel
theorem dX12_pitchBits_65 : decode cX12_pitchBits 65 = .ok (.getfield 51, 3) := by decide +kernel
theorem dX12_pitchBits_68 : decode cX12_pitchBits 68 = .ok (.iaload, 1) := by decide +kernel
theorem dX12_pitchBits_69 : decode cX12_pitchBits 69 = .ok (.if_icmp .ge 34, 3) := by decide +kernel
theorem dX12_pitchBits_72 : decode cX12_pitchBits 72 = .ok (.aload_n 0, 1) := by decide +kernel
theorem dX12_pitchBits_73 : decode cX12_pitchBits 73 = .ok (.getfield 216, 3) := by decide +kernel
theorem dX12_pitchBits_76 : decode cX12_pitchBits 76 = .ok (.bipush 12, 2) := by decide +kernel
theorem dX12_pitchBits_78 : decode cX12_pitchBits 78 = .ok (.bipush 31, 2) := by decide +kernel
theorem dX12_pitchBits_80 : decode cX12_pitchBits 80 = .ok (.iload_n 3, 1) := by decide +kernel
theorem dX12_pitchBits_81 : decode cX12_pitchBits 81 = .ok (.imul, 1) := by decide +kernel
theorem dX12_pitchBits_82 : decode cX12_pitchBits 82 = .ok (.iload 5, 2) := by decide +kernel
theorem dX12_pitchBits_84 : decode cX12_pitchBits 84 = .ok (.iadd, 1) := by decide +kernel
theorem dX12_pitchBits_85 : decode cX12_pitchBits 85 = .ok (.imul, 1) := by decide +kernel
theorem dX12_pitchBits_86 : decode cX12_pitchBits 86 = .ok (.iload 6, 2) := by decide +kernel
theorem dX12_pitchBits_88 : decode cX12_pitchBits 88 = .ok (.iadd, 1) := by decide +kernel
theorem dX12_pitchBits_89 : decode cX12_pitchBits 89 = .ok (.aload_n 0, 1) := by decide +kernel
theorem dX12_pitchBits_90 : decode cX12_pitchBits 90 = .ok (.getfield 198, 3) := by decide +kernel
theorem dX12_pitchBits_93 : decode cX12_pitchBits 93 = .ok (.iload 6, 2) := by decide +kernel
theorem dX12_pitchBits_95 : decode cX12_pitchBits 95 = .ok (.iaload, 1) := by decide +kernel
theorem dX12_pitchBits_96 : decode cX12_pitchBits 96 = .ok (.iastore, 1) := by decide +kernel
theorem dX12_pitchBits_97 : decode cX12_pitchBits 97 = .ok (.iinc 6 1, 3) := by decide +kernel
theorem dX12_pitchBits_100 : decode cX12_pitchBits 100 = .ok (.goto (-42), 3) := by decide +kernel
theorem dX12_pitchBits_103 : decode cX12_pitchBits 103 = .ok (.iconst 0, 1) := by decide +kernel
theorem dX12_pitchBits_104 : decode cX12_pitchBits 104 = .ok (.istore 6, 2) := by decide +kernel
theorem dX12_pitchBits_106 : decode cX12_pitchBits 106 = .ok (.iload 6, 2) := by decide +kernel
theorem dX12_pitchBits_108 : decode cX12_pitchBits 108 = .ok (.aload_n 0, 1) := by decide +kernel
theorem dX12_pitchBits_109 : decode cX12_pitchBits 109 = .ok (.getfield 204, 3) := by decide +kernel
theorem dX12_pitchBits_112 : decode cX12_pitchBits 112 = .ok (.if_icmp .ge 53, 3) := by decide +kernel
theorem dX12_pitchBits_115 : decode cX12_pitchBits 115 = .ok (.iload 4, 2) := by decide +kernel
theorem dX12_pitchBits_117 : decode cX12_pitchBits 117 = .ok (.aload_n 0, 1) := by decide +kernel
theorem dX12_pitchBits_118 : decode cX12_pitchBits 118 = .ok (.getfield 207, 3) := by decide +kernel
theorem dX12_pitchBits_121 : decode cX12_pitchBits 121 = .ok (.iload 6, 2) := by decide +kernel
theorem dX12_pitchBits_123 : decode cX12_pitchBits 123 = .ok (.iaload, 1) := by decide +kernel
theorem dX12_pitchBits_124 : decode cX12_pitchBits 124 = .ok (.iload 5, 2) := by decide +kernel
theorem dX12_pitchBits_126 : decode cX12_pitchBits 126 = .ok (.if_icmp .ne 29, 3) := by decide +kernel
theorem dX12_pitchBits_129 : decode cX12_pitchBits 129 = .ok (.aload_n 0, 1) := by decide +kernel
theorem dX12_pitchBits_130 : decode cX12_pitchBits 130 = .ok (.getfield 198, 3) := by decide +kernel
theorem dX12_pitchBits_133 : decode cX12_pitchBits 133 = .ok (.aload_n 0, 1) := by decide +kernel
theorem dX12_pitchBits_134 : decode cX12_pitchBits 134 = .ok (.getfield 210, 3) := by decide +kernel
theorem dX12_pitchBits_137 : decode cX12_pitchBits 137 = .ok (.iload 6, 2) := by decide +kernel
theorem dX12_pitchBits_139 : decode cX12_pitchBits 139 = .ok (.iaload, 1) := by decide +kernel
theorem dX12_pitchBits_140 : decode cX12_pitchBits 140 = .ok (.iaload, 1) := by decide +kernel
theorem dX12_pitchBits_141 : decode cX12_pitchBits 141 = .ok (.aload_n 0, 1) := by decide +kernel
theorem dX12_pitchBits_142 : decode cX12_pitchBits 142 = .ok (.getfield 213, 3) := by decide +kernel
theorem dX12_pitchBits_145 : decode cX12_pitchBits 145 = .ok (.iload 6, 2) := by decide +kernel
theorem dX12_pitchBits_147 : decode cX12_pitchBits 147 = .ok (.iaload, 1) := by decide +kernel
theorem dX12_pitchBits_148 : decode cX12_pitchBits 148 = .ok (.if_icmp .ne 7, 3) := by decide +kernel
theorem dX12_pitchBits_151 : decode cX12_pitchBits 151 = .ok (.iconst 1, 1) := by decide +kernel
theorem dX12_pitchBits_152 : decode cX12_pitchBits 152 = .ok (.goto 4, 3) := by decide +kernel
theorem dX12_pitchBits_155 : decode cX12_pitchBits 155 = .ok (.iconst 0, 1) := by decide +kernel
theorem dX12_pitchBits_156 : decode cX12_pitchBits 156 = .ok (.iadd, 1) := by decide +kernel
theorem dX12_pitchBits_157 : decode cX12_pitchBits 157 = .ok (.istore 4, 2) := by decide +kernel
theorem dX12_pitchBits_159 : decode cX12_pitchBits 159 = .ok (.iinc 6 1, 3) := by decide +kernel
theorem dX12_pitchBits_162 : decode cX12_pitchBits 162 = .ok (.goto (-56), 3) := by decide +kernel
theorem dX12_pitchBits_165 : decode cX12_pitchBits 165 = .ok (.iinc 5 1, 3) := by decide +kernel
theorem dX12_pitchBits_168 : decode cX12_pitchBits 168 = .ok (.goto (-136), 3) := by decide +kernel
theorem dX12_pitchBits_171 : decode cX12_pitchBits 171 = .ok (.iload_n 2, 1) := by decide +kernel
theorem dX12_pitchBits_172 : decode cX12_pitchBits 172 = .ok (.iload 4, 2) := by decide +kernel
theorem dX12_pitchBits_174 : decode cX12_pitchBits 174 = .ok (.aload_n 0, 1) := by decide +kernel
theorem dX12_pitchBits_175 : decode cX12_pitchBits 175 = .ok (.getfield 204, 3) := by decide +kernel
theorem dX12_pitchBits_178 : decode cX12_pitchBits 178 = .ok (.if_icmp .ne 9, 3) := by decide +kernel
theorem dX12_pitchBits_181 : decode cX12_pitchBits 181 = .ok (.iconst 1, 1) := by decide +kernel
theorem dX12_pitchBits_182 : decode cX12_pitchBits 182 = .ok (.iload_n 3, 1) := by decide +kernel
theorem dX12_pitchBits_183 : decode cX12_pitchBits 183 = .ok (.ishl, 1) := by decide +kernel
theorem dX12_pitchBits_184 : decode cX12_pitchBits 184 = .ok (.goto 4, 3) := by decide +kernel
theorem dX12_pitchBits_187 : decode cX12_pitchBits 187 = .ok (.iconst 0, 1) := by decide +kernel
theorem dX12_pitchBits_188 : decode cX12_pitchBits 188 = .ok (.ior, 1) := by decide +kernel
theorem dX12_pitchBits_189 : decode cX12_pitchBits 189 = .ok (.istore_n 2, 1) := by decide +kernel
theorem dX12_pitchBits_190 : decode cX12_pitchBits 190 = .ok (.iinc 3 1, 3) := by decide +kernel
theorem dX12_pitchBits_193 : decode cX12_pitchBits 193 = .ok (.goto (-189), 3) := by decide +kernel
theorem dX12_pitchBits_196 : decode cX12_pitchBits 196 = .ok (.iload_n 2, 1) := by decide +kernel
theorem dX12_pitchBits_197 : decode cX12_pitchBits 197 = .ok (.ireturn, 1) := by decide +kernel
theorem dX12_pitches_0 : decode cX12_pitches 0 = .ok (.aload_n 0, 1) := by decide +kernel
theorem dX12_pitches_1 : decode cX12_pitches 1 = .ok (.iload_n 1, 1) := by decide +kernel
theorem dX12_pitches_2 : decode cX12_pitches 2 = .ok (.invokevirtual 462, 3) := by decide +kernel
theorem dX12_pitches_5 : decode cX12_pitches 5 = .ok (.ifCond .eq 11, 3) := by decide +kernel
theorem dX12_pitches_8 : decode cX12_pitches 8 = .ok (.aload_n 0, 1) := by decide +kernel
theorem dX12_pitches_9 : decode cX12_pitches 9 = .ok (.iload_n 1, 1) := by decide +kernel
theorem dX12_pitches_10 : decode cX12_pitches 10 = .ok (.invokevirtual 499, 3) := by decide +kernel
theorem dX12_pitches_13 : decode cX12_pitches 13 = .ok (.goto 4, 3) := by decide +kernel
theorem dX12_pitches_16 : decode cX12_pitches 16 = .ok (.iconst (-1), 1) := by decide +kernel
theorem dX12_pitches_17 : decode cX12_pitches 17 = .ok (.ireturn, 1) := by decide +kernel
theorem dX12_mostBy_0 : decode cX12_mostBy 0 = .ok (.iconst 0, 1) := by decide +kernel
theorem dX12_mostBy_1 : decode cX12_mostBy 1 = .ok (.istore 4, 2) := by decide +kernel
theorem dX12_mostBy_3 : decode cX12_mostBy 3 = .ok (.iconst 0, 1) := by decide +kernel
theorem dX12_mostBy_4 : decode cX12_mostBy 4 = .ok (.istore 5, 2) := by decide +kernel
theorem dX12_mostBy_6 : decode cX12_mostBy 6 = .ok (.iload 5, 2) := by decide +kernel
theorem dX12_mostBy_8 : decode cX12_mostBy 8 = .ok (.bipush 10, 2) := by decide +kernel
theorem dX12_mostBy_10 : decode cX12_mostBy 10 = .ok (.if_icmp .ge 109, 3) := by decide +kernel
theorem dX12_mostBy_13 : decode cX12_mostBy 13 = .ok (.iconst 0, 1) := by decide +kernel
theorem dX12_mostBy_14 : decode cX12_mostBy 14 = .ok (.istore 6, 2) := by decide +kernel
theorem dX12_mostBy_16 : decode cX12_mostBy 16 = .ok (.iconst 0, 1) := by decide +kernel
theorem dX12_mostBy_17 : decode cX12_mostBy 17 = .ok (.istore 7, 2) := by decide +kernel
theorem dX12_mostBy_19 : decode cX12_mostBy 19 = .ok (.iload 7, 2) := by decide +kernel
theorem dX12_mostBy_21 : decode cX12_mostBy 21 = .ok (.bipush 10, 2) := by decide +kernel
theorem dX12_mostBy_23 : decode cX12_mostBy 23 = .ok (.if_icmp .ge 74, 3) := by decide +kernel
theorem dX12_mostBy_26 : decode cX12_mostBy 26 = .ok (.iload 6, 2) := by decide +kernel
theorem dX12_mostBy_28 : decode cX12_mostBy 28 = .ok (.iload_n 1, 1) := by decide +kernel
theorem dX12_mostBy_29 : decode cX12_mostBy 29 = .ok (.iload 5, 2) := by decide +kernel
theorem dX12_mostBy_31 : decode cX12_mostBy 31 = .ok (.invokestatic 428, 3) := by decide +kernel
theorem dX12_mostBy_34 : decode cX12_mostBy 34 = .ok (.ifCond .eq 53, 3) := by decide +kernel
theorem dX12_mostBy_37 : decode cX12_mostBy 37 = .ok (.iload_n 1, 1) := by decide +kernel
theorem dX12_mostBy_38 : decode cX12_mostBy 38 = .ok (.iload 7, 2) := by decide +kernel
theorem dX12_mostBy_40 : decode cX12_mostBy 40 = .ok (.invokestatic 428, 3) := by decide +kernel
theorem dX12_mostBy_43 : decode cX12_mostBy 43 = .ok (.ifCond .eq 44, 3) := by decide +kernel
theorem dX12_mostBy_46 : decode cX12_mostBy 46 = .ok (.aload_n 0, 1) := by decide +kernel
theorem dX12_mostBy_47 : decode cX12_mostBy 47 = .ok (.getfield 216, 3) := by decide +kernel
theorem dX12_mostBy_50 : decode cX12_mostBy 50 = .ok (.bipush 12, 2) := by decide +kernel
theorem dX12_mostBy_52 : decode cX12_mostBy 52 = .ok (.bipush 31, 2) := by decide +kernel
theorem dX12_mostBy_54 : decode cX12_mostBy 54 = .ok (.iload 5, 2) := by decide +kernel
theorem dX12_mostBy_56 : decode cX12_mostBy 56 = .ok (.imul, 1) := by decide +kernel
theorem dX12_mostBy_57 : decode cX12_mostBy 57 = .ok (.iload_n 2, 1) := by decide +kernel
theorem dX12_mostBy_58 : decode cX12_mostBy 58 = .ok (.iadd, 1) := by decide +kernel
theorem dX12_mostBy_59 : decode cX12_mostBy 59 = .ok (.imul, 1) := by decide +kernel
theorem dX12_mostBy_60 : decode cX12_mostBy 60 = .ok (.iload_n 3, 1) := by decide +kernel
theorem dX12_mostBy_61 : decode cX12_mostBy 61 = .ok (.iadd, 1) := by decide +kernel
theorem dX12_mostBy_62 : decode cX12_mostBy 62 = .ok (.iaload, 1) := by decide +kernel
theorem dX12_mostBy_63 : decode cX12_mostBy 63 = .ok (.aload_n 0, 1) := by decide +kernel
theorem dX12_mostBy_64 : decode cX12_mostBy 64 = .ok (.getfield 216, 3) := by decide +kernel
theorem dX12_mostBy_67 : decode cX12_mostBy 67 = .ok (.bipush 12, 2) := by decide +kernel
theorem dX12_mostBy_69 : decode cX12_mostBy 69 = .ok (.bipush 31, 2) := by decide +kernel
theorem dX12_mostBy_71 : decode cX12_mostBy 71 = .ok (.iload 7, 2) := by decide +kernel
theorem dX12_mostBy_73 : decode cX12_mostBy 73 = .ok (.imul, 1) := by decide +kernel
theorem dX12_mostBy_74 : decode cX12_mostBy 74 = .ok (.iload_n 2, 1) := by decide +kernel
theorem dX12_mostBy_75 : decode cX12_mostBy 75 = .ok (.iadd, 1) := by decide +kernel
theorem dX12_mostBy_76 : decode cX12_mostBy 76 = .ok (.imul, 1) := by decide +kernel
theorem dX12_mostBy_77 : decode cX12_mostBy 77 = .ok (.iload_n 3, 1) := by decide +kernel
theorem dX12_mostBy_78 : decode cX12_mostBy 78 = .ok (.iadd, 1) := by decide +kernel
theorem dX12_mostBy_79 : decode cX12_mostBy 79 = .ok (.iaload, 1) := by decide +kernel
theorem dX12_mostBy_80 : decode cX12_mostBy 80 = .ok (.if_icmp .ne 7, 3) := by decide +kernel
theorem dX12_mostBy_83 : decode cX12_mostBy 83 = .ok (.iconst 1, 1) := by decide +kernel
theorem dX12_mostBy_84 : decode cX12_mostBy 84 = .ok (.goto 4, 3) := by decide +kernel
theorem dX12_mostBy_87 : decode cX12_mostBy 87 = .ok (.iconst 0, 1) := by decide +kernel
theorem dX12_mostBy_88 : decode cX12_mostBy 88 = .ok (.iadd, 1) := by decide +kernel
theorem dX12_mostBy_89 : decode cX12_mostBy 89 = .ok (.istore 6, 2) := by decide +kernel
theorem dX12_mostBy_91 : decode cX12_mostBy 91 = .ok (.iinc 7 1, 3) := by decide +kernel
theorem dX12_mostBy_94 : decode cX12_mostBy 94 = .ok (.goto (-75), 3) := by decide +kernel
theorem dX12_mostBy_97 : decode cX12_mostBy 97 = .ok (.iload 6, 2) := by decide +kernel
theorem dX12_mostBy_99 : decode cX12_mostBy 99 = .ok (.iload 4, 2) := by decide +kernel
theorem dX12_mostBy_101 : decode cX12_mostBy 101 = .ok (.if_icmp .le 8, 3) := by decide +kernel
theorem dX12_mostBy_104 : decode cX12_mostBy 104 = .ok (.iload 6, 2) := by decide +kernel
theorem dX12_mostBy_106 : decode cX12_mostBy 106 = .ok (.goto 5, 3) := by decide +kernel
theorem dX12_mostBy_109 : decode cX12_mostBy 109 = .ok (.iload 4, 2) := by decide +kernel
theorem dX12_mostBy_111 : decode cX12_mostBy 111 = .ok (.istore 4, 2) := by decide +kernel
theorem dX12_mostBy_113 : decode cX12_mostBy 113 = .ok (.iinc 5 1, 3) := by decide +kernel
theorem dX12_mostBy_116 : decode cX12_mostBy 116 = .ok (.goto (-110), 3) := by decide +kernel
theorem dX12_mostBy_119 : decode cX12_mostBy 119 = .ok (.iload 4, 2) := by decide +kernel
theorem dX12_mostBy_121 : decode cX12_mostBy 121 = .ok (.ireturn, 1) := by decide +kernel
theorem dX12_tells_0 : decode cX12_tells 0 = .ok (.aload_n 0, 1) := by decide +kernel
theorem dX12_tells_1 : decode cX12_tells 1 = .ok (.iload_n 1, 1) := by decide +kernel
theorem dX12_tells_2 : decode cX12_tells 2 = .ok (.invokevirtual 462, 3) := by decide +kernel
theorem dX12_tells_5 : decode cX12_tells 5 = .ok (.ifCond .eq 12, 3) := by decide +kernel
theorem dX12_tells_8 : decode cX12_tells 8 = .ok (.iload_n 2, 1) := by decide +kernel
theorem dX12_tells_9 : decode cX12_tells 9 = .ok (.iconst 0, 1) := by decide +kernel
theorem dX12_tells_10 : decode cX12_tells 10 = .ok (.iconst 2, 1) := by decide +kernel
theorem dX12_tells_11 : decode cX12_tells 11 = .ok (.invokestatic 303, 3) := by decide +kernel
theorem dX12_tells_14 : decode cX12_tells 14 = .ok (.ifCond .ne 5, 3) := by decide +kernel
theorem dX12_tells_17 : decode cX12_tells 17 = .ok (.iconst (-1), 1) := by decide +kernel
theorem dX12_tells_18 : decode cX12_tells 18 = .ok (.ireturn, 1) := by decide +kernel
theorem dX12_tells_19 : decode cX12_tells 19 = .ok (.aload_n 0, 1) := by decide +kernel
theorem dX12_tells_20 : decode cX12_tells 20 = .ok (.iload_n 1, 1) := by decide +kernel
theorem dX12_tells_21 : decode cX12_tells 21 = .ok (.invokevirtual 499, 3) := by decide +kernel
theorem dX12_tells_24 : decode cX12_tells 24 = .ok (.istore_n 3, 1) := by decide +kernel
theorem dX12_tells_25 : decode cX12_tells 25 = .ok (.iconst (-1), 1) := by decide +kernel
theorem dX12_tells_26 : decode cX12_tells 26 = .ok (.istore 4, 2) := by decide +kernel
theorem dX12_tells_28 : decode cX12_tells 28 = .ok (.ldc_w 502, 3) := by decide +kernel
theorem dX12_tells_31 : decode cX12_tells 31 = .ok (.istore 5, 2) := by decide +kernel
theorem dX12_tells_33 : decode cX12_tells 33 = .ok (.iconst 0, 1) := by decide +kernel
theorem dX12_tells_34 : decode cX12_tells 34 = .ok (.istore 6, 2) := by decide +kernel
theorem dX12_tells_36 : decode cX12_tells 36 = .ok (.aload_n 0, 1) := by decide +kernel
theorem dX12_tells_37 : decode cX12_tells 37 = .ok (.iload 6, 2) := by decide +kernel
theorem dX12_tells_39 : decode cX12_tells 39 = .ok (.iconst 1, 1) := by decide +kernel
theorem dX12_tells_40 : decode cX12_tells 40 = .ok (.iadd, 1) := by decide +kernel
theorem dX12_tells_41 : decode cX12_tells 41 = .ok (.iconst 1, 1) := by decide +kernel
theorem dX12_tells_42 : decode cX12_tells 42 = .ok (.bipush 31, 2) := by decide +kernel
theorem dX12_tells_44 : decode cX12_tells 44 = .ok (.invokevirtual 478, 3) := by decide +kernel
theorem dX12_tells_47 : decode cX12_tells 47 = .ok (.ifCond .eq 71, 3) := by decide +kernel
theorem dX12_tells_50 : decode cX12_tells 50 = .ok (.iload_n 3, 1) := by decide +kernel
theorem dX12_tells_51 : decode cX12_tells 51 = .ok (.ifCond .eq 67, 3) := by decide +kernel
theorem dX12_tells_54 : decode cX12_tells 54 = .ok (.iconst 0, 1) := by decide +kernel
theorem dX12_tells_55 : decode cX12_tells 55 = .ok (.istore 7, 2) := by decide +kernel
theorem dX12_tells_57 : decode cX12_tells 57 = .ok (.iload 7, 2) := by decide +kernel
theorem dX12_tells_59 : decode cX12_tells 59 = .ok (.aload_n 0, 1) := by decide +kernel
theorem dX12_tells_60 : decode cX12_tells 60 = .ok (.getfield 69, 3) := by decide +kernel
theorem dX12_tells_63 : decode cX12_tells 63 = .ok (.aload_n 0, 1) := by decide +kernel
theorem dX12_tells_64 : decode cX12_tells 64 = .ok (.getfield 51, 3) := by decide +kernel
theorem dX12_tells_67 : decode cX12_tells 67 = .ok (.iaload, 1) := by decide +kernel
theorem dX12_tells_68 : decode cX12_tells 68 = .ok (.if_icmp .ge 44, 3) := by decide +kernel
theorem dX12_tells_71 : decode cX12_tells 71 = .ok (.aload_n 0, 1) := by decide +kernel
theorem dX12_tells_72 : decode cX12_tells 72 = .ok (.iload_n 3, 1) := by decide +kernel
theorem dX12_tells_73 : decode cX12_tells 73 = .ok (.iload 6, 2) := by decide +kernel
theorem dX12_tells_75 : decode cX12_tells 75 = .ok (.iload 7, 2) := by decide +kernel
theorem dX12_tells_77 : decode cX12_tells 77 = .ok (.invokevirtual 503, 3) := by decide +kernel
theorem dX12_tells_80 : decode cX12_tells 80 = .ok (.istore 8, 2) := by decide +kernel
theorem dX12_tells_82 : decode cX12_tells 82 = .ok (.iload 8, 2) := by decide +kernel
theorem dX12_tells_84 : decode cX12_tells 84 = .ok (.iload 5, 2) := by decide +kernel
theorem dX12_tells_86 : decode cX12_tells 86 = .ok (.if_icmp .lt 6, 3) := by decide +kernel
theorem dX12_tells_89 : decode cX12_tells 89 = .ok (.goto 17, 3) := by decide +kernel
theorem dX12_tells_92 : decode cX12_tells 92 = .ok (.iload 8, 2) := by decide +kernel
theorem dX12_tells_94 : decode cX12_tells 94 = .ok (.istore 5, 2) := by decide +kernel
theorem dX12_tells_96 : decode cX12_tells 96 = .ok (.bipush 12, 2) := by decide +kernel
theorem dX12_tells_98 : decode cX12_tells 98 = .ok (.iload 6, 2) := by decide +kernel
theorem dX12_tells_100 : decode cX12_tells 100 = .ok (.imul, 1) := by decide +kernel
theorem dX12_tells_101 : decode cX12_tells 101 = .ok (.iload 7, 2) := by decide +kernel
theorem dX12_tells_103 : decode cX12_tells 103 = .ok (.iadd, 1) := by decide +kernel
theorem dX12_tells_104 : decode cX12_tells 104 = .ok (.istore 4, 2) := by decide +kernel
theorem dX12_tells_106 : decode cX12_tells 106 = .ok (.iinc 7 1, 3) := by decide +kernel
theorem dX12_tells_109 : decode cX12_tells 109 = .ok (.goto (-52), 3) := by decide +kernel
theorem dX12_tells_112 : decode cX12_tells 112 = .ok (.iinc 6 1, 3) := by decide +kernel
theorem dX12_tells_115 : decode cX12_tells 115 = .ok (.goto (-79), 3) := by decide +kernel
theorem dX12_tells_118 : decode cX12_tells 118 = .ok (.iload 4, 2) := by decide +kernel
theorem dX12_tells_120 : decode cX12_tells 120 = .ok (.iconst (-1), 1) := by decide +kernel
theorem dX12_tells_121 : decode cX12_tells 121 = .ok (.if_icmp .ne 7, 3) := by decide +kernel
theorem dX12_tells_124 : decode cX12_tells 124 = .ok (.iconst (-1), 1) := by decide +kernel
theorem dX12_tells_125 : decode cX12_tells 125 = .ok (.goto 30, 3) := by decide +kernel
theorem dX12_tells_128 : decode cX12_tells 128 = .ok (.iload_n 2, 1) := by decide +kernel
theorem dX12_tells_129 : decode cX12_tells 129 = .ok (.ifCond .ne 11, 3) := by decide +kernel
theorem dX12_tells_132 : decode cX12_tells 132 = .ok (.iload 4, 2) := by decide +kernel
theorem dX12_tells_134 : decode cX12_tells 134 = .ok (.bipush 12, 2) := by decide +kernel
theorem dX12_tells_136 : decode cX12_tells 136 = .ok (.idiv, 1) := by decide +kernel
theorem dX12_tells_137 : decode cX12_tells 137 = .ok (.goto 18, 3) := by decide +kernel
theorem dX12_tells_140 : decode cX12_tells 140 = .ok (.iload_n 2, 1) := by decide +kernel
theorem dX12_tells_141 : decode cX12_tells 141 = .ok (.iconst 1, 1) := by decide +kernel
theorem dX12_tells_142 : decode cX12_tells 142 = .ok (.if_icmp .ne 11, 3) := by decide +kernel
theorem dX12_tells_145 : decode cX12_tells 145 = .ok (.iload 4, 2) := by decide +kernel
theorem dX12_tells_147 : decode cX12_tells 147 = .ok (.bipush 12, 2) := by decide +kernel
theorem dX12_tells_149 : decode cX12_tells 149 = .ok (.irem, 1) := by decide +kernel
theorem dX12_tells_150 : decode cX12_tells 150 = .ok (.goto 5, 3) := by decide +kernel
theorem dX12_tells_153 : decode cX12_tells 153 = .ok (.iload 5, 2) := by decide +kernel
theorem dX12_tells_155 : decode cX12_tells 155 = .ok (.ireturn, 1) := by decide +kernel
theorem dX12_minutes_0 : decode cX12_minutes 0 = .ok (.aload_n 0, 1) := by decide +kernel
theorem dX12_minutes_1 : decode cX12_minutes 1 = .ok (.iload_n 1, 1) := by decide +kernel
theorem dX12_minutes_2 : decode cX12_minutes 2 = .ok (.iconst 1, 1) := by decide +kernel
theorem dX12_minutes_3 : decode cX12_minutes 3 = .ok (.bipush 60, 2) := by decide +kernel
theorem dX12_minutes_5 : decode cX12_minutes 5 = .ok (.invokevirtual 478, 3) := by decide +kernel
theorem dX12_minutes_8 : decode cX12_minutes 8 = .ok (.ifCond .ne 9, 3) := by decide +kernel
theorem dX12_minutes_11 : decode cX12_minutes 11 = .ok (.aload_n 0, 1) := by decide +kernel
theorem dX12_minutes_12 : decode cX12_minutes 12 = .ok (.iconst 2, 1) := by decide +kernel
theorem dX12_minutes_13 : decode cX12_minutes 13 = .ok (.invokevirtual 225, 3) := by decide +kernel
theorem dX12_minutes_16 : decode cX12_minutes 16 = .ok (.ireturn, 1) := by decide +kernel
theorem dX12_minutes_17 : decode cX12_minutes 17 = .ok (.aload_n 0, 1) := by decide +kernel
theorem dX12_minutes_18 : decode cX12_minutes 18 = .ok (.invokevirtual 506, 3) := by decide +kernel
theorem dX12_minutes_21 : decode cX12_minutes 21 = .ok (.aload_n 0, 1) := by decide +kernel
theorem dX12_minutes_22 : decode cX12_minutes 22 = .ok (.iconst 0, 1) := by decide +kernel
theorem dX12_minutes_23 : decode cX12_minutes 23 = .ok (.iconst 3, 1) := by decide +kernel
theorem dX12_minutes_24 : decode cX12_minutes 24 = .ok (.iconst 3, 1) := by decide +kernel
theorem dX12_minutes_25 : decode cX12_minutes 25 = .ok (.invokevirtual 458, 3) := by decide +kernel
theorem dX12_minutes_28 : decode cX12_minutes 28 = .ok (.istore_n 2, 1) := by decide +kernel
theorem dX12_minutes_29 : decode cX12_minutes 29 = .ok (.iconst 0, 1) := by decide +kernel
theorem dX12_minutes_30 : decode cX12_minutes 30 = .ok (.istore_n 3, 1) := by decide +kernel
theorem dX12_minutes_31 : decode cX12_minutes 31 = .ok (.iload_n 3, 1) := by decide +kernel
theorem dX12_minutes_32 : decode cX12_minutes 32 = .ok (.iload_n 1, 1) := by decide +kernel
theorem dX12_minutes_33 : decode cX12_minutes 33 = .ok (.if_icmp .ge 18, 3) := by decide +kernel
theorem dX12_minutes_36 : decode cX12_minutes 36 = .ok (.aload_n 0, 1) := by decide +kernel
theorem dX12_minutes_37 : decode cX12_minutes 37 = .ok (.iconst 0, 1) := by decide +kernel
theorem dX12_minutes_38 : decode cX12_minutes 38 = .ok (.aload_n 0, 1) := by decide +kernel
theorem dX12_minutes_39 : decode cX12_minutes 39 = .ok (.invokevirtual 481, 3) := by decide +kernel
theorem dX12_minutes_42 : decode cX12_minutes 42 = .ok (.invokevirtual 475, 3) := by decide +kernel
theorem dX12_minutes_45 : decode cX12_minutes 45 = .ok (.iinc 3 1, 3) := by decide +kernel
theorem dX12_minutes_48 : decode cX12_minutes 48 = .ok (.goto (-17), 3) := by decide +kernel
theorem dX12_minutes_51 : decode cX12_minutes 51 = .ok (.aload_n 0, 1) := by decide +kernel
theorem dX12_minutes_52 : decode cX12_minutes 52 = .ok (.iconst 0, 1) := by decide +kernel
theorem dX12_minutes_53 : decode cX12_minutes 53 = .ok (.iconst 3, 1) := by decide +kernel
theorem dX12_minutes_54 : decode cX12_minutes 54 = .ok (.iconst 3, 1) := by decide +kernel
theorem dX12_minutes_55 : decode cX12_minutes 55 = .ok (.invokevirtual 458, 3) := by decide +kernel
theorem dX12_minutes_58 : decode cX12_minutes 58 = .ok (.iload_n 2, 1) := by decide +kernel
theorem dX12_minutes_59 : decode cX12_minutes 59 = .ok (.isub, 1) := by decide +kernel
theorem dX12_minutes_60 : decode cX12_minutes 60 = .ok (.ireturn, 1) := by decide +kernel
theorem dX12_draw_0 : decode cX12_draw 0 = .ok (.aload_n 0, 1) := by decide +kernel
theorem dX12_draw_1 : decode cX12_draw 1 = .ok (.ldc2_w 509, 3) := by decide +kernel
theorem dX12_draw_4 : decode cX12_draw 4 = .ok (.aload_n 0, 1) := by decide +kernel
theorem dX12_draw_5 : decode cX12_draw 5 = .ok (.getfield 189, 3) := by decide +kernel
theorem dX12_draw_8 : decode cX12_draw 8 = .ok (.lmul, 1) := by decide +kernel
theorem dX12_draw_9 : decode cX12_draw 9 = .ok (.ldc2_w 511, 3) := by decide +kernel
theorem dX12_draw_12 : decode cX12_draw 12 = .ok (.ladd, 1) := by decide +kernel
theorem dX12_draw_13 : decode cX12_draw 13 = .ok (.ldc2_w 513, 3) := by decide +kernel
theorem dX12_draw_16 : decode cX12_draw 16 = .ok (.lrem, 1) := by decide +kernel
theorem dX12_draw_17 : decode cX12_draw 17 = .ok (.putfield 189, 3) := by decide +kernel
theorem dX12_draw_20 : decode cX12_draw 20 = .ok (.aload_n 0, 1) := by decide +kernel
theorem dX12_draw_21 : decode cX12_draw 21 = .ok (.getfield 189, 3) := by decide +kernel
theorem dX12_draw_24 : decode cX12_draw 24 = .ok (.ldc2_w 515, 3) := by decide +kernel
theorem dX12_draw_27 : decode cX12_draw 27 = .ok (.ldiv, 1) := by decide +kernel
theorem dX12_draw_28 : decode cX12_draw 28 = .ok (.iload_n 1, 1) := by decide +kernel
theorem dX12_draw_29 : decode cX12_draw 29 = .ok (.i2l, 1) := by decide +kernel
theorem dX12_draw_30 : decode cX12_draw 30 = .ok (.lrem, 1) := by decide +kernel
theorem dX12_draw_31 : decode cX12_draw 31 = .ok (.l2i, 1) := by decide +kernel
theorem dX12_draw_32 : decode cX12_draw 32 = .ok (.ireturn, 1) := by decide +kernel
theorem dX12_chance_0 : decode cX12_chance 0 = .ok (.aload_n 0, 1) := by decide +kernel
theorem dX12_chance_1 : decode cX12_chance 1 = .ok (.iload_n 1, 1) := by decide +kernel
theorem dX12_chance_2 : decode cX12_chance 2 = .ok (.iconst 1, 1) := by decide +kernel
theorem dX12_chance_3 : decode cX12_chance 3 = .ok (.bipush 60, 2) := by decide +kernel
theorem dX12_chance_5 : decode cX12_chance 5 = .ok (.invokevirtual 478, 3) := by decide +kernel
theorem dX12_chance_8 : decode cX12_chance 8 = .ok (.ifCond .ne 9, 3) := by decide +kernel
theorem dX12_chance_11 : decode cX12_chance 11 = .ok (.aload_n 0, 1) := by decide +kernel
theorem dX12_chance_12 : decode cX12_chance 12 = .ok (.iconst 2, 1) := by decide +kernel
theorem dX12_chance_13 : decode cX12_chance 13 = .ok (.invokevirtual 225, 3) := by decide +kernel
theorem dX12_chance_16 : decode cX12_chance 16 = .ok (.ireturn, 1) := by decide +kernel
theorem dX12_chance_17 : decode cX12_chance 17 = .ok (.aload_n 0, 1) := by decide +kernel
theorem dX12_chance_18 : decode cX12_chance 18 = .ok (.invokevirtual 506, 3) := by decide +kernel
theorem dX12_chance_21 : decode cX12_chance 21 = .ok (.iconst 0, 1) := by decide +kernel
theorem dX12_chance_22 : decode cX12_chance 22 = .ok (.istore_n 2, 1) := by decide +kernel
theorem dX12_chance_23 : decode cX12_chance 23 = .ok (.iconst 0, 1) := by decide +kernel
theorem dX12_chance_24 : decode cX12_chance 24 = .ok (.istore_n 3, 1) := by decide +kernel
theorem dX12_chance_25 : decode cX12_chance 25 = .ok (.iload_n 3, 1) := by decide +kernel
theorem dX12_chance_26 : decode cX12_chance 26 = .ok (.iload_n 1, 1) := by decide +kernel
theorem dX12_chance_27 : decode cX12_chance 27 = .ok (.if_icmp .ge 106, 3) := by decide +kernel
theorem dX12_chance_30 : decode cX12_chance 30 = .ok (.aload_n 0, 1) := by decide +kernel
theorem dX12_chance_31 : decode cX12_chance 31 = .ok (.bipush 100, 2) := by decide +kernel
theorem dX12_chance_33 : decode cX12_chance 33 = .ok (.invokevirtual 517, 3) := by decide +kernel
theorem dX12_chance_36 : decode cX12_chance 36 = .ok (.aload_n 0, 1) := by decide +kernel
theorem dX12_chance_37 : decode cX12_chance 37 = .ok (.getfield 81, 3) := by decide +kernel
theorem dX12_chance_40 : decode cX12_chance 40 = .ok (.aload_n 0, 1) := by decide +kernel
theorem dX12_chance_41 : decode cX12_chance 41 = .ok (.getfield 51, 3) := by decide +kernel
theorem dX12_chance_44 : decode cX12_chance 44 = .ok (.iaload, 1) := by decide +kernel
theorem dX12_chance_45 : decode cX12_chance 45 = .ok (.if_icmp .ge 73, 3) := by decide +kernel
theorem dX12_chance_48 : decode cX12_chance 48 = .ok (.aload_n 0, 1) := by decide +kernel
theorem dX12_chance_49 : decode cX12_chance 49 = .ok (.getfield 54, 3) := by decide +kernel
theorem dX12_chance_52 : decode cX12_chance 52 = .ok (.aload_n 0, 1) := by decide +kernel
theorem dX12_chance_53 : decode cX12_chance 53 = .ok (.getfield 51, 3) := by decide +kernel
theorem dX12_chance_56 : decode cX12_chance 56 = .ok (.iaload, 1) := by decide +kernel
theorem dX12_chance_57 : decode cX12_chance 57 = .ok (.ifCond .le 61, 3) := by decide +kernel
theorem dX12_chance_60 : decode cX12_chance 60 = .ok (.aload_n 0, 1) := by decide +kernel
theorem dX12_chance_61 : decode cX12_chance 61 = .ok (.aload_n 0, 1) := by decide +kernel
theorem dX12_chance_62 : decode cX12_chance 62 = .ok (.getfield 54, 3) := by decide +kernel
theorem dX12_chance_65 : decode cX12_chance 65 = .ok (.aload_n 0, 1) := by decide +kernel
theorem dX12_chance_66 : decode cX12_chance 66 = .ok (.getfield 51, 3) := by decide +kernel
theorem dX12_chance_69 : decode cX12_chance 69 = .ok (.iaload, 1) := by decide +kernel
theorem dX12_chance_70 : decode cX12_chance 70 = .ok (.invokevirtual 517, 3) := by decide +kernel
theorem dX12_chance_73 : decode cX12_chance 73 = .ok (.istore 4, 2) := by decide +kernel
theorem dX12_chance_75 : decode cX12_chance 75 = .ok (.iload_n 2, 1) := by decide +kernel
theorem dX12_chance_76 : decode cX12_chance 76 = .ok (.aload_n 0, 1) := by decide +kernel
theorem dX12_chance_77 : decode cX12_chance 77 = .ok (.getfield 156, 3) := by decide +kernel
theorem dX12_chance_80 : decode cX12_chance 80 = .ok (.iconst 0, 1) := by decide +kernel
theorem dX12_chance_81 : decode cX12_chance 81 = .ok (.iaload, 1) := by decide +kernel
theorem dX12_chance_82 : decode cX12_chance 82 = .ok (.iload 4, 2) := by decide +kernel
theorem dX12_chance_84 : decode cX12_chance 84 = .ok (.invokestatic 428, 3) := by decide +kernel
theorem dX12_chance_87 : decode cX12_chance 87 = .ok (.ifCond .eq 7, 3) := by decide +kernel
theorem dX12_chance_90 : decode cX12_chance 90 = .ok (.iconst 0, 1) := by decide +kernel
theorem dX12_chance_91 : decode cX12_chance 91 = .ok (.goto 4, 3) := by decide +kernel
theorem dX12_chance_94 : decode cX12_chance 94 = .ok (.iconst 1, 1) := by decide +kernel
theorem dX12_chance_95 : decode cX12_chance 95 = .ok (.iadd, 1) := by decide +kernel
theorem dX12_chance_96 : decode cX12_chance 96 = .ok (.istore_n 2, 1) := by decide +kernel
theorem dX12_chance_97 : decode cX12_chance 97 = .ok (.aload_n 0, 1) := by decide +kernel
theorem dX12_chance_98 : decode cX12_chance 98 = .ok (.getfield 156, 3) := by decide +kernel
theorem dX12_chance_101 : decode cX12_chance 101 = .ok (.iconst 0, 1) := by decide +kernel
theorem dX12_chance_102 : decode cX12_chance 102 = .ok (.iaload, 1) := by decide +kernel
theorem dX12_chance_103 : decode cX12_chance 103 = .ok (.iload 4, 2) := by decide +kernel
theorem dX12_chance_105 : decode cX12_chance 105 = .ok (.invokestatic 428, 3) := by decide +kernel
theorem dX12_chance_108 : decode cX12_chance 108 = .ok (.ifCond .ne 10, 3) := by decide +kernel
theorem dX12_chance_111 : decode cX12_chance 111 = .ok (.aload_n 0, 1) := by decide +kernel
theorem dX12_chance_112 : decode cX12_chance 112 = .ok (.iconst 0, 1) := by decide +kernel
theorem dX12_chance_113 : decode cX12_chance 113 = .ok (.iload 4, 2) := by decide +kernel
theorem dX12_chance_115 : decode cX12_chance 115 = .ok (.invokevirtual 493, 3) := by decide +kernel
theorem dX12_chance_118 : decode cX12_chance 118 = .ok (.aload_n 0, 1) := by decide +kernel
theorem dX12_chance_119 : decode cX12_chance 119 = .ok (.iconst 0, 1) := by decide +kernel
theorem dX12_chance_120 : decode cX12_chance 120 = .ok (.aload_n 0, 1) := by decide +kernel
theorem dX12_chance_121 : decode cX12_chance 121 = .ok (.invokevirtual 481, 3) := by decide +kernel
theorem dX12_chance_124 : decode cX12_chance 124 = .ok (.invokevirtual 475, 3) := by decide +kernel
theorem dX12_chance_127 : decode cX12_chance 127 = .ok (.iinc 3 1, 3) := by decide +kernel
theorem dX12_chance_130 : decode cX12_chance 130 = .ok (.goto (-105), 3) := by decide +kernel
theorem dX12_chance_133 : decode cX12_chance 133 = .ok (.iload_n 2, 1) := by decide +kernel
theorem dX12_chance_134 : decode cX12_chance 134 = .ok (.ireturn, 1) := by decide +kernel
theorem dX12_strike_0 : decode cX12_strike 0 = .ok (.aload_n 0, 1) := by decide +kernel
theorem dX12_strike_1 : decode cX12_strike 1 = .ok (.iload_n 1, 1) := by decide +kernel
theorem dX12_strike_2 : decode cX12_strike 2 = .ok (.invokevirtual 462, 3) := by decide +kernel
theorem dX12_strike_5 : decode cX12_strike 5 = .ok (.ifCond .eq 16, 3) := by decide +kernel
theorem dX12_strike_8 : decode cX12_strike 8 = .ok (.aload_n 0, 1) := by decide +kernel
theorem dX12_strike_9 : decode cX12_strike 9 = .ok (.getfield 156, 3) := by decide +kernel
theorem dX12_strike_12 : decode cX12_strike 12 = .ok (.iconst 0, 1) := by decide +kernel
theorem dX12_strike_13 : decode cX12_strike 13 = .ok (.iaload, 1) := by decide +kernel
theorem dX12_strike_14 : decode cX12_strike 14 = .ok (.iload_n 1, 1) := by decide +kernel
theorem dX12_strike_15 : decode cX12_strike 15 = .ok (.invokestatic 428, 3) := by decide +kernel
theorem dX12_strike_18 : decode cX12_strike 18 = .ok (.ifCond .eq 17, 3) := by decide +kernel
theorem dX12_strike_21 : decode cX12_strike 21 = .ok (.aload_n 0, 1) := by decide +kernel
theorem dX12_strike_22 : decode cX12_strike 22 = .ok (.iconst 3, 1) := by decide +kernel
theorem dX12_strike_23 : decode cX12_strike 23 = .ok (.invokevirtual 225, 3) := by decide +kernel
theorem dX12_strike_26 : decode cX12_strike 26 = .ok (.ifCond .lt 7, 3) := by decide +kernel
theorem dX12_strike_29 : decode cX12_strike 29 = .ok (.iconst 1, 1) := by decide +kernel
theorem dX12_strike_30 : decode cX12_strike 30 = .ok (.goto 4, 3) := by decide +kernel
theorem dX12_strike_33 : decode cX12_strike 33 = .ok (.iconst 0, 1) := by decide +kernel
theorem dX12_strike_34 : decode cX12_strike 34 = .ok (.ireturn, 1) := by decide +kernel
theorem dX12_strike_35 : decode cX12_strike 35 = .ok (.aload_n 0, 1) := by decide +kernel
theorem dX12_strike_36 : decode cX12_strike 36 = .ok (.invokevirtual 506, 3) := by decide +kernel
theorem dX12_strike_39 : decode cX12_strike 39 = .ok (.aload_n 0, 1) := by decide +kernel
theorem dX12_strike_40 : decode cX12_strike 40 = .ok (.iconst 0, 1) := by decide +kernel
theorem dX12_strike_41 : decode cX12_strike 41 = .ok (.iload_n 1, 1) := by decide +kernel
theorem dX12_strike_42 : decode cX12_strike 42 = .ok (.invokevirtual 493, 3) := by decide +kernel
theorem dX12_strike_45 : decode cX12_strike 45 = .ok (.iconst 1, 1) := by decide +kernel
theorem dX12_strike_46 : decode cX12_strike 46 = .ok (.ireturn, 1) := by decide +kernel
theorem dX12_heal_0 : decode cX12_heal 0 = .ok (.aload_n 0, 1) := by decide +kernel
theorem dX12_heal_1 : decode cX12_heal 1 = .ok (.iload_n 1, 1) := by decide +kernel
theorem dX12_heal_2 : decode cX12_heal 2 = .ok (.invokevirtual 462, 3) := by decide +kernel
theorem dX12_heal_5 : decode cX12_heal 5 = .ok (.ifCond .eq 16, 3) := by decide +kernel
theorem dX12_heal_8 : decode cX12_heal 8 = .ok (.aload_n 0, 1) := by decide +kernel
theorem dX12_heal_9 : decode cX12_heal 9 = .ok (.getfield 156, 3) := by decide +kernel
theorem dX12_heal_12 : decode cX12_heal 12 = .ok (.iconst 0, 1) := by decide +kernel
theorem dX12_heal_13 : decode cX12_heal 13 = .ok (.iaload, 1) := by decide +kernel
theorem dX12_heal_14 : decode cX12_heal 14 = .ok (.iload_n 1, 1) := by decide +kernel
theorem dX12_heal_15 : decode cX12_heal 15 = .ok (.invokestatic 428, 3) := by decide +kernel
theorem dX12_heal_18 : decode cX12_heal 18 = .ok (.ifCond .ne 17, 3) := by decide +kernel
theorem dX12_heal_21 : decode cX12_heal 21 = .ok (.aload_n 0, 1) := by decide +kernel
theorem dX12_heal_22 : decode cX12_heal 22 = .ok (.iconst 3, 1) := by decide +kernel
theorem dX12_heal_23 : decode cX12_heal 23 = .ok (.invokevirtual 225, 3) := by decide +kernel
theorem dX12_heal_26 : decode cX12_heal 26 = .ok (.ifCond .lt 7, 3) := by decide +kernel
theorem dX12_heal_29 : decode cX12_heal 29 = .ok (.iconst 1, 1) := by decide +kernel
theorem dX12_heal_30 : decode cX12_heal 30 = .ok (.goto 4, 3) := by decide +kernel
theorem dX12_heal_33 : decode cX12_heal 33 = .ok (.iconst 0, 1) := by decide +kernel
theorem dX12_heal_34 : decode cX12_heal 34 = .ok (.ireturn, 1) := by decide +kernel
theorem dX12_heal_35 : decode cX12_heal 35 = .ok (.aload_n 0, 1) := by decide +kernel
theorem dX12_heal_36 : decode cX12_heal 36 = .ok (.invokevirtual 506, 3) := by decide +kernel
theorem dX12_heal_39 : decode cX12_heal 39 = .ok (.aload_n 0, 1) := by decide +kernel
theorem dX12_heal_40 : decode cX12_heal 40 = .ok (.getfield 156, 3) := by decide +kernel
theorem dX12_heal_43 : decode cX12_heal 43 = .ok (.iconst 0, 1) := by decide +kernel
theorem dX12_heal_44 : decode cX12_heal 44 = .ok (.dup2, 1) := by decide +kernel
theorem dX12_heal_45 : decode cX12_heal 45 = .ok (.iaload, 1) := by decide +kernel
theorem dX12_heal_46 : decode cX12_heal 46 = .ok (.iconst 1, 1) := by decide +kernel
theorem dX12_heal_47 : decode cX12_heal 47 = .ok (.iload_n 1, 1) := by decide +kernel
theorem dX12_heal_48 : decode cX12_heal 48 = .ok (.ishl, 1) := by decide +kernel
theorem dX12_heal_49 : decode cX12_heal 49 = .ok (.iconst (-1), 1) := by decide +kernel
theorem dX12_heal_50 : decode cX12_heal 50 = .ok (.ixor, 1) := by decide +kernel
theorem dX12_heal_51 : decode cX12_heal 51 = .ok (.iand, 1) := by decide +kernel
theorem dX12_heal_52 : decode cX12_heal 52 = .ok (.iastore, 1) := by decide +kernel
theorem dX12_heal_53 : decode cX12_heal 53 = .ok (.iconst 1, 1) := by decide +kernel
theorem dX12_heal_54 : decode cX12_heal 54 = .ok (.ireturn, 1) := by decide +kernel
theorem dX12_train_0 : decode cX12_train 0 = .ok (.aload_n 0, 1) := by decide +kernel
theorem dX12_train_1 : decode cX12_train 1 = .ok (.iload_n 1, 1) := by decide +kernel
theorem dX12_train_2 : decode cX12_train 2 = .ok (.invokevirtual 462, 3) := by decide +kernel
theorem dX12_train_5 : decode cX12_train 5 = .ok (.ifCond .eq 23, 3) := by decide +kernel
theorem dX12_train_8 : decode cX12_train 8 = .ok (.iload_n 2, 1) := by decide +kernel
theorem dX12_train_9 : decode cX12_train 9 = .ok (.iconst 0, 1) := by decide +kernel
theorem dX12_train_10 : decode cX12_train 10 = .ok (.bipush 9, 2) := by decide +kernel
theorem dX12_train_12 : decode cX12_train 12 = .ok (.invokestatic 303, 3) := by decide +kernel
theorem dX12_train_15 : decode cX12_train 15 = .ok (.ifCond .eq 13, 3) := by decide +kernel
theorem dX12_train_18 : decode cX12_train 18 = .ok (.aload_n 0, 1) := by decide +kernel
theorem dX12_train_19 : decode cX12_train 19 = .ok (.getfield 150, 3) := by decide +kernel
theorem dX12_train_22 : decode cX12_train 22 = .ok (.iload_n 1, 1) := by decide +kernel
theorem dX12_train_23 : decode cX12_train 23 = .ok (.iaload, 1) := by decide +kernel
theorem dX12_train_24 : decode cX12_train 24 = .ok (.iload_n 2, 1) := by decide +kernel
theorem dX12_train_25 : decode cX12_train 25 = .ok (.if_icmp .ne 17, 3) := by decide +kernel
theorem dX12_train_28 : decode cX12_train 28 = .ok (.aload_n 0, 1) := by decide +kernel
theorem dX12_train_29 : decode cX12_train 29 = .ok (.iconst 3, 1) := by decide +kernel
theorem dX12_train_30 : decode cX12_train 30 = .ok (.invokevirtual 225, 3) := by decide +kernel
theorem dX12_train_33 : decode cX12_train 33 = .ok (.ifCond .lt 7, 3) := by decide +kernel
theorem dX12_train_36 : decode cX12_train 36 = .ok (.iconst 1, 1) := by decide +kernel
theorem dX12_train_37 : decode cX12_train 37 = .ok (.goto 4, 3) := by decide +kernel
theorem dX12_train_40 : decode cX12_train 40 = .ok (.iconst 0, 1) := by decide +kernel
theorem dX12_train_41 : decode cX12_train 41 = .ok (.ireturn, 1) := by decide +kernel
theorem dX12_train_42 : decode cX12_train 42 = .ok (.aload_n 0, 1) := by decide +kernel
theorem dX12_train_43 : decode cX12_train 43 = .ok (.invokevirtual 506, 3) := by decide +kernel
theorem dX12_train_46 : decode cX12_train 46 = .ok (.aload_n 0, 1) := by decide +kernel
theorem dX12_train_47 : decode cX12_train 47 = .ok (.getfield 150, 3) := by decide +kernel
theorem dX12_train_50 : decode cX12_train 50 = .ok (.iload_n 1, 1) := by decide +kernel
theorem dX12_train_51 : decode cX12_train 51 = .ok (.iload_n 2, 1) := by decide +kernel
theorem dX12_train_52 : decode cX12_train 52 = .ok (.iastore, 1) := by decide +kernel
theorem dX12_train_53 : decode cX12_train 53 = .ok (.iconst 1, 1) := by decide +kernel
theorem dX12_train_54 : decode cX12_train 54 = .ok (.ireturn, 1) := by decide +kernel
theorem dX12_delay_0 : decode cX12_delay 0 = .ok (.aload_n 0, 1) := by decide +kernel
theorem dX12_delay_1 : decode cX12_delay 1 = .ok (.iload_n 1, 1) := by decide +kernel
theorem dX12_delay_2 : decode cX12_delay 2 = .ok (.invokevirtual 470, 3) := by decide +kernel
theorem dX12_delay_5 : decode cX12_delay 5 = .ok (.ifCond .eq 38, 3) := by decide +kernel
theorem dX12_delay_8 : decode cX12_delay 8 = .ok (.aload_n 0, 1) := by decide +kernel
theorem dX12_delay_9 : decode cX12_delay 9 = .ok (.getfield 159, 3) := by decide +kernel
theorem dX12_delay_12 : decode cX12_delay 12 = .ok (.iload_n 1, 1) := by decide +kernel
theorem dX12_delay_13 : decode cX12_delay 13 = .ok (.iaload, 1) := by decide +kernel
theorem dX12_delay_14 : decode cX12_delay 14 = .ok (.ifCond .ne 29, 3) := by decide +kernel
theorem dX12_delay_17 : decode cX12_delay 17 = .ok (.iload_n 2, 1) := by decide +kernel
theorem dX12_delay_18 : decode cX12_delay 18 = .ok (.aload_n 0, 1) := by decide +kernel
theorem dX12_delay_19 : decode cX12_delay 19 = .ok (.getfield 147, 3) := by decide +kernel
theorem dX12_delay_22 : decode cX12_delay 22 = .ok (.iconst 0, 1) := by decide +kernel
theorem dX12_delay_23 : decode cX12_delay 23 = .ok (.iaload, 1) := by decide +kernel
theorem dX12_delay_24 : decode cX12_delay 24 = .ok (.sipush 999, 3) := by decide +kernel
theorem dX12_delay_27 : decode cX12_delay 27 = .ok (.invokestatic 303, 3) := by decide +kernel
theorem dX12_delay_30 : decode cX12_delay 30 = .ok (.ifCond .eq 13, 3) := by decide +kernel
theorem dX12_delay_33 : decode cX12_delay 33 = .ok (.aload_n 0, 1) := by decide +kernel
theorem dX12_delay_34 : decode cX12_delay 34 = .ok (.getfield 162, 3) := by decide +kernel
theorem dX12_delay_37 : decode cX12_delay 37 = .ok (.iload_n 1, 1) := by decide +kernel
theorem dX12_delay_38 : decode cX12_delay 38 = .ok (.iaload, 1) := by decide +kernel
theorem dX12_delay_39 : decode cX12_delay 39 = .ok (.iload_n 2, 1) := by decide +kernel
theorem dX12_delay_40 : decode cX12_delay 40 = .ok (.if_icmp .ne 17, 3) := by decide +kernel
theorem dX12_delay_43 : decode cX12_delay 43 = .ok (.aload_n 0, 1) := by decide +kernel
theorem dX12_delay_44 : decode cX12_delay 44 = .ok (.iconst 3, 1) := by decide +kernel
theorem dX12_delay_45 : decode cX12_delay 45 = .ok (.invokevirtual 225, 3) := by decide +kernel
theorem dX12_delay_48 : decode cX12_delay 48 = .ok (.ifCond .lt 7, 3) := by decide +kernel
theorem dX12_delay_51 : decode cX12_delay 51 = .ok (.iconst 1, 1) := by decide +kernel
theorem dX12_delay_52 : decode cX12_delay 52 = .ok (.goto 4, 3) := by decide +kernel
theorem dX12_delay_55 : decode cX12_delay 55 = .ok (.iconst 0, 1) := by decide +kernel
theorem dX12_delay_56 : decode cX12_delay 56 = .ok (.ireturn, 1) := by decide +kernel
theorem dX12_delay_57 : decode cX12_delay 57 = .ok (.aload_n 0, 1) := by decide +kernel
theorem dX12_delay_58 : decode cX12_delay 58 = .ok (.invokevirtual 506, 3) := by decide +kernel
theorem dX12_delay_61 : decode cX12_delay 61 = .ok (.aload_n 0, 1) := by decide +kernel
theorem dX12_delay_62 : decode cX12_delay 62 = .ok (.getfield 162, 3) := by decide +kernel
theorem dX12_delay_65 : decode cX12_delay 65 = .ok (.iload_n 1, 1) := by decide +kernel
theorem dX12_delay_66 : decode cX12_delay 66 = .ok (.iload_n 2, 1) := by decide +kernel
theorem dX12_delay_67 : decode cX12_delay 67 = .ok (.iastore, 1) := by decide +kernel
theorem dX12_delay_68 : decode cX12_delay 68 = .ok (.iconst 1, 1) := by decide +kernel
theorem dX12_delay_69 : decode cX12_delay 69 = .ok (.ireturn, 1) := by decide +kernel
theorem dX12_seed_0 : decode cX12_seed 0 = .ok (.iload_n 1, 1) := by decide +kernel
theorem dX12_seed_1 : decode cX12_seed 1 = .ok (.ifCond .ge 17, 3) := by decide +kernel
theorem dX12_seed_4 : decode cX12_seed 4 = .ok (.aload_n 0, 1) := by decide +kernel
theorem dX12_seed_5 : decode cX12_seed 5 = .ok (.iconst 5, 1) := by decide +kernel
theorem dX12_seed_6 : decode cX12_seed 6 = .ok (.invokevirtual 225, 3) := by decide +kernel
theorem dX12_seed_9 : decode cX12_seed 9 = .ok (.ifCond .lt 7, 3) := by decide +kernel
theorem dX12_seed_12 : decode cX12_seed 12 = .ok (.iconst 1, 1) := by decide +kernel
theorem dX12_seed_13 : decode cX12_seed 13 = .ok (.goto 4, 3) := by decide +kernel
theorem dX12_seed_16 : decode cX12_seed 16 = .ok (.iconst 0, 1) := by decide +kernel
theorem dX12_seed_17 : decode cX12_seed 17 = .ok (.ireturn, 1) := by decide +kernel
theorem dX12_seed_18 : decode cX12_seed 18 = .ok (.aload_n 0, 1) := by decide +kernel
theorem dX12_seed_19 : decode cX12_seed 19 = .ok (.iload_n 1, 1) := by decide +kernel
theorem dX12_seed_20 : decode cX12_seed 20 = .ok (.i2l, 1) := by decide +kernel
theorem dX12_seed_21 : decode cX12_seed 21 = .ok (.putfield 189, 3) := by decide +kernel
theorem dX12_seed_24 : decode cX12_seed 24 = .ok (.iconst 1, 1) := by decide +kernel
theorem dX12_seed_25 : decode cX12_seed 25 = .ok (.ireturn, 1) := by decide +kernel
theorem dX12_kept_0 : decode cX12_kept 0 = .ok (.iload_n 1, 1) := by decide +kernel
theorem dX12_kept_1 : decode cX12_kept 1 = .ok (.iconst 0, 1) := by decide +kernel
theorem dX12_kept_2 : decode cX12_kept 2 = .ok (.aload_n 0, 1) := by decide +kernel
theorem dX12_kept_3 : decode cX12_kept 3 = .ok (.getfield 177, 3) := by decide +kernel
theorem dX12_kept_6 : decode cX12_kept 6 = .ok (.iconst 0, 1) := by decide +kernel
theorem dX12_kept_7 : decode cX12_kept 7 = .ok (.iaload, 1) := by decide +kernel
theorem dX12_kept_8 : decode cX12_kept 8 = .ok (.iconst 1, 1) := by decide +kernel
theorem dX12_kept_9 : decode cX12_kept 9 = .ok (.isub, 1) := by decide +kernel
theorem dX12_kept_10 : decode cX12_kept 10 = .ok (.invokestatic 303, 3) := by decide +kernel
theorem dX12_kept_13 : decode cX12_kept 13 = .ok (.ifCond .eq 25, 3) := by decide +kernel
theorem dX12_kept_16 : decode cX12_kept 16 = .ok (.iload_n 2, 1) := by decide +kernel
theorem dX12_kept_17 : decode cX12_kept 17 = .ok (.iconst 0, 1) := by decide +kernel
theorem dX12_kept_18 : decode cX12_kept 18 = .ok (.iconst 2, 1) := by decide +kernel
theorem dX12_kept_19 : decode cX12_kept 19 = .ok (.invokestatic 303, 3) := by decide +kernel
theorem dX12_kept_22 : decode cX12_kept 22 = .ok (.ifCond .eq 16, 3) := by decide +kernel
theorem dX12_kept_25 : decode cX12_kept 25 = .ok (.aload_n 0, 1) := by decide +kernel
theorem dX12_kept_26 : decode cX12_kept 26 = .ok (.getfield 180, 3) := by decide +kernel
theorem dX12_kept_29 : decode cX12_kept 29 = .ok (.iconst 3, 1) := by decide +kernel
theorem dX12_kept_30 : decode cX12_kept 30 = .ok (.iload_n 1, 1) := by decide +kernel
theorem dX12_kept_31 : decode cX12_kept 31 = .ok (.imul, 1) := by decide +kernel
theorem dX12_kept_32 : decode cX12_kept 32 = .ok (.iload_n 2, 1) := by decide +kernel
theorem dX12_kept_33 : decode cX12_kept 33 = .ok (.iadd, 1) := by decide +kernel
theorem dX12_kept_34 : decode cX12_kept 34 = .ok (.iaload, 1) := by decide +kernel
theorem dX12_kept_35 : decode cX12_kept 35 = .ok (.goto 4, 3) := by decide +kernel
theorem dX12_kept_38 : decode cX12_kept 38 = .ok (.iconst (-1), 1) := by decide +kernel
theorem dX12_kept_39 : decode cX12_kept 39 = .ok (.ireturn, 1) := by decide +kernel
theorem dX12_writes_0 : decode cX12_writes 0 = .ok (.aload_n 0, 1) := by decide +kernel
theorem dX12_writes_1 : decode cX12_writes 1 = .ok (.getfield 219, 3) := by decide +kernel
theorem dX12_writes_4 : decode cX12_writes 4 = .ok (.aload_n 0, 1) := by decide +kernel
theorem dX12_writes_5 : decode cX12_writes 5 = .ok (.getfield 222, 3) := by decide +kernel
theorem dX12_writes_8 : decode cX12_writes 8 = .ok (.iload_n 1, 1) := by decide +kernel
theorem dX12_writes_9 : decode cX12_writes 9 = .ok (.sipush 255, 3) := by decide +kernel
theorem dX12_writes_12 : decode cX12_writes 12 = .ok (.iand, 1) := by decide +kernel
theorem dX12_writes_13 : decode cX12_writes 13 = .ok (.iastore, 1) := by decide +kernel
theorem dX12_writes_14 : decode cX12_writes 14 = .ok (.aload_n 0, 1) := by decide +kernel
theorem dX12_writes_15 : decode cX12_writes 15 = .ok (.dup, 1) := by decide +kernel
theorem dX12_writes_16 : decode cX12_writes 16 = .ok (.getfield 222, 3) := by decide +kernel
theorem dX12_writes_19 : decode cX12_writes 19 = .ok (.iconst 1, 1) := by decide +kernel
theorem dX12_writes_20 : decode cX12_writes 20 = .ok (.iadd, 1) := by decide +kernel
theorem dX12_writes_21 : decode cX12_writes 21 = .ok (.putfield 222, 3) := by decide +kernel
theorem dX12_writes_24 : decode cX12_writes 24 = .ok (.return_, 1) := by decide +kernel
section
variable {p : Program} {l : Launch} {e : Env} {s : State} {m : MethodId} {args : Array Value} {below : List Frame} {meth : Method} {c : Code} {D : va_G} {E : Nat → ClassId} {b : Nat}
set_option maxHeartbeats 4000000 in
set_option maxRecDepth 20000 in
theorem w_m_worst_L30_s (C : mCX p s m args meth c cX12_worst 7 RX12 D E b) (hr : meth.sig.returnType = (some .int)) {r0 : Int} {M0 : Mem} {v1 : Int} {v2 : Int} {v3 : Int} {v4 : Int} {v5 : Int} {M : Mem} {q : Int × Int × Int × Mem} {rec : Int → Int → Int → Mem → Option (Int × Int × Int × Mem)} (hrec : ∀ (v3 : Int) (v4 : Int) (v5 : Int) (M : Mem), rec v3 v4 v5 M = some q → mWX p l e 8 184 s m args below meth c 7 D E b (some (vI r0)) M0 M 30 [(0, vR b 0), (1, vI v1), (2, vI v2), (3, vI v3), (4, vI v4), (5, vI v5)] []) (hfol : ∀ (v3 : Int) (v4 : Int) (v5 : Int) (M : Mem), q = (v3, v4, v5, M) → mWX p l e 8 184 s m args below meth c 7 D E b (some (vI r0)) M0 M 115 [(2, vI v2), (3, vI v3), (4, vI v4)] []) (h : m_worst_L30 v1 v2 rec v3 v4 v5 M = some q) :
    mWX p l e 8 184 s m args below meth c 7 D E b (some (vI r0)) M0 M 30 [(0, vR b 0), (1, vI v1), (2, vI v2), (3, vI v3), (4, vI v4), (5, vI v5)] [] := by
  unfold m_worst_L30 at h
  refine r_iload (pc := 30) C 5 rfl dX12_worst_30 ?_
  refine r_aload_n (pc := 32) C 0 rfl rfl dX12_worst_32 ?_
  refine r_getR (pc := 33) C fl_RX12_54 m_s0 (by decide) m_k14 m_r14 dX12_worst_33 ?_
  refine r_aload_n (pc := 36) C 0 rfl rfl dX12_worst_36 ?_
  refine r_getI (pc := 37) C fl_RX12_51 m_s0 (by decide) m_k13 dX12_worst_37 ?_
  obtain ⟨hi40, h⟩ := chk_inv h
  refine r_iald (pc := 40) C m_s2 (by decide) (by decide) hi40 rfl dX12_worst_40 ?_
  refine r_icmp_ge (pc := 41) (tgt := 115) C h dX12_worst_41 (by decide) (fun hc41 h => ?_) (fun hc41 h => ?_)
  · refine r_sub (lv' := [(2, vI v2), (3, vI v3), (4, vI v4)]) [2, 3, 4] rfl ?_
    exact hfol _ _ _ _ (Option.some.inj h).symm
  · refine r_aload_n (pc := 44) C 0 rfl rfl dX12_worst_44 ?_
    refine r_getR (pc := 45) C fl_RX12_156 m_s0 (by decide) m_k47 m_r47 dX12_worst_45 ?_
    refine r_iconst (pc := 48) C dX12_worst_48 ?_
    refine r_iald (pc := 49) C m_s28 (by decide) (by decide) (by decide) rfl dX12_worst_49 ?_
    refine r_iload (pc := 50) C 5 rfl dX12_worst_50 ?_
    obtain ⟨r3, hq3, h⟩ := bnd_inv h
    refine r_callS (pc := 52) (rest := []) (st1 := [vB r3]) C (mExtOK b) [vI (M 28 0), vI v5] (c_m_has2 l hq3) cl_RX12_428 rfl rfl ⟨Nat.le_of_ble_eq_true rfl, Nat.le_of_ble_eq_true rfl⟩ (Nat.le_of_ble_eq_true rfl) rfl rfl dX12_worst_52 ?_
    refine r_if_eqB (pc := 55) (tgt := 61) C h dX12_worst_55 (by decide) (fun hc55 h => ?_) (fun hc55 h => ?_)
    · refine r_goto (pc := 58) (tgt := 109) C dX12_worst_58 (by decide) ?_
      obtain ⟨v5_109, hv5_109, h⟩ := lt_inv h
      refine r_iincN (pc := 109) (y := v5_109) (lv' := [(5, vI v5_109), (0, vR b 0), (1, vI v1), (2, vI v2), (3, vI v3), (4, vI v4)]) C 5 rfl hv5_109 dX12_worst_109 (by decide) rfl ?_
      refine r_goto (pc := 112) (tgt := 30) C dX12_worst_112 (by decide) ?_
      refine r_sub (lv' := [(0, vR b 0), (1, vI v1), (2, vI v2), (3, vI v3), (4, vI v4), (5, vI v5_109)]) [1, 2, 3, 4, 5, 0] rfl ?_
      exact hrec _ _ _ _ h
    · refine r_aload_n (pc := 61) C 0 rfl rfl dX12_worst_61 ?_
      refine r_iconst (pc := 62) C dX12_worst_62 ?_
      refine r_iconst (pc := 63) C dX12_worst_63 ?_
      obtain ⟨M4, hq4, h⟩ := bnd_inv h
      refine r_callV (pc := 64) (rest := []) (st1 := []) C (mExtOK b) [vI 1, vI 0] (c_m_copies l hq4) cl_RX12_396 m_s0 (by decide) rfl rfl rfl rfl ⟨Nat.le_of_ble_eq_true rfl, Nat.le_of_ble_eq_true rfl⟩ (Nat.le_of_ble_eq_true rfl) rfl rfl dX12_worst_64 ?_
      refine r_aload_n (pc := 67) C 0 rfl rfl dX12_worst_67 ?_
      refine r_iconst (pc := 68) C dX12_worst_68 ?_
      refine r_iload (pc := 69) C 5 rfl dX12_worst_69 ?_
      obtain ⟨M5, hq5, h⟩ := bnd_inv h
      refine r_callV (pc := 71) (rest := []) (st1 := []) C (mExtOK b) [vI 1, vI v5] (c_m_strikes l hq5) cl_RX12_493 m_s0 (by decide) rfl rfl rfl rfl ⟨Nat.le_of_ble_eq_true rfl, Nat.le_of_ble_eq_true rfl⟩ (Nat.le_of_ble_eq_true rfl) rfl rfl dX12_worst_71 ?_
      refine r_aload_n (pc := 74) C 0 rfl rfl dX12_worst_74 ?_
      refine r_iload_n (pc := 75) C 1 rfl rfl dX12_worst_75 ?_
      refine r_aload_n (pc := 76) C 0 rfl rfl dX12_worst_76 ?_
      obtain ⟨r6, hq6, h⟩ := bnd_inv h
      refine r_callV (pc := 77) (rest := [vI v1, vR b 0]) (st1 := [vI r6, vI v1, vR b 0]) C (mExtOK b) [] (c_m_all l hq6) cl_RX12_481 m_s0 (by decide) rfl rfl rfl rfl ⟨Nat.le_of_ble_eq_true rfl, Nat.le_of_ble_eq_true rfl⟩ (Nat.le_of_ble_eq_true rfl) rfl rfl dX12_worst_77 ?_
      obtain ⟨M7, hq7, h⟩ := bnd_inv h
      refine r_callV (pc := 80) (rest := []) (st1 := []) C (mExtOK b) [vI v1, vI r6] (c_m_goesOn_ l hq7) cl_RX12_485 m_s0 (by decide) rfl rfl rfl rfl ⟨Nat.le_of_ble_eq_true rfl, Nat.le_of_ble_eq_true rfl⟩ (Nat.le_of_ble_eq_true rfl) rfl rfl dX12_worst_80 ?_
      refine r_aload_n (pc := 83) C 0 rfl rfl dX12_worst_83 ?_
      refine r_iconst (pc := 84) C dX12_worst_84 ?_
      refine r_iconst (pc := 85) C dX12_worst_85 ?_
      refine r_iconst (pc := 86) C dX12_worst_86 ?_
      obtain ⟨r8, hq8, h⟩ := bnd_inv h
      refine r_callV (pc := 87) (rest := []) (st1 := [vI r8]) C (mExtOK b) [vI 1, vI 4, vI 5] (c_m_manyOf l hq8) cl_RX12_458 m_s0 (by decide) rfl rfl rfl rfl ⟨Nat.le_of_ble_eq_true rfl, Nat.le_of_ble_eq_true rfl⟩ (Nat.le_of_ble_eq_true rfl) rfl rfl dX12_worst_87 ?_
      refine r_istore (pc := 90) (lv' := [(6, vI r8), (0, vR b 0), (1, vI v1), (2, vI v2), (3, vI v3), (4, vI v4), (5, vI v5)]) C dX12_worst_90 (by decide) rfl ?_
      refine r_iload (pc := 92) C 0 rfl dX12_worst_92 ?_
      refine r_iload (pc := 94) C 5 rfl dX12_worst_94 ?_
      refine r_icmp_gt (pc := 96) (tgt := 102) C h dX12_worst_96 (by decide) (fun hc96 h => ?_) (fun hc96 h => ?_)
      · refine r_iload (pc := 102) C 0 rfl dX12_worst_102 ?_
        refine r_istore (pc := 104) (lv' := [(4, vI r8), (6, vI r8), (0, vR b 0), (1, vI v1), (2, vI v2), (3, vI v3), (5, vI v5)]) C dX12_worst_104 (by decide) rfl ?_
        refine r_iload (pc := 106) C 6 rfl dX12_worst_106 ?_
        refine r_istore_n (pc := 108) (lv' := [(3, vI v5), (4, vI r8), (6, vI r8), (0, vR b 0), (1, vI v1), (2, vI v2), (5, vI v5)]) C rfl dX12_worst_108 (by decide) rfl ?_
        obtain ⟨v5_109, hv5_109, h⟩ := lt_inv h
        refine r_iincN (pc := 109) (y := v5_109) (lv' := [(5, vI v5_109), (3, vI v5), (4, vI r8), (6, vI r8), (0, vR b 0), (1, vI v1), (2, vI v2)]) C 6 rfl hv5_109 dX12_worst_109 (by decide) rfl ?_
        refine r_goto (pc := 112) (tgt := 30) C dX12_worst_112 (by decide) ?_
        refine r_sub (lv' := [(0, vR b 0), (1, vI v1), (2, vI v2), (3, vI v5), (4, vI r8), (5, vI v5_109)]) [4, 5, 6, 1, 2, 0] rfl ?_
        exact hrec _ _ _ _ h
      · refine r_goto (pc := 99) (tgt := 109) C dX12_worst_99 (by decide) ?_
        obtain ⟨v5_109, hv5_109, h⟩ := lt_inv h
        refine r_iincN (pc := 109) (y := v5_109) (lv' := [(5, vI v5_109), (6, vI r8), (0, vR b 0), (1, vI v1), (2, vI v2), (3, vI v3), (4, vI v4)]) C 6 rfl hv5_109 dX12_worst_109 (by decide) rfl ?_
        refine r_goto (pc := 112) (tgt := 30) C dX12_worst_112 (by decide) ?_
        refine r_sub (lv' := [(0, vR b 0), (1, vI v1), (2, vI v2), (3, vI v3), (4, vI v4), (5, vI v5_109)]) [2, 3, 4, 5, 6, 0] rfl ?_
        exact hrec _ _ _ _ h
set_option maxHeartbeats 4000000 in
theorem w_m_worst_L30 (C : mCX p s m args meth c cX12_worst 7 RX12 D E b) (hr : meth.sig.returnType = (some .int)) {r0 : Int} {M0 : Mem} {v1 : Int} {v2 : Int} {q : Int × Int × Int × Mem} (hfol : ∀ (v3 : Int) (v4 : Int) (v5 : Int) (M : Mem), q = (v3, v4, v5, M) → mWX p l e 8 184 s m args below meth c 7 D E b (some (vI r0)) M0 M 115 [(2, vI v2), (3, vI v3), (4, vI v4)] []) : ∀ (n : Nat) (v3 : Int) (v4 : Int) (v5 : Int) (M : Mem), itr4 (m_worst_L30 v1 v2) n v3 v4 v5 M = some q →
    mWX p l e 8 184 s m args below meth c 7 D E b (some (vI r0)) M0 M 30 [(0, vR b 0), (1, vI v1), (2, vI v2), (3, vI v3), (4, vI v4), (5, vI v5)] [] := by
  intro n
  induction n with
  | zero => exact fun _ _ _ _ h => itr_z h
  | succ n ih => exact fun _ _ _ _ h => w_m_worst_L30_s C hr ih hfol h
set_option maxHeartbeats 4000000 in
set_option maxRecDepth 20000 in
theorem c_m_worst (l : Launch) {x1 : Int} {x2 : Int} {M : Mem} {r0 : Int} {M0 : Mem} (h : m_worst x1 x2 M = some (r0, M0)) : Ct l yX12_worst cX12_worst 7 (some .int) 8 184 vwCl mSh mN mRf mExt (fun b => [vR b 0, vI x1, vI x2]) M (fun b => (some (vI r0))) M0 := by
  refine Ct_of mExtOK (by decide) (fun b => Nat.le_of_ble_eq_true rfl) ?_
  intro p e s m args below meth c D E b C hr
  unfold m_worst at h
  refine (show mWX p l e 8 184 s m args below meth c 7 D E b (some (vI r0)) M0 M 0 [(0, vR b 0), (1, vI x1), (2, vI x2)] [] from ?_)
  refine r_aload_n (pc := 0) C 0 rfl rfl dX12_worst_0 ?_
  refine r_iload_n (pc := 1) C 1 rfl rfl dX12_worst_1 ?_
  refine r_iconst (pc := 2) C dX12_worst_2 ?_
  refine r_bipush (pc := 3) (j := 30) C (by decide +kernel) dX12_worst_3 ?_
  obtain ⟨r1, hq1, h⟩ := bnd_inv h
  refine r_callV (pc := 5) (rest := []) (st1 := [vB r1]) C (mExtOK b) [vI x1, vI 1, vI 30] (c_m_isAhead l hq1) cl_RX12_478 m_s0 (by decide) rfl rfl rfl rfl ⟨Nat.le_of_ble_eq_true rfl, Nat.le_of_ble_eq_true rfl⟩ (Nat.le_of_ble_eq_true rfl) rfl rfl dX12_worst_5 ?_
  refine r_if_eqB (pc := 8) (tgt := 20) C h dX12_worst_8 (by decide) (fun hc8 h => ?_) (fun hc8 h => ?_)
  · refine r_iload_n (pc := 11) C 2 rfl rfl dX12_worst_11 ?_
    refine r_iconst (pc := 12) C dX12_worst_12 ?_
    refine r_iconst (pc := 13) C dX12_worst_13 ?_
    obtain ⟨r2, hq2, h⟩ := bnd_inv h
    refine r_callS (pc := 14) (rest := []) (st1 := [vB r2]) C (mExtOK b) [vI x2, vI 0, vI 1] (c_m_is l hq2) cl_RX12_303 rfl rfl ⟨Nat.le_of_ble_eq_true rfl, Nat.le_of_ble_eq_true rfl⟩ (Nat.le_of_ble_eq_true rfl) rfl rfl dX12_worst_14 ?_
    refine r_if_neB (pc := 17) (tgt := 22) C h dX12_worst_17 (by decide) (fun hc17 h => ?_) (fun hc17 h => ?_)
    · refine r_iconst (pc := 22) C dX12_worst_22 ?_
      refine r_istore_n (pc := 23) (lv' := [(3, vI (-1)), (0, vR b 0), (1, vI x1), (2, vI x2)]) C rfl dX12_worst_23 (by decide) rfl ?_
      refine r_iconst (pc := 24) C dX12_worst_24 ?_
      refine r_istore (pc := 25) (lv' := [(4, vI (-1)), (3, vI (-1)), (0, vR b 0), (1, vI x1), (2, vI x2)]) C dX12_worst_25 (by decide) rfl ?_
      refine r_iconst (pc := 27) C dX12_worst_27 ?_
      refine r_istore (pc := 28) (lv' := [(5, vI 0), (4, vI (-1)), (3, vI (-1)), (0, vR b 0), (1, vI x1), (2, vI x2)]) C dX12_worst_28 (by decide) rfl ?_
      refine r_sub (lv' := [(0, vR b 0), (1, vI x1), (2, vI x2), (3, vI (-1)), (4, vI (-1)), (5, vI 0)]) [3, 4, 5, 2, 1, 0] rfl ?_
      obtain ⟨q9, hl9, h⟩ := bnd_inv h
      refine w_m_worst_L30 C hr (fun v3_9 v4_9 v5_9 M_9 hq => ?_) FUEL _ _ _ _ hl9
      have hq := hq.symm
      subst hq
      refine r_iload_n (pc := 115) C 0 rfl rfl dX12_worst_115 ?_
      refine r_if_ne (pc := 116) (tgt := 123) C h dX12_worst_116 (by decide) (fun hc116 h => ?_) (fun hc116 h => ?_)
      · refine r_iload (pc := 123) C 2 rfl dX12_worst_123 ?_
        have e := Option.some.inj h
        exact r_iret (pc := 125) C hr (congrArg (fun z => some (vI z)) (Prod.mk.inj e).1.symm) (Prod.mk.inj e).2.symm dX12_worst_125
      · refine r_iload_n (pc := 119) C 1 rfl rfl dX12_worst_119 ?_
        refine r_goto (pc := 120) (tgt := 125) C dX12_worst_120 (by decide) ?_
        have e := Option.some.inj h
        exact r_iret (pc := 125) C hr (congrArg (fun z => some (vI z)) (Prod.mk.inj e).1.symm) (Prod.mk.inj e).2.symm dX12_worst_125
    · refine r_iconst (pc := 20) C dX12_worst_20 ?_
      have e := Option.some.inj h
      exact r_iret (pc := 21) C hr (congrArg (fun z => some (vI z)) (Prod.mk.inj e).1.symm) (Prod.mk.inj e).2.symm dX12_worst_21
  · refine r_iconst (pc := 20) C dX12_worst_20 ?_
    have e := Option.some.inj h
    exact r_iret (pc := 21) C hr (congrArg (fun z => some (vI z)) (Prod.mk.inj e).1.symm) (Prod.mk.inj e).2.symm dX12_worst_21
set_option maxHeartbeats 4000000 in
set_option maxRecDepth 20000 in
theorem w_m_tune_L39_s (C : mCX p s m args meth c cX12_tune 8 RX12 D E b) (hr : meth.sig.returnType = (some .int)) {r0 : Int} {M0 : Mem} {v1 : Int} {v2 : Int} {v3 : Int} {v4 : Int} {v5 : Int} {v6 : Int} {M : Mem} {q : Int × Int × Int × Mem} {rec : Int → Int → Int → Mem → Option (Int × Int × Int × Mem)} (hrec : ∀ (v4 : Int) (v5 : Int) (v6 : Int) (M : Mem), rec v4 v5 v6 M = some q → mWX p l e 8 184 s m args below meth c 8 D E b (some (vI r0)) M0 M 39 [(0, vR b 0), (1, vI v1), (2, vI v2), (3, vI v3), (4, vI v4), (5, vI v5), (6, vI v6)] []) (hfol : ∀ (v4 : Int) (v5 : Int) (v6 : Int) (M : Mem), q = (v4, v5, v6, M) → mWX p l e 8 184 s m args below meth c 8 D E b (some (vI r0)) M0 M 105 [(3, vI v3), (4, vI v4), (5, vI v5)] []) (h : m_tune_L39 v1 v2 v3 rec v4 v5 v6 M = some q) :
    mWX p l e 8 184 s m args below meth c 8 D E b (some (vI r0)) M0 M 39 [(0, vR b 0), (1, vI v1), (2, vI v2), (3, vI v3), (4, vI v4), (5, vI v5), (6, vI v6)] [] := by
  unfold m_tune_L39 at h
  refine r_iload (pc := 39) C 6 rfl dX12_tune_39 ?_
  refine r_bipush (pc := 41) (j := 10) C (by decide +kernel) dX12_tune_41 ?_
  refine r_icmp_ge (pc := 43) (tgt := 105) C h dX12_tune_43 (by decide) (fun hc43 h => ?_) (fun hc43 h => ?_)
  · refine r_sub (lv' := [(3, vI v3), (4, vI v4), (5, vI v5)]) [3, 4, 5] rfl ?_
    exact hfol _ _ _ _ (Option.some.inj h).symm
  · refine r_aload_n (pc := 46) C 0 rfl rfl dX12_tune_46 ?_
    refine r_iconst (pc := 47) C dX12_tune_47 ?_
    refine r_iconst (pc := 48) C dX12_tune_48 ?_
    obtain ⟨M4, hq4, h⟩ := bnd_inv h
    refine r_callV (pc := 49) (rest := []) (st1 := []) C (mExtOK b) [vI 1, vI 0] (c_m_copies l hq4) cl_RX12_396 m_s0 (by decide) rfl rfl rfl rfl ⟨Nat.le_of_ble_eq_true rfl, Nat.le_of_ble_eq_true rfl⟩ (Nat.le_of_ble_eq_true rfl) rfl rfl dX12_tune_49 ?_
    refine r_aload_n (pc := 52) C 0 rfl rfl dX12_tune_52 ?_
    refine r_getR (pc := 53) C fl_RX12_150 m_s0 (by decide) m_k45 m_r45 dX12_tune_53 ?_
    refine r_bipush (pc := 56) (j := 7) C (by decide +kernel) dX12_tune_56 ?_
    refine r_iload_n (pc := 58) C 1 rfl rfl dX12_tune_58 ?_
    refine r_iadd (pc := 59) C dX12_tune_59 ?_
    refine r_iload (pc := 60) C 6 rfl dX12_tune_60 ?_
    obtain ⟨hi62, h⟩ := chk_inv h
    obtain ⟨M_62, hM_62, h⟩ := lt_inv h
    refine r_iast (pc := 62) C m_s26 (by decide) (by decide) hi62 rfl hM_62 dX12_tune_62 ?_
    refine r_aload_n (pc := 63) C 0 rfl rfl dX12_tune_63 ?_
    refine r_iload_n (pc := 64) C 2 rfl rfl dX12_tune_64 ?_
    refine r_aload_n (pc := 65) C 0 rfl rfl dX12_tune_65 ?_
    obtain ⟨r5, hq5, h⟩ := bnd_inv h
    refine r_callV (pc := 66) (rest := [vI v2, vR b 0]) (st1 := [vI r5, vI v2, vR b 0]) C (mExtOK b) [] (c_m_all l hq5) cl_RX12_481 m_s0 (by decide) rfl rfl rfl rfl ⟨Nat.le_of_ble_eq_true rfl, Nat.le_of_ble_eq_true rfl⟩ (Nat.le_of_ble_eq_true rfl) rfl rfl dX12_tune_66 ?_
    obtain ⟨M6, hq6, h⟩ := bnd_inv h
    refine r_callV (pc := 69) (rest := []) (st1 := []) C (mExtOK b) [vI v2, vI r5] (c_m_goesOn_ l hq6) cl_RX12_485 m_s0 (by decide) rfl rfl rfl rfl ⟨Nat.le_of_ble_eq_true rfl, Nat.le_of_ble_eq_true rfl⟩ (Nat.le_of_ble_eq_true rfl) rfl rfl dX12_tune_69 ?_
    refine r_aload_n (pc := 72) C 0 rfl rfl dX12_tune_72 ?_
    refine r_iconst (pc := 73) C dX12_tune_73 ?_
    refine r_iconst (pc := 74) C dX12_tune_74 ?_
    refine r_iconst (pc := 75) C dX12_tune_75 ?_
    obtain ⟨r7, hq7, h⟩ := bnd_inv h
    refine r_callV (pc := 76) (rest := []) (st1 := [vI r7]) C (mExtOK b) [vI 1, vI 3, vI 3] (c_m_manyOf l hq7) cl_RX12_458 m_s0 (by decide) rfl rfl rfl rfl ⟨Nat.le_of_ble_eq_true rfl, Nat.le_of_ble_eq_true rfl⟩ (Nat.le_of_ble_eq_true rfl) rfl rfl dX12_tune_76 ?_
    refine r_istore (pc := 79) (lv' := [(7, vI r7), (0, vR b 0), (1, vI v1), (2, vI v2), (3, vI v3), (4, vI v4), (5, vI v5), (6, vI v6)]) C dX12_tune_79 (by decide) rfl ?_
    refine r_iload (pc := 81) C 0 rfl dX12_tune_81 ?_
    refine r_iload (pc := 83) C 6 rfl dX12_tune_83 ?_
    refine r_icmp_gt (pc := 85) (tgt := 91) C h dX12_tune_85 (by decide) (fun hc85 h => ?_) (fun hc85 h => ?_)
    · refine r_iload (pc := 91) C 0 rfl dX12_tune_91 ?_
      refine r_istore (pc := 93) (lv' := [(5, vI r7), (7, vI r7), (0, vR b 0), (1, vI v1), (2, vI v2), (3, vI v3), (4, vI v4), (6, vI v6)]) C dX12_tune_93 (by decide) rfl ?_
      refine r_iload (pc := 95) C 7 rfl dX12_tune_95 ?_
      refine r_istore (pc := 97) (lv' := [(4, vI v6), (5, vI r7), (7, vI r7), (0, vR b 0), (1, vI v1), (2, vI v2), (3, vI v3), (6, vI v6)]) C dX12_tune_97 (by decide) rfl ?_
      obtain ⟨v6_99, hv6_99, h⟩ := lt_inv h
      refine r_iincN (pc := 99) (y := v6_99) (lv' := [(6, vI v6_99), (4, vI v6), (5, vI r7), (7, vI r7), (0, vR b 0), (1, vI v1), (2, vI v2), (3, vI v3)]) C 7 rfl hv6_99 dX12_tune_99 (by decide) rfl ?_
      refine r_goto (pc := 102) (tgt := 39) C dX12_tune_102 (by decide) ?_
      refine r_sub (lv' := [(0, vR b 0), (1, vI v1), (2, vI v2), (3, vI v3), (4, vI v6), (5, vI r7), (6, vI v6_99)]) [4, 5, 6, 7, 1, 2, 0] rfl ?_
      exact hrec _ _ _ _ h
    · refine r_goto (pc := 88) (tgt := 99) C dX12_tune_88 (by decide) ?_
      obtain ⟨v6_99, hv6_99, h⟩ := lt_inv h
      refine r_iincN (pc := 99) (y := v6_99) (lv' := [(6, vI v6_99), (7, vI r7), (0, vR b 0), (1, vI v1), (2, vI v2), (3, vI v3), (4, vI v4), (5, vI v5)]) C 7 rfl hv6_99 dX12_tune_99 (by decide) rfl ?_
      refine r_goto (pc := 102) (tgt := 39) C dX12_tune_102 (by decide) ?_
      refine r_sub (lv' := [(0, vR b 0), (1, vI v1), (2, vI v2), (3, vI v3), (4, vI v4), (5, vI v5), (6, vI v6_99)]) [2, 3, 4, 5, 6, 7, 0] rfl ?_
      exact hrec _ _ _ _ h
set_option maxHeartbeats 4000000 in
theorem w_m_tune_L39 (C : mCX p s m args meth c cX12_tune 8 RX12 D E b) (hr : meth.sig.returnType = (some .int)) {r0 : Int} {M0 : Mem} {v1 : Int} {v2 : Int} {v3 : Int} {q : Int × Int × Int × Mem} (hfol : ∀ (v4 : Int) (v5 : Int) (v6 : Int) (M : Mem), q = (v4, v5, v6, M) → mWX p l e 8 184 s m args below meth c 8 D E b (some (vI r0)) M0 M 105 [(3, vI v3), (4, vI v4), (5, vI v5)] []) : ∀ (n : Nat) (v4 : Int) (v5 : Int) (v6 : Int) (M : Mem), itr4 (m_tune_L39 v1 v2 v3) n v4 v5 v6 M = some q →
    mWX p l e 8 184 s m args below meth c 8 D E b (some (vI r0)) M0 M 39 [(0, vR b 0), (1, vI v1), (2, vI v2), (3, vI v3), (4, vI v4), (5, vI v5), (6, vI v6)] [] := by
  intro n
  induction n with
  | zero => exact fun _ _ _ _ h => itr_z h
  | succ n ih => exact fun _ _ _ _ h => w_m_tune_L39_s C hr ih hfol h
set_option maxHeartbeats 4000000 in
set_option maxRecDepth 20000 in
theorem c_m_tune (l : Launch) {x1 : Int} {x2 : Int} {x3 : Int} {M : Mem} {r0 : Int} {M0 : Mem} (h : m_tune x1 x2 x3 M = some (r0, M0)) : Ct l yX12_tune cX12_tune 8 (some .int) 8 184 vwCl mSh mN mRf mExt (fun b => [vR b 0, vI x1, vI x2, vI x3]) M (fun b => (some (vI r0))) M0 := by
  refine Ct_of mExtOK (by decide) (fun b => Nat.le_of_ble_eq_true rfl) ?_
  intro p e s m args below meth c D E b C hr
  unfold m_tune at h
  refine (show mWX p l e 8 184 s m args below meth c 8 D E b (some (vI r0)) M0 M 0 [(0, vR b 0), (1, vI x1), (2, vI x2), (3, vI x3)] [] from ?_)
  refine r_aload_n (pc := 0) C 0 rfl rfl dX12_tune_0 ?_
  refine r_iload_n (pc := 1) C 1 rfl rfl dX12_tune_1 ?_
  obtain ⟨r1, hq1, h⟩ := bnd_inv h
  refine r_callV (pc := 2) (rest := []) (st1 := [vB r1]) C (mExtOK b) [vI x1] (c_m_isVoice l hq1) cl_RX12_462 m_s0 (by decide) rfl rfl rfl rfl ⟨Nat.le_of_ble_eq_true rfl, Nat.le_of_ble_eq_true rfl⟩ (Nat.le_of_ble_eq_true rfl) rfl rfl dX12_tune_2 ?_
  refine r_if_eqB (pc := 5) (tgt := 28) C h dX12_tune_5 (by decide) (fun hc5 h => ?_) (fun hc5 h => ?_)
  · refine r_aload_n (pc := 8) C 0 rfl rfl dX12_tune_8 ?_
    refine r_iload_n (pc := 9) C 2 rfl rfl dX12_tune_9 ?_
    refine r_iconst (pc := 10) C dX12_tune_10 ?_
    refine r_bipush (pc := 11) (j := 30) C (by decide +kernel) dX12_tune_11 ?_
    obtain ⟨r2, hq2, h⟩ := bnd_inv h
    refine r_callV (pc := 13) (rest := []) (st1 := [vB r2]) C (mExtOK b) [vI x2, vI 1, vI 30] (c_m_isAhead l hq2) cl_RX12_478 m_s0 (by decide) rfl rfl rfl rfl ⟨Nat.le_of_ble_eq_true rfl, Nat.le_of_ble_eq_true rfl⟩ (Nat.le_of_ble_eq_true rfl) rfl rfl dX12_tune_13 ?_
    refine r_if_eqB (pc := 16) (tgt := 28) C h dX12_tune_16 (by decide) (fun hc16 h => ?_) (fun hc16 h => ?_)
    · refine r_iload_n (pc := 19) C 3 rfl rfl dX12_tune_19 ?_
      refine r_iconst (pc := 20) C dX12_tune_20 ?_
      refine r_iconst (pc := 21) C dX12_tune_21 ?_
      obtain ⟨r3, hq3, h⟩ := bnd_inv h
      refine r_callS (pc := 22) (rest := []) (st1 := [vB r3]) C (mExtOK b) [vI x3, vI 0, vI 1] (c_m_is l hq3) cl_RX12_303 rfl rfl ⟨Nat.le_of_ble_eq_true rfl, Nat.le_of_ble_eq_true rfl⟩ (Nat.le_of_ble_eq_true rfl) rfl rfl dX12_tune_22 ?_
      refine r_if_neB (pc := 25) (tgt := 30) C h dX12_tune_25 (by decide) (fun hc25 h => ?_) (fun hc25 h => ?_)
      · refine r_iconst (pc := 30) C dX12_tune_30 ?_
        refine r_istore (pc := 31) (lv' := [(4, vI (-1)), (0, vR b 0), (1, vI x1), (2, vI x2), (3, vI x3)]) C dX12_tune_31 (by decide) rfl ?_
        refine r_iconst (pc := 33) C dX12_tune_33 ?_
        refine r_istore (pc := 34) (lv' := [(5, vI (-1)), (4, vI (-1)), (0, vR b 0), (1, vI x1), (2, vI x2), (3, vI x3)]) C dX12_tune_34 (by decide) rfl ?_
        refine r_iconst (pc := 36) C dX12_tune_36 ?_
        refine r_istore (pc := 37) (lv' := [(6, vI 0), (5, vI (-1)), (4, vI (-1)), (0, vR b 0), (1, vI x1), (2, vI x2), (3, vI x3)]) C dX12_tune_37 (by decide) rfl ?_
        refine r_sub (lv' := [(0, vR b 0), (1, vI x1), (2, vI x2), (3, vI x3), (4, vI (-1)), (5, vI (-1)), (6, vI 0)]) [3, 4, 5, 6, 2, 1, 0] rfl ?_
        obtain ⟨q8, hl8, h⟩ := bnd_inv h
        refine w_m_tune_L39 C hr (fun v4_8 v5_8 v6_8 M_8 hq => ?_) FUEL _ _ _ _ hl8
        have hq := hq.symm
        subst hq
        refine r_iload_n (pc := 105) C 0 rfl rfl dX12_tune_105 ?_
        refine r_if_ne (pc := 106) (tgt := 114) C h dX12_tune_106 (by decide) (fun hc106 h => ?_) (fun hc106 h => ?_)
        · refine r_iload (pc := 114) C 2 rfl dX12_tune_114 ?_
          have e := Option.some.inj h
          exact r_iret (pc := 116) C hr (congrArg (fun z => some (vI z)) (Prod.mk.inj e).1.symm) (Prod.mk.inj e).2.symm dX12_tune_116
        · refine r_iload (pc := 109) C 1 rfl dX12_tune_109 ?_
          refine r_goto (pc := 111) (tgt := 116) C dX12_tune_111 (by decide) ?_
          have e := Option.some.inj h
          exact r_iret (pc := 116) C hr (congrArg (fun z => some (vI z)) (Prod.mk.inj e).1.symm) (Prod.mk.inj e).2.symm dX12_tune_116
      · refine r_iconst (pc := 28) C dX12_tune_28 ?_
        have e := Option.some.inj h
        exact r_iret (pc := 29) C hr (congrArg (fun z => some (vI z)) (Prod.mk.inj e).1.symm) (Prod.mk.inj e).2.symm dX12_tune_29
    · refine r_iconst (pc := 28) C dX12_tune_28 ?_
      have e := Option.some.inj h
      exact r_iret (pc := 29) C hr (congrArg (fun z => some (vI z)) (Prod.mk.inj e).1.symm) (Prod.mk.inj e).2.symm dX12_tune_29
  · refine r_iconst (pc := 28) C dX12_tune_28 ?_
    have e := Option.some.inj h
    exact r_iret (pc := 29) C hr (congrArg (fun z => some (vI z)) (Prod.mk.inj e).1.symm) (Prod.mk.inj e).2.symm dX12_tune_29
set_option maxHeartbeats 4000000 in
set_option maxRecDepth 20000 in
theorem w_m_doesNeed_L2_B41 (C : mCX p s m args meth c cX12_doesNeed 4 RX12 D E b) (hr : meth.sig.returnType = (some .boolean)) {r0 : Bool} {M0 : Mem} {M : Mem} {v1 : Int} {v2 : Int} {v3 : Int} {s0 : Int} {q : (Bool × Mem) ⊕ (Int × Mem)} {rec : Int → Mem → Option ((Bool × Mem) ⊕ (Int × Mem))} (hrec : ∀ (v3 : Int) (M : Mem), rec v3 M = some q → mWX p l e 5 109 s m args below meth c 4 D E b (some (vB r0)) M0 M 2 [(0, vR b 0), (1, vI v1), (2, vI v2), (3, vI v3)] []) (hret : ∀ r, q = .inl r → r = (r0, M0)) (hfol : ∀ (v3 : Int) (M : Mem), q = .inr (v3, M) → mWX p l e 5 109 s m args below meth c 4 D E b (some (vB r0)) M0 M 62 [(0, vR b 0), (2, vI v2)] []) (h : m_doesNeed_L2_B41 rec v1 v2 v3 s0 M = some q) :
    mWX p l e 5 109 s m args below meth c 4 D E b (some (vB r0)) M0 M 41 [(0, vR b 0), (1, vI v1), (2, vI v2), (3, vI v3)] [vI s0] := by
  unfold m_doesNeed_L2_B41 at h
  refine r_iload_n (pc := 41) C 3 rfl rfl dX12_doesNeed_41 ?_
  refine r_iload_n (pc := 42) C 2 rfl rfl dX12_doesNeed_42 ?_
  refine r_icmp_ne (pc := 43) (tgt := 50) C h dX12_doesNeed_43 (by decide) (fun hc43 h => ?_) (fun hc43 h => ?_)
  · refine r_iconst (pc := 50) C dX12_doesNeed_50 ?_
    refine r_icmp_eq (pc := 51) (tgt := 56) C h dX12_doesNeed_51 (by decide) (fun hc51 h => ?_) (fun hc51 h => ?_)
    · obtain ⟨v3_56, hv3_56, h⟩ := lt_inv h
      refine r_iincN (pc := 56) (y := v3_56) (lv' := [(3, vI v3_56), (0, vR b 0), (1, vI v1), (2, vI v2)]) C 3 rfl hv3_56 dX12_doesNeed_56 (by decide) rfl ?_
      refine r_goto (pc := 59) (tgt := 2) C dX12_doesNeed_59 (by decide) ?_
      refine r_sub (lv' := [(0, vR b 0), (1, vI v1), (2, vI v2), (3, vI v3_56)]) [1, 2, 3, 0] rfl ?_
      exact hrec _ _ h
    · refine r_iconst (pc := 54) C dX12_doesNeed_54 ?_
      have e := hret _ (Option.some.inj h).symm
      exact r_zret (pc := 55) C hr (Or.inl rfl) (congrArg (fun z => some (vB z)) (Prod.mk.inj e).1.symm) (Prod.mk.inj e).2.symm dX12_doesNeed_55
  · refine r_iconst (pc := 46) C dX12_doesNeed_46 ?_
    refine r_goto (pc := 47) (tgt := 51) C dX12_doesNeed_47 (by decide) ?_
    refine r_icmp_eq (pc := 51) (tgt := 56) C h dX12_doesNeed_51 (by decide) (fun hc51 h => ?_) (fun hc51 h => ?_)
    · obtain ⟨v3_56, hv3_56, h⟩ := lt_inv h
      refine r_iincN (pc := 56) (y := v3_56) (lv' := [(3, vI v3_56), (0, vR b 0), (1, vI v1), (2, vI v2)]) C 3 rfl hv3_56 dX12_doesNeed_56 (by decide) rfl ?_
      refine r_goto (pc := 59) (tgt := 2) C dX12_doesNeed_59 (by decide) ?_
      refine r_sub (lv' := [(0, vR b 0), (1, vI v1), (2, vI v2), (3, vI v3_56)]) [1, 2, 3, 0] rfl ?_
      exact hrec _ _ h
    · refine r_iconst (pc := 54) C dX12_doesNeed_54 ?_
      have e := hret _ (Option.some.inj h).symm
      exact r_zret (pc := 55) C hr (Or.inl rfl) (congrArg (fun z => some (vB z)) (Prod.mk.inj e).1.symm) (Prod.mk.inj e).2.symm dX12_doesNeed_55
set_option maxHeartbeats 4000000 in
set_option maxRecDepth 20000 in
theorem w_m_doesNeed_L2_s (C : mCX p s m args meth c cX12_doesNeed 4 RX12 D E b) (hr : meth.sig.returnType = (some .boolean)) {r0 : Bool} {M0 : Mem} {v1 : Int} {v2 : Int} {v3 : Int} {M : Mem} {q : (Bool × Mem) ⊕ (Int × Mem)} {rec : Int → Mem → Option ((Bool × Mem) ⊕ (Int × Mem))} (hrec : ∀ (v3 : Int) (M : Mem), rec v3 M = some q → mWX p l e 5 109 s m args below meth c 4 D E b (some (vB r0)) M0 M 2 [(0, vR b 0), (1, vI v1), (2, vI v2), (3, vI v3)] []) (hret : ∀ r, q = .inl r → r = (r0, M0)) (hfol : ∀ (v3 : Int) (M : Mem), q = .inr (v3, M) → mWX p l e 5 109 s m args below meth c 4 D E b (some (vB r0)) M0 M 62 [(0, vR b 0), (2, vI v2)] []) (h : m_doesNeed_L2 v1 v2 rec v3 M = some q) :
    mWX p l e 5 109 s m args below meth c 4 D E b (some (vB r0)) M0 M 2 [(0, vR b 0), (1, vI v1), (2, vI v2), (3, vI v3)] [] := by
  unfold m_doesNeed_L2 at h
  refine r_iload_n (pc := 2) C 3 rfl rfl dX12_doesNeed_2 ?_
  refine r_aload_n (pc := 3) C 0 rfl rfl dX12_doesNeed_3 ?_
  refine r_getR (pc := 4) C fl_RX12_54 m_s0 (by decide) m_k14 m_r14 dX12_doesNeed_4 ?_
  refine r_aload_n (pc := 7) C 0 rfl rfl dX12_doesNeed_7 ?_
  refine r_getI (pc := 8) C fl_RX12_51 m_s0 (by decide) m_k13 dX12_doesNeed_8 ?_
  obtain ⟨hi11, h⟩ := chk_inv h
  refine r_iald (pc := 11) C m_s2 (by decide) (by decide) hi11 rfl dX12_doesNeed_11 ?_
  refine r_icmp_ge (pc := 12) (tgt := 62) C h dX12_doesNeed_12 (by decide) (fun hc12 h => ?_) (fun hc12 h => ?_)
  · refine r_sub (lv' := [(0, vR b 0), (2, vI v2)]) [0, 2] rfl ?_
    exact hfol _ _ (Option.some.inj h).symm
  · refine r_aload_n (pc := 15) C 0 rfl rfl dX12_doesNeed_15 ?_
    refine r_iconst (pc := 16) C dX12_doesNeed_16 ?_
    refine r_iload_n (pc := 17) C 3 rfl rfl dX12_doesNeed_17 ?_
    obtain ⟨r1, hq1, h⟩ := bnd_inv h
    refine r_callV (pc := 18) (rest := []) (st1 := [vB r1]) C (mExtOK b) [vI 0, vI v3] (c_m_isFree l hq1) cl_RX12_439 m_s0 (by decide) rfl rfl rfl rfl ⟨Nat.le_of_ble_eq_true rfl, Nat.le_of_ble_eq_true rfl⟩ (Nat.le_of_ble_eq_true rfl) rfl rfl dX12_doesNeed_18 ?_
    refine r_if_eqB (pc := 21) (tgt := 56) C h dX12_doesNeed_21 (by decide) (fun hc21 h => ?_) (fun hc21 h => ?_)
    · refine r_aload_n (pc := 24) C 0 rfl rfl dX12_doesNeed_24 ?_
      refine r_iconst (pc := 25) C dX12_doesNeed_25 ?_
      refine r_iload_n (pc := 26) C 1 rfl rfl dX12_doesNeed_26 ?_
      refine r_iload_n (pc := 27) C 3 rfl rfl dX12_doesNeed_27 ?_
      obtain ⟨r2, M2, hq2, h⟩ := bnd2_inv h
      refine r_callV (pc := 28) (rest := []) (st1 := [vL r2]) C (mExtOK b) [vI 0, vI v1, vI v3] (c_m_pickOf l hq2) cl_RX12_442 m_s0 (by decide) rfl rfl rfl rfl ⟨Nat.le_of_ble_eq_true rfl, Nat.le_of_ble_eq_true rfl⟩ (Nat.le_of_ble_eq_true rfl) rfl rfl dX12_doesNeed_28 ?_
      refine r_lconst (pc := 31) (j := 0) C rfl dX12_doesNeed_31 ?_
      refine r_lcmp (pc := 32) C dX12_doesNeed_32 ?_
      refine r_if_le (pc := 33) (tgt := 40) C h dX12_doesNeed_33 (by decide) (fun hc33 h => ?_) (fun hc33 h => ?_)
      · refine r_iconst (pc := 40) C dX12_doesNeed_40 ?_
        refine r_sub (lv' := [(0, vR b 0), (1, vI v1), (2, vI v2), (3, vI v3)]) [0, 1, 2, 3] rfl ?_
        exact w_m_doesNeed_L2_B41 C hr hrec hret hfol h
      · refine r_iconst (pc := 36) C dX12_doesNeed_36 ?_
        refine r_goto (pc := 37) (tgt := 41) C dX12_doesNeed_37 (by decide) ?_
        refine r_sub (lv' := [(0, vR b 0), (1, vI v1), (2, vI v2), (3, vI v3)]) [0, 1, 2, 3] rfl ?_
        exact w_m_doesNeed_L2_B41 C hr hrec hret hfol h
    · obtain ⟨v3_56, hv3_56, h⟩ := lt_inv h
      refine r_iincN (pc := 56) (y := v3_56) (lv' := [(3, vI v3_56), (0, vR b 0), (1, vI v1), (2, vI v2)]) C 3 rfl hv3_56 dX12_doesNeed_56 (by decide) rfl ?_
      refine r_goto (pc := 59) (tgt := 2) C dX12_doesNeed_59 (by decide) ?_
      refine r_sub (lv' := [(0, vR b 0), (1, vI v1), (2, vI v2), (3, vI v3_56)]) [1, 2, 3, 0] rfl ?_
      exact hrec _ _ h
set_option maxHeartbeats 4000000 in
theorem w_m_doesNeed_L2 (C : mCX p s m args meth c cX12_doesNeed 4 RX12 D E b) (hr : meth.sig.returnType = (some .boolean)) {r0 : Bool} {M0 : Mem} {v1 : Int} {v2 : Int} {q : (Bool × Mem) ⊕ (Int × Mem)} (hret : ∀ r, q = .inl r → r = (r0, M0)) (hfol : ∀ (v3 : Int) (M : Mem), q = .inr (v3, M) → mWX p l e 5 109 s m args below meth c 4 D E b (some (vB r0)) M0 M 62 [(0, vR b 0), (2, vI v2)] []) : ∀ (n : Nat) (v3 : Int) (M : Mem), itr2 (m_doesNeed_L2 v1 v2) n v3 M = some q →
    mWX p l e 5 109 s m args below meth c 4 D E b (some (vB r0)) M0 M 2 [(0, vR b 0), (1, vI v1), (2, vI v2), (3, vI v3)] [] := by
  intro n
  induction n with
  | zero => exact fun _ _ h => itr_z h
  | succ n ih => exact fun _ _ h => w_m_doesNeed_L2_s C hr ih hret hfol h
set_option maxHeartbeats 4000000 in
set_option maxRecDepth 20000 in
theorem c_m_doesNeed (l : Launch) {x1 : Int} {x2 : Int} {M : Mem} {r0 : Bool} {M0 : Mem} (h : m_doesNeed x1 x2 M = some (r0, M0)) : Ct l yX12_doesNeed cX12_doesNeed 4 (some .boolean) 5 109 vwCl mSh mN mRf mExt (fun b => [vR b 0, vI x1, vI x2]) M (fun b => (some (vB r0))) M0 := by
  refine Ct_of mExtOK (by decide) (fun b => Nat.le_of_ble_eq_true rfl) ?_
  intro p e s m args below meth c D E b C hr
  unfold m_doesNeed at h
  refine (show mWX p l e 5 109 s m args below meth c 4 D E b (some (vB r0)) M0 M 0 [(0, vR b 0), (1, vI x1), (2, vI x2)] [] from ?_)
  refine r_iconst (pc := 0) C dX12_doesNeed_0 ?_
  refine r_istore_n (pc := 1) (lv' := [(3, vI 0), (0, vR b 0), (1, vI x1), (2, vI x2)]) C rfl dX12_doesNeed_1 (by decide) rfl ?_
  refine r_sub (lv' := [(0, vR b 0), (1, vI x1), (2, vI x2), (3, vI 0)]) [1, 2, 3, 0] rfl ?_
  obtain ⟨q3, hl3, h⟩ := bnd_inv h
  refine w_m_doesNeed_L2 C hr (fun r hq => ?_) (fun v3_3 M_3 hq => ?_) FUEL _ _ hl3
  · have hq := hq.symm
    subst hq
    exact Option.some.inj h
  · have hq := hq.symm
    subst hq
    refine r_aload_n (pc := 62) C 0 rfl rfl dX12_doesNeed_62 ?_
    refine r_iconst (pc := 63) C dX12_doesNeed_63 ?_
    refine r_iload_n (pc := 64) C 1 rfl rfl dX12_doesNeed_64 ?_
    obtain ⟨r4, hq4, h⟩ := bnd_inv h
    refine r_callV (pc := 65) (rest := []) (st1 := [vB r4]) C (mExtOK b) [vI 0, vI x2] (c_m_isFree l hq4) cl_RX12_439 m_s0 (by decide) rfl rfl rfl rfl ⟨Nat.le_of_ble_eq_true rfl, Nat.le_of_ble_eq_true rfl⟩ (Nat.le_of_ble_eq_true rfl) rfl rfl dX12_doesNeed_65 ?_
    have e := Option.some.inj h
    exact r_zret (pc := 68) C hr (b2i01 _) (congrArg (fun z => some (vB z)) (Prod.mk.inj e).1.symm) (Prod.mk.inj e).2.symm dX12_doesNeed_68
set_option maxHeartbeats 4000000 in
set_option maxRecDepth 20000 in
theorem w_m_needed_L14_s (C : mCX p s m args meth c cX12_needed 4 RX12 D E b) (hr : meth.sig.returnType = (some .int)) {r0 : Int} {M0 : Mem} {v1 : Int} {v2 : Int} {v3 : Int} {M : Mem} {q : Int × Int × Mem} {rec : Int → Int → Mem → Option (Int × Int × Mem)} (hrec : ∀ (v2 : Int) (v3 : Int) (M : Mem), rec v2 v3 M = some q → mWX p l e 6 132 s m args below meth c 4 D E b (some (vI r0)) M0 M 14 [(0, vR b 0), (1, vI v1), (2, vI v2), (3, vI v3)] []) (hfol : ∀ (v2 : Int) (v3 : Int) (M : Mem), q = (v2, v3, M) → mWX p l e 6 132 s m args below meth c 4 D E b (some (vI r0)) M0 M 60 [(2, vI v2)] []) (h : m_needed_L14 v1 rec v2 v3 M = some q) :
    mWX p l e 6 132 s m args below meth c 4 D E b (some (vI r0)) M0 M 14 [(0, vR b 0), (1, vI v1), (2, vI v2), (3, vI v3)] [] := by
  unfold m_needed_L14 at h
  refine r_iload_n (pc := 14) C 3 rfl rfl dX12_needed_14 ?_
  refine r_aload_n (pc := 15) C 0 rfl rfl dX12_needed_15 ?_
  refine r_getR (pc := 16) C fl_RX12_69 m_s0 (by decide) m_k19 m_r19 dX12_needed_16 ?_
  refine r_aload_n (pc := 19) C 0 rfl rfl dX12_needed_19 ?_
  refine r_getI (pc := 20) C fl_RX12_51 m_s0 (by decide) m_k13 dX12_needed_20 ?_
  obtain ⟨hi23, h⟩ := chk_inv h
  refine r_iald (pc := 23) C m_s7 (by decide) (by decide) hi23 rfl dX12_needed_23 ?_
  refine r_icmp_ge (pc := 24) (tgt := 60) C h dX12_needed_24 (by decide) (fun hc24 h => ?_) (fun hc24 h => ?_)
  · refine r_sub (lv' := [(2, vI v2)]) [2] rfl ?_
    exact hfol _ _ _ (Option.some.inj h).symm
  · refine r_iload_n (pc := 27) C 2 rfl rfl dX12_needed_27 ?_
    refine r_aload_n (pc := 28) C 0 rfl rfl dX12_needed_28 ?_
    refine r_getR (pc := 29) C fl_RX12_159 m_s0 (by decide) m_k48 m_r48 dX12_needed_29 ?_
    refine r_iload_n (pc := 32) C 3 rfl rfl dX12_needed_32 ?_
    obtain ⟨hi33, h⟩ := chk_inv h
    refine r_iald (pc := 33) C m_s29 (by decide) (by decide) hi33 rfl dX12_needed_33 ?_
    refine r_iconst (pc := 34) C dX12_needed_34 ?_
    refine r_icmp_ne (pc := 35) (tgt := 51) C h dX12_needed_35 (by decide) (fun hc35 h => ?_) (fun hc35 h => ?_)
    · refine r_iconst (pc := 51) C dX12_needed_51 ?_
      refine r_iadd (pc := 52) C dX12_needed_52 ?_
      obtain ⟨v2_53, hv2_53, h⟩ := lt_inv h
      refine r_topI hv2_53 ?_
      refine r_istore_n (pc := 53) (lv' := [(2, vI v2_53), (0, vR b 0), (1, vI v1), (3, vI v3)]) C rfl dX12_needed_53 (by decide) rfl ?_
      obtain ⟨v3_54, hv3_54, h⟩ := lt_inv h
      refine r_iincN (pc := 54) (y := v3_54) (lv' := [(3, vI v3_54), (2, vI v2_53), (0, vR b 0), (1, vI v1)]) C 3 rfl hv3_54 dX12_needed_54 (by decide) rfl ?_
      refine r_goto (pc := 57) (tgt := 14) C dX12_needed_57 (by decide) ?_
      refine r_sub (lv' := [(0, vR b 0), (1, vI v1), (2, vI v2_53), (3, vI v3_54)]) [2, 3, 1, 0] rfl ?_
      exact hrec _ _ _ h
    · refine r_aload_n (pc := 38) C 0 rfl rfl dX12_needed_38 ?_
      refine r_iload_n (pc := 39) C 3 rfl rfl dX12_needed_39 ?_
      refine r_iload_n (pc := 40) C 1 rfl rfl dX12_needed_40 ?_
      obtain ⟨r2, M2, hq2, h⟩ := bnd2_inv h
      refine r_callV (pc := 41) (rest := [vI v2]) (st1 := [vB r2, vI v2]) C (mExtOK b) [vI v3, vI v1] (c_m_doesNeed l hq2) cl_RX12_496 m_s0 (by decide) rfl rfl rfl rfl ⟨Nat.le_of_ble_eq_true rfl, Nat.le_of_ble_eq_true rfl⟩ (Nat.le_of_ble_eq_true rfl) rfl rfl dX12_needed_41 ?_
      refine r_if_eqB (pc := 44) (tgt := 51) C h dX12_needed_44 (by decide) (fun hc44 h => ?_) (fun hc44 h => ?_)
      · refine r_iconst (pc := 47) C dX12_needed_47 ?_
        refine r_goto (pc := 48) (tgt := 52) C dX12_needed_48 (by decide) ?_
        refine r_iadd (pc := 52) C dX12_needed_52 ?_
        obtain ⟨v2_53, hv2_53, h⟩ := lt_inv h
        refine r_topI hv2_53 ?_
        refine r_istore_n (pc := 53) (lv' := [(2, vI v2_53), (0, vR b 0), (1, vI v1), (3, vI v3)]) C rfl dX12_needed_53 (by decide) rfl ?_
        obtain ⟨v3_54, hv3_54, h⟩ := lt_inv h
        refine r_iincN (pc := 54) (y := v3_54) (lv' := [(3, vI v3_54), (2, vI v2_53), (0, vR b 0), (1, vI v1)]) C 3 rfl hv3_54 dX12_needed_54 (by decide) rfl ?_
        refine r_goto (pc := 57) (tgt := 14) C dX12_needed_57 (by decide) ?_
        refine r_sub (lv' := [(0, vR b 0), (1, vI v1), (2, vI v2_53), (3, vI v3_54)]) [2, 3, 1, 0] rfl ?_
        exact hrec _ _ _ h
      · refine r_iconst (pc := 51) C dX12_needed_51 ?_
        refine r_iadd (pc := 52) C dX12_needed_52 ?_
        obtain ⟨v2_53, hv2_53, h⟩ := lt_inv h
        refine r_topI hv2_53 ?_
        refine r_istore_n (pc := 53) (lv' := [(2, vI v2_53), (0, vR b 0), (1, vI v1), (3, vI v3)]) C rfl dX12_needed_53 (by decide) rfl ?_
        obtain ⟨v3_54, hv3_54, h⟩ := lt_inv h
        refine r_iincN (pc := 54) (y := v3_54) (lv' := [(3, vI v3_54), (2, vI v2_53), (0, vR b 0), (1, vI v1)]) C 3 rfl hv3_54 dX12_needed_54 (by decide) rfl ?_
        refine r_goto (pc := 57) (tgt := 14) C dX12_needed_57 (by decide) ?_
        refine r_sub (lv' := [(0, vR b 0), (1, vI v1), (2, vI v2_53), (3, vI v3_54)]) [2, 3, 1, 0] rfl ?_
        exact hrec _ _ _ h
set_option maxHeartbeats 4000000 in
theorem w_m_needed_L14 (C : mCX p s m args meth c cX12_needed 4 RX12 D E b) (hr : meth.sig.returnType = (some .int)) {r0 : Int} {M0 : Mem} {v1 : Int} {q : Int × Int × Mem} (hfol : ∀ (v2 : Int) (v3 : Int) (M : Mem), q = (v2, v3, M) → mWX p l e 6 132 s m args below meth c 4 D E b (some (vI r0)) M0 M 60 [(2, vI v2)] []) : ∀ (n : Nat) (v2 : Int) (v3 : Int) (M : Mem), itr3 (m_needed_L14 v1) n v2 v3 M = some q →
    mWX p l e 6 132 s m args below meth c 4 D E b (some (vI r0)) M0 M 14 [(0, vR b 0), (1, vI v1), (2, vI v2), (3, vI v3)] [] := by
  intro n
  induction n with
  | zero => exact fun _ _ _ h => itr_z h
  | succ n ih => exact fun _ _ _ h => w_m_needed_L14_s C hr ih hfol h
set_option maxHeartbeats 4000000 in
set_option maxRecDepth 20000 in
theorem c_m_needed (l : Launch) {x1 : Int} {M : Mem} {r0 : Int} {M0 : Mem} (h : m_needed x1 M = some (r0, M0)) : Ct l yX12_needed cX12_needed 4 (some .int) 6 132 vwCl mSh mN mRf mExt (fun b => [vR b 0, vI x1]) M (fun b => (some (vI r0))) M0 := by
  refine Ct_of mExtOK (by decide) (fun b => Nat.le_of_ble_eq_true rfl) ?_
  intro p e s m args below meth c D E b C hr
  unfold m_needed at h
  refine (show mWX p l e 6 132 s m args below meth c 4 D E b (some (vI r0)) M0 M 0 [(0, vR b 0), (1, vI x1)] [] from ?_)
  refine r_aload_n (pc := 0) C 0 rfl rfl dX12_needed_0 ?_
  refine r_iload_n (pc := 1) C 1 rfl rfl dX12_needed_1 ?_
  obtain ⟨r1, hq1, h⟩ := bnd_inv h
  refine r_callV (pc := 2) (rest := []) (st1 := [vB r1]) C (mExtOK b) [vI x1] (c_m_isVoice l hq1) cl_RX12_462 m_s0 (by decide) rfl rfl rfl rfl ⟨Nat.le_of_ble_eq_true rfl, Nat.le_of_ble_eq_true rfl⟩ (Nat.le_of_ble_eq_true rfl) rfl rfl dX12_needed_2 ?_
  refine r_if_neB (pc := 5) (tgt := 10) C h dX12_needed_5 (by decide) (fun hc5 h => ?_) (fun hc5 h => ?_)
  · refine r_iconst (pc := 10) C dX12_needed_10 ?_
    refine r_istore_n (pc := 11) (lv' := [(2, vI 0), (0, vR b 0), (1, vI x1)]) C rfl dX12_needed_11 (by decide) rfl ?_
    refine r_iconst (pc := 12) C dX12_needed_12 ?_
    refine r_istore_n (pc := 13) (lv' := [(3, vI 0), (2, vI 0), (0, vR b 0), (1, vI x1)]) C rfl dX12_needed_13 (by decide) rfl ?_
    refine r_sub (lv' := [(0, vR b 0), (1, vI x1), (2, vI 0), (3, vI 0)]) [2, 3, 1, 0] rfl ?_
    obtain ⟨q3, hl3, h⟩ := bnd_inv h
    refine w_m_needed_L14 C hr (fun v2_3 v3_3 M_3 hq => ?_) FUEL _ _ _ hl3
    have hq := hq.symm
    subst hq
    refine r_iload_n (pc := 60) C 0 rfl rfl dX12_needed_60 ?_
    have e := Option.some.inj h
    exact r_iret (pc := 61) C hr (congrArg (fun z => some (vI z)) (Prod.mk.inj e).1.symm) (Prod.mk.inj e).2.symm dX12_needed_61
  · refine r_iconst (pc := 8) C dX12_needed_8 ?_
    have e := Option.some.inj h
    exact r_iret (pc := 9) C hr (congrArg (fun z => some (vI z)) (Prod.mk.inj e).1.symm) (Prod.mk.inj e).2.symm dX12_needed_9
set_option maxHeartbeats 4000000 in
set_option maxRecDepth 20000 in
theorem w_m_odds_L112_B150 (C : mCX p s m args meth c cX12_odds 4 RX12 D E b) (hr : meth.sig.returnType = (some .int)) {r0 : Int} {M0 : Mem} {M : Mem} {v1 : Int} {v2 : Int} {v3 : Int} {q : Int × Int × Mem} {rec : Int → Int → Mem → Option (Int × Int × Mem)} (hrec : ∀ (v2 : Int) (v3 : Int) (M : Mem), rec v2 v3 M = some q → mWX p l e 7 161 s m args below meth c 4 D E b (some (vI r0)) M0 M 112 [(0, vR b 0), (1, vI v1), (2, vI v2), (3, vI v3)] []) (hfol : ∀ (v2 : Int) (v3 : Int) (M : Mem), q = (v2, v3, M) → mWX p l e 7 161 s m args below meth c 4 D E b (some (vI r0)) M0 M 194 [(2, vI v2)] []) (h : m_odds_L112_B150 rec v1 v2 v3 M = some q) :
    mWX p l e 7 161 s m args below meth c 4 D E b (some (vI r0)) M0 M 150 [(0, vR b 0), (1, vI v1), (2, vI v2), (3, vI v3)] [] := by
  unfold m_odds_L112_B150 at h
  refine r_aload_n (pc := 150) C 0 rfl rfl dX12_odds_150 ?_
  refine r_iconst (pc := 151) C dX12_odds_151 ?_
  refine r_aload_n (pc := 152) C 0 rfl rfl dX12_odds_152 ?_
  obtain ⟨r7, hq7, h⟩ := bnd_inv h
  refine r_callV (pc := 153) (rest := [vI 1, vR b 0]) (st1 := [vI r7, vI 1, vR b 0]) C (mExtOK b) [] (c_m_all l hq7) cl_RX12_481 m_s0 (by decide) rfl rfl rfl rfl ⟨Nat.le_of_ble_eq_true rfl, Nat.le_of_ble_eq_true rfl⟩ (Nat.le_of_ble_eq_true rfl) rfl rfl dX12_odds_153 ?_
  obtain ⟨M8, hq8, h⟩ := bnd_inv h
  refine r_callV (pc := 156) (rest := []) (st1 := []) C (mExtOK b) [vI 1, vI r7] (c_m_ticks l hq8) cl_RX12_475 m_s0 (by decide) rfl rfl rfl rfl ⟨Nat.le_of_ble_eq_true rfl, Nat.le_of_ble_eq_true rfl⟩ (Nat.le_of_ble_eq_true rfl) rfl rfl dX12_odds_156 ?_
  refine r_iload_n (pc := 159) C 2 rfl rfl dX12_odds_159 ?_
  refine r_aload_n (pc := 160) C 0 rfl rfl dX12_odds_160 ?_
  refine r_getR (pc := 161) C fl_RX12_159 m_s0 (by decide) m_k48 m_r48 dX12_odds_161 ?_
  refine r_bipush (pc := 164) (j := 12) C (by decide +kernel) dX12_odds_164 ?_
  refine r_iload_n (pc := 166) C 1 rfl rfl dX12_odds_166 ?_
  refine r_iadd (pc := 167) C dX12_odds_167 ?_
  obtain ⟨hi168, h⟩ := chk_inv h
  refine r_iald (pc := 168) C m_s29 (by decide) (by decide) hi168 rfl dX12_odds_168 ?_
  refine r_iconst (pc := 169) C dX12_odds_169 ?_
  refine r_icmp_ne (pc := 170) (tgt := 185) C h dX12_odds_170 (by decide) (fun hc170 h => ?_) (fun hc170 h => ?_)
  · refine r_iconst (pc := 185) C dX12_odds_185 ?_
    refine r_iadd (pc := 186) C dX12_odds_186 ?_
    obtain ⟨v2_187, hv2_187, h⟩ := lt_inv h
    refine r_topI hv2_187 ?_
    refine r_istore_n (pc := 187) (lv' := [(2, vI v2_187), (0, vR b 0), (1, vI v1), (3, vI v3)]) C rfl dX12_odds_187 (by decide) rfl ?_
    obtain ⟨v3_188, hv3_188, h⟩ := lt_inv h
    refine r_iincN (pc := 188) (y := v3_188) (lv' := [(3, vI v3_188), (2, vI v2_187), (0, vR b 0), (1, vI v1)]) C 3 rfl hv3_188 dX12_odds_188 (by decide) rfl ?_
    refine r_goto (pc := 191) (tgt := 112) C dX12_odds_191 (by decide) ?_
    refine r_sub (lv' := [(0, vR b 0), (1, vI v1), (2, vI v2_187), (3, vI v3_188)]) [2, 3, 1, 0] rfl ?_
    exact hrec _ _ _ h
  · refine r_aload_n (pc := 173) C 0 rfl rfl dX12_odds_173 ?_
    refine r_getR (pc := 174) C fl_RX12_81 m_s0 (by decide) m_k23 m_r23 dX12_odds_174 ?_
    refine r_aload_n (pc := 177) C 0 rfl rfl dX12_odds_177 ?_
    refine r_getI (pc := 178) C fl_RX12_51 m_s0 (by decide) m_k13 dX12_odds_178 ?_
    obtain ⟨hi181, h⟩ := chk_inv h
    refine r_iald (pc := 181) C m_s11 (by decide) (by decide) hi181 rfl dX12_odds_181 ?_
    refine r_goto (pc := 182) (tgt := 186) C dX12_odds_182 (by decide) ?_
    refine r_iadd (pc := 186) C dX12_odds_186 ?_
    obtain ⟨v2_187, hv2_187, h⟩ := lt_inv h
    refine r_topI hv2_187 ?_
    refine r_istore_n (pc := 187) (lv' := [(2, vI v2_187), (0, vR b 0), (1, vI v1), (3, vI v3)]) C rfl dX12_odds_187 (by decide) rfl ?_
    obtain ⟨v3_188, hv3_188, h⟩ := lt_inv h
    refine r_iincN (pc := 188) (y := v3_188) (lv' := [(3, vI v3_188), (2, vI v2_187), (0, vR b 0), (1, vI v1)]) C 3 rfl hv3_188 dX12_odds_188 (by decide) rfl ?_
    refine r_goto (pc := 191) (tgt := 112) C dX12_odds_191 (by decide) ?_
    refine r_sub (lv' := [(0, vR b 0), (1, vI v1), (2, vI v2_187), (3, vI v3_188)]) [2, 3, 1, 0] rfl ?_
    exact hrec _ _ _ h
set_option maxHeartbeats 4000000 in
set_option maxRecDepth 20000 in
theorem w_m_odds_L112_s (C : mCX p s m args meth c cX12_odds 4 RX12 D E b) (hr : meth.sig.returnType = (some .int)) {r0 : Int} {M0 : Mem} {v1 : Int} {v2 : Int} {v3 : Int} {M : Mem} {q : Int × Int × Mem} {rec : Int → Int → Mem → Option (Int × Int × Mem)} (hrec : ∀ (v2 : Int) (v3 : Int) (M : Mem), rec v2 v3 M = some q → mWX p l e 7 161 s m args below meth c 4 D E b (some (vI r0)) M0 M 112 [(0, vR b 0), (1, vI v1), (2, vI v2), (3, vI v3)] []) (hfol : ∀ (v2 : Int) (v3 : Int) (M : Mem), q = (v2, v3, M) → mWX p l e 7 161 s m args below meth c 4 D E b (some (vI r0)) M0 M 194 [(2, vI v2)] []) (h : m_odds_L112 v1 rec v2 v3 M = some q) :
    mWX p l e 7 161 s m args below meth c 4 D E b (some (vI r0)) M0 M 112 [(0, vR b 0), (1, vI v1), (2, vI v2), (3, vI v3)] [] := by
  unfold m_odds_L112 at h
  refine r_iload_n (pc := 112) C 3 rfl rfl dX12_odds_112 ?_
  refine r_aload_n (pc := 113) C 0 rfl rfl dX12_odds_113 ?_
  refine r_getR (pc := 114) C fl_RX12_54 m_s0 (by decide) m_k14 m_r14 dX12_odds_114 ?_
  refine r_aload_n (pc := 117) C 0 rfl rfl dX12_odds_117 ?_
  refine r_getI (pc := 118) C fl_RX12_51 m_s0 (by decide) m_k13 dX12_odds_118 ?_
  obtain ⟨hi121, h⟩ := chk_inv h
  refine r_iald (pc := 121) C m_s2 (by decide) (by decide) hi121 rfl dX12_odds_121 ?_
  refine r_icmp_ge (pc := 122) (tgt := 194) C h dX12_odds_122 (by decide) (fun hc122 h => ?_) (fun hc122 h => ?_)
  · refine r_sub (lv' := [(2, vI v2)]) [2] rfl ?_
    exact hfol _ _ _ (Option.some.inj h).symm
  · refine r_aload_n (pc := 125) C 0 rfl rfl dX12_odds_125 ?_
    refine r_iconst (pc := 126) C dX12_odds_126 ?_
    refine r_iconst (pc := 127) C dX12_odds_127 ?_
    obtain ⟨M5, hq5, h⟩ := bnd_inv h
    refine r_callV (pc := 128) (rest := []) (st1 := []) C (mExtOK b) [vI 1, vI 0] (c_m_copies l hq5) cl_RX12_396 m_s0 (by decide) rfl rfl rfl rfl ⟨Nat.le_of_ble_eq_true rfl, Nat.le_of_ble_eq_true rfl⟩ (Nat.le_of_ble_eq_true rfl) rfl rfl dX12_odds_128 ?_
    refine r_aload_n (pc := 131) C 0 rfl rfl dX12_odds_131 ?_
    refine r_getR (pc := 132) C fl_RX12_156 m_s0 (by decide) m_k47 m_r47 dX12_odds_132 ?_
    refine r_iconst (pc := 135) C dX12_odds_135 ?_
    refine r_iald (pc := 136) C m_s28 (by decide) (by decide) (by decide) rfl dX12_odds_136 ?_
    refine r_iload_n (pc := 137) C 3 rfl rfl dX12_odds_137 ?_
    obtain ⟨r6, hq6, h⟩ := bnd_inv h
    refine r_callS (pc := 138) (rest := []) (st1 := [vB r6]) C (mExtOK b) [vI (M5 28 0), vI v3] (c_m_has2 l hq6) cl_RX12_428 rfl rfl ⟨Nat.le_of_ble_eq_true rfl, Nat.le_of_ble_eq_true rfl⟩ (Nat.le_of_ble_eq_true rfl) rfl rfl dX12_odds_138 ?_
    refine r_if_neB (pc := 141) (tgt := 150) C h dX12_odds_141 (by decide) (fun hc141 h => ?_) (fun hc141 h => ?_)
    · refine r_sub (lv' := [(0, vR b 0), (1, vI v1), (2, vI v2), (3, vI v3)]) [0, 1, 2, 3] rfl ?_
      exact w_m_odds_L112_B150 C hr hrec hfol h
    · refine r_aload_n (pc := 144) C 0 rfl rfl dX12_odds_144 ?_
      refine r_iconst (pc := 145) C dX12_odds_145 ?_
      refine r_iload_n (pc := 146) C 3 rfl rfl dX12_odds_146 ?_
      obtain ⟨M9, hq9, h⟩ := bnd_inv h
      refine r_callV (pc := 147) (rest := []) (st1 := []) C (mExtOK b) [vI 1, vI v3] (c_m_strikes l hq9) cl_RX12_493 m_s0 (by decide) rfl rfl rfl rfl ⟨Nat.le_of_ble_eq_true rfl, Nat.le_of_ble_eq_true rfl⟩ (Nat.le_of_ble_eq_true rfl) rfl rfl dX12_odds_147 ?_
      refine r_sub (lv' := [(0, vR b 0), (1, vI v1), (2, vI v2), (3, vI v3)]) [0, 1, 2, 3] rfl ?_
      exact w_m_odds_L112_B150 C hr hrec hfol h
set_option maxHeartbeats 4000000 in
theorem w_m_odds_L112 (C : mCX p s m args meth c cX12_odds 4 RX12 D E b) (hr : meth.sig.returnType = (some .int)) {r0 : Int} {M0 : Mem} {v1 : Int} {q : Int × Int × Mem} (hfol : ∀ (v2 : Int) (v3 : Int) (M : Mem), q = (v2, v3, M) → mWX p l e 7 161 s m args below meth c 4 D E b (some (vI r0)) M0 M 194 [(2, vI v2)] []) : ∀ (n : Nat) (v2 : Int) (v3 : Int) (M : Mem), itr3 (m_odds_L112 v1) n v2 v3 M = some q →
    mWX p l e 7 161 s m args below meth c 4 D E b (some (vI r0)) M0 M 112 [(0, vR b 0), (1, vI v1), (2, vI v2), (3, vI v3)] [] := by
  intro n
  induction n with
  | zero => exact fun _ _ _ h => itr_z h
  | succ n ih => exact fun _ _ _ h => w_m_odds_L112_s C hr ih hfol h
set_option maxHeartbeats 4000000 in
set_option maxRecDepth 20000 in
theorem w_m_odds_B109 (C : mCX p s m args meth c cX12_odds 4 RX12 D E b) (hr : meth.sig.returnType = (some .int)) {r0 : Int} {M0 : Mem} {M : Mem} {v1 : Int} {s0 : Int} (h : m_odds_B109 v1 s0 M = some (r0, M0)) :
    mWX p l e 7 161 s m args below meth c 4 D E b (some (vI r0)) M0 M 109 [(0, vR b 0), (1, vI v1)] [vI s0] := by
  unfold m_odds_B109 at h
  refine r_istore_n (pc := 109) (lv' := [(2, vI s0), (0, vR b 0), (1, vI v1)]) C rfl dX12_odds_109 (by decide) rfl ?_
  refine r_iconst (pc := 110) C dX12_odds_110 ?_
  refine r_istore_n (pc := 111) (lv' := [(3, vI 0), (2, vI s0), (0, vR b 0), (1, vI v1)]) C rfl dX12_odds_111 (by decide) rfl ?_
  refine r_sub (lv' := [(0, vR b 0), (1, vI v1), (2, vI s0), (3, vI 0)]) [2, 3, 1, 0] rfl ?_
  obtain ⟨q10, hl10, h⟩ := bnd_inv h
  refine w_m_odds_L112 C hr (fun v2_10 v3_10 M_10 hq => ?_) FUEL _ _ _ hl10
  have hq := hq.symm
  subst hq
  refine r_iload_n (pc := 194) C 0 rfl rfl dX12_odds_194 ?_
  have e := Option.some.inj h
  exact r_iret (pc := 195) C hr (congrArg (fun z => some (vI z)) (Prod.mk.inj e).1.symm) (Prod.mk.inj e).2.symm dX12_odds_195
set_option maxHeartbeats 4000000 in
set_option maxRecDepth 20000 in
theorem w_m_odds_B13 (C : mCX p s m args meth c cX12_odds 4 RX12 D E b) (hr : meth.sig.returnType = (some .int)) {r0 : Int} {M0 : Mem} {M : Mem} {v1 : Int} (h : m_odds_B13 v1 M = some (r0, M0)) :
    mWX p l e 7 161 s m args below meth c 4 D E b (some (vI r0)) M0 M 13 [(0, vR b 0), (1, vI v1)] [] := by
  unfold m_odds_B13 at h
  refine r_aload_n (pc := 13) C 0 rfl rfl dX12_odds_13 ?_
  refine r_getR (pc := 14) C fl_RX12_54 m_s0 (by decide) m_k14 m_r14 dX12_odds_14 ?_
  refine r_aload_n (pc := 17) C 0 rfl rfl dX12_odds_17 ?_
  refine r_getI (pc := 18) C fl_RX12_51 m_s0 (by decide) m_k13 dX12_odds_18 ?_
  obtain ⟨hi21, h⟩ := chk_inv h
  refine r_iald (pc := 21) C m_s2 (by decide) (by decide) hi21 rfl dX12_odds_21 ?_
  refine r_if_eq (pc := 22) (tgt := 35) C h dX12_odds_22 (by decide) (fun hc22 h => ?_) (fun hc22 h => ?_)
  · refine r_iconst (pc := 35) C dX12_odds_35 ?_
    have e := Option.some.inj h
    exact r_iret (pc := 36) C hr (congrArg (fun z => some (vI z)) (Prod.mk.inj e).1.symm) (Prod.mk.inj e).2.symm dX12_odds_36
  · refine r_aload_n (pc := 25) C 0 rfl rfl dX12_odds_25 ?_
    refine r_iconst (pc := 26) C dX12_odds_26 ?_
    refine r_iconst (pc := 27) C dX12_odds_27 ?_
    refine r_iconst (pc := 28) C dX12_odds_28 ?_
    obtain ⟨r1, hq1, h⟩ := bnd_inv h
    refine r_callV (pc := 29) (rest := []) (st1 := [vB r1]) C (mExtOK b) [vI 1, vI 1, vI 1] (c_m_isAhead l hq1) cl_RX12_478 m_s0 (by decide) rfl rfl rfl rfl ⟨Nat.le_of_ble_eq_true rfl, Nat.le_of_ble_eq_true rfl⟩ (Nat.le_of_ble_eq_true rfl) rfl rfl dX12_odds_29 ?_
    refine r_if_neB (pc := 32) (tgt := 37) C h dX12_odds_32 (by decide) (fun hc32 h => ?_) (fun hc32 h => ?_)
    · refine r_iload_n (pc := 37) C 1 rfl rfl dX12_odds_37 ?_
      refine r_iconst (pc := 38) C dX12_odds_38 ?_
      refine r_icmp_ne (pc := 39) (tgt := 55) C h dX12_odds_39 (by decide) (fun hc39 h => ?_) (fun hc39 h => ?_)
      · refine r_aload_n (pc := 55) C 0 rfl rfl dX12_odds_55 ?_
        refine r_iconst (pc := 56) C dX12_odds_56 ?_
        refine r_iconst (pc := 57) C dX12_odds_57 ?_
        obtain ⟨M2, hq2, h⟩ := bnd_inv h
        refine r_callV (pc := 58) (rest := []) (st1 := []) C (mExtOK b) [vI 1, vI 0] (c_m_copies l hq2) cl_RX12_396 m_s0 (by decide) rfl rfl rfl rfl ⟨Nat.le_of_ble_eq_true rfl, Nat.le_of_ble_eq_true rfl⟩ (Nat.le_of_ble_eq_true rfl) rfl rfl dX12_odds_58 ?_
        refine r_aload_n (pc := 61) C 0 rfl rfl dX12_odds_61 ?_
        refine r_iconst (pc := 62) C dX12_odds_62 ?_
        refine r_aload_n (pc := 63) C 0 rfl rfl dX12_odds_63 ?_
        obtain ⟨r3, hq3, h⟩ := bnd_inv h
        refine r_callV (pc := 64) (rest := [vI 1, vR b 0]) (st1 := [vI r3, vI 1, vR b 0]) C (mExtOK b) [] (c_m_all l hq3) cl_RX12_481 m_s0 (by decide) rfl rfl rfl rfl ⟨Nat.le_of_ble_eq_true rfl, Nat.le_of_ble_eq_true rfl⟩ (Nat.le_of_ble_eq_true rfl) rfl rfl dX12_odds_64 ?_
        obtain ⟨M4, hq4, h⟩ := bnd_inv h
        refine r_callV (pc := 67) (rest := []) (st1 := []) C (mExtOK b) [vI 1, vI r3] (c_m_ticks l hq4) cl_RX12_475 m_s0 (by decide) rfl rfl rfl rfl ⟨Nat.le_of_ble_eq_true rfl, Nat.le_of_ble_eq_true rfl⟩ (Nat.le_of_ble_eq_true rfl) rfl rfl dX12_odds_67 ?_
        refine r_aload_n (pc := 70) C 0 rfl rfl dX12_odds_70 ?_
        refine r_getR (pc := 71) C fl_RX12_159 m_s0 (by decide) m_k48 m_r48 dX12_odds_71 ?_
        refine r_bipush (pc := 74) (j := 12) C (by decide +kernel) dX12_odds_74 ?_
        refine r_iload_n (pc := 76) C 1 rfl rfl dX12_odds_76 ?_
        refine r_iadd (pc := 77) C dX12_odds_77 ?_
        obtain ⟨hi78, h⟩ := chk_inv h
        refine r_iald (pc := 78) C m_s29 (by decide) (by decide) hi78 rfl dX12_odds_78 ?_
        refine r_iconst (pc := 79) C dX12_odds_79 ?_
        refine r_icmp_ne (pc := 80) (tgt := 108) C h dX12_odds_80 (by decide) (fun hc80 h => ?_) (fun hc80 h => ?_)
        · refine r_iconst (pc := 108) C dX12_odds_108 ?_
          refine r_sub (lv' := [(0, vR b 0), (1, vI v1)]) [0, 1] rfl ?_
          exact w_m_odds_B109 C hr h
        · refine r_bipush (pc := 83) (j := 100) C (by decide +kernel) dX12_odds_83 ?_
          refine r_aload_n (pc := 85) C 0 rfl rfl dX12_odds_85 ?_
          refine r_getR (pc := 86) C fl_RX12_81 m_s0 (by decide) m_k23 m_r23 dX12_odds_86 ?_
          refine r_aload_n (pc := 89) C 0 rfl rfl dX12_odds_89 ?_
          refine r_getI (pc := 90) C fl_RX12_51 m_s0 (by decide) m_k13 dX12_odds_90 ?_
          obtain ⟨hi93, h⟩ := chk_inv h
          refine r_iald (pc := 93) C m_s11 (by decide) (by decide) hi93 rfl dX12_odds_93 ?_
          refine r_isub (pc := 94) C dX12_odds_94 ?_
          refine r_aload_n (pc := 95) C 0 rfl rfl dX12_odds_95 ?_
          refine r_getR (pc := 96) C fl_RX12_54 m_s0 (by decide) m_k14 m_r14 dX12_odds_96 ?_
          refine r_aload_n (pc := 99) C 0 rfl rfl dX12_odds_99 ?_
          refine r_getI (pc := 100) C fl_RX12_51 m_s0 (by decide) m_k13 dX12_odds_100 ?_
          obtain ⟨hi103, h⟩ := chk_inv h
          refine r_iald (pc := 103) C m_s2 (by decide) (by decide) hi103 rfl dX12_odds_103 ?_
          refine r_imul (pc := 104) C dX12_odds_104 ?_
          refine r_goto (pc := 105) (tgt := 109) C dX12_odds_105 (by decide) ?_
          refine r_sub (lv' := [(0, vR b 0), (1, vI v1)]) [0, 1] rfl ?_
          exact w_m_odds_B109 C hr h
      · refine r_bipush (pc := 42) (j := 100) C (by decide +kernel) dX12_odds_42 ?_
        refine r_aload_n (pc := 44) C 0 rfl rfl dX12_odds_44 ?_
        refine r_getR (pc := 45) C fl_RX12_54 m_s0 (by decide) m_k14 m_r14 dX12_odds_45 ?_
        refine r_aload_n (pc := 48) C 0 rfl rfl dX12_odds_48 ?_
        refine r_getI (pc := 49) C fl_RX12_51 m_s0 (by decide) m_k13 dX12_odds_49 ?_
        obtain ⟨hi52, h⟩ := chk_inv h
        refine r_iald (pc := 52) C m_s2 (by decide) (by decide) hi52 rfl dX12_odds_52 ?_
        refine r_imul (pc := 53) C dX12_odds_53 ?_
        have e := Option.some.inj h
        exact r_iret (pc := 54) C hr (congrArg (fun z => some (vI z)) (Prod.mk.inj e).1.symm) (Prod.mk.inj e).2.symm dX12_odds_54
    · refine r_iconst (pc := 35) C dX12_odds_35 ?_
      have e := Option.some.inj h
      exact r_iret (pc := 36) C hr (congrArg (fun z => some (vI z)) (Prod.mk.inj e).1.symm) (Prod.mk.inj e).2.symm dX12_odds_36
set_option maxHeartbeats 4000000 in
set_option maxRecDepth 20000 in
theorem c_m_odds (l : Launch) {x1 : Int} {M : Mem} {r0 : Int} {M0 : Mem} (h : m_odds x1 M = some (r0, M0)) : Ct l yX12_odds cX12_odds 4 (some .int) 7 161 vwCl mSh mN mRf mExt (fun b => [vR b 0, vI x1]) M (fun b => (some (vI r0))) M0 := by
  refine Ct_of mExtOK (by decide) (fun b => Nat.le_of_ble_eq_true rfl) ?_
  intro p e s m args below meth c D E b C hr
  unfold m_odds at h
  refine (show mWX p l e 7 161 s m args below meth c 4 D E b (some (vI r0)) M0 M 0 [(0, vR b 0), (1, vI x1)] [] from ?_)
  refine r_iload_n (pc := 0) C 1 rfl rfl dX12_odds_0 ?_
  refine r_iconst (pc := 1) C dX12_odds_1 ?_
  refine r_icmp_eq (pc := 2) (tgt := 13) C h dX12_odds_2 (by decide) (fun hc2 h => ?_) (fun hc2 h => ?_)
  · refine r_sub (lv' := [(0, vR b 0), (1, vI x1)]) [0, 1] rfl ?_
    exact w_m_odds_B13 C hr h
  · refine r_aload_n (pc := 5) C 0 rfl rfl dX12_odds_5 ?_
    refine r_iload_n (pc := 6) C 1 rfl rfl dX12_odds_6 ?_
    obtain ⟨r11, hq11, h⟩ := bnd_inv h
    refine r_callV (pc := 7) (rest := []) (st1 := [vB r11]) C (mExtOK b) [vI x1] (c_m_isSaying l hq11) cl_RX12_470 m_s0 (by decide) rfl rfl rfl rfl ⟨Nat.le_of_ble_eq_true rfl, Nat.le_of_ble_eq_true rfl⟩ (Nat.le_of_ble_eq_true rfl) rfl rfl dX12_odds_7 ?_
    refine r_if_eqB (pc := 10) (tgt := 35) C h dX12_odds_10 (by decide) (fun hc10 h => ?_) (fun hc10 h => ?_)
    · refine r_sub (lv' := [(0, vR b 0), (1, vI x1)]) [0, 1] rfl ?_
      exact w_m_odds_B13 C hr h
    · refine r_iconst (pc := 35) C dX12_odds_35 ?_
      have e := Option.some.inj h
      exact r_iret (pc := 36) C hr (congrArg (fun z => some (vI z)) (Prod.mk.inj e).1.symm) (Prod.mk.inj e).2.symm dX12_odds_36
set_option maxHeartbeats 4000000 in
set_option maxRecDepth 20000 in
theorem w_m_hear_L34_s (C : mCX p s m args meth c cX12_hear 4 RX12 D E b) (hr : meth.sig.returnType = (some .int)) {r0 : Int} {M0 : Mem} {v1 : Int} {M : Mem} {v2 : Int} {v3 : Int} {q : Int × Int} {rec : Int → Int → Option (Int × Int)} (hrec : ∀ (v2 : Int) (v3 : Int), rec v2 v3 = some q → mWX p l e 2 33 s m args below meth c 4 D E b (some (vI r0)) M0 M 34 [(0, vR b 0), (1, vI v1), (2, vI v2), (3, vI v3)] []) (hfol : ∀ (v2 : Int) (v3 : Int), q = (v2, v3) → mWX p l e 2 33 s m args below meth c 4 D E b (some (vI r0)) M0 M 110 [(0, vR b 0), (1, vI v1), (2, vI v2)] []) (h : m_hear_L34 v1 M rec v2 v3 = some q) :
    mWX p l e 2 33 s m args below meth c 4 D E b (some (vI r0)) M0 M 34 [(0, vR b 0), (1, vI v1), (2, vI v2), (3, vI v3)] [] := by
  unfold m_hear_L34 at h
  refine r_iload_n (pc := 34) C 3 rfl rfl dX12_hear_34 ?_
  refine r_iload_n (pc := 35) C 1 rfl rfl dX12_hear_35 ?_
  refine r_icmp_ge (pc := 36) (tgt := 110) C h dX12_hear_36 (by decide) (fun hc36 h => ?_) (fun hc36 h => ?_)
  · refine r_sub (lv' := [(0, vR b 0), (1, vI v1), (2, vI v2)]) [0, 1, 2] rfl ?_
    exact hfol _ _ (Option.some.inj h).symm
  · refine r_iload_n (pc := 39) C 2 rfl rfl dX12_hear_39 ?_
    refine r_if_eq (pc := 40) (tgt := 110) C h dX12_hear_40 (by decide) (fun hc40 h => ?_) (fun hc40 h => ?_)
    · refine r_sub (lv' := [(0, vR b 0), (1, vI v1), (2, vI v2)]) [0, 1, 2] rfl ?_
      exact hfol _ _ (Option.some.inj h).symm
    · refine r_aload_n (pc := 43) C 0 rfl rfl dX12_hear_43 ?_
      refine r_getR (pc := 44) C fl_RX12_7 m_s0 (by decide) m_k0 m_r0 dX12_hear_44 ?_
      refine r_iload_n (pc := 47) C 3 rfl rfl dX12_hear_47 ?_
      obtain ⟨hi48, h⟩ := chk_inv h
      refine r_iald (pc := 48) C m_s1 (by decide) (by decide) hi48 rfl dX12_hear_48 ?_
      refine r_bipush (pc := 49) (j := 30) C (by decide +kernel) dX12_hear_49 ?_
      refine r_icmp_gt (pc := 51) (tgt := 102) C h dX12_hear_51 (by decide) (fun hc51 h => ?_) (fun hc51 h => ?_)
      · refine r_iconst (pc := 102) C dX12_hear_102 ?_
        refine r_istore_n (pc := 103) (lv' := [(2, vI 0), (0, vR b 0), (1, vI v1), (3, vI v3)]) C rfl dX12_hear_103 (by decide) rfl ?_
        obtain ⟨v3_104, hv3_104, h⟩ := lt_inv h
        refine r_iincN (pc := 104) (y := v3_104) (lv' := [(3, vI v3_104), (2, vI 0), (0, vR b 0), (1, vI v1)]) C 3 rfl hv3_104 dX12_hear_104 (by decide) rfl ?_
        refine r_goto (pc := 107) (tgt := 34) C dX12_hear_107 (by decide) ?_
        refine r_sub (lv' := [(0, vR b 0), (1, vI v1), (2, vI 0), (3, vI v3_104)]) [2, 3, 1, 0] rfl ?_
        exact hrec _ _ h
      · refine r_aload_n (pc := 54) C 0 rfl rfl dX12_hear_54 ?_
        refine r_aload_n (pc := 55) C 0 rfl rfl dX12_hear_55 ?_
        refine r_getR (pc := 56) C fl_RX12_7 m_s0 (by decide) m_k0 m_r0 dX12_hear_56 ?_
        refine r_iload_n (pc := 59) C 3 rfl rfl dX12_hear_59 ?_
        refine r_iconst (pc := 60) C dX12_hear_60 ?_
        refine r_iadd (pc := 61) C dX12_hear_61 ?_
        obtain ⟨hi62, h⟩ := chk_inv h
        refine r_iald (pc := 62) C m_s1 (by decide) (by decide) hi62 rfl dX12_hear_62 ?_
        obtain ⟨r1, hq1, h⟩ := bnd_inv h
        refine r_callV (pc := 63) (rest := []) (st1 := [vB r1]) C (mExtOK b) [vI (M 1 (v3 + 1).toNat)] (c_m_isSaying l hq1) cl_RX12_470 m_s0 (by decide) rfl rfl rfl rfl ⟨Nat.le_of_ble_eq_true rfl, Nat.le_of_ble_eq_true rfl⟩ (Nat.le_of_ble_eq_true rfl) rfl rfl dX12_hear_63 ?_
        refine r_if_eqB (pc := 66) (tgt := 102) C h dX12_hear_66 (by decide) (fun hc66 h => ?_) (fun hc66 h => ?_)
        · refine r_aload_n (pc := 69) C 0 rfl rfl dX12_hear_69 ?_
          refine r_aload_n (pc := 70) C 0 rfl rfl dX12_hear_70 ?_
          refine r_getR (pc := 71) C fl_RX12_7 m_s0 (by decide) m_k0 m_r0 dX12_hear_71 ?_
          refine r_iload_n (pc := 74) C 3 rfl rfl dX12_hear_74 ?_
          refine r_iconst (pc := 75) C dX12_hear_75 ?_
          refine r_iadd (pc := 76) C dX12_hear_76 ?_
          obtain ⟨hi77, h⟩ := chk_inv h
          refine r_iald (pc := 77) C m_s1 (by decide) (by decide) hi77 rfl dX12_hear_77 ?_
          obtain ⟨r2, hq2, h⟩ := bnd_inv h
          refine r_callV (pc := 78) (rest := []) (st1 := [vB r2]) C (mExtOK b) [vI (M 1 (v3 + 2).toNat)] (c_m_isVoice l hq2) cl_RX12_462 m_s0 (by decide) rfl rfl rfl rfl ⟨Nat.le_of_ble_eq_true rfl, Nat.le_of_ble_eq_true rfl⟩ (Nat.le_of_ble_eq_true rfl) rfl rfl dX12_hear_78 ?_
          refine r_if_neB (pc := 81) (tgt := 98) C h dX12_hear_81 (by decide) (fun hc81 h => ?_) (fun hc81 h => ?_)
          · refine r_iconst (pc := 98) C dX12_hear_98 ?_
            refine r_goto (pc := 99) (tgt := 103) C dX12_hear_99 (by decide) ?_
            refine r_istore_n (pc := 103) (lv' := [(2, vI 1), (0, vR b 0), (1, vI v1), (3, vI v3)]) C rfl dX12_hear_103 (by decide) rfl ?_
            obtain ⟨v3_104, hv3_104, h⟩ := lt_inv h
            refine r_iincN (pc := 104) (y := v3_104) (lv' := [(3, vI v3_104), (2, vI 1), (0, vR b 0), (1, vI v1)]) C 3 rfl hv3_104 dX12_hear_104 (by decide) rfl ?_
            refine r_goto (pc := 107) (tgt := 34) C dX12_hear_107 (by decide) ?_
            refine r_sub (lv' := [(0, vR b 0), (1, vI v1), (2, vI 1), (3, vI v3_104)]) [2, 3, 1, 0] rfl ?_
            exact hrec _ _ h
          · refine r_aload_n (pc := 84) C 0 rfl rfl dX12_hear_84 ?_
            refine r_getR (pc := 85) C fl_RX12_7 m_s0 (by decide) m_k0 m_r0 dX12_hear_85 ?_
            refine r_iload_n (pc := 88) C 3 rfl rfl dX12_hear_88 ?_
            refine r_iconst (pc := 89) C dX12_hear_89 ?_
            refine r_iadd (pc := 90) C dX12_hear_90 ?_
            obtain ⟨hi91, h⟩ := chk_inv h
            refine r_iald (pc := 91) C m_s1 (by decide) (by decide) hi91 rfl dX12_hear_91 ?_
            refine r_sipush (pc := 92) (j := 255) C (by decide +kernel) dX12_hear_92 ?_
            refine r_icmp_ne (pc := 95) (tgt := 102) C h dX12_hear_95 (by decide) (fun hc95 h => ?_) (fun hc95 h => ?_)
            · refine r_iconst (pc := 102) C dX12_hear_102 ?_
              refine r_istore_n (pc := 103) (lv' := [(2, vI 0), (0, vR b 0), (1, vI v1), (3, vI v3)]) C rfl dX12_hear_103 (by decide) rfl ?_
              obtain ⟨v3_104, hv3_104, h⟩ := lt_inv h
              refine r_iincN (pc := 104) (y := v3_104) (lv' := [(3, vI v3_104), (2, vI 0), (0, vR b 0), (1, vI v1)]) C 3 rfl hv3_104 dX12_hear_104 (by decide) rfl ?_
              refine r_goto (pc := 107) (tgt := 34) C dX12_hear_107 (by decide) ?_
              refine r_sub (lv' := [(0, vR b 0), (1, vI v1), (2, vI 0), (3, vI v3_104)]) [2, 3, 1, 0] rfl ?_
              exact hrec _ _ h
            · refine r_iconst (pc := 98) C dX12_hear_98 ?_
              refine r_goto (pc := 99) (tgt := 103) C dX12_hear_99 (by decide) ?_
              refine r_istore_n (pc := 103) (lv' := [(2, vI 1), (0, vR b 0), (1, vI v1), (3, vI v3)]) C rfl dX12_hear_103 (by decide) rfl ?_
              obtain ⟨v3_104, hv3_104, h⟩ := lt_inv h
              refine r_iincN (pc := 104) (y := v3_104) (lv' := [(3, vI v3_104), (2, vI 1), (0, vR b 0), (1, vI v1)]) C 3 rfl hv3_104 dX12_hear_104 (by decide) rfl ?_
              refine r_goto (pc := 107) (tgt := 34) C dX12_hear_107 (by decide) ?_
              refine r_sub (lv' := [(0, vR b 0), (1, vI v1), (2, vI 1), (3, vI v3_104)]) [2, 3, 1, 0] rfl ?_
              exact hrec _ _ h
        · refine r_iconst (pc := 102) C dX12_hear_102 ?_
          refine r_istore_n (pc := 103) (lv' := [(2, vI 0), (0, vR b 0), (1, vI v1), (3, vI v3)]) C rfl dX12_hear_103 (by decide) rfl ?_
          obtain ⟨v3_104, hv3_104, h⟩ := lt_inv h
          refine r_iincN (pc := 104) (y := v3_104) (lv' := [(3, vI v3_104), (2, vI 0), (0, vR b 0), (1, vI v1)]) C 3 rfl hv3_104 dX12_hear_104 (by decide) rfl ?_
          refine r_goto (pc := 107) (tgt := 34) C dX12_hear_107 (by decide) ?_
          refine r_sub (lv' := [(0, vR b 0), (1, vI v1), (2, vI 0), (3, vI v3_104)]) [2, 3, 1, 0] rfl ?_
          exact hrec _ _ h
set_option maxHeartbeats 4000000 in
theorem w_m_hear_L34 (C : mCX p s m args meth c cX12_hear 4 RX12 D E b) (hr : meth.sig.returnType = (some .int)) {r0 : Int} {M0 : Mem} {v1 : Int} {M : Mem} {q : Int × Int} (hfol : ∀ (v2 : Int) (v3 : Int), q = (v2, v3) → mWX p l e 2 33 s m args below meth c 4 D E b (some (vI r0)) M0 M 110 [(0, vR b 0), (1, vI v1), (2, vI v2)] []) : ∀ (n : Nat) (v2 : Int) (v3 : Int), itr2 (m_hear_L34 v1 M) n v2 v3 = some q →
    mWX p l e 2 33 s m args below meth c 4 D E b (some (vI r0)) M0 M 34 [(0, vR b 0), (1, vI v1), (2, vI v2), (3, vI v3)] [] := by
  intro n
  induction n with
  | zero => exact fun _ _ h => itr_z h
  | succ n ih => exact fun _ _ h => w_m_hear_L34_s C hr ih hfol h
set_option maxHeartbeats 4000000 in
set_option maxRecDepth 20000 in
theorem w_m_hear_L129_s (C : mCX p s m args meth c cX12_hear 4 RX12 D E b) (hr : meth.sig.returnType = (some .int)) {r0 : Int} {M0 : Mem} {v3 : Int} {M : Mem} {q : Int × Mem} {rec : Int → Mem → Option (Int × Mem)} (hrec : ∀ (v3 : Int) (M : Mem), rec v3 M = some q → mWX p l e 2 33 s m args below meth c 4 D E b (some (vI r0)) M0 M 129 [(0, vR b 0), (3, vI v3)] []) (hfol : ∀ (v3 : Int) (M : Mem), q = (v3, M) → mWX p l e 2 33 s m args below meth c 4 D E b (some (vI r0)) M0 M 209 [(0, vR b 0)] []) (h : m_hear_L129 rec v3 M = some q) :
    mWX p l e 2 33 s m args below meth c 4 D E b (some (vI r0)) M0 M 129 [(0, vR b 0), (3, vI v3)] [] := by
  unfold m_hear_L129 at h
  refine r_iload_n (pc := 129) C 1 rfl rfl dX12_hear_129 ?_
  refine r_aload_n (pc := 130) C 0 rfl rfl dX12_hear_130 ?_
  refine r_getI (pc := 131) C fl_RX12_204 m_s0 (by decide) m_k63 dX12_hear_131 ?_
  refine r_icmp_ge (pc := 134) (tgt := 209) C h dX12_hear_134 (by decide) (fun hc134 h => ?_) (fun hc134 h => ?_)
  · refine r_sub (lv' := [(0, vR b 0)]) [0] rfl ?_
    exact hfol _ _ (Option.some.inj h).symm
  · refine r_aload_n (pc := 137) C 0 rfl rfl dX12_hear_137 ?_
    refine r_getR (pc := 138) C fl_RX12_207 m_s0 (by decide) m_k64 m_r64 dX12_hear_138 ?_
    refine r_iload_n (pc := 141) C 1 rfl rfl dX12_hear_141 ?_
    refine r_aload_n (pc := 142) C 0 rfl rfl dX12_hear_142 ?_
    refine r_getR (pc := 143) C fl_RX12_7 m_s0 (by decide) m_k0 m_r0 dX12_hear_143 ?_
    refine r_iconst (pc := 146) C dX12_hear_146 ?_
    refine r_iload_n (pc := 147) C 1 rfl rfl dX12_hear_147 ?_
    refine r_imul (pc := 148) C dX12_hear_148 ?_
    obtain ⟨hi149, h⟩ := chk_inv h
    refine r_iald (pc := 149) C m_s1 (by decide) (by decide) hi149 rfl dX12_hear_149 ?_
    obtain ⟨hi150, h⟩ := chk_inv h
    obtain ⟨M_150, hM_150, h⟩ := lt_inv h
    refine r_iast (pc := 150) C m_s41 (by decide) (by decide) hi150 rfl hM_150 dX12_hear_150 ?_
    refine r_aload_n (pc := 151) C 0 rfl rfl dX12_hear_151 ?_
    refine r_getR (pc := 152) C fl_RX12_210 m_s0 (by decide) m_k65 m_r65 dX12_hear_152 ?_
    refine r_iload_n (pc := 155) C 1 rfl rfl dX12_hear_155 ?_
    refine r_aload_n (pc := 156) C 0 rfl rfl dX12_hear_156 ?_
    refine r_getR (pc := 157) C fl_RX12_7 m_s0 (by decide) m_k0 m_r0 dX12_hear_157 ?_
    refine r_iconst (pc := 160) C dX12_hear_160 ?_
    refine r_iload_n (pc := 161) C 1 rfl rfl dX12_hear_161 ?_
    refine r_imul (pc := 162) C dX12_hear_162 ?_
    refine r_iconst (pc := 163) C dX12_hear_163 ?_
    refine r_iadd (pc := 164) C dX12_hear_164 ?_
    obtain ⟨hi165, h⟩ := chk_inv h
    refine r_iald (pc := 165) C m_s1 (by decide) (by decide) hi165 rfl dX12_hear_165 ?_
    obtain ⟨hi166, h⟩ := chk_inv h
    obtain ⟨M_166, hM_166, h⟩ := lt_inv h
    refine r_iast (pc := 166) C m_s42 (by decide) (by decide) hi166 rfl hM_166 dX12_hear_166 ?_
    refine r_aload_n (pc := 167) C 0 rfl rfl dX12_hear_167 ?_
    refine r_getR (pc := 168) C fl_RX12_213 m_s0 (by decide) m_k66 m_r66 dX12_hear_168 ?_
    refine r_iload_n (pc := 171) C 1 rfl rfl dX12_hear_171 ?_
    refine r_aload_n (pc := 172) C 0 rfl rfl dX12_hear_172 ?_
    refine r_getR (pc := 173) C fl_RX12_7 m_s0 (by decide) m_k0 m_r0 dX12_hear_173 ?_
    refine r_iconst (pc := 176) C dX12_hear_176 ?_
    refine r_iload_n (pc := 177) C 1 rfl rfl dX12_hear_177 ?_
    refine r_imul (pc := 178) C dX12_hear_178 ?_
    refine r_iconst (pc := 179) C dX12_hear_179 ?_
    refine r_iadd (pc := 180) C dX12_hear_180 ?_
    obtain ⟨hi181, h⟩ := chk_inv h
    refine r_iald (pc := 181) C m_s1 (by decide) (by decide) hi181 rfl dX12_hear_181 ?_
    refine r_sipush (pc := 182) (j := 255) C (by decide +kernel) dX12_hear_182 ?_
    refine r_icmp_ne (pc := 185) (tgt := 192) C h dX12_hear_185 (by decide) (fun hc185 h => ?_) (fun hc185 h => ?_)
    · refine r_aload_n (pc := 192) C 0 rfl rfl dX12_hear_192 ?_
      refine r_getR (pc := 193) C fl_RX12_7 m_s0 (by decide) m_k0 m_r0 dX12_hear_193 ?_
      refine r_iconst (pc := 196) C dX12_hear_196 ?_
      refine r_iload_n (pc := 197) C 1 rfl rfl dX12_hear_197 ?_
      refine r_imul (pc := 198) C dX12_hear_198 ?_
      refine r_iconst (pc := 199) C dX12_hear_199 ?_
      refine r_iadd (pc := 200) C dX12_hear_200 ?_
      obtain ⟨hi201, h⟩ := chk_inv h
      refine r_iald (pc := 201) C m_s1 (by decide) (by decide) hi201 rfl dX12_hear_201 ?_
      obtain ⟨hi202, h⟩ := chk_inv h
      obtain ⟨M_202, hM_202, h⟩ := lt_inv h
      refine r_iast (pc := 202) C m_s43 (by decide) (by decide) hi202 rfl hM_202 dX12_hear_202 ?_
      obtain ⟨v3_203, hv3_203, h⟩ := lt_inv h
      refine r_iincN (pc := 203) (y := v3_203) (lv' := [(3, vI v3_203), (0, vR b 0)]) C 1 rfl hv3_203 dX12_hear_203 (by decide) rfl ?_
      refine r_goto (pc := 206) (tgt := 129) C dX12_hear_206 (by decide) ?_
      refine r_sub (lv' := [(0, vR b 0), (3, vI v3_203)]) [1, 0] rfl ?_
      exact hrec _ _ h
    · refine r_iconst (pc := 188) C dX12_hear_188 ?_
      refine r_goto (pc := 189) (tgt := 202) C dX12_hear_189 (by decide) ?_
      obtain ⟨hi202, h⟩ := chk_inv h
      obtain ⟨M_202, hM_202, h⟩ := lt_inv h
      refine r_iast (pc := 202) C m_s43 (by decide) (by decide) hi202 rfl hM_202 dX12_hear_202 ?_
      obtain ⟨v3_203, hv3_203, h⟩ := lt_inv h
      refine r_iincN (pc := 203) (y := v3_203) (lv' := [(3, vI v3_203), (0, vR b 0)]) C 1 rfl hv3_203 dX12_hear_203 (by decide) rfl ?_
      refine r_goto (pc := 206) (tgt := 129) C dX12_hear_206 (by decide) ?_
      refine r_sub (lv' := [(0, vR b 0), (3, vI v3_203)]) [1, 0] rfl ?_
      exact hrec _ _ h
set_option maxHeartbeats 4000000 in
theorem w_m_hear_L129 (C : mCX p s m args meth c cX12_hear 4 RX12 D E b) (hr : meth.sig.returnType = (some .int)) {r0 : Int} {M0 : Mem} {q : Int × Mem} (hfol : ∀ (v3 : Int) (M : Mem), q = (v3, M) → mWX p l e 2 33 s m args below meth c 4 D E b (some (vI r0)) M0 M 209 [(0, vR b 0)] []) : ∀ (n : Nat) (v3 : Int) (M : Mem), itr2 (m_hear_L129) n v3 M = some q →
    mWX p l e 2 33 s m args below meth c 4 D E b (some (vI r0)) M0 M 129 [(0, vR b 0), (3, vI v3)] [] := by
  intro n
  induction n with
  | zero => exact fun _ _ h => itr_z h
  | succ n ih => exact fun _ _ h => w_m_hear_L129_s C hr ih hfol h
set_option maxHeartbeats 4000000 in
set_option maxRecDepth 20000 in
theorem w_m_hear_B31 (C : mCX p s m args meth c cX12_hear 4 RX12 D E b) (hr : meth.sig.returnType = (some .int)) {r0 : Int} {M0 : Mem} {M : Mem} {v1 : Int} {s0 : Int} (h : m_hear_B31 v1 s0 M = some (r0, M0)) :
    mWX p l e 2 33 s m args below meth c 4 D E b (some (vI r0)) M0 M 31 [(0, vR b 0), (1, vI v1)] [vI s0] := by
  unfold m_hear_B31 at h
  refine r_istore_n (pc := 31) (lv' := [(2, vI s0), (0, vR b 0), (1, vI v1)]) C rfl dX12_hear_31 (by decide) rfl ?_
  refine r_iconst (pc := 32) C dX12_hear_32 ?_
  refine r_istore_n (pc := 33) (lv' := [(3, vI 0), (2, vI s0), (0, vR b 0), (1, vI v1)]) C rfl dX12_hear_33 (by decide) rfl ?_
  refine r_sub (lv' := [(0, vR b 0), (1, vI v1), (2, vI s0), (3, vI 0)]) [2, 3, 1, 0] rfl ?_
  obtain ⟨q3, hl3, h⟩ := bnd_inv h
  refine w_m_hear_L34 C hr (fun v2_3 v3_3 hq => ?_) FUEL _ _ hl3
  have hq := hq.symm
  subst hq
  refine r_iload_n (pc := 110) C 2 rfl rfl dX12_hear_110 ?_
  refine r_if_ne (pc := 111) (tgt := 120) C h dX12_hear_111 (by decide) (fun hc111 h => ?_) (fun hc111 h => ?_)
  · refine r_aload_n (pc := 120) C 0 rfl rfl dX12_hear_120 ?_
    refine r_iload_n (pc := 121) C 1 rfl rfl dX12_hear_121 ?_
    refine r_iconst (pc := 122) C dX12_hear_122 ?_
    obtain ⟨hz123, h⟩ := chk_inv h
    refine r_idiv (pc := 123) C hz123 dX12_hear_123 ?_
    obtain ⟨M_124, hM_124, h⟩ := lt_inv h
    refine r_putI (pc := 124) C fl_RX12_204 mw_ft m_w63 m_s0 (by decide) m_k63 hM_124 dX12_hear_124 ?_
    refine r_iconst (pc := 127) C dX12_hear_127 ?_
    refine r_istore_n (pc := 128) (lv' := [(3, vI 0), (0, vR b 0), (1, vI v1), (2, vI v2_3)]) C rfl dX12_hear_128 (by decide) rfl ?_
    refine r_sub (lv' := [(0, vR b 0), (3, vI 0)]) [1, 0] rfl ?_
    obtain ⟨q4, hl4, h⟩ := bnd_inv h
    refine w_m_hear_L129 C hr (fun v3_4 M_4 hq => ?_) FUEL _ _ hl4
    have hq := hq.symm
    subst hq
    refine r_aload_n (pc := 209) C 0 rfl rfl dX12_hear_209 ?_
    refine r_getI (pc := 210) C fl_RX12_204 m_s0 (by decide) m_k63 dX12_hear_210 ?_
    have e := Option.some.inj h
    exact r_iret (pc := 213) C hr (congrArg (fun z => some (vI z)) (Prod.mk.inj e).1.symm) (Prod.mk.inj e).2.symm dX12_hear_213
  · refine r_aload_n (pc := 114) C 0 rfl rfl dX12_hear_114 ?_
    refine r_iconst (pc := 115) C dX12_hear_115 ?_
    obtain ⟨r5, M5, hq5, h⟩ := bnd2_inv h
    refine r_callV (pc := 116) (rest := []) (st1 := [vI r5]) C (mExtOK b) [vI 5] (c_m_refuses l hq5) cl_RX12_225 m_s0 (by decide) rfl rfl rfl rfl ⟨Nat.le_of_ble_eq_true rfl, Nat.le_of_ble_eq_true rfl⟩ (Nat.le_of_ble_eq_true rfl) rfl rfl dX12_hear_116 ?_
    have e := Option.some.inj h
    exact r_iret (pc := 119) C hr (congrArg (fun z => some (vI z)) (Prod.mk.inj e).1.symm) (Prod.mk.inj e).2.symm dX12_hear_119
set_option maxHeartbeats 4000000 in
set_option maxRecDepth 20000 in
theorem w_m_hear_B30 (C : mCX p s m args meth c cX12_hear 4 RX12 D E b) (hr : meth.sig.returnType = (some .int)) {r0 : Int} {M0 : Mem} {M : Mem} {v1 : Int} (h : m_hear_B30 v1 M = some (r0, M0)) :
    mWX p l e 2 33 s m args below meth c 4 D E b (some (vI r0)) M0 M 30 [(0, vR b 0), (1, vI v1)] [] := by
  unfold m_hear_B30 at h
  refine r_iconst (pc := 30) C dX12_hear_30 ?_
  refine r_sub (lv' := [(0, vR b 0), (1, vI v1)]) [0, 1] rfl ?_
  exact w_m_hear_B31 C hr h
set_option maxHeartbeats 4000000 in
set_option maxRecDepth 20000 in
theorem c_m_hear (l : Launch) {M : Mem} {r0 : Int} {M0 : Mem} (h : m_hear M = some (r0, M0)) : Ct l yX12_hear cX12_hear 4 (some .int) 2 33 vwCl mSh mN mRf mExt (fun b => [vR b 0]) M (fun b => (some (vI r0))) M0 := by
  refine Ct_of mExtOK (by decide) (fun b => Nat.le_of_ble_eq_true rfl) ?_
  intro p e s m args below meth c D E b C hr
  unfold m_hear at h
  refine (show mWX p l e 2 33 s m args below meth c 4 D E b (some (vI r0)) M0 M 0 [(0, vR b 0)] [] from ?_)
  refine r_aload_n (pc := 0) C 0 rfl rfl dX12_hear_0 ?_
  refine r_getI (pc := 1) C fl_RX12_13 m_s0 (by decide) m_k1 dX12_hear_1 ?_
  obtain ⟨v1_4, hv1_4, h⟩ := lt_inv h
  refine r_topI hv1_4 ?_
  refine r_istore_n (pc := 4) (lv' := [(1, vI v1_4), (0, vR b 0)]) C rfl dX12_hear_4 (by decide) rfl ?_
  refine r_aload_n (pc := 5) C 1 rfl rfl dX12_hear_5 ?_
  refine r_iconst (pc := 6) C dX12_hear_6 ?_
  obtain ⟨M_7, hM_7, h⟩ := lt_inv h
  refine r_putI (pc := 7) C fl_RX12_13 mw_ft m_w1 m_s0 (by decide) m_k1 hM_7 dX12_hear_7 ?_
  refine r_iload_n (pc := 10) C 0 rfl rfl dX12_hear_10 ?_
  refine r_if_le (pc := 11) (tgt := 30) C h dX12_hear_11 (by decide) (fun hc11 h => ?_) (fun hc11 h => ?_)
  · refine r_sub (lv' := [(0, vR b 0), (1, vI v1_4)]) [1, 0] rfl ?_
    exact w_m_hear_B30 C hr h
  · refine r_iload_n (pc := 14) C 0 rfl rfl dX12_hear_14 ?_
    refine r_iconst (pc := 15) C dX12_hear_15 ?_
    obtain ⟨hz16, h⟩ := chk_inv h
    refine r_irem (pc := 16) C hz16 dX12_hear_16 ?_
    refine r_if_ne (pc := 17) (tgt := 30) C h dX12_hear_17 (by decide) (fun hc17 h => ?_) (fun hc17 h => ?_)
    · refine r_sub (lv' := [(0, vR b 0), (1, vI v1_4)]) [1, 0] rfl ?_
      exact w_m_hear_B30 C hr h
    · refine r_iload_n (pc := 20) C 0 rfl rfl dX12_hear_20 ?_
      refine r_bipush (pc := 21) (j := 48) C (by decide +kernel) dX12_hear_21 ?_
      refine r_icmp_gt (pc := 23) (tgt := 30) C h dX12_hear_23 (by decide) (fun hc23 h => ?_) (fun hc23 h => ?_)
      · refine r_sub (lv' := [(0, vR b 0), (1, vI v1_4)]) [1, 0] rfl ?_
        exact w_m_hear_B30 C hr h
      · refine r_iconst (pc := 26) C dX12_hear_26 ?_
        refine r_goto (pc := 27) (tgt := 31) C dX12_hear_27 (by decide) ?_
        refine r_sub (lv' := [(0, vR b 0), (1, vI v1_4)]) [1, 0] rfl ?_
        exact w_m_hear_B31 C hr h
set_option maxHeartbeats 4000000 in
set_option maxRecDepth 20000 in
theorem w_m_pitchBits_L58_s (C : mCX p s m args meth c cX12_pitchBits 7 RX12 D E b) (hr : meth.sig.returnType = (some .int)) {r0 : Int} {M0 : Mem} {v1 : Int} {v2 : Int} {v3 : Int} {v4 : Int} {v5 : Int} {v6 : Int} {M : Mem} {q : Int × Mem} {rec : Int → Mem → Option (Int × Mem)} (hrec : ∀ (v6 : Int) (M : Mem), rec v6 M = some q → mWX p l e 7 161 s m args below meth c 7 D E b (some (vI r0)) M0 M 58 [(0, vR b 0), (1, vI v1), (2, vI v2), (3, vI v3), (4, vI v4), (5, vI v5), (6, vI v6)] []) (hfol : ∀ (v6 : Int) (M : Mem), q = (v6, M) → mWX p l e 7 161 s m args below meth c 7 D E b (some (vI r0)) M0 M 103 [(0, vR b 0), (1, vI v1), (2, vI v2), (3, vI v3), (4, vI v4), (5, vI v5)] []) (h : m_pitchBits_L58 v1 v2 v3 v4 v5 rec v6 M = some q) :
    mWX p l e 7 161 s m args below meth c 7 D E b (some (vI r0)) M0 M 58 [(0, vR b 0), (1, vI v1), (2, vI v2), (3, vI v3), (4, vI v4), (5, vI v5), (6, vI v6)] [] := by
  unfold m_pitchBits_L58 at h
  refine r_iload (pc := 58) C 6 rfl dX12_pitchBits_58 ?_
  refine r_aload_n (pc := 60) C 0 rfl rfl dX12_pitchBits_60 ?_
  refine r_getR (pc := 61) C fl_RX12_69 m_s0 (by decide) m_k19 m_r19 dX12_pitchBits_61 ?_
  refine r_aload_n (pc := 64) C 0 rfl rfl dX12_pitchBits_64 ?_
  refine r_getI (pc := 65) C fl_RX12_51 m_s0 (by decide) m_k13 dX12_pitchBits_65 ?_
  obtain ⟨hi68, h⟩ := chk_inv h
  refine r_iald (pc := 68) C m_s7 (by decide) (by decide) hi68 rfl dX12_pitchBits_68 ?_
  refine r_icmp_ge (pc := 69) (tgt := 103) C h dX12_pitchBits_69 (by decide) (fun hc69 h => ?_) (fun hc69 h => ?_)
  · refine r_sub (lv' := [(0, vR b 0), (1, vI v1), (2, vI v2), (3, vI v3), (4, vI v4), (5, vI v5)]) [0, 1, 2, 3, 4, 5] rfl ?_
    exact hfol _ _ (Option.some.inj h).symm
  · refine r_aload_n (pc := 72) C 0 rfl rfl dX12_pitchBits_72 ?_
    refine r_getR (pc := 73) C fl_RX12_216 m_s0 (by decide) m_k67 m_r67 dX12_pitchBits_73 ?_
    refine r_bipush (pc := 76) (j := 12) C (by decide +kernel) dX12_pitchBits_76 ?_
    refine r_bipush (pc := 78) (j := 31) C (by decide +kernel) dX12_pitchBits_78 ?_
    refine r_iload_n (pc := 80) C 3 rfl rfl dX12_pitchBits_80 ?_
    refine r_imul (pc := 81) C dX12_pitchBits_81 ?_
    refine r_iload (pc := 82) C 5 rfl dX12_pitchBits_82 ?_
    refine r_iadd (pc := 84) C dX12_pitchBits_84 ?_
    refine r_imul (pc := 85) C dX12_pitchBits_85 ?_
    refine r_iload (pc := 86) C 6 rfl dX12_pitchBits_86 ?_
    refine r_iadd (pc := 88) C dX12_pitchBits_88 ?_
    refine r_aload_n (pc := 89) C 0 rfl rfl dX12_pitchBits_89 ?_
    refine r_getR (pc := 90) C fl_RX12_198 m_s0 (by decide) m_k61 m_r61 dX12_pitchBits_90 ?_
    refine r_iload (pc := 93) C 6 rfl dX12_pitchBits_93 ?_
    obtain ⟨hi95, h⟩ := chk_inv h
    refine r_iald (pc := 95) C m_s39 (by decide) (by decide) hi95 rfl dX12_pitchBits_95 ?_
    obtain ⟨hi96, h⟩ := chk_inv h
    obtain ⟨M_96, hM_96, h⟩ := lt_inv h
    refine r_iast (pc := 96) C m_s44 (by decide) (by decide) hi96 rfl hM_96 dX12_pitchBits_96 ?_
    obtain ⟨v6_97, hv6_97, h⟩ := lt_inv h
    refine r_iincN (pc := 97) (y := v6_97) (lv' := [(6, vI v6_97), (0, vR b 0), (1, vI v1), (2, vI v2), (3, vI v3), (4, vI v4), (5, vI v5)]) C 6 rfl hv6_97 dX12_pitchBits_97 (by decide) rfl ?_
    refine r_goto (pc := 100) (tgt := 58) C dX12_pitchBits_100 (by decide) ?_
    refine r_sub (lv' := [(0, vR b 0), (1, vI v1), (2, vI v2), (3, vI v3), (4, vI v4), (5, vI v5), (6, vI v6_97)]) [1, 2, 3, 4, 5, 6, 0] rfl ?_
    exact hrec _ _ h
set_option maxHeartbeats 4000000 in
theorem w_m_pitchBits_L58 (C : mCX p s m args meth c cX12_pitchBits 7 RX12 D E b) (hr : meth.sig.returnType = (some .int)) {r0 : Int} {M0 : Mem} {v1 : Int} {v2 : Int} {v3 : Int} {v4 : Int} {v5 : Int} {q : Int × Mem} (hfol : ∀ (v6 : Int) (M : Mem), q = (v6, M) → mWX p l e 7 161 s m args below meth c 7 D E b (some (vI r0)) M0 M 103 [(0, vR b 0), (1, vI v1), (2, vI v2), (3, vI v3), (4, vI v4), (5, vI v5)] []) : ∀ (n : Nat) (v6 : Int) (M : Mem), itr2 (m_pitchBits_L58 v1 v2 v3 v4 v5) n v6 M = some q →
    mWX p l e 7 161 s m args below meth c 7 D E b (some (vI r0)) M0 M 58 [(0, vR b 0), (1, vI v1), (2, vI v2), (3, vI v3), (4, vI v4), (5, vI v5), (6, vI v6)] [] := by
  intro n
  induction n with
  | zero => exact fun _ _ h => itr_z h
  | succ n ih => exact fun _ _ h => w_m_pitchBits_L58_s C hr ih hfol h
set_option maxHeartbeats 4000000 in
set_option maxRecDepth 20000 in
theorem w_m_pitchBits_L106_s (C : mCX p s m args meth c cX12_pitchBits 7 RX12 D E b) (hr : meth.sig.returnType = (some .int)) {r0 : Int} {M0 : Mem} {v1 : Int} {v2 : Int} {v3 : Int} {v5 : Int} {M : Mem} {v4 : Int} {v6 : Int} {q : Int × Int} {rec : Int → Int → Option (Int × Int)} (hrec : ∀ (v4 : Int) (v6 : Int), rec v4 v6 = some q → mWX p l e 7 161 s m args below meth c 7 D E b (some (vI r0)) M0 M 106 [(0, vR b 0), (1, vI v1), (2, vI v2), (3, vI v3), (4, vI v4), (5, vI v5), (6, vI v6)] []) (hfol : ∀ (v4 : Int) (v6 : Int), q = (v4, v6) → mWX p l e 7 161 s m args below meth c 7 D E b (some (vI r0)) M0 M 165 [(0, vR b 0), (1, vI v1), (2, vI v2), (3, vI v3), (4, vI v4), (5, vI v5)] []) (h : m_pitchBits_L106 v1 v2 v3 v5 M rec v4 v6 = some q) :
    mWX p l e 7 161 s m args below meth c 7 D E b (some (vI r0)) M0 M 106 [(0, vR b 0), (1, vI v1), (2, vI v2), (3, vI v3), (4, vI v4), (5, vI v5), (6, vI v6)] [] := by
  unfold m_pitchBits_L106 at h
  refine r_iload (pc := 106) C 6 rfl dX12_pitchBits_106 ?_
  refine r_aload_n (pc := 108) C 0 rfl rfl dX12_pitchBits_108 ?_
  refine r_getI (pc := 109) C fl_RX12_204 m_s0 (by decide) m_k63 dX12_pitchBits_109 ?_
  refine r_icmp_ge (pc := 112) (tgt := 165) C h dX12_pitchBits_112 (by decide) (fun hc112 h => ?_) (fun hc112 h => ?_)
  · refine r_sub (lv' := [(0, vR b 0), (1, vI v1), (2, vI v2), (3, vI v3), (4, vI v4), (5, vI v5)]) [0, 1, 2, 3, 4, 5] rfl ?_
    exact hfol _ _ (Option.some.inj h).symm
  · refine r_iload (pc := 115) C 4 rfl dX12_pitchBits_115 ?_
    refine r_aload_n (pc := 117) C 0 rfl rfl dX12_pitchBits_117 ?_
    refine r_getR (pc := 118) C fl_RX12_207 m_s0 (by decide) m_k64 m_r64 dX12_pitchBits_118 ?_
    refine r_iload (pc := 121) C 6 rfl dX12_pitchBits_121 ?_
    obtain ⟨hi123, h⟩ := chk_inv h
    refine r_iald (pc := 123) C m_s41 (by decide) (by decide) hi123 rfl dX12_pitchBits_123 ?_
    refine r_iload (pc := 124) C 5 rfl dX12_pitchBits_124 ?_
    refine r_icmp_ne (pc := 126) (tgt := 155) C h dX12_pitchBits_126 (by decide) (fun hc126 h => ?_) (fun hc126 h => ?_)
    · refine r_iconst (pc := 155) C dX12_pitchBits_155 ?_
      refine r_iadd (pc := 156) C dX12_pitchBits_156 ?_
      obtain ⟨v4_157, hv4_157, h⟩ := lt_inv h
      refine r_topI hv4_157 ?_
      refine r_istore (pc := 157) (lv' := [(4, vI v4_157), (0, vR b 0), (1, vI v1), (2, vI v2), (3, vI v3), (5, vI v5), (6, vI v6)]) C dX12_pitchBits_157 (by decide) rfl ?_
      obtain ⟨v6_159, hv6_159, h⟩ := lt_inv h
      refine r_iincN (pc := 159) (y := v6_159) (lv' := [(6, vI v6_159), (4, vI v4_157), (0, vR b 0), (1, vI v1), (2, vI v2), (3, vI v3), (5, vI v5)]) C 6 rfl hv6_159 dX12_pitchBits_159 (by decide) rfl ?_
      refine r_goto (pc := 162) (tgt := 106) C dX12_pitchBits_162 (by decide) ?_
      refine r_sub (lv' := [(0, vR b 0), (1, vI v1), (2, vI v2), (3, vI v3), (4, vI v4_157), (5, vI v5), (6, vI v6_159)]) [2, 3, 4, 5, 1, 6, 0] rfl ?_
      exact hrec _ _ h
    · refine r_aload_n (pc := 129) C 0 rfl rfl dX12_pitchBits_129 ?_
      refine r_getR (pc := 130) C fl_RX12_198 m_s0 (by decide) m_k61 m_r61 dX12_pitchBits_130 ?_
      refine r_aload_n (pc := 133) C 0 rfl rfl dX12_pitchBits_133 ?_
      refine r_getR (pc := 134) C fl_RX12_210 m_s0 (by decide) m_k65 m_r65 dX12_pitchBits_134 ?_
      refine r_iload (pc := 137) C 6 rfl dX12_pitchBits_137 ?_
      obtain ⟨hi139, h⟩ := chk_inv h
      refine r_iald (pc := 139) C m_s42 (by decide) (by decide) hi139 rfl dX12_pitchBits_139 ?_
      obtain ⟨hi140, h⟩ := chk_inv h
      refine r_iald (pc := 140) C m_s39 (by decide) (by decide) hi140 rfl dX12_pitchBits_140 ?_
      refine r_aload_n (pc := 141) C 0 rfl rfl dX12_pitchBits_141 ?_
      refine r_getR (pc := 142) C fl_RX12_213 m_s0 (by decide) m_k66 m_r66 dX12_pitchBits_142 ?_
      refine r_iload (pc := 145) C 6 rfl dX12_pitchBits_145 ?_
      obtain ⟨hi147, h⟩ := chk_inv h
      refine r_iald (pc := 147) C m_s43 (by decide) (by decide) hi147 rfl dX12_pitchBits_147 ?_
      refine r_icmp_ne (pc := 148) (tgt := 155) C h dX12_pitchBits_148 (by decide) (fun hc148 h => ?_) (fun hc148 h => ?_)
      · refine r_iconst (pc := 155) C dX12_pitchBits_155 ?_
        refine r_iadd (pc := 156) C dX12_pitchBits_156 ?_
        obtain ⟨v4_157, hv4_157, h⟩ := lt_inv h
        refine r_topI hv4_157 ?_
        refine r_istore (pc := 157) (lv' := [(4, vI v4_157), (0, vR b 0), (1, vI v1), (2, vI v2), (3, vI v3), (5, vI v5), (6, vI v6)]) C dX12_pitchBits_157 (by decide) rfl ?_
        obtain ⟨v6_159, hv6_159, h⟩ := lt_inv h
        refine r_iincN (pc := 159) (y := v6_159) (lv' := [(6, vI v6_159), (4, vI v4_157), (0, vR b 0), (1, vI v1), (2, vI v2), (3, vI v3), (5, vI v5)]) C 6 rfl hv6_159 dX12_pitchBits_159 (by decide) rfl ?_
        refine r_goto (pc := 162) (tgt := 106) C dX12_pitchBits_162 (by decide) ?_
        refine r_sub (lv' := [(0, vR b 0), (1, vI v1), (2, vI v2), (3, vI v3), (4, vI v4_157), (5, vI v5), (6, vI v6_159)]) [2, 3, 4, 5, 1, 6, 0] rfl ?_
        exact hrec _ _ h
      · refine r_iconst (pc := 151) C dX12_pitchBits_151 ?_
        refine r_goto (pc := 152) (tgt := 156) C dX12_pitchBits_152 (by decide) ?_
        refine r_iadd (pc := 156) C dX12_pitchBits_156 ?_
        obtain ⟨v4_157, hv4_157, h⟩ := lt_inv h
        refine r_topI hv4_157 ?_
        refine r_istore (pc := 157) (lv' := [(4, vI v4_157), (0, vR b 0), (1, vI v1), (2, vI v2), (3, vI v3), (5, vI v5), (6, vI v6)]) C dX12_pitchBits_157 (by decide) rfl ?_
        obtain ⟨v6_159, hv6_159, h⟩ := lt_inv h
        refine r_iincN (pc := 159) (y := v6_159) (lv' := [(6, vI v6_159), (4, vI v4_157), (0, vR b 0), (1, vI v1), (2, vI v2), (3, vI v3), (5, vI v5)]) C 6 rfl hv6_159 dX12_pitchBits_159 (by decide) rfl ?_
        refine r_goto (pc := 162) (tgt := 106) C dX12_pitchBits_162 (by decide) ?_
        refine r_sub (lv' := [(0, vR b 0), (1, vI v1), (2, vI v2), (3, vI v3), (4, vI v4_157), (5, vI v5), (6, vI v6_159)]) [2, 3, 4, 5, 1, 6, 0] rfl ?_
        exact hrec _ _ h
set_option maxHeartbeats 4000000 in
theorem w_m_pitchBits_L106 (C : mCX p s m args meth c cX12_pitchBits 7 RX12 D E b) (hr : meth.sig.returnType = (some .int)) {r0 : Int} {M0 : Mem} {v1 : Int} {v2 : Int} {v3 : Int} {v5 : Int} {M : Mem} {q : Int × Int} (hfol : ∀ (v4 : Int) (v6 : Int), q = (v4, v6) → mWX p l e 7 161 s m args below meth c 7 D E b (some (vI r0)) M0 M 165 [(0, vR b 0), (1, vI v1), (2, vI v2), (3, vI v3), (4, vI v4), (5, vI v5)] []) : ∀ (n : Nat) (v4 : Int) (v6 : Int), itr2 (m_pitchBits_L106 v1 v2 v3 v5 M) n v4 v6 = some q →
    mWX p l e 7 161 s m args below meth c 7 D E b (some (vI r0)) M0 M 106 [(0, vR b 0), (1, vI v1), (2, vI v2), (3, vI v3), (4, vI v4), (5, vI v5), (6, vI v6)] [] := by
  intro n
  induction n with
  | zero => exact fun _ _ h => itr_z h
  | succ n ih => exact fun _ _ h => w_m_pitchBits_L106_s C hr ih hfol h
set_option maxHeartbeats 4000000 in
set_option maxRecDepth 20000 in
theorem w_m_pitchBits_L32_s (C : mCX p s m args meth c cX12_pitchBits 7 RX12 D E b) (hr : meth.sig.returnType = (some .int)) {r0 : Int} {M0 : Mem} {v1 : Int} {v2 : Int} {v3 : Int} {v4 : Int} {v5 : Int} {M : Mem} {q : Int × Int × Mem} {rec : Int → Int → Mem → Option (Int × Int × Mem)} (hrec : ∀ (v4 : Int) (v5 : Int) (M : Mem), rec v4 v5 M = some q → mWX p l e 7 161 s m args below meth c 7 D E b (some (vI r0)) M0 M 32 [(0, vR b 0), (1, vI v1), (2, vI v2), (3, vI v3), (4, vI v4), (5, vI v5)] []) (hfol : ∀ (v4 : Int) (v5 : Int) (M : Mem), q = (v4, v5, M) → mWX p l e 7 161 s m args below meth c 7 D E b (some (vI r0)) M0 M 171 [(0, vR b 0), (1, vI v1), (2, vI v2), (3, vI v3), (4, vI v4)] []) (h : m_pitchBits_L32 v1 v2 v3 rec v4 v5 M = some q) :
    mWX p l e 7 161 s m args below meth c 7 D E b (some (vI r0)) M0 M 32 [(0, vR b 0), (1, vI v1), (2, vI v2), (3, vI v3), (4, vI v4), (5, vI v5)] [] := by
  unfold m_pitchBits_L32 at h
  refine r_aload_n (pc := 32) C 0 rfl rfl dX12_pitchBits_32 ?_
  refine r_iload (pc := 33) C 5 rfl dX12_pitchBits_33 ?_
  refine r_iconst (pc := 35) C dX12_pitchBits_35 ?_
  refine r_iadd (pc := 36) C dX12_pitchBits_36 ?_
  refine r_iconst (pc := 37) C dX12_pitchBits_37 ?_
  refine r_bipush (pc := 38) (j := 31) C (by decide +kernel) dX12_pitchBits_38 ?_
  obtain ⟨r2, hq2, h⟩ := bnd_inv h
  refine r_callV (pc := 40) (rest := []) (st1 := [vB r2]) C (mExtOK b) [vI (v5 + 1), vI 1, vI 31] (c_m_isAhead l hq2) cl_RX12_478 m_s0 (by decide) rfl rfl rfl rfl ⟨Nat.le_of_ble_eq_true rfl, Nat.le_of_ble_eq_true rfl⟩ (Nat.le_of_ble_eq_true rfl) rfl rfl dX12_pitchBits_40 ?_
  refine r_if_eqB (pc := 43) (tgt := 171) C h dX12_pitchBits_43 (by decide) (fun hc43 h => ?_) (fun hc43 h => ?_)
  · refine r_aload_n (pc := 46) C 0 rfl rfl dX12_pitchBits_46 ?_
    refine r_iconst (pc := 47) C dX12_pitchBits_47 ?_
    refine r_aload_n (pc := 48) C 0 rfl rfl dX12_pitchBits_48 ?_
    obtain ⟨r3, hq3, h⟩ := bnd_inv h
    refine r_callV (pc := 49) (rest := [vI 1, vR b 0]) (st1 := [vI r3, vI 1, vR b 0]) C (mExtOK b) [] (c_m_all l hq3) cl_RX12_481 m_s0 (by decide) rfl rfl rfl rfl ⟨Nat.le_of_ble_eq_true rfl, Nat.le_of_ble_eq_true rfl⟩ (Nat.le_of_ble_eq_true rfl) rfl rfl dX12_pitchBits_49 ?_
    obtain ⟨M4, hq4, h⟩ := bnd_inv h
    refine r_callV (pc := 52) (rest := []) (st1 := []) C (mExtOK b) [vI 1, vI r3] (c_m_ticks l hq4) cl_RX12_475 m_s0 (by decide) rfl rfl rfl rfl ⟨Nat.le_of_ble_eq_true rfl, Nat.le_of_ble_eq_true rfl⟩ (Nat.le_of_ble_eq_true rfl) rfl rfl dX12_pitchBits_52 ?_
    refine r_iconst (pc := 55) C dX12_pitchBits_55 ?_
    refine r_istore (pc := 56) (lv' := [(6, vI 0), (0, vR b 0), (1, vI v1), (2, vI v2), (3, vI v3), (4, vI v4), (5, vI v5)]) C dX12_pitchBits_56 (by decide) rfl ?_
    refine r_sub (lv' := [(0, vR b 0), (1, vI v1), (2, vI v2), (3, vI v3), (4, vI v4), (5, vI v5), (6, vI 0)]) [1, 2, 3, 4, 5, 6, 0] rfl ?_
    obtain ⟨q5, hl5, h⟩ := bnd_inv h
    refine w_m_pitchBits_L58 C hr (fun v6_5 M_5 hq => ?_) FUEL _ _ hl5
    have hq := hq.symm
    subst hq
    refine r_iconst (pc := 103) C dX12_pitchBits_103 ?_
    refine r_istore (pc := 104) (lv' := [(6, vI 0), (0, vR b 0), (1, vI v1), (2, vI v2), (3, vI v3), (4, vI v4), (5, vI v5)]) C dX12_pitchBits_104 (by decide) rfl ?_
    refine r_sub (lv' := [(0, vR b 0), (1, vI v1), (2, vI v2), (3, vI v3), (4, vI v4), (5, vI v5), (6, vI 0)]) [1, 2, 3, 4, 5, 6, 0] rfl ?_
    obtain ⟨q6, hl6, h⟩ := bnd_inv h
    refine w_m_pitchBits_L106 C hr (fun v4_6 v6_6 hq => ?_) FUEL _ _ hl6
    have hq := hq.symm
    subst hq
    obtain ⟨v5_165, hv5_165, h⟩ := lt_inv h
    refine r_iincN (pc := 165) (y := v5_165) (lv' := [(5, vI v5_165), (0, vR b 0), (1, vI v1), (2, vI v2), (3, vI v3), (4, vI v4_6)]) C 5 rfl hv5_165 dX12_pitchBits_165 (by decide) rfl ?_
    refine r_goto (pc := 168) (tgt := 32) C dX12_pitchBits_168 (by decide) ?_
    refine r_sub (lv' := [(0, vR b 0), (1, vI v1), (2, vI v2), (3, vI v3), (4, vI v4_6), (5, vI v5_165)]) [1, 2, 3, 4, 5, 0] rfl ?_
    exact hrec _ _ _ h
  · refine r_sub (lv' := [(0, vR b 0), (1, vI v1), (2, vI v2), (3, vI v3), (4, vI v4)]) [0, 1, 2, 3, 4] rfl ?_
    exact hfol _ _ _ (Option.some.inj h).symm
set_option maxHeartbeats 4000000 in
theorem w_m_pitchBits_L32 (C : mCX p s m args meth c cX12_pitchBits 7 RX12 D E b) (hr : meth.sig.returnType = (some .int)) {r0 : Int} {M0 : Mem} {v1 : Int} {v2 : Int} {v3 : Int} {q : Int × Int × Mem} (hfol : ∀ (v4 : Int) (v5 : Int) (M : Mem), q = (v4, v5, M) → mWX p l e 7 161 s m args below meth c 7 D E b (some (vI r0)) M0 M 171 [(0, vR b 0), (1, vI v1), (2, vI v2), (3, vI v3), (4, vI v4)] []) : ∀ (n : Nat) (v4 : Int) (v5 : Int) (M : Mem), itr3 (m_pitchBits_L32 v1 v2 v3) n v4 v5 M = some q →
    mWX p l e 7 161 s m args below meth c 7 D E b (some (vI r0)) M0 M 32 [(0, vR b 0), (1, vI v1), (2, vI v2), (3, vI v3), (4, vI v4), (5, vI v5)] [] := by
  intro n
  induction n with
  | zero => exact fun _ _ _ h => itr_z h
  | succ n ih => exact fun _ _ _ h => w_m_pitchBits_L32_s C hr ih hfol h
set_option maxHeartbeats 4000000 in
set_option maxRecDepth 20000 in
theorem w_m_pitchBits_L4_s (C : mCX p s m args meth c cX12_pitchBits 7 RX12 D E b) (hr : meth.sig.returnType = (some .int)) {r0 : Int} {M0 : Mem} {v1 : Int} {v2 : Int} {v3 : Int} {M : Mem} {q : Int × Int × Mem} {rec : Int → Int → Mem → Option (Int × Int × Mem)} (hrec : ∀ (v2 : Int) (v3 : Int) (M : Mem), rec v2 v3 M = some q → mWX p l e 7 161 s m args below meth c 7 D E b (some (vI r0)) M0 M 4 [(0, vR b 0), (1, vI v1), (2, vI v2), (3, vI v3)] []) (hfol : ∀ (v2 : Int) (v3 : Int) (M : Mem), q = (v2, v3, M) → mWX p l e 7 161 s m args below meth c 7 D E b (some (vI r0)) M0 M 196 [(2, vI v2)] []) (h : m_pitchBits_L4 v1 rec v2 v3 M = some q) :
    mWX p l e 7 161 s m args below meth c 7 D E b (some (vI r0)) M0 M 4 [(0, vR b 0), (1, vI v1), (2, vI v2), (3, vI v3)] [] := by
  unfold m_pitchBits_L4 at h
  refine r_iload_n (pc := 4) C 3 rfl rfl dX12_pitchBits_4 ?_
  refine r_bipush (pc := 5) (j := 10) C (by decide +kernel) dX12_pitchBits_5 ?_
  refine r_icmp_ge (pc := 7) (tgt := 196) C h dX12_pitchBits_7 (by decide) (fun hc7 h => ?_) (fun hc7 h => ?_)
  · refine r_sub (lv' := [(2, vI v2)]) [2] rfl ?_
    exact hfol _ _ _ (Option.some.inj h).symm
  · refine r_aload_n (pc := 10) C 0 rfl rfl dX12_pitchBits_10 ?_
    refine r_iconst (pc := 11) C dX12_pitchBits_11 ?_
    refine r_iconst (pc := 12) C dX12_pitchBits_12 ?_
    obtain ⟨M1, hq1, h⟩ := bnd_inv h
    refine r_callV (pc := 13) (rest := []) (st1 := []) C (mExtOK b) [vI 1, vI 0] (c_m_copies l hq1) cl_RX12_396 m_s0 (by decide) rfl rfl rfl rfl ⟨Nat.le_of_ble_eq_true rfl, Nat.le_of_ble_eq_true rfl⟩ (Nat.le_of_ble_eq_true rfl) rfl rfl dX12_pitchBits_13 ?_
    refine r_aload_n (pc := 16) C 0 rfl rfl dX12_pitchBits_16 ?_
    refine r_getR (pc := 17) C fl_RX12_150 m_s0 (by decide) m_k45 m_r45 dX12_pitchBits_17 ?_
    refine r_bipush (pc := 20) (j := 7) C (by decide +kernel) dX12_pitchBits_20 ?_
    refine r_iload_n (pc := 22) C 1 rfl rfl dX12_pitchBits_22 ?_
    refine r_iadd (pc := 23) C dX12_pitchBits_23 ?_
    refine r_iload_n (pc := 24) C 3 rfl rfl dX12_pitchBits_24 ?_
    obtain ⟨hi25, h⟩ := chk_inv h
    obtain ⟨M_25, hM_25, h⟩ := lt_inv h
    refine r_iast (pc := 25) C m_s26 (by decide) (by decide) hi25 rfl hM_25 dX12_pitchBits_25 ?_
    refine r_iconst (pc := 26) C dX12_pitchBits_26 ?_
    refine r_istore (pc := 27) (lv' := [(4, vI 0), (0, vR b 0), (1, vI v1), (2, vI v2), (3, vI v3)]) C dX12_pitchBits_27 (by decide) rfl ?_
    refine r_iconst (pc := 29) C dX12_pitchBits_29 ?_
    refine r_istore (pc := 30) (lv' := [(5, vI 0), (4, vI 0), (0, vR b 0), (1, vI v1), (2, vI v2), (3, vI v3)]) C dX12_pitchBits_30 (by decide) rfl ?_
    refine r_sub (lv' := [(0, vR b 0), (1, vI v1), (2, vI v2), (3, vI v3), (4, vI 0), (5, vI 0)]) [2, 3, 4, 5, 1, 0] rfl ?_
    obtain ⟨q7, hl7, h⟩ := bnd_inv h
    refine w_m_pitchBits_L32 C hr (fun v4_7 v5_7 M_7 hq => ?_) FUEL _ _ _ hl7
    have hq := hq.symm
    subst hq
    refine r_iload_n (pc := 171) C 2 rfl rfl dX12_pitchBits_171 ?_
    refine r_iload (pc := 172) C 4 rfl dX12_pitchBits_172 ?_
    refine r_aload_n (pc := 174) C 0 rfl rfl dX12_pitchBits_174 ?_
    refine r_getI (pc := 175) C fl_RX12_204 m_s0 (by decide) m_k63 dX12_pitchBits_175 ?_
    refine r_icmp_ne (pc := 178) (tgt := 187) C h dX12_pitchBits_178 (by decide) (fun hc178 h => ?_) (fun hc178 h => ?_)
    · refine r_iconst (pc := 187) C dX12_pitchBits_187 ?_
      refine r_ior (pc := 188) C dX12_pitchBits_188 ?_
      obtain ⟨v2_189, hv2_189, h⟩ := lt_inv h
      refine r_topI hv2_189 ?_
      refine r_istore_n (pc := 189) (lv' := [(2, vI v2_189), (0, vR b 0), (1, vI v1), (3, vI v3), (4, vI v4_7)]) C rfl dX12_pitchBits_189 (by decide) rfl ?_
      obtain ⟨v3_190, hv3_190, h⟩ := lt_inv h
      refine r_iincN (pc := 190) (y := v3_190) (lv' := [(3, vI v3_190), (2, vI v2_189), (0, vR b 0), (1, vI v1), (4, vI v4_7)]) C 3 rfl hv3_190 dX12_pitchBits_190 (by decide) rfl ?_
      refine r_goto (pc := 193) (tgt := 4) C dX12_pitchBits_193 (by decide) ?_
      refine r_sub (lv' := [(0, vR b 0), (1, vI v1), (2, vI v2_189), (3, vI v3_190)]) [2, 3, 1, 0] rfl ?_
      exact hrec _ _ _ h
    · refine r_iconst (pc := 181) C dX12_pitchBits_181 ?_
      refine r_iload_n (pc := 182) C 3 rfl rfl dX12_pitchBits_182 ?_
      refine r_ishl (pc := 183) C dX12_pitchBits_183 ?_
      refine r_goto (pc := 184) (tgt := 188) C dX12_pitchBits_184 (by decide) ?_
      refine r_ior (pc := 188) C dX12_pitchBits_188 ?_
      obtain ⟨v2_189, hv2_189, h⟩ := lt_inv h
      refine r_topI hv2_189 ?_
      refine r_istore_n (pc := 189) (lv' := [(2, vI v2_189), (0, vR b 0), (1, vI v1), (3, vI v3), (4, vI v4_7)]) C rfl dX12_pitchBits_189 (by decide) rfl ?_
      obtain ⟨v3_190, hv3_190, h⟩ := lt_inv h
      refine r_iincN (pc := 190) (y := v3_190) (lv' := [(3, vI v3_190), (2, vI v2_189), (0, vR b 0), (1, vI v1), (4, vI v4_7)]) C 3 rfl hv3_190 dX12_pitchBits_190 (by decide) rfl ?_
      refine r_goto (pc := 193) (tgt := 4) C dX12_pitchBits_193 (by decide) ?_
      refine r_sub (lv' := [(0, vR b 0), (1, vI v1), (2, vI v2_189), (3, vI v3_190)]) [2, 3, 1, 0] rfl ?_
      exact hrec _ _ _ h
set_option maxHeartbeats 4000000 in
theorem w_m_pitchBits_L4 (C : mCX p s m args meth c cX12_pitchBits 7 RX12 D E b) (hr : meth.sig.returnType = (some .int)) {r0 : Int} {M0 : Mem} {v1 : Int} {q : Int × Int × Mem} (hfol : ∀ (v2 : Int) (v3 : Int) (M : Mem), q = (v2, v3, M) → mWX p l e 7 161 s m args below meth c 7 D E b (some (vI r0)) M0 M 196 [(2, vI v2)] []) : ∀ (n : Nat) (v2 : Int) (v3 : Int) (M : Mem), itr3 (m_pitchBits_L4 v1) n v2 v3 M = some q →
    mWX p l e 7 161 s m args below meth c 7 D E b (some (vI r0)) M0 M 4 [(0, vR b 0), (1, vI v1), (2, vI v2), (3, vI v3)] [] := by
  intro n
  induction n with
  | zero => exact fun _ _ _ h => itr_z h
  | succ n ih => exact fun _ _ _ h => w_m_pitchBits_L4_s C hr ih hfol h
set_option maxHeartbeats 4000000 in
set_option maxRecDepth 20000 in
theorem c_m_pitchBits (l : Launch) {x1 : Int} {M : Mem} {r0 : Int} {M0 : Mem} (h : m_pitchBits x1 M = some (r0, M0)) : Ct l yX12_pitchBits cX12_pitchBits 7 (some .int) 7 161 vwCl mSh mN mRf mExt (fun b => [vR b 0, vI x1]) M (fun b => (some (vI r0))) M0 := by
  refine Ct_of mExtOK (by decide) (fun b => Nat.le_of_ble_eq_true rfl) ?_
  intro p e s m args below meth c D E b C hr
  unfold m_pitchBits at h
  refine (show mWX p l e 7 161 s m args below meth c 7 D E b (some (vI r0)) M0 M 0 [(0, vR b 0), (1, vI x1)] [] from ?_)
  refine r_iconst (pc := 0) C dX12_pitchBits_0 ?_
  refine r_istore_n (pc := 1) (lv' := [(2, vI 0), (0, vR b 0), (1, vI x1)]) C rfl dX12_pitchBits_1 (by decide) rfl ?_
  refine r_iconst (pc := 2) C dX12_pitchBits_2 ?_
  refine r_istore_n (pc := 3) (lv' := [(3, vI 0), (2, vI 0), (0, vR b 0), (1, vI x1)]) C rfl dX12_pitchBits_3 (by decide) rfl ?_
  refine r_sub (lv' := [(0, vR b 0), (1, vI x1), (2, vI 0), (3, vI 0)]) [2, 3, 1, 0] rfl ?_
  obtain ⟨q8, hl8, h⟩ := bnd_inv h
  refine w_m_pitchBits_L4 C hr (fun v2_8 v3_8 M_8 hq => ?_) FUEL _ _ _ hl8
  have hq := hq.symm
  subst hq
  refine r_iload_n (pc := 196) C 0 rfl rfl dX12_pitchBits_196 ?_
  have e := Option.some.inj h
  exact r_iret (pc := 197) C hr (congrArg (fun z => some (vI z)) (Prod.mk.inj e).1.symm) (Prod.mk.inj e).2.symm dX12_pitchBits_197
set_option maxHeartbeats 4000000 in
set_option maxRecDepth 20000 in
theorem c_m_pitches (l : Launch) {x1 : Int} {M : Mem} {r0 : Int} {M0 : Mem} (h : m_pitches x1 M = some (r0, M0)) : Ct l yX12_pitches cX12_pitches 2 (some .int) 8 187 vwCl mSh mN mRf mExt (fun b => [vR b 0, vI x1]) M (fun b => (some (vI r0))) M0 := by
  refine Ct_of mExtOK (by decide) (fun b => Nat.le_of_ble_eq_true rfl) ?_
  intro p e s m args below meth c D E b C hr
  unfold m_pitches at h
  refine (show mWX p l e 8 187 s m args below meth c 2 D E b (some (vI r0)) M0 M 0 [(0, vR b 0), (1, vI x1)] [] from ?_)
  refine r_aload_n (pc := 0) C 0 rfl rfl dX12_pitches_0 ?_
  refine r_iload_n (pc := 1) C 1 rfl rfl dX12_pitches_1 ?_
  obtain ⟨r1, hq1, h⟩ := bnd_inv h
  refine r_callV (pc := 2) (rest := []) (st1 := [vB r1]) C (mExtOK b) [vI x1] (c_m_isVoice l hq1) cl_RX12_462 m_s0 (by decide) rfl rfl rfl rfl ⟨Nat.le_of_ble_eq_true rfl, Nat.le_of_ble_eq_true rfl⟩ (Nat.le_of_ble_eq_true rfl) rfl rfl dX12_pitches_2 ?_
  refine r_if_eqB (pc := 5) (tgt := 16) C h dX12_pitches_5 (by decide) (fun hc5 h => ?_) (fun hc5 h => ?_)
  · refine r_aload_n (pc := 8) C 0 rfl rfl dX12_pitches_8 ?_
    refine r_iload_n (pc := 9) C 1 rfl rfl dX12_pitches_9 ?_
    obtain ⟨r2, M2, hq2, h⟩ := bnd2_inv h
    refine r_callV (pc := 10) (rest := []) (st1 := [vI r2]) C (mExtOK b) [vI x1] (c_m_pitchBits l hq2) cl_RX12_499 m_s0 (by decide) rfl rfl rfl rfl ⟨Nat.le_of_ble_eq_true rfl, Nat.le_of_ble_eq_true rfl⟩ (Nat.le_of_ble_eq_true rfl) rfl rfl dX12_pitches_10 ?_
    refine r_goto (pc := 13) (tgt := 17) C dX12_pitches_13 (by decide) ?_
    have e := Option.some.inj h
    exact r_iret (pc := 17) C hr (congrArg (fun z => some (vI z)) (Prod.mk.inj e).1.symm) (Prod.mk.inj e).2.symm dX12_pitches_17
  · refine r_iconst (pc := 16) C dX12_pitches_16 ?_
    have e := Option.some.inj h
    exact r_iret (pc := 17) C hr (congrArg (fun z => some (vI z)) (Prod.mk.inj e).1.symm) (Prod.mk.inj e).2.symm dX12_pitches_17
set_option maxHeartbeats 4000000 in
set_option maxRecDepth 20000 in
theorem w_m_mostBy_L19_s (C : mCX p s m args meth c cX12_mostBy 8 RX12 D E b) (hr : meth.sig.returnType = (some .int)) {r0 : Int} {v1 : Int} {v2 : Int} {v3 : Int} {v4 : Int} {v5 : Int} {M : Mem} {v6 : Int} {v7 : Int} {q : Int × Int} {rec : Int → Int → Option (Int × Int)} (hrec : ∀ (v6 : Int) (v7 : Int), rec v6 v7 = some q → mWX p l e 2 33 s m args below meth c 8 D E b (some (vI r0)) M M 19 [(0, vR b 0), (1, vI v1), (2, vI v2), (3, vI v3), (4, vI v4), (5, vI v5), (6, vI v6), (7, vI v7)] []) (hfol : ∀ (v6 : Int) (v7 : Int), q = (v6, v7) → mWX p l e 2 33 s m args below meth c 8 D E b (some (vI r0)) M M 97 [(0, vR b 0), (1, vI v1), (2, vI v2), (3, vI v3), (4, vI v4), (5, vI v5), (6, vI v6)] []) (h : m_mostBy_L19 v1 v2 v3 v4 v5 M rec v6 v7 = some q) :
    mWX p l e 2 33 s m args below meth c 8 D E b (some (vI r0)) M M 19 [(0, vR b 0), (1, vI v1), (2, vI v2), (3, vI v3), (4, vI v4), (5, vI v5), (6, vI v6), (7, vI v7)] [] := by
  unfold m_mostBy_L19 at h
  refine r_iload (pc := 19) C 7 rfl dX12_mostBy_19 ?_
  refine r_bipush (pc := 21) (j := 10) C (by decide +kernel) dX12_mostBy_21 ?_
  refine r_icmp_ge (pc := 23) (tgt := 97) C h dX12_mostBy_23 (by decide) (fun hc23 h => ?_) (fun hc23 h => ?_)
  · refine r_sub (lv' := [(0, vR b 0), (1, vI v1), (2, vI v2), (3, vI v3), (4, vI v4), (5, vI v5), (6, vI v6)]) [0, 1, 2, 3, 4, 5, 6] rfl ?_
    exact hfol _ _ (Option.some.inj h).symm
  · refine r_iload (pc := 26) C 6 rfl dX12_mostBy_26 ?_
    refine r_iload_n (pc := 28) C 1 rfl rfl dX12_mostBy_28 ?_
    refine r_iload (pc := 29) C 5 rfl dX12_mostBy_29 ?_
    obtain ⟨r1, hq1, h⟩ := bnd_inv h
    refine r_callS (pc := 31) (rest := [vI v6]) (st1 := [vB r1, vI v6]) C (mExtOK b) [vI v1, vI v5] (c_m_has2 l hq1) cl_RX12_428 rfl rfl ⟨Nat.le_of_ble_eq_true rfl, Nat.le_of_ble_eq_true rfl⟩ (Nat.le_of_ble_eq_true rfl) rfl rfl dX12_mostBy_31 ?_
    refine r_if_eqB (pc := 34) (tgt := 87) C h dX12_mostBy_34 (by decide) (fun hc34 h => ?_) (fun hc34 h => ?_)
    · refine r_iload_n (pc := 37) C 1 rfl rfl dX12_mostBy_37 ?_
      refine r_iload (pc := 38) C 7 rfl dX12_mostBy_38 ?_
      obtain ⟨r2, hq2, h⟩ := bnd_inv h
      refine r_callS (pc := 40) (rest := [vI v6]) (st1 := [vB r2, vI v6]) C (mExtOK b) [vI v1, vI v7] (c_m_has2 l hq2) cl_RX12_428 rfl rfl ⟨Nat.le_of_ble_eq_true rfl, Nat.le_of_ble_eq_true rfl⟩ (Nat.le_of_ble_eq_true rfl) rfl rfl dX12_mostBy_40 ?_
      refine r_if_eqB (pc := 43) (tgt := 87) C h dX12_mostBy_43 (by decide) (fun hc43 h => ?_) (fun hc43 h => ?_)
      · refine r_aload_n (pc := 46) C 0 rfl rfl dX12_mostBy_46 ?_
        refine r_getR (pc := 47) C fl_RX12_216 m_s0 (by decide) m_k67 m_r67 dX12_mostBy_47 ?_
        refine r_bipush (pc := 50) (j := 12) C (by decide +kernel) dX12_mostBy_50 ?_
        refine r_bipush (pc := 52) (j := 31) C (by decide +kernel) dX12_mostBy_52 ?_
        refine r_iload (pc := 54) C 5 rfl dX12_mostBy_54 ?_
        refine r_imul (pc := 56) C dX12_mostBy_56 ?_
        refine r_iload_n (pc := 57) C 2 rfl rfl dX12_mostBy_57 ?_
        refine r_iadd (pc := 58) C dX12_mostBy_58 ?_
        refine r_imul (pc := 59) C dX12_mostBy_59 ?_
        refine r_iload_n (pc := 60) C 3 rfl rfl dX12_mostBy_60 ?_
        refine r_iadd (pc := 61) C dX12_mostBy_61 ?_
        obtain ⟨hi62, h⟩ := chk_inv h
        refine r_iald (pc := 62) C m_s44 (by decide) (by decide) hi62 rfl dX12_mostBy_62 ?_
        refine r_aload_n (pc := 63) C 0 rfl rfl dX12_mostBy_63 ?_
        refine r_getR (pc := 64) C fl_RX12_216 m_s0 (by decide) m_k67 m_r67 dX12_mostBy_64 ?_
        refine r_bipush (pc := 67) (j := 12) C (by decide +kernel) dX12_mostBy_67 ?_
        refine r_bipush (pc := 69) (j := 31) C (by decide +kernel) dX12_mostBy_69 ?_
        refine r_iload (pc := 71) C 7 rfl dX12_mostBy_71 ?_
        refine r_imul (pc := 73) C dX12_mostBy_73 ?_
        refine r_iload_n (pc := 74) C 2 rfl rfl dX12_mostBy_74 ?_
        refine r_iadd (pc := 75) C dX12_mostBy_75 ?_
        refine r_imul (pc := 76) C dX12_mostBy_76 ?_
        refine r_iload_n (pc := 77) C 3 rfl rfl dX12_mostBy_77 ?_
        refine r_iadd (pc := 78) C dX12_mostBy_78 ?_
        obtain ⟨hi79, h⟩ := chk_inv h
        refine r_iald (pc := 79) C m_s44 (by decide) (by decide) hi79 rfl dX12_mostBy_79 ?_
        refine r_icmp_ne (pc := 80) (tgt := 87) C h dX12_mostBy_80 (by decide) (fun hc80 h => ?_) (fun hc80 h => ?_)
        · refine r_iconst (pc := 87) C dX12_mostBy_87 ?_
          refine r_iadd (pc := 88) C dX12_mostBy_88 ?_
          obtain ⟨v6_89, hv6_89, h⟩ := lt_inv h
          refine r_topI hv6_89 ?_
          refine r_istore (pc := 89) (lv' := [(6, vI v6_89), (0, vR b 0), (1, vI v1), (2, vI v2), (3, vI v3), (4, vI v4), (5, vI v5), (7, vI v7)]) C dX12_mostBy_89 (by decide) rfl ?_
          obtain ⟨v7_91, hv7_91, h⟩ := lt_inv h
          refine r_iincN (pc := 91) (y := v7_91) (lv' := [(7, vI v7_91), (6, vI v6_89), (0, vR b 0), (1, vI v1), (2, vI v2), (3, vI v3), (4, vI v4), (5, vI v5)]) C 7 rfl hv7_91 dX12_mostBy_91 (by decide) rfl ?_
          refine r_goto (pc := 94) (tgt := 19) C dX12_mostBy_94 (by decide) ?_
          refine r_sub (lv' := [(0, vR b 0), (1, vI v1), (2, vI v2), (3, vI v3), (4, vI v4), (5, vI v5), (6, vI v6_89), (7, vI v7_91)]) [2, 3, 4, 5, 6, 7, 1, 0] rfl ?_
          exact hrec _ _ h
        · refine r_iconst (pc := 83) C dX12_mostBy_83 ?_
          refine r_goto (pc := 84) (tgt := 88) C dX12_mostBy_84 (by decide) ?_
          refine r_iadd (pc := 88) C dX12_mostBy_88 ?_
          obtain ⟨v6_89, hv6_89, h⟩ := lt_inv h
          refine r_topI hv6_89 ?_
          refine r_istore (pc := 89) (lv' := [(6, vI v6_89), (0, vR b 0), (1, vI v1), (2, vI v2), (3, vI v3), (4, vI v4), (5, vI v5), (7, vI v7)]) C dX12_mostBy_89 (by decide) rfl ?_
          obtain ⟨v7_91, hv7_91, h⟩ := lt_inv h
          refine r_iincN (pc := 91) (y := v7_91) (lv' := [(7, vI v7_91), (6, vI v6_89), (0, vR b 0), (1, vI v1), (2, vI v2), (3, vI v3), (4, vI v4), (5, vI v5)]) C 7 rfl hv7_91 dX12_mostBy_91 (by decide) rfl ?_
          refine r_goto (pc := 94) (tgt := 19) C dX12_mostBy_94 (by decide) ?_
          refine r_sub (lv' := [(0, vR b 0), (1, vI v1), (2, vI v2), (3, vI v3), (4, vI v4), (5, vI v5), (6, vI v6_89), (7, vI v7_91)]) [2, 3, 4, 5, 6, 7, 1, 0] rfl ?_
          exact hrec _ _ h
      · refine r_iconst (pc := 87) C dX12_mostBy_87 ?_
        refine r_iadd (pc := 88) C dX12_mostBy_88 ?_
        obtain ⟨v6_89, hv6_89, h⟩ := lt_inv h
        refine r_topI hv6_89 ?_
        refine r_istore (pc := 89) (lv' := [(6, vI v6_89), (0, vR b 0), (1, vI v1), (2, vI v2), (3, vI v3), (4, vI v4), (5, vI v5), (7, vI v7)]) C dX12_mostBy_89 (by decide) rfl ?_
        obtain ⟨v7_91, hv7_91, h⟩ := lt_inv h
        refine r_iincN (pc := 91) (y := v7_91) (lv' := [(7, vI v7_91), (6, vI v6_89), (0, vR b 0), (1, vI v1), (2, vI v2), (3, vI v3), (4, vI v4), (5, vI v5)]) C 7 rfl hv7_91 dX12_mostBy_91 (by decide) rfl ?_
        refine r_goto (pc := 94) (tgt := 19) C dX12_mostBy_94 (by decide) ?_
        refine r_sub (lv' := [(0, vR b 0), (1, vI v1), (2, vI v2), (3, vI v3), (4, vI v4), (5, vI v5), (6, vI v6_89), (7, vI v7_91)]) [2, 3, 4, 5, 6, 7, 1, 0] rfl ?_
        exact hrec _ _ h
    · refine r_iconst (pc := 87) C dX12_mostBy_87 ?_
      refine r_iadd (pc := 88) C dX12_mostBy_88 ?_
      obtain ⟨v6_89, hv6_89, h⟩ := lt_inv h
      refine r_topI hv6_89 ?_
      refine r_istore (pc := 89) (lv' := [(6, vI v6_89), (0, vR b 0), (1, vI v1), (2, vI v2), (3, vI v3), (4, vI v4), (5, vI v5), (7, vI v7)]) C dX12_mostBy_89 (by decide) rfl ?_
      obtain ⟨v7_91, hv7_91, h⟩ := lt_inv h
      refine r_iincN (pc := 91) (y := v7_91) (lv' := [(7, vI v7_91), (6, vI v6_89), (0, vR b 0), (1, vI v1), (2, vI v2), (3, vI v3), (4, vI v4), (5, vI v5)]) C 7 rfl hv7_91 dX12_mostBy_91 (by decide) rfl ?_
      refine r_goto (pc := 94) (tgt := 19) C dX12_mostBy_94 (by decide) ?_
      refine r_sub (lv' := [(0, vR b 0), (1, vI v1), (2, vI v2), (3, vI v3), (4, vI v4), (5, vI v5), (6, vI v6_89), (7, vI v7_91)]) [2, 3, 4, 5, 6, 7, 1, 0] rfl ?_
      exact hrec _ _ h
set_option maxHeartbeats 4000000 in
theorem w_m_mostBy_L19 (C : mCX p s m args meth c cX12_mostBy 8 RX12 D E b) (hr : meth.sig.returnType = (some .int)) {r0 : Int} {v1 : Int} {v2 : Int} {v3 : Int} {v4 : Int} {v5 : Int} {M : Mem} {q : Int × Int} (hfol : ∀ (v6 : Int) (v7 : Int), q = (v6, v7) → mWX p l e 2 33 s m args below meth c 8 D E b (some (vI r0)) M M 97 [(0, vR b 0), (1, vI v1), (2, vI v2), (3, vI v3), (4, vI v4), (5, vI v5), (6, vI v6)] []) : ∀ (n : Nat) (v6 : Int) (v7 : Int), itr2 (m_mostBy_L19 v1 v2 v3 v4 v5 M) n v6 v7 = some q →
    mWX p l e 2 33 s m args below meth c 8 D E b (some (vI r0)) M M 19 [(0, vR b 0), (1, vI v1), (2, vI v2), (3, vI v3), (4, vI v4), (5, vI v5), (6, vI v6), (7, vI v7)] [] := by
  intro n
  induction n with
  | zero => exact fun _ _ h => itr_z h
  | succ n ih => exact fun _ _ h => w_m_mostBy_L19_s C hr ih hfol h
set_option maxHeartbeats 4000000 in
set_option maxRecDepth 20000 in
theorem w_m_mostBy_L6_s (C : mCX p s m args meth c cX12_mostBy 8 RX12 D E b) (hr : meth.sig.returnType = (some .int)) {r0 : Int} {v1 : Int} {v2 : Int} {v3 : Int} {M : Mem} {v4 : Int} {v5 : Int} {q : Int × Int} {rec : Int → Int → Option (Int × Int)} (hrec : ∀ (v4 : Int) (v5 : Int), rec v4 v5 = some q → mWX p l e 2 33 s m args below meth c 8 D E b (some (vI r0)) M M 6 [(0, vR b 0), (1, vI v1), (2, vI v2), (3, vI v3), (4, vI v4), (5, vI v5)] []) (hfol : ∀ (v4 : Int) (v5 : Int), q = (v4, v5) → mWX p l e 2 33 s m args below meth c 8 D E b (some (vI r0)) M M 119 [(4, vI v4)] []) (h : m_mostBy_L6 v1 v2 v3 M rec v4 v5 = some q) :
    mWX p l e 2 33 s m args below meth c 8 D E b (some (vI r0)) M M 6 [(0, vR b 0), (1, vI v1), (2, vI v2), (3, vI v3), (4, vI v4), (5, vI v5)] [] := by
  unfold m_mostBy_L6 at h
  refine r_iload (pc := 6) C 5 rfl dX12_mostBy_6 ?_
  refine r_bipush (pc := 8) (j := 10) C (by decide +kernel) dX12_mostBy_8 ?_
  refine r_icmp_ge (pc := 10) (tgt := 119) C h dX12_mostBy_10 (by decide) (fun hc10 h => ?_) (fun hc10 h => ?_)
  · refine r_sub (lv' := [(4, vI v4)]) [4] rfl ?_
    exact hfol _ _ (Option.some.inj h).symm
  · refine r_iconst (pc := 13) C dX12_mostBy_13 ?_
    refine r_istore (pc := 14) (lv' := [(6, vI 0), (0, vR b 0), (1, vI v1), (2, vI v2), (3, vI v3), (4, vI v4), (5, vI v5)]) C dX12_mostBy_14 (by decide) rfl ?_
    refine r_iconst (pc := 16) C dX12_mostBy_16 ?_
    refine r_istore (pc := 17) (lv' := [(7, vI 0), (6, vI 0), (0, vR b 0), (1, vI v1), (2, vI v2), (3, vI v3), (4, vI v4), (5, vI v5)]) C dX12_mostBy_17 (by decide) rfl ?_
    refine r_sub (lv' := [(0, vR b 0), (1, vI v1), (2, vI v2), (3, vI v3), (4, vI v4), (5, vI v5), (6, vI 0), (7, vI 0)]) [2, 3, 4, 5, 6, 7, 1, 0] rfl ?_
    obtain ⟨q3, hl3, h⟩ := bnd_inv h
    refine w_m_mostBy_L19 C hr (fun v6_3 v7_3 hq => ?_) FUEL _ _ hl3
    have hq := hq.symm
    subst hq
    refine r_iload (pc := 97) C 6 rfl dX12_mostBy_97 ?_
    refine r_iload (pc := 99) C 4 rfl dX12_mostBy_99 ?_
    refine r_icmp_le (pc := 101) (tgt := 109) C h dX12_mostBy_101 (by decide) (fun hc101 h => ?_) (fun hc101 h => ?_)
    · refine r_iload (pc := 109) C 4 rfl dX12_mostBy_109 ?_
      refine r_istore (pc := 111) (lv' := [(4, vI v4), (0, vR b 0), (1, vI v1), (2, vI v2), (3, vI v3), (5, vI v5), (6, vI v6_3)]) C dX12_mostBy_111 (by decide) rfl ?_
      obtain ⟨v5_113, hv5_113, h⟩ := lt_inv h
      refine r_iincN (pc := 113) (y := v5_113) (lv' := [(5, vI v5_113), (4, vI v4), (0, vR b 0), (1, vI v1), (2, vI v2), (3, vI v3), (6, vI v6_3)]) C 5 rfl hv5_113 dX12_mostBy_113 (by decide) rfl ?_
      refine r_goto (pc := 116) (tgt := 6) C dX12_mostBy_116 (by decide) ?_
      refine r_sub (lv' := [(0, vR b 0), (1, vI v1), (2, vI v2), (3, vI v3), (4, vI v4), (5, vI v5_113)]) [2, 3, 4, 5, 1, 0] rfl ?_
      exact hrec _ _ h
    · refine r_iload (pc := 104) C 6 rfl dX12_mostBy_104 ?_
      refine r_goto (pc := 106) (tgt := 111) C dX12_mostBy_106 (by decide) ?_
      refine r_istore (pc := 111) (lv' := [(4, vI v6_3), (0, vR b 0), (1, vI v1), (2, vI v2), (3, vI v3), (5, vI v5), (6, vI v6_3)]) C dX12_mostBy_111 (by decide) rfl ?_
      obtain ⟨v5_113, hv5_113, h⟩ := lt_inv h
      refine r_iincN (pc := 113) (y := v5_113) (lv' := [(5, vI v5_113), (4, vI v6_3), (0, vR b 0), (1, vI v1), (2, vI v2), (3, vI v3), (6, vI v6_3)]) C 5 rfl hv5_113 dX12_mostBy_113 (by decide) rfl ?_
      refine r_goto (pc := 116) (tgt := 6) C dX12_mostBy_116 (by decide) ?_
      refine r_sub (lv' := [(0, vR b 0), (1, vI v1), (2, vI v2), (3, vI v3), (4, vI v6_3), (5, vI v5_113)]) [2, 3, 4, 5, 1, 0] rfl ?_
      exact hrec _ _ h
set_option maxHeartbeats 4000000 in
theorem w_m_mostBy_L6 (C : mCX p s m args meth c cX12_mostBy 8 RX12 D E b) (hr : meth.sig.returnType = (some .int)) {r0 : Int} {v1 : Int} {v2 : Int} {v3 : Int} {M : Mem} {q : Int × Int} (hfol : ∀ (v4 : Int) (v5 : Int), q = (v4, v5) → mWX p l e 2 33 s m args below meth c 8 D E b (some (vI r0)) M M 119 [(4, vI v4)] []) : ∀ (n : Nat) (v4 : Int) (v5 : Int), itr2 (m_mostBy_L6 v1 v2 v3 M) n v4 v5 = some q →
    mWX p l e 2 33 s m args below meth c 8 D E b (some (vI r0)) M M 6 [(0, vR b 0), (1, vI v1), (2, vI v2), (3, vI v3), (4, vI v4), (5, vI v5)] [] := by
  intro n
  induction n with
  | zero => exact fun _ _ h => itr_z h
  | succ n ih => exact fun _ _ h => w_m_mostBy_L6_s C hr ih hfol h
set_option maxHeartbeats 4000000 in
set_option maxRecDepth 20000 in
theorem c_m_mostBy (l : Launch) {x1 : Int} {x2 : Int} {x3 : Int} {M : Mem} {r0 : Int} (h : m_mostBy x1 x2 x3 M = some r0) : Ct l yX12_mostBy cX12_mostBy 8 (some .int) 2 33 vwCl mSh mN mRf mExt (fun b => [vR b 0, vI x1, vI x2, vI x3]) M (fun b => (some (vI r0))) M := by
  refine Ct_of mExtOK (by decide) (fun b => Nat.le_of_ble_eq_true rfl) ?_
  intro p e s m args below meth c D E b C hr
  unfold m_mostBy at h
  refine (show mWX p l e 2 33 s m args below meth c 8 D E b (some (vI r0)) M M 0 [(0, vR b 0), (1, vI x1), (2, vI x2), (3, vI x3)] [] from ?_)
  refine r_iconst (pc := 0) C dX12_mostBy_0 ?_
  refine r_istore (pc := 1) (lv' := [(4, vI 0), (0, vR b 0), (1, vI x1), (2, vI x2), (3, vI x3)]) C dX12_mostBy_1 (by decide) rfl ?_
  refine r_iconst (pc := 3) C dX12_mostBy_3 ?_
  refine r_istore (pc := 4) (lv' := [(5, vI 0), (4, vI 0), (0, vR b 0), (1, vI x1), (2, vI x2), (3, vI x3)]) C dX12_mostBy_4 (by decide) rfl ?_
  refine r_sub (lv' := [(0, vR b 0), (1, vI x1), (2, vI x2), (3, vI x3), (4, vI 0), (5, vI 0)]) [2, 3, 4, 5, 1, 0] rfl ?_
  obtain ⟨q4, hl4, h⟩ := bnd_inv h
  refine w_m_mostBy_L6 C hr (fun v4_4 v5_4 hq => ?_) FUEL _ _ hl4
  have hq := hq.symm
  subst hq
  refine r_iload (pc := 119) C 0 rfl dX12_mostBy_119 ?_
  have e := Option.some.inj h
  exact r_iret (pc := 121) C hr (congrArg (fun z => some (vI z)) e.symm) rfl dX12_mostBy_121
set_option maxHeartbeats 4000000 in
set_option maxRecDepth 20000 in
theorem w_m_tells_L57_s (C : mCX p s m args meth c cX12_tells 9 RX12 D E b) (hr : meth.sig.returnType = (some .int)) {r0 : Int} {M0 : Mem} {v2 : Int} {v3 : Int} {v6 : Int} {M : Mem} {v4 : Int} {v5 : Int} {v7 : Int} {q : Int × Int × Int} {rec : Int → Int → Int → Option (Int × Int × Int)} (hrec : ∀ (v4 : Int) (v5 : Int) (v7 : Int), rec v4 v5 v7 = some q → mWX p l e 8 187 s m args below meth c 9 D E b (some (vI r0)) M0 M 57 [(0, vR b 0), (2, vI v2), (3, vI v3), (4, vI v4), (5, vI v5), (6, vI v6), (7, vI v7)] []) (hfol : ∀ (v4 : Int) (v5 : Int) (v7 : Int), q = (v4, v5, v7) → mWX p l e 8 187 s m args below meth c 9 D E b (some (vI r0)) M0 M 112 [(0, vR b 0), (2, vI v2), (3, vI v3), (4, vI v4), (5, vI v5), (6, vI v6)] []) (h : m_tells_L57 v2 v3 v6 M rec v4 v5 v7 = some q) :
    mWX p l e 8 187 s m args below meth c 9 D E b (some (vI r0)) M0 M 57 [(0, vR b 0), (2, vI v2), (3, vI v3), (4, vI v4), (5, vI v5), (6, vI v6), (7, vI v7)] [] := by
  unfold m_tells_L57 at h
  refine r_iload (pc := 57) C 6 rfl dX12_tells_57 ?_
  refine r_aload_n (pc := 59) C 0 rfl rfl dX12_tells_59 ?_
  refine r_getR (pc := 60) C fl_RX12_69 m_s0 (by decide) m_k19 m_r19 dX12_tells_60 ?_
  refine r_aload_n (pc := 63) C 0 rfl rfl dX12_tells_63 ?_
  refine r_getI (pc := 64) C fl_RX12_51 m_s0 (by decide) m_k13 dX12_tells_64 ?_
  obtain ⟨hi67, h⟩ := chk_inv h
  refine r_iald (pc := 67) C m_s7 (by decide) (by decide) hi67 rfl dX12_tells_67 ?_
  refine r_icmp_ge (pc := 68) (tgt := 112) C h dX12_tells_68 (by decide) (fun hc68 h => ?_) (fun hc68 h => ?_)
  · refine r_sub (lv' := [(0, vR b 0), (2, vI v2), (3, vI v3), (4, vI v4), (5, vI v5), (6, vI v6)]) [0, 1, 2, 3, 4, 5] rfl ?_
    exact hfol _ _ _ (Option.some.inj h).symm
  · refine r_aload_n (pc := 71) C 0 rfl rfl dX12_tells_71 ?_
    refine r_iload_n (pc := 72) C 2 rfl rfl dX12_tells_72 ?_
    refine r_iload (pc := 73) C 5 rfl dX12_tells_73 ?_
    refine r_iload (pc := 75) C 6 rfl dX12_tells_75 ?_
    obtain ⟨r5, hq5, h⟩ := bnd_inv h
    refine r_callV (pc := 77) (rest := []) (st1 := [vI r5]) C (mExtOK b) [vI v3, vI v6, vI v7] (c_m_mostBy l hq5) cl_RX12_503 m_s0 (by decide) rfl rfl rfl rfl ⟨Nat.le_of_ble_eq_true rfl, Nat.le_of_ble_eq_true rfl⟩ (Nat.le_of_ble_eq_true rfl) rfl rfl dX12_tells_77 ?_
    refine r_istore (pc := 80) (lv' := [(8, vI r5), (0, vR b 0), (2, vI v2), (3, vI v3), (4, vI v4), (5, vI v5), (6, vI v6), (7, vI v7)]) C dX12_tells_80 (by decide) rfl ?_
    refine r_iload (pc := 82) C 0 rfl dX12_tells_82 ?_
    refine r_iload (pc := 84) C 5 rfl dX12_tells_84 ?_
    refine r_icmp_lt (pc := 86) (tgt := 92) C h dX12_tells_86 (by decide) (fun hc86 h => ?_) (fun hc86 h => ?_)
    · refine r_iload (pc := 92) C 0 rfl dX12_tells_92 ?_
      refine r_istore (pc := 94) (lv' := [(5, vI r5), (8, vI r5), (0, vR b 0), (2, vI v2), (3, vI v3), (4, vI v4), (6, vI v6), (7, vI v7)]) C dX12_tells_94 (by decide) rfl ?_
      refine r_bipush (pc := 96) (j := 12) C (by decide +kernel) dX12_tells_96 ?_
      refine r_iload (pc := 98) C 6 rfl dX12_tells_98 ?_
      refine r_imul (pc := 100) C dX12_tells_100 ?_
      refine r_iload (pc := 101) C 7 rfl dX12_tells_101 ?_
      refine r_iadd (pc := 103) C dX12_tells_103 ?_
      obtain ⟨v4_104, hv4_104, h⟩ := lt_inv h
      refine r_topI hv4_104 ?_
      refine r_istore (pc := 104) (lv' := [(4, vI v4_104), (5, vI r5), (8, vI r5), (0, vR b 0), (2, vI v2), (3, vI v3), (6, vI v6), (7, vI v7)]) C dX12_tells_104 (by decide) rfl ?_
      obtain ⟨v7_106, hv7_106, h⟩ := lt_inv h
      refine r_iincN (pc := 106) (y := v7_106) (lv' := [(7, vI v7_106), (4, vI v4_104), (5, vI r5), (8, vI r5), (0, vR b 0), (2, vI v2), (3, vI v3), (6, vI v6)]) C 7 rfl hv7_106 dX12_tells_106 (by decide) rfl ?_
      refine r_goto (pc := 109) (tgt := 57) C dX12_tells_109 (by decide) ?_
      refine r_sub (lv' := [(0, vR b 0), (2, vI v2), (3, vI v3), (4, vI v4_104), (5, vI r5), (6, vI v6), (7, vI v7_106)]) [4, 5, 6, 1, 2, 7, 0] rfl ?_
      exact hrec _ _ _ h
    · refine r_goto (pc := 89) (tgt := 106) C dX12_tells_89 (by decide) ?_
      obtain ⟨v7_106, hv7_106, h⟩ := lt_inv h
      refine r_iincN (pc := 106) (y := v7_106) (lv' := [(7, vI v7_106), (8, vI r5), (0, vR b 0), (2, vI v2), (3, vI v3), (4, vI v4), (5, vI v5), (6, vI v6)]) C 7 rfl hv7_106 dX12_tells_106 (by decide) rfl ?_
      refine r_goto (pc := 109) (tgt := 57) C dX12_tells_109 (by decide) ?_
      refine r_sub (lv' := [(0, vR b 0), (2, vI v2), (3, vI v3), (4, vI v4), (5, vI v5), (6, vI v6), (7, vI v7_106)]) [2, 3, 4, 5, 6, 7, 0] rfl ?_
      exact hrec _ _ _ h
set_option maxHeartbeats 4000000 in
theorem w_m_tells_L57 (C : mCX p s m args meth c cX12_tells 9 RX12 D E b) (hr : meth.sig.returnType = (some .int)) {r0 : Int} {M0 : Mem} {v2 : Int} {v3 : Int} {v6 : Int} {M : Mem} {q : Int × Int × Int} (hfol : ∀ (v4 : Int) (v5 : Int) (v7 : Int), q = (v4, v5, v7) → mWX p l e 8 187 s m args below meth c 9 D E b (some (vI r0)) M0 M 112 [(0, vR b 0), (2, vI v2), (3, vI v3), (4, vI v4), (5, vI v5), (6, vI v6)] []) : ∀ (n : Nat) (v4 : Int) (v5 : Int) (v7 : Int), itr3 (m_tells_L57 v2 v3 v6 M) n v4 v5 v7 = some q →
    mWX p l e 8 187 s m args below meth c 9 D E b (some (vI r0)) M0 M 57 [(0, vR b 0), (2, vI v2), (3, vI v3), (4, vI v4), (5, vI v5), (6, vI v6), (7, vI v7)] [] := by
  intro n
  induction n with
  | zero => exact fun _ _ _ h => itr_z h
  | succ n ih => exact fun _ _ _ h => w_m_tells_L57_s C hr ih hfol h
set_option maxHeartbeats 4000000 in
set_option maxRecDepth 20000 in
theorem w_m_tells_L36_s (C : mCX p s m args meth c cX12_tells 9 RX12 D E b) (hr : meth.sig.returnType = (some .int)) {r0 : Int} {M0 : Mem} {v2 : Int} {v3 : Int} {M : Mem} {v4 : Int} {v5 : Int} {v6 : Int} {q : Int × Int × Int} {rec : Int → Int → Int → Option (Int × Int × Int)} (hrec : ∀ (v4 : Int) (v5 : Int) (v6 : Int), rec v4 v5 v6 = some q → mWX p l e 8 187 s m args below meth c 9 D E b (some (vI r0)) M0 M 36 [(0, vR b 0), (2, vI v2), (3, vI v3), (4, vI v4), (5, vI v5), (6, vI v6)] []) (hfol : ∀ (v4 : Int) (v5 : Int) (v6 : Int), q = (v4, v5, v6) → mWX p l e 8 187 s m args below meth c 9 D E b (some (vI r0)) M0 M 118 [(2, vI v2), (4, vI v4), (5, vI v5)] []) (h : m_tells_L36 v2 v3 M rec v4 v5 v6 = some q) :
    mWX p l e 8 187 s m args below meth c 9 D E b (some (vI r0)) M0 M 36 [(0, vR b 0), (2, vI v2), (3, vI v3), (4, vI v4), (5, vI v5), (6, vI v6)] [] := by
  unfold m_tells_L36 at h
  refine r_aload_n (pc := 36) C 0 rfl rfl dX12_tells_36 ?_
  refine r_iload (pc := 37) C 5 rfl dX12_tells_37 ?_
  refine r_iconst (pc := 39) C dX12_tells_39 ?_
  refine r_iadd (pc := 40) C dX12_tells_40 ?_
  refine r_iconst (pc := 41) C dX12_tells_41 ?_
  refine r_bipush (pc := 42) (j := 31) C (by decide +kernel) dX12_tells_42 ?_
  obtain ⟨r4, hq4, h⟩ := bnd_inv h
  refine r_callV (pc := 44) (rest := []) (st1 := [vB r4]) C (mExtOK b) [vI (v6 + 1), vI 1, vI 31] (c_m_isAhead l hq4) cl_RX12_478 m_s0 (by decide) rfl rfl rfl rfl ⟨Nat.le_of_ble_eq_true rfl, Nat.le_of_ble_eq_true rfl⟩ (Nat.le_of_ble_eq_true rfl) rfl rfl dX12_tells_44 ?_
  refine r_if_eqB (pc := 47) (tgt := 118) C h dX12_tells_47 (by decide) (fun hc47 h => ?_) (fun hc47 h => ?_)
  · refine r_iload_n (pc := 50) C 2 rfl rfl dX12_tells_50 ?_
    refine r_if_eq (pc := 51) (tgt := 118) C h dX12_tells_51 (by decide) (fun hc51 h => ?_) (fun hc51 h => ?_)
    · refine r_sub (lv' := [(2, vI v2), (4, vI v4), (5, vI v5)]) [1, 3, 4] rfl ?_
      exact hfol _ _ _ (Option.some.inj h).symm
    · refine r_iconst (pc := 54) C dX12_tells_54 ?_
      refine r_istore (pc := 55) (lv' := [(7, vI 0), (0, vR b 0), (2, vI v2), (3, vI v3), (4, vI v4), (5, vI v5), (6, vI v6)]) C dX12_tells_55 (by decide) rfl ?_
      refine r_sub (lv' := [(0, vR b 0), (2, vI v2), (3, vI v3), (4, vI v4), (5, vI v5), (6, vI v6), (7, vI 0)]) [1, 2, 3, 4, 5, 6, 0] rfl ?_
      obtain ⟨q6, hl6, h⟩ := bnd_inv h
      refine w_m_tells_L57 C hr (fun v4_6 v5_6 v7_6 hq => ?_) FUEL _ _ _ hl6
      have hq := hq.symm
      subst hq
      obtain ⟨v6_112, hv6_112, h⟩ := lt_inv h
      refine r_iincN (pc := 112) (y := v6_112) (lv' := [(6, vI v6_112), (0, vR b 0), (2, vI v2), (3, vI v3), (4, vI v4_6), (5, vI v5_6)]) C 5 rfl hv6_112 dX12_tells_112 (by decide) rfl ?_
      refine r_goto (pc := 115) (tgt := 36) C dX12_tells_115 (by decide) ?_
      refine r_sub (lv' := [(0, vR b 0), (2, vI v2), (3, vI v3), (4, vI v4_6), (5, vI v5_6), (6, vI v6_112)]) [1, 2, 3, 4, 5, 0] rfl ?_
      exact hrec _ _ _ h
  · refine r_sub (lv' := [(2, vI v2), (4, vI v4), (5, vI v5)]) [1, 3, 4] rfl ?_
    exact hfol _ _ _ (Option.some.inj h).symm
set_option maxHeartbeats 4000000 in
theorem w_m_tells_L36 (C : mCX p s m args meth c cX12_tells 9 RX12 D E b) (hr : meth.sig.returnType = (some .int)) {r0 : Int} {M0 : Mem} {v2 : Int} {v3 : Int} {M : Mem} {q : Int × Int × Int} (hfol : ∀ (v4 : Int) (v5 : Int) (v6 : Int), q = (v4, v5, v6) → mWX p l e 8 187 s m args below meth c 9 D E b (some (vI r0)) M0 M 118 [(2, vI v2), (4, vI v4), (5, vI v5)] []) : ∀ (n : Nat) (v4 : Int) (v5 : Int) (v6 : Int), itr3 (m_tells_L36 v2 v3 M) n v4 v5 v6 = some q →
    mWX p l e 8 187 s m args below meth c 9 D E b (some (vI r0)) M0 M 36 [(0, vR b 0), (2, vI v2), (3, vI v3), (4, vI v4), (5, vI v5), (6, vI v6)] [] := by
  intro n
  induction n with
  | zero => exact fun _ _ _ h => itr_z h
  | succ n ih => exact fun _ _ _ h => w_m_tells_L36_s C hr ih hfol h
set_option maxHeartbeats 4000000 in
set_option maxRecDepth 20000 in
theorem c_m_tells (l : Launch) {x1 : Int} {x2 : Int} {M : Mem} {r0 : Int} {M0 : Mem} (h : m_tells x1 x2 M = some (r0, M0)) : Ct l yX12_tells cX12_tells 9 (some .int) 8 187 vwCl mSh mN mRf mExt (fun b => [vR b 0, vI x1, vI x2]) M (fun b => (some (vI r0))) M0 := by
  refine Ct_of mExtOK (by decide) (fun b => Nat.le_of_ble_eq_true rfl) ?_
  intro p e s m args below meth c D E b C hr
  unfold m_tells at h
  refine (show mWX p l e 8 187 s m args below meth c 9 D E b (some (vI r0)) M0 M 0 [(0, vR b 0), (1, vI x1), (2, vI x2)] [] from ?_)
  refine r_aload_n (pc := 0) C 0 rfl rfl dX12_tells_0 ?_
  refine r_iload_n (pc := 1) C 1 rfl rfl dX12_tells_1 ?_
  obtain ⟨r1, hq1, h⟩ := bnd_inv h
  refine r_callV (pc := 2) (rest := []) (st1 := [vB r1]) C (mExtOK b) [vI x1] (c_m_isVoice l hq1) cl_RX12_462 m_s0 (by decide) rfl rfl rfl rfl ⟨Nat.le_of_ble_eq_true rfl, Nat.le_of_ble_eq_true rfl⟩ (Nat.le_of_ble_eq_true rfl) rfl rfl dX12_tells_2 ?_
  refine r_if_eqB (pc := 5) (tgt := 17) C h dX12_tells_5 (by decide) (fun hc5 h => ?_) (fun hc5 h => ?_)
  · refine r_iload_n (pc := 8) C 2 rfl rfl dX12_tells_8 ?_
    refine r_iconst (pc := 9) C dX12_tells_9 ?_
    refine r_iconst (pc := 10) C dX12_tells_10 ?_
    obtain ⟨r2, hq2, h⟩ := bnd_inv h
    refine r_callS (pc := 11) (rest := []) (st1 := [vB r2]) C (mExtOK b) [vI x2, vI 0, vI 2] (c_m_is l hq2) cl_RX12_303 rfl rfl ⟨Nat.le_of_ble_eq_true rfl, Nat.le_of_ble_eq_true rfl⟩ (Nat.le_of_ble_eq_true rfl) rfl rfl dX12_tells_11 ?_
    refine r_if_neB (pc := 14) (tgt := 19) C h dX12_tells_14 (by decide) (fun hc14 h => ?_) (fun hc14 h => ?_)
    · refine r_aload_n (pc := 19) C 0 rfl rfl dX12_tells_19 ?_
      refine r_iload_n (pc := 20) C 1 rfl rfl dX12_tells_20 ?_
      obtain ⟨r3, M3, hq3, h⟩ := bnd2_inv h
      refine r_callV (pc := 21) (rest := []) (st1 := [vI r3]) C (mExtOK b) [vI x1] (c_m_pitchBits l hq3) cl_RX12_499 m_s0 (by decide) rfl rfl rfl rfl ⟨Nat.le_of_ble_eq_true rfl, Nat.le_of_ble_eq_true rfl⟩ (Nat.le_of_ble_eq_true rfl) rfl rfl dX12_tells_21 ?_
      refine r_istore_n (pc := 24) (lv' := [(3, vI r3), (0, vR b 0), (1, vI x1), (2, vI x2)]) C rfl dX12_tells_24 (by decide) rfl ?_
      refine r_iconst (pc := 25) C dX12_tells_25 ?_
      refine r_istore (pc := 26) (lv' := [(4, vI (-1)), (3, vI r3), (0, vR b 0), (1, vI x1), (2, vI x2)]) C dX12_tells_26 (by decide) rfl ?_
      refine r_ldcw (pc := 28) (j := 100000000) C (by decide +kernel) gk_RX12_502 dX12_tells_28 ?_
      refine r_istore (pc := 31) (lv' := [(5, vI 100000000), (4, vI (-1)), (3, vI r3), (0, vR b 0), (1, vI x1), (2, vI x2)]) C dX12_tells_31 (by decide) rfl ?_
      refine r_iconst (pc := 33) C dX12_tells_33 ?_
      refine r_istore (pc := 34) (lv' := [(6, vI 0), (5, vI 100000000), (4, vI (-1)), (3, vI r3), (0, vR b 0), (1, vI x1), (2, vI x2)]) C dX12_tells_34 (by decide) rfl ?_
      refine r_sub (lv' := [(0, vR b 0), (2, vI x2), (3, vI r3), (4, vI (-1)), (5, vI 100000000), (6, vI 0)]) [4, 6, 3, 2, 1, 0] rfl ?_
      obtain ⟨q7, hl7, h⟩ := bnd_inv h
      refine w_m_tells_L36 C hr (fun v4_7 v5_7 v6_7 hq => ?_) FUEL _ _ _ hl7
      have hq := hq.symm
      subst hq
      refine r_iload (pc := 118) C 1 rfl dX12_tells_118 ?_
      refine r_iconst (pc := 120) C dX12_tells_120 ?_
      refine r_icmp_ne (pc := 121) (tgt := 128) C h dX12_tells_121 (by decide) (fun hc121 h => ?_) (fun hc121 h => ?_)
      · refine r_iload_n (pc := 128) C 0 rfl rfl dX12_tells_128 ?_
        refine r_if_ne (pc := 129) (tgt := 140) C h dX12_tells_129 (by decide) (fun hc129 h => ?_) (fun hc129 h => ?_)
        · refine r_iload_n (pc := 140) C 0 rfl rfl dX12_tells_140 ?_
          refine r_iconst (pc := 141) C dX12_tells_141 ?_
          refine r_icmp_ne (pc := 142) (tgt := 153) C h dX12_tells_142 (by decide) (fun hc142 h => ?_) (fun hc142 h => ?_)
          · refine r_iload (pc := 153) C 2 rfl dX12_tells_153 ?_
            have e := Option.some.inj h
            exact r_iret (pc := 155) C hr (congrArg (fun z => some (vI z)) (Prod.mk.inj e).1.symm) (Prod.mk.inj e).2.symm dX12_tells_155
          · refine r_iload (pc := 145) C 1 rfl dX12_tells_145 ?_
            refine r_bipush (pc := 147) (j := 12) C (by decide +kernel) dX12_tells_147 ?_
            obtain ⟨hz149, h⟩ := chk_inv h
            refine r_irem (pc := 149) C hz149 dX12_tells_149 ?_
            refine r_goto (pc := 150) (tgt := 155) C dX12_tells_150 (by decide) ?_
            have e := Option.some.inj h
            exact r_iret (pc := 155) C hr (congrArg (fun z => some (vI z)) (Prod.mk.inj e).1.symm) (Prod.mk.inj e).2.symm dX12_tells_155
        · refine r_iload (pc := 132) C 1 rfl dX12_tells_132 ?_
          refine r_bipush (pc := 134) (j := 12) C (by decide +kernel) dX12_tells_134 ?_
          obtain ⟨hz136, h⟩ := chk_inv h
          refine r_idiv (pc := 136) C hz136 dX12_tells_136 ?_
          refine r_goto (pc := 137) (tgt := 155) C dX12_tells_137 (by decide) ?_
          have e := Option.some.inj h
          exact r_iret (pc := 155) C hr (congrArg (fun z => some (vI z)) (Prod.mk.inj e).1.symm) (Prod.mk.inj e).2.symm dX12_tells_155
      · refine r_iconst (pc := 124) C dX12_tells_124 ?_
        refine r_goto (pc := 125) (tgt := 155) C dX12_tells_125 (by decide) ?_
        have e := Option.some.inj h
        exact r_iret (pc := 155) C hr (congrArg (fun z => some (vI z)) (Prod.mk.inj e).1.symm) (Prod.mk.inj e).2.symm dX12_tells_155
    · refine r_iconst (pc := 17) C dX12_tells_17 ?_
      have e := Option.some.inj h
      exact r_iret (pc := 18) C hr (congrArg (fun z => some (vI z)) (Prod.mk.inj e).1.symm) (Prod.mk.inj e).2.symm dX12_tells_18
  · refine r_iconst (pc := 17) C dX12_tells_17 ?_
    have e := Option.some.inj h
    exact r_iret (pc := 18) C hr (congrArg (fun z => some (vI z)) (Prod.mk.inj e).1.symm) (Prod.mk.inj e).2.symm dX12_tells_18
set_option maxHeartbeats 4000000 in
set_option maxRecDepth 20000 in
theorem w_m_minutes_L31_s (C : mCX p s m args meth c cX12_minutes 4 RX12 D E b) (hr : meth.sig.returnType = (some .int)) {r0 : Int} {M0 : Mem} {v1 : Int} {v2 : Int} {v3 : Int} {M : Mem} {q : Int × Mem} {rec : Int → Mem → Option (Int × Mem)} (hrec : ∀ (v3 : Int) (M : Mem), rec v3 M = some q → mWX p l e 7 161 s m args below meth c 4 D E b (some (vI r0)) M0 M 31 [(0, vR b 0), (1, vI v1), (2, vI v2), (3, vI v3)] []) (hfol : ∀ (v3 : Int) (M : Mem), q = (v3, M) → mWX p l e 7 161 s m args below meth c 4 D E b (some (vI r0)) M0 M 51 [(0, vR b 0), (2, vI v2)] []) (h : m_minutes_L31 v1 v2 rec v3 M = some q) :
    mWX p l e 7 161 s m args below meth c 4 D E b (some (vI r0)) M0 M 31 [(0, vR b 0), (1, vI v1), (2, vI v2), (3, vI v3)] [] := by
  unfold m_minutes_L31 at h
  refine r_iload_n (pc := 31) C 3 rfl rfl dX12_minutes_31 ?_
  refine r_iload_n (pc := 32) C 1 rfl rfl dX12_minutes_32 ?_
  refine r_icmp_ge (pc := 33) (tgt := 51) C h dX12_minutes_33 (by decide) (fun hc33 h => ?_) (fun hc33 h => ?_)
  · refine r_sub (lv' := [(0, vR b 0), (2, vI v2)]) [0, 2] rfl ?_
    exact hfol _ _ (Option.some.inj h).symm
  · refine r_aload_n (pc := 36) C 0 rfl rfl dX12_minutes_36 ?_
    refine r_iconst (pc := 37) C dX12_minutes_37 ?_
    refine r_aload_n (pc := 38) C 0 rfl rfl dX12_minutes_38 ?_
    obtain ⟨r4, hq4, h⟩ := bnd_inv h
    refine r_callV (pc := 39) (rest := [vI 0, vR b 0]) (st1 := [vI r4, vI 0, vR b 0]) C (mExtOK b) [] (c_m_all l hq4) cl_RX12_481 m_s0 (by decide) rfl rfl rfl rfl ⟨Nat.le_of_ble_eq_true rfl, Nat.le_of_ble_eq_true rfl⟩ (Nat.le_of_ble_eq_true rfl) rfl rfl dX12_minutes_39 ?_
    obtain ⟨M5, hq5, h⟩ := bnd_inv h
    refine r_callV (pc := 42) (rest := []) (st1 := []) C (mExtOK b) [vI 0, vI r4] (c_m_ticks l hq5) cl_RX12_475 m_s0 (by decide) rfl rfl rfl rfl ⟨Nat.le_of_ble_eq_true rfl, Nat.le_of_ble_eq_true rfl⟩ (Nat.le_of_ble_eq_true rfl) rfl rfl dX12_minutes_42 ?_
    obtain ⟨v3_45, hv3_45, h⟩ := lt_inv h
    refine r_iincN (pc := 45) (y := v3_45) (lv' := [(3, vI v3_45), (0, vR b 0), (1, vI v1), (2, vI v2)]) C 3 rfl hv3_45 dX12_minutes_45 (by decide) rfl ?_
    refine r_goto (pc := 48) (tgt := 31) C dX12_minutes_48 (by decide) ?_
    refine r_sub (lv' := [(0, vR b 0), (1, vI v1), (2, vI v2), (3, vI v3_45)]) [1, 2, 3, 0] rfl ?_
    exact hrec _ _ h
set_option maxHeartbeats 4000000 in
theorem w_m_minutes_L31 (C : mCX p s m args meth c cX12_minutes 4 RX12 D E b) (hr : meth.sig.returnType = (some .int)) {r0 : Int} {M0 : Mem} {v1 : Int} {v2 : Int} {q : Int × Mem} (hfol : ∀ (v3 : Int) (M : Mem), q = (v3, M) → mWX p l e 7 161 s m args below meth c 4 D E b (some (vI r0)) M0 M 51 [(0, vR b 0), (2, vI v2)] []) : ∀ (n : Nat) (v3 : Int) (M : Mem), itr2 (m_minutes_L31 v1 v2) n v3 M = some q →
    mWX p l e 7 161 s m args below meth c 4 D E b (some (vI r0)) M0 M 31 [(0, vR b 0), (1, vI v1), (2, vI v2), (3, vI v3)] [] := by
  intro n
  induction n with
  | zero => exact fun _ _ h => itr_z h
  | succ n ih => exact fun _ _ h => w_m_minutes_L31_s C hr ih hfol h
set_option maxHeartbeats 4000000 in
set_option maxRecDepth 20000 in
theorem c_m_minutes (l : Launch) {x1 : Int} {M : Mem} {r0 : Int} {M0 : Mem} (h : m_minutes x1 M = some (r0, M0)) : Ct l yX12_minutes cX12_minutes 4 (some .int) 7 161 vwCl mSh mN mRf mExt (fun b => [vR b 0, vI x1]) M (fun b => (some (vI r0))) M0 := by
  refine Ct_of mExtOK (by decide) (fun b => Nat.le_of_ble_eq_true rfl) ?_
  intro p e s m args below meth c D E b C hr
  unfold m_minutes at h
  refine (show mWX p l e 7 161 s m args below meth c 4 D E b (some (vI r0)) M0 M 0 [(0, vR b 0), (1, vI x1)] [] from ?_)
  refine r_aload_n (pc := 0) C 0 rfl rfl dX12_minutes_0 ?_
  refine r_iload_n (pc := 1) C 1 rfl rfl dX12_minutes_1 ?_
  refine r_iconst (pc := 2) C dX12_minutes_2 ?_
  refine r_bipush (pc := 3) (j := 60) C (by decide +kernel) dX12_minutes_3 ?_
  obtain ⟨r1, hq1, h⟩ := bnd_inv h
  refine r_callV (pc := 5) (rest := []) (st1 := [vB r1]) C (mExtOK b) [vI x1, vI 1, vI 60] (c_m_isAhead l hq1) cl_RX12_478 m_s0 (by decide) rfl rfl rfl rfl ⟨Nat.le_of_ble_eq_true rfl, Nat.le_of_ble_eq_true rfl⟩ (Nat.le_of_ble_eq_true rfl) rfl rfl dX12_minutes_5 ?_
  refine r_if_neB (pc := 8) (tgt := 17) C h dX12_minutes_8 (by decide) (fun hc8 h => ?_) (fun hc8 h => ?_)
  · refine r_aload_n (pc := 17) C 0 rfl rfl dX12_minutes_17 ?_
    obtain ⟨M2, hq2, h⟩ := bnd_inv h
    refine r_callV (pc := 18) (rest := []) (st1 := []) C (mExtOK b) [] (c_m_keeps l hq2) cl_RX12_506 m_s0 (by decide) rfl rfl rfl rfl ⟨Nat.le_of_ble_eq_true rfl, Nat.le_of_ble_eq_true rfl⟩ (Nat.le_of_ble_eq_true rfl) rfl rfl dX12_minutes_18 ?_
    refine r_aload_n (pc := 21) C 0 rfl rfl dX12_minutes_21 ?_
    refine r_iconst (pc := 22) C dX12_minutes_22 ?_
    refine r_iconst (pc := 23) C dX12_minutes_23 ?_
    refine r_iconst (pc := 24) C dX12_minutes_24 ?_
    obtain ⟨r3, hq3, h⟩ := bnd_inv h
    refine r_callV (pc := 25) (rest := []) (st1 := [vI r3]) C (mExtOK b) [vI 0, vI 3, vI 3] (c_m_manyOf l hq3) cl_RX12_458 m_s0 (by decide) rfl rfl rfl rfl ⟨Nat.le_of_ble_eq_true rfl, Nat.le_of_ble_eq_true rfl⟩ (Nat.le_of_ble_eq_true rfl) rfl rfl dX12_minutes_25 ?_
    refine r_istore_n (pc := 28) (lv' := [(2, vI r3), (0, vR b 0), (1, vI x1)]) C rfl dX12_minutes_28 (by decide) rfl ?_
    refine r_iconst (pc := 29) C dX12_minutes_29 ?_
    refine r_istore_n (pc := 30) (lv' := [(3, vI 0), (2, vI r3), (0, vR b 0), (1, vI x1)]) C rfl dX12_minutes_30 (by decide) rfl ?_
    refine r_sub (lv' := [(0, vR b 0), (1, vI x1), (2, vI r3), (3, vI 0)]) [2, 3, 1, 0] rfl ?_
    obtain ⟨q6, hl6, h⟩ := bnd_inv h
    refine w_m_minutes_L31 C hr (fun v3_6 M_6 hq => ?_) FUEL _ _ hl6
    have hq := hq.symm
    subst hq
    refine r_aload_n (pc := 51) C 0 rfl rfl dX12_minutes_51 ?_
    refine r_iconst (pc := 52) C dX12_minutes_52 ?_
    refine r_iconst (pc := 53) C dX12_minutes_53 ?_
    refine r_iconst (pc := 54) C dX12_minutes_54 ?_
    obtain ⟨r7, hq7, h⟩ := bnd_inv h
    refine r_callV (pc := 55) (rest := []) (st1 := [vI r7]) C (mExtOK b) [vI 0, vI 3, vI 3] (c_m_manyOf l hq7) cl_RX12_458 m_s0 (by decide) rfl rfl rfl rfl ⟨Nat.le_of_ble_eq_true rfl, Nat.le_of_ble_eq_true rfl⟩ (Nat.le_of_ble_eq_true rfl) rfl rfl dX12_minutes_55 ?_
    refine r_iload_n (pc := 58) C 1 rfl rfl dX12_minutes_58 ?_
    refine r_isub (pc := 59) C dX12_minutes_59 ?_
    have e := Option.some.inj h
    exact r_iret (pc := 60) C hr (congrArg (fun z => some (vI z)) (Prod.mk.inj e).1.symm) (Prod.mk.inj e).2.symm dX12_minutes_60
  · refine r_aload_n (pc := 11) C 0 rfl rfl dX12_minutes_11 ?_
    refine r_iconst (pc := 12) C dX12_minutes_12 ?_
    obtain ⟨r8, M8, hq8, h⟩ := bnd2_inv h
    refine r_callV (pc := 13) (rest := []) (st1 := [vI r8]) C (mExtOK b) [vI 2] (c_m_refuses l hq8) cl_RX12_225 m_s0 (by decide) rfl rfl rfl rfl ⟨Nat.le_of_ble_eq_true rfl, Nat.le_of_ble_eq_true rfl⟩ (Nat.le_of_ble_eq_true rfl) rfl rfl dX12_minutes_13 ?_
    have e := Option.some.inj h
    exact r_iret (pc := 16) C hr (congrArg (fun z => some (vI z)) (Prod.mk.inj e).1.symm) (Prod.mk.inj e).2.symm dX12_minutes_16
set_option maxHeartbeats 4000000 in
set_option maxRecDepth 20000 in
theorem c_m_draw (l : Launch) {x1 : Int} {M : Mem} {r0 : Int} {M0 : Mem} (h : m_draw x1 M = some (r0, M0)) : Ct l yX12_draw cX12_draw 2 (some .int) 1 12 vwCl mSh mN mRf mExt (fun b => [vR b 0, vI x1]) M (fun b => (some (vI r0))) M0 := by
  refine Ct_of mExtOK (by decide) (fun b => Nat.le_of_ble_eq_true rfl) ?_
  intro p e s m args below meth c D E b C hr
  unfold m_draw at h
  refine (show mWX p l e 1 12 s m args below meth c 2 D E b (some (vI r0)) M0 M 0 [(0, vR b 0), (1, vI x1)] [] from ?_)
  refine r_aload_n (pc := 0) C 0 rfl rfl dX12_draw_0 ?_
  refine r_ldc2 (pc := 1) (j := 1103515245) C (by decide +kernel) gk_RX12_509 dX12_draw_1 ?_
  refine r_aload_n (pc := 4) C 0 rfl rfl dX12_draw_4 ?_
  refine r_getL (pc := 5) C fl_RX12_189 m_s0 (by decide) m_k58 dX12_draw_5 ?_
  refine r_lmul (pc := 8) C dX12_draw_8 ?_
  refine r_ldc2 (pc := 9) (j := 12345) C (by decide +kernel) gk_RX12_511 dX12_draw_9 ?_
  refine r_ladd (pc := 12) C dX12_draw_12 ?_
  refine r_ldc2 (pc := 13) (j := 2147483648) C (by decide +kernel) gk_RX12_513 dX12_draw_13 ?_
  obtain ⟨hz16, h⟩ := chk_inv h
  refine r_lrem (pc := 16) C hz16 dX12_draw_16 ?_
  obtain ⟨M_17, hM_17, h⟩ := lt_inv h
  refine r_putL (pc := 17) C fl_RX12_189 mw_ft m_w58 m_s0 (by decide) m_k58 hM_17 dX12_draw_17 ?_
  refine r_aload_n (pc := 20) C 0 rfl rfl dX12_draw_20 ?_
  refine r_getL (pc := 21) C fl_RX12_189 m_s0 (by decide) m_k58 dX12_draw_21 ?_
  refine r_ldc2 (pc := 24) (j := 64) C (by decide +kernel) gk_RX12_515 dX12_draw_24 ?_
  obtain ⟨hz27, h⟩ := chk_inv h
  refine r_ldiv (pc := 27) C hz27 dX12_draw_27 ?_
  refine r_iload_n (pc := 28) C 1 rfl rfl dX12_draw_28 ?_
  refine r_i2l (pc := 29) C dX12_draw_29 ?_
  obtain ⟨hz30, h⟩ := chk_inv h
  refine r_lrem (pc := 30) C hz30 dX12_draw_30 ?_
  refine r_l2i (pc := 31) C dX12_draw_31 ?_
  have e := Option.some.inj h
  exact r_iret (pc := 32) C hr (congrArg (fun z => some (vI z)) (Prod.mk.inj e).1.symm) (Prod.mk.inj e).2.symm dX12_draw_32
set_option maxHeartbeats 4000000 in
set_option maxRecDepth 20000 in
theorem w_m_chance_L25_B118 (C : mCX p s m args meth c cX12_chance 5 RX12 D E b) (hr : meth.sig.returnType = (some .int)) {r0 : Int} {M0 : Mem} {M : Mem} {v1 : Int} {v2 : Int} {v3 : Int} {q : Int × Int × Mem} {rec : Int → Int → Mem → Option (Int × Int × Mem)} (hrec : ∀ (v2 : Int) (v3 : Int) (M : Mem), rec v2 v3 M = some q → mWX p l e 7 161 s m args below meth c 5 D E b (some (vI r0)) M0 M 25 [(0, vR b 0), (1, vI v1), (2, vI v2), (3, vI v3)] []) (hfol : ∀ (v2 : Int) (v3 : Int) (M : Mem), q = (v2, v3, M) → mWX p l e 7 161 s m args below meth c 5 D E b (some (vI r0)) M0 M 133 [(2, vI v2)] []) (h : m_chance_L25_B118 rec v1 v2 v3 M = some q) :
    mWX p l e 7 161 s m args below meth c 5 D E b (some (vI r0)) M0 M 118 [(0, vR b 0), (1, vI v1), (2, vI v2), (3, vI v3)] [] := by
  unfold m_chance_L25_B118 at h
  refine r_aload_n (pc := 118) C 0 rfl rfl dX12_chance_118 ?_
  refine r_iconst (pc := 119) C dX12_chance_119 ?_
  refine r_aload_n (pc := 120) C 0 rfl rfl dX12_chance_120 ?_
  obtain ⟨r4, hq4, h⟩ := bnd_inv h
  refine r_callV (pc := 121) (rest := [vI 0, vR b 0]) (st1 := [vI r4, vI 0, vR b 0]) C (mExtOK b) [] (c_m_all l hq4) cl_RX12_481 m_s0 (by decide) rfl rfl rfl rfl ⟨Nat.le_of_ble_eq_true rfl, Nat.le_of_ble_eq_true rfl⟩ (Nat.le_of_ble_eq_true rfl) rfl rfl dX12_chance_121 ?_
  obtain ⟨M5, hq5, h⟩ := bnd_inv h
  refine r_callV (pc := 124) (rest := []) (st1 := []) C (mExtOK b) [vI 0, vI r4] (c_m_ticks l hq5) cl_RX12_475 m_s0 (by decide) rfl rfl rfl rfl ⟨Nat.le_of_ble_eq_true rfl, Nat.le_of_ble_eq_true rfl⟩ (Nat.le_of_ble_eq_true rfl) rfl rfl dX12_chance_124 ?_
  obtain ⟨v3_127, hv3_127, h⟩ := lt_inv h
  refine r_iincN (pc := 127) (y := v3_127) (lv' := [(3, vI v3_127), (0, vR b 0), (1, vI v1), (2, vI v2)]) C 3 rfl hv3_127 dX12_chance_127 (by decide) rfl ?_
  refine r_goto (pc := 130) (tgt := 25) C dX12_chance_130 (by decide) ?_
  refine r_sub (lv' := [(0, vR b 0), (1, vI v1), (2, vI v2), (3, vI v3_127)]) [1, 2, 3, 0] rfl ?_
  exact hrec _ _ _ h
set_option maxHeartbeats 4000000 in
set_option maxRecDepth 20000 in
theorem w_m_chance_L25_B95 (C : mCX p s m args meth c cX12_chance 5 RX12 D E b) (hr : meth.sig.returnType = (some .int)) {r0 : Int} {M0 : Mem} {M : Mem} {v1 : Int} {v3 : Int} {v4 : Int} {s0 : Int} {s1 : Int} {q : Int × Int × Mem} {rec : Int → Int → Mem → Option (Int × Int × Mem)} (hrec : ∀ (v2 : Int) (v3 : Int) (M : Mem), rec v2 v3 M = some q → mWX p l e 7 161 s m args below meth c 5 D E b (some (vI r0)) M0 M 25 [(0, vR b 0), (1, vI v1), (2, vI v2), (3, vI v3)] []) (hfol : ∀ (v2 : Int) (v3 : Int) (M : Mem), q = (v2, v3, M) → mWX p l e 7 161 s m args below meth c 5 D E b (some (vI r0)) M0 M 133 [(2, vI v2)] []) (h : m_chance_L25_B95 rec v1 v3 v4 s0 s1 M = some q) :
    mWX p l e 7 161 s m args below meth c 5 D E b (some (vI r0)) M0 M 95 [(0, vR b 0), (1, vI v1), (3, vI v3), (4, vI v4)] [vI s1, vI s0] := by
  unfold m_chance_L25_B95 at h
  refine r_iadd (pc := 95) C dX12_chance_95 ?_
  obtain ⟨v2_96, hv2_96, h⟩ := lt_inv h
  refine r_topI hv2_96 ?_
  refine r_istore_n (pc := 96) (lv' := [(2, vI v2_96), (0, vR b 0), (1, vI v1), (3, vI v3), (4, vI v4)]) C rfl dX12_chance_96 (by decide) rfl ?_
  refine r_aload_n (pc := 97) C 1 rfl rfl dX12_chance_97 ?_
  refine r_getR (pc := 98) C fl_RX12_156 m_s0 (by decide) m_k47 m_r47 dX12_chance_98 ?_
  refine r_iconst (pc := 101) C dX12_chance_101 ?_
  refine r_iald (pc := 102) C m_s28 (by decide) (by decide) (by decide) rfl dX12_chance_102 ?_
  refine r_iload (pc := 103) C 4 rfl dX12_chance_103 ?_
  obtain ⟨r8, hq8, h⟩ := bnd_inv h
  refine r_callS (pc := 105) (rest := []) (st1 := [vB r8]) C (mExtOK b) [vI (M 28 0), vI v4] (c_m_has2 l hq8) cl_RX12_428 rfl rfl ⟨Nat.le_of_ble_eq_true rfl, Nat.le_of_ble_eq_true rfl⟩ (Nat.le_of_ble_eq_true rfl) rfl rfl dX12_chance_105 ?_
  refine r_if_neB (pc := 108) (tgt := 118) C h dX12_chance_108 (by decide) (fun hc108 h => ?_) (fun hc108 h => ?_)
  · refine r_sub (lv' := [(0, vR b 0), (1, vI v1), (2, vI v2_96), (3, vI v3)]) [1, 2, 0, 3] rfl ?_
    exact w_m_chance_L25_B118 C hr hrec hfol h
  · refine r_aload_n (pc := 111) C 1 rfl rfl dX12_chance_111 ?_
    refine r_iconst (pc := 112) C dX12_chance_112 ?_
    refine r_iload (pc := 113) C 4 rfl dX12_chance_113 ?_
    obtain ⟨M9, hq9, h⟩ := bnd_inv h
    refine r_callV (pc := 115) (rest := []) (st1 := []) C (mExtOK b) [vI 0, vI v4] (c_m_strikes l hq9) cl_RX12_493 m_s0 (by decide) rfl rfl rfl rfl ⟨Nat.le_of_ble_eq_true rfl, Nat.le_of_ble_eq_true rfl⟩ (Nat.le_of_ble_eq_true rfl) rfl rfl dX12_chance_115 ?_
    refine r_sub (lv' := [(0, vR b 0), (1, vI v1), (2, vI v2_96), (3, vI v3)]) [1, 2, 0, 3] rfl ?_
    exact w_m_chance_L25_B118 C hr hrec hfol h
set_option maxHeartbeats 4000000 in
set_option maxRecDepth 20000 in
theorem w_m_chance_L25_s (C : mCX p s m args meth c cX12_chance 5 RX12 D E b) (hr : meth.sig.returnType = (some .int)) {r0 : Int} {M0 : Mem} {v1 : Int} {v2 : Int} {v3 : Int} {M : Mem} {q : Int × Int × Mem} {rec : Int → Int → Mem → Option (Int × Int × Mem)} (hrec : ∀ (v2 : Int) (v3 : Int) (M : Mem), rec v2 v3 M = some q → mWX p l e 7 161 s m args below meth c 5 D E b (some (vI r0)) M0 M 25 [(0, vR b 0), (1, vI v1), (2, vI v2), (3, vI v3)] []) (hfol : ∀ (v2 : Int) (v3 : Int) (M : Mem), q = (v2, v3, M) → mWX p l e 7 161 s m args below meth c 5 D E b (some (vI r0)) M0 M 133 [(2, vI v2)] []) (h : m_chance_L25 v1 rec v2 v3 M = some q) :
    mWX p l e 7 161 s m args below meth c 5 D E b (some (vI r0)) M0 M 25 [(0, vR b 0), (1, vI v1), (2, vI v2), (3, vI v3)] [] := by
  unfold m_chance_L25 at h
  refine r_iload_n (pc := 25) C 3 rfl rfl dX12_chance_25 ?_
  refine r_iload_n (pc := 26) C 1 rfl rfl dX12_chance_26 ?_
  refine r_icmp_ge (pc := 27) (tgt := 133) C h dX12_chance_27 (by decide) (fun hc27 h => ?_) (fun hc27 h => ?_)
  · refine r_sub (lv' := [(2, vI v2)]) [2] rfl ?_
    exact hfol _ _ _ (Option.some.inj h).symm
  · refine r_aload_n (pc := 30) C 0 rfl rfl dX12_chance_30 ?_
    refine r_bipush (pc := 31) (j := 100) C (by decide +kernel) dX12_chance_31 ?_
    obtain ⟨r3, M3, hq3, h⟩ := bnd2_inv h
    refine r_callV (pc := 33) (rest := []) (st1 := [vI r3]) C (mExtOK b) [vI 100] (c_m_draw l hq3) cl_RX12_517 m_s0 (by decide) rfl rfl rfl rfl ⟨Nat.le_of_ble_eq_true rfl, Nat.le_of_ble_eq_true rfl⟩ (Nat.le_of_ble_eq_true rfl) rfl rfl dX12_chance_33 ?_
    refine r_aload_n (pc := 36) C 0 rfl rfl dX12_chance_36 ?_
    refine r_getR (pc := 37) C fl_RX12_81 m_s0 (by decide) m_k23 m_r23 dX12_chance_37 ?_
    refine r_aload_n (pc := 40) C 0 rfl rfl dX12_chance_40 ?_
    refine r_getI (pc := 41) C fl_RX12_51 m_s0 (by decide) m_k13 dX12_chance_41 ?_
    obtain ⟨hi44, h⟩ := chk_inv h
    refine r_iald (pc := 44) C m_s11 (by decide) (by decide) hi44 rfl dX12_chance_44 ?_
    refine r_icmp_ge (pc := 45) (tgt := 118) C h dX12_chance_45 (by decide) (fun hc45 h => ?_) (fun hc45 h => ?_)
    · refine r_sub (lv' := [(0, vR b 0), (1, vI v1), (2, vI v2), (3, vI v3)]) [0, 1, 2, 3] rfl ?_
      exact w_m_chance_L25_B118 C hr hrec hfol h
    · refine r_aload_n (pc := 48) C 0 rfl rfl dX12_chance_48 ?_
      refine r_getR (pc := 49) C fl_RX12_54 m_s0 (by decide) m_k14 m_r14 dX12_chance_49 ?_
      refine r_aload_n (pc := 52) C 0 rfl rfl dX12_chance_52 ?_
      refine r_getI (pc := 53) C fl_RX12_51 m_s0 (by decide) m_k13 dX12_chance_53 ?_
      obtain ⟨hi56, h⟩ := chk_inv h
      refine r_iald (pc := 56) C m_s2 (by decide) (by decide) hi56 rfl dX12_chance_56 ?_
      refine r_if_le (pc := 57) (tgt := 118) C h dX12_chance_57 (by decide) (fun hc57 h => ?_) (fun hc57 h => ?_)
      · refine r_sub (lv' := [(0, vR b 0), (1, vI v1), (2, vI v2), (3, vI v3)]) [0, 1, 2, 3] rfl ?_
        exact w_m_chance_L25_B118 C hr hrec hfol h
      · refine r_aload_n (pc := 60) C 0 rfl rfl dX12_chance_60 ?_
        refine r_aload_n (pc := 61) C 0 rfl rfl dX12_chance_61 ?_
        refine r_getR (pc := 62) C fl_RX12_54 m_s0 (by decide) m_k14 m_r14 dX12_chance_62 ?_
        refine r_aload_n (pc := 65) C 0 rfl rfl dX12_chance_65 ?_
        refine r_getI (pc := 66) C fl_RX12_51 m_s0 (by decide) m_k13 dX12_chance_66 ?_
        obtain ⟨hi69, h⟩ := chk_inv h
        refine r_iald (pc := 69) C m_s2 (by decide) (by decide) hi69 rfl dX12_chance_69 ?_
        obtain ⟨r6, M6, hq6, h⟩ := bnd2_inv h
        refine r_callV (pc := 70) (rest := []) (st1 := [vI r6]) C (mExtOK b) [vI (M3 2 (M3 0 13).toNat)] (c_m_draw l hq6) cl_RX12_517 m_s0 (by decide) rfl rfl rfl rfl ⟨Nat.le_of_ble_eq_true rfl, Nat.le_of_ble_eq_true rfl⟩ (Nat.le_of_ble_eq_true rfl) rfl rfl dX12_chance_70 ?_
        refine r_istore (pc := 73) (lv' := [(4, vI r6), (0, vR b 0), (1, vI v1), (2, vI v2), (3, vI v3)]) C dX12_chance_73 (by decide) rfl ?_
        refine r_iload_n (pc := 75) C 3 rfl rfl dX12_chance_75 ?_
        refine r_aload_n (pc := 76) C 1 rfl rfl dX12_chance_76 ?_
        refine r_getR (pc := 77) C fl_RX12_156 m_s0 (by decide) m_k47 m_r47 dX12_chance_77 ?_
        refine r_iconst (pc := 80) C dX12_chance_80 ?_
        refine r_iald (pc := 81) C m_s28 (by decide) (by decide) (by decide) rfl dX12_chance_81 ?_
        refine r_iload (pc := 82) C 0 rfl dX12_chance_82 ?_
        obtain ⟨r7, hq7, h⟩ := bnd_inv h
        refine r_callS (pc := 84) (rest := [vI v2]) (st1 := [vB r7, vI v2]) C (mExtOK b) [vI (M6 28 0), vI r6] (c_m_has2 l hq7) cl_RX12_428 rfl rfl ⟨Nat.le_of_ble_eq_true rfl, Nat.le_of_ble_eq_true rfl⟩ (Nat.le_of_ble_eq_true rfl) rfl rfl dX12_chance_84 ?_
        refine r_if_eqB (pc := 87) (tgt := 94) C h dX12_chance_87 (by decide) (fun hc87 h => ?_) (fun hc87 h => ?_)
        · refine r_iconst (pc := 90) C dX12_chance_90 ?_
          refine r_goto (pc := 91) (tgt := 95) C dX12_chance_91 (by decide) ?_
          refine r_sub (lv' := [(0, vR b 0), (1, vI v1), (3, vI v3), (4, vI r6)]) [1, 2, 4, 0] rfl ?_
          exact w_m_chance_L25_B95 C hr hrec hfol h
        · refine r_iconst (pc := 94) C dX12_chance_94 ?_
          refine r_sub (lv' := [(0, vR b 0), (1, vI v1), (3, vI v3), (4, vI r6)]) [1, 2, 4, 0] rfl ?_
          exact w_m_chance_L25_B95 C hr hrec hfol h
set_option maxHeartbeats 4000000 in
theorem w_m_chance_L25 (C : mCX p s m args meth c cX12_chance 5 RX12 D E b) (hr : meth.sig.returnType = (some .int)) {r0 : Int} {M0 : Mem} {v1 : Int} {q : Int × Int × Mem} (hfol : ∀ (v2 : Int) (v3 : Int) (M : Mem), q = (v2, v3, M) → mWX p l e 7 161 s m args below meth c 5 D E b (some (vI r0)) M0 M 133 [(2, vI v2)] []) : ∀ (n : Nat) (v2 : Int) (v3 : Int) (M : Mem), itr3 (m_chance_L25 v1) n v2 v3 M = some q →
    mWX p l e 7 161 s m args below meth c 5 D E b (some (vI r0)) M0 M 25 [(0, vR b 0), (1, vI v1), (2, vI v2), (3, vI v3)] [] := by
  intro n
  induction n with
  | zero => exact fun _ _ _ h => itr_z h
  | succ n ih => exact fun _ _ _ h => w_m_chance_L25_s C hr ih hfol h
set_option maxHeartbeats 4000000 in
set_option maxRecDepth 20000 in
theorem c_m_chance (l : Launch) {x1 : Int} {M : Mem} {r0 : Int} {M0 : Mem} (h : m_chance x1 M = some (r0, M0)) : Ct l yX12_chance cX12_chance 5 (some .int) 7 161 vwCl mSh mN mRf mExt (fun b => [vR b 0, vI x1]) M (fun b => (some (vI r0))) M0 := by
  refine Ct_of mExtOK (by decide) (fun b => Nat.le_of_ble_eq_true rfl) ?_
  intro p e s m args below meth c D E b C hr
  unfold m_chance at h
  refine (show mWX p l e 7 161 s m args below meth c 5 D E b (some (vI r0)) M0 M 0 [(0, vR b 0), (1, vI x1)] [] from ?_)
  refine r_aload_n (pc := 0) C 0 rfl rfl dX12_chance_0 ?_
  refine r_iload_n (pc := 1) C 1 rfl rfl dX12_chance_1 ?_
  refine r_iconst (pc := 2) C dX12_chance_2 ?_
  refine r_bipush (pc := 3) (j := 60) C (by decide +kernel) dX12_chance_3 ?_
  obtain ⟨r1, hq1, h⟩ := bnd_inv h
  refine r_callV (pc := 5) (rest := []) (st1 := [vB r1]) C (mExtOK b) [vI x1, vI 1, vI 60] (c_m_isAhead l hq1) cl_RX12_478 m_s0 (by decide) rfl rfl rfl rfl ⟨Nat.le_of_ble_eq_true rfl, Nat.le_of_ble_eq_true rfl⟩ (Nat.le_of_ble_eq_true rfl) rfl rfl dX12_chance_5 ?_
  refine r_if_neB (pc := 8) (tgt := 17) C h dX12_chance_8 (by decide) (fun hc8 h => ?_) (fun hc8 h => ?_)
  · refine r_aload_n (pc := 17) C 0 rfl rfl dX12_chance_17 ?_
    obtain ⟨M2, hq2, h⟩ := bnd_inv h
    refine r_callV (pc := 18) (rest := []) (st1 := []) C (mExtOK b) [] (c_m_keeps l hq2) cl_RX12_506 m_s0 (by decide) rfl rfl rfl rfl ⟨Nat.le_of_ble_eq_true rfl, Nat.le_of_ble_eq_true rfl⟩ (Nat.le_of_ble_eq_true rfl) rfl rfl dX12_chance_18 ?_
    refine r_iconst (pc := 21) C dX12_chance_21 ?_
    refine r_istore_n (pc := 22) (lv' := [(2, vI 0), (0, vR b 0), (1, vI x1)]) C rfl dX12_chance_22 (by decide) rfl ?_
    refine r_iconst (pc := 23) C dX12_chance_23 ?_
    refine r_istore_n (pc := 24) (lv' := [(3, vI 0), (2, vI 0), (0, vR b 0), (1, vI x1)]) C rfl dX12_chance_24 (by decide) rfl ?_
    refine r_sub (lv' := [(0, vR b 0), (1, vI x1), (2, vI 0), (3, vI 0)]) [2, 3, 1, 0] rfl ?_
    obtain ⟨q10, hl10, h⟩ := bnd_inv h
    refine w_m_chance_L25 C hr (fun v2_10 v3_10 M_10 hq => ?_) FUEL _ _ _ hl10
    have hq := hq.symm
    subst hq
    refine r_iload_n (pc := 133) C 0 rfl rfl dX12_chance_133 ?_
    have e := Option.some.inj h
    exact r_iret (pc := 134) C hr (congrArg (fun z => some (vI z)) (Prod.mk.inj e).1.symm) (Prod.mk.inj e).2.symm dX12_chance_134
  · refine r_aload_n (pc := 11) C 0 rfl rfl dX12_chance_11 ?_
    refine r_iconst (pc := 12) C dX12_chance_12 ?_
    obtain ⟨r11, M11, hq11, h⟩ := bnd2_inv h
    refine r_callV (pc := 13) (rest := []) (st1 := [vI r11]) C (mExtOK b) [vI 2] (c_m_refuses l hq11) cl_RX12_225 m_s0 (by decide) rfl rfl rfl rfl ⟨Nat.le_of_ble_eq_true rfl, Nat.le_of_ble_eq_true rfl⟩ (Nat.le_of_ble_eq_true rfl) rfl rfl dX12_chance_13 ?_
    have e := Option.some.inj h
    exact r_iret (pc := 16) C hr (congrArg (fun z => some (vI z)) (Prod.mk.inj e).1.symm) (Prod.mk.inj e).2.symm dX12_chance_16
set_option maxHeartbeats 4000000 in
set_option maxRecDepth 20000 in
theorem w_m_strike_B21 (C : mCX p s m args meth c cX12_strike 2 RX12 D E b) (hr : meth.sig.returnType = (some .boolean)) {r0 : Bool} {M0 : Mem} {M : Mem} (h : m_strike_B21 M = some (r0, M0)) :
    mWX p l e 3 59 s m args below meth c 2 D E b (some (vB r0)) M0 M 21 [(0, vR b 0)] [] := by
  unfold m_strike_B21 at h
  refine r_aload_n (pc := 21) C 0 rfl rfl dX12_strike_21 ?_
  refine r_iconst (pc := 22) C dX12_strike_22 ?_
  obtain ⟨r2, M2, hq2, h⟩ := bnd2_inv h
  refine r_callV (pc := 23) (rest := []) (st1 := [vI r2]) C (mExtOK b) [vI 3] (c_m_refuses l hq2) cl_RX12_225 m_s0 (by decide) rfl rfl rfl rfl ⟨Nat.le_of_ble_eq_true rfl, Nat.le_of_ble_eq_true rfl⟩ (Nat.le_of_ble_eq_true rfl) rfl rfl dX12_strike_23 ?_
  refine r_if_lt (pc := 26) (tgt := 33) C h dX12_strike_26 (by decide) (fun hc26 h => ?_) (fun hc26 h => ?_)
  · refine r_iconst (pc := 33) C dX12_strike_33 ?_
    have e := Option.some.inj h
    exact r_zret (pc := 34) C hr (Or.inl rfl) (congrArg (fun z => some (vB z)) (Prod.mk.inj e).1.symm) (Prod.mk.inj e).2.symm dX12_strike_34
  · refine r_iconst (pc := 29) C dX12_strike_29 ?_
    refine r_goto (pc := 30) (tgt := 34) C dX12_strike_30 (by decide) ?_
    have e := Option.some.inj h
    exact r_zret (pc := 34) C hr (Or.inr rfl) (congrArg (fun z => some (vB z)) (Prod.mk.inj e).1.symm) (Prod.mk.inj e).2.symm dX12_strike_34
set_option maxHeartbeats 4000000 in
set_option maxRecDepth 20000 in
theorem c_m_strike (l : Launch) {x1 : Int} {M : Mem} {r0 : Bool} {M0 : Mem} (h : m_strike x1 M = some (r0, M0)) : Ct l yX12_strike cX12_strike 2 (some .boolean) 3 59 vwCl mSh mN mRf mExt (fun b => [vR b 0, vI x1]) M (fun b => (some (vB r0))) M0 := by
  refine Ct_of mExtOK (by decide) (fun b => Nat.le_of_ble_eq_true rfl) ?_
  intro p e s m args below meth c D E b C hr
  unfold m_strike at h
  refine (show mWX p l e 3 59 s m args below meth c 2 D E b (some (vB r0)) M0 M 0 [(0, vR b 0), (1, vI x1)] [] from ?_)
  refine r_aload_n (pc := 0) C 0 rfl rfl dX12_strike_0 ?_
  refine r_iload_n (pc := 1) C 1 rfl rfl dX12_strike_1 ?_
  obtain ⟨r1, hq1, h⟩ := bnd_inv h
  refine r_callV (pc := 2) (rest := []) (st1 := [vB r1]) C (mExtOK b) [vI x1] (c_m_isVoice l hq1) cl_RX12_462 m_s0 (by decide) rfl rfl rfl rfl ⟨Nat.le_of_ble_eq_true rfl, Nat.le_of_ble_eq_true rfl⟩ (Nat.le_of_ble_eq_true rfl) rfl rfl dX12_strike_2 ?_
  refine r_if_eqB (pc := 5) (tgt := 21) C h dX12_strike_5 (by decide) (fun hc5 h => ?_) (fun hc5 h => ?_)
  · refine r_aload_n (pc := 8) C 0 rfl rfl dX12_strike_8 ?_
    refine r_getR (pc := 9) C fl_RX12_156 m_s0 (by decide) m_k47 m_r47 dX12_strike_9 ?_
    refine r_iconst (pc := 12) C dX12_strike_12 ?_
    refine r_iald (pc := 13) C m_s28 (by decide) (by decide) (by decide) rfl dX12_strike_13 ?_
    refine r_iload_n (pc := 14) C 1 rfl rfl dX12_strike_14 ?_
    obtain ⟨r3, hq3, h⟩ := bnd_inv h
    refine r_callS (pc := 15) (rest := []) (st1 := [vB r3]) C (mExtOK b) [vI (M 28 0), vI x1] (c_m_has2 l hq3) cl_RX12_428 rfl rfl ⟨Nat.le_of_ble_eq_true rfl, Nat.le_of_ble_eq_true rfl⟩ (Nat.le_of_ble_eq_true rfl) rfl rfl dX12_strike_15 ?_
    refine r_if_eqB (pc := 18) (tgt := 35) C h dX12_strike_18 (by decide) (fun hc18 h => ?_) (fun hc18 h => ?_)
    · refine r_sub (lv' := [(0, vR b 0)]) [0] rfl ?_
      exact w_m_strike_B21 C hr h
    · refine r_aload_n (pc := 35) C 0 rfl rfl dX12_strike_35 ?_
      obtain ⟨M4, hq4, h⟩ := bnd_inv h
      refine r_callV (pc := 36) (rest := []) (st1 := []) C (mExtOK b) [] (c_m_keeps l hq4) cl_RX12_506 m_s0 (by decide) rfl rfl rfl rfl ⟨Nat.le_of_ble_eq_true rfl, Nat.le_of_ble_eq_true rfl⟩ (Nat.le_of_ble_eq_true rfl) rfl rfl dX12_strike_36 ?_
      refine r_aload_n (pc := 39) C 0 rfl rfl dX12_strike_39 ?_
      refine r_iconst (pc := 40) C dX12_strike_40 ?_
      refine r_iload_n (pc := 41) C 1 rfl rfl dX12_strike_41 ?_
      obtain ⟨M5, hq5, h⟩ := bnd_inv h
      refine r_callV (pc := 42) (rest := []) (st1 := []) C (mExtOK b) [vI 0, vI x1] (c_m_strikes l hq5) cl_RX12_493 m_s0 (by decide) rfl rfl rfl rfl ⟨Nat.le_of_ble_eq_true rfl, Nat.le_of_ble_eq_true rfl⟩ (Nat.le_of_ble_eq_true rfl) rfl rfl dX12_strike_42 ?_
      refine r_iconst (pc := 45) C dX12_strike_45 ?_
      have e := Option.some.inj h
      exact r_zret (pc := 46) C hr (Or.inr rfl) (congrArg (fun z => some (vB z)) (Prod.mk.inj e).1.symm) (Prod.mk.inj e).2.symm dX12_strike_46
  · refine r_sub (lv' := [(0, vR b 0)]) [0] rfl ?_
    exact w_m_strike_B21 C hr h
set_option maxHeartbeats 4000000 in
set_option maxRecDepth 20000 in
theorem w_m_heal_B21 (C : mCX p s m args meth c cX12_heal 2 RX12 D E b) (hr : meth.sig.returnType = (some .boolean)) {r0 : Bool} {M0 : Mem} {M : Mem} (h : m_heal_B21 M = some (r0, M0)) :
    mWX p l e 3 57 s m args below meth c 2 D E b (some (vB r0)) M0 M 21 [(0, vR b 0)] [] := by
  unfold m_heal_B21 at h
  refine r_aload_n (pc := 21) C 0 rfl rfl dX12_heal_21 ?_
  refine r_iconst (pc := 22) C dX12_heal_22 ?_
  obtain ⟨r2, M2, hq2, h⟩ := bnd2_inv h
  refine r_callV (pc := 23) (rest := []) (st1 := [vI r2]) C (mExtOK b) [vI 3] (c_m_refuses l hq2) cl_RX12_225 m_s0 (by decide) rfl rfl rfl rfl ⟨Nat.le_of_ble_eq_true rfl, Nat.le_of_ble_eq_true rfl⟩ (Nat.le_of_ble_eq_true rfl) rfl rfl dX12_heal_23 ?_
  refine r_if_lt (pc := 26) (tgt := 33) C h dX12_heal_26 (by decide) (fun hc26 h => ?_) (fun hc26 h => ?_)
  · refine r_iconst (pc := 33) C dX12_heal_33 ?_
    have e := Option.some.inj h
    exact r_zret (pc := 34) C hr (Or.inl rfl) (congrArg (fun z => some (vB z)) (Prod.mk.inj e).1.symm) (Prod.mk.inj e).2.symm dX12_heal_34
  · refine r_iconst (pc := 29) C dX12_heal_29 ?_
    refine r_goto (pc := 30) (tgt := 34) C dX12_heal_30 (by decide) ?_
    have e := Option.some.inj h
    exact r_zret (pc := 34) C hr (Or.inr rfl) (congrArg (fun z => some (vB z)) (Prod.mk.inj e).1.symm) (Prod.mk.inj e).2.symm dX12_heal_34
set_option maxHeartbeats 4000000 in
set_option maxRecDepth 20000 in
theorem c_m_heal (l : Launch) {x1 : Int} {M : Mem} {r0 : Bool} {M0 : Mem} (h : m_heal x1 M = some (r0, M0)) : Ct l yX12_heal cX12_heal 2 (some .boolean) 3 57 vwCl mSh mN mRf mExt (fun b => [vR b 0, vI x1]) M (fun b => (some (vB r0))) M0 := by
  refine Ct_of mExtOK (by decide) (fun b => Nat.le_of_ble_eq_true rfl) ?_
  intro p e s m args below meth c D E b C hr
  unfold m_heal at h
  refine (show mWX p l e 3 57 s m args below meth c 2 D E b (some (vB r0)) M0 M 0 [(0, vR b 0), (1, vI x1)] [] from ?_)
  refine r_aload_n (pc := 0) C 0 rfl rfl dX12_heal_0 ?_
  refine r_iload_n (pc := 1) C 1 rfl rfl dX12_heal_1 ?_
  obtain ⟨r1, hq1, h⟩ := bnd_inv h
  refine r_callV (pc := 2) (rest := []) (st1 := [vB r1]) C (mExtOK b) [vI x1] (c_m_isVoice l hq1) cl_RX12_462 m_s0 (by decide) rfl rfl rfl rfl ⟨Nat.le_of_ble_eq_true rfl, Nat.le_of_ble_eq_true rfl⟩ (Nat.le_of_ble_eq_true rfl) rfl rfl dX12_heal_2 ?_
  refine r_if_eqB (pc := 5) (tgt := 21) C h dX12_heal_5 (by decide) (fun hc5 h => ?_) (fun hc5 h => ?_)
  · refine r_aload_n (pc := 8) C 0 rfl rfl dX12_heal_8 ?_
    refine r_getR (pc := 9) C fl_RX12_156 m_s0 (by decide) m_k47 m_r47 dX12_heal_9 ?_
    refine r_iconst (pc := 12) C dX12_heal_12 ?_
    refine r_iald (pc := 13) C m_s28 (by decide) (by decide) (by decide) rfl dX12_heal_13 ?_
    refine r_iload_n (pc := 14) C 1 rfl rfl dX12_heal_14 ?_
    obtain ⟨r3, hq3, h⟩ := bnd_inv h
    refine r_callS (pc := 15) (rest := []) (st1 := [vB r3]) C (mExtOK b) [vI (M 28 0), vI x1] (c_m_has2 l hq3) cl_RX12_428 rfl rfl ⟨Nat.le_of_ble_eq_true rfl, Nat.le_of_ble_eq_true rfl⟩ (Nat.le_of_ble_eq_true rfl) rfl rfl dX12_heal_15 ?_
    refine r_if_neB (pc := 18) (tgt := 35) C h dX12_heal_18 (by decide) (fun hc18 h => ?_) (fun hc18 h => ?_)
    · refine r_aload_n (pc := 35) C 0 rfl rfl dX12_heal_35 ?_
      obtain ⟨M4, hq4, h⟩ := bnd_inv h
      refine r_callV (pc := 36) (rest := []) (st1 := []) C (mExtOK b) [] (c_m_keeps l hq4) cl_RX12_506 m_s0 (by decide) rfl rfl rfl rfl ⟨Nat.le_of_ble_eq_true rfl, Nat.le_of_ble_eq_true rfl⟩ (Nat.le_of_ble_eq_true rfl) rfl rfl dX12_heal_36 ?_
      refine r_aload_n (pc := 39) C 0 rfl rfl dX12_heal_39 ?_
      refine r_getR (pc := 40) C fl_RX12_156 m_s0 (by decide) m_k47 m_r47 dX12_heal_40 ?_
      refine r_iconst (pc := 43) C dX12_heal_43 ?_
      refine r_dup2 (pc := 44) C rfl rfl dX12_heal_44 ?_
      refine r_iald (pc := 45) C m_s28 (by decide) (by decide) (by decide) rfl dX12_heal_45 ?_
      refine r_iconst (pc := 46) C dX12_heal_46 ?_
      refine r_iload_n (pc := 47) C 1 rfl rfl dX12_heal_47 ?_
      refine r_ishl (pc := 48) C dX12_heal_48 ?_
      refine r_iconst (pc := 49) C dX12_heal_49 ?_
      refine r_ixor (pc := 50) C dX12_heal_50 ?_
      refine r_iand (pc := 51) C dX12_heal_51 ?_
      obtain ⟨M_52, hM_52, h⟩ := lt_inv h
      refine r_iast (pc := 52) C m_s28 (by decide) (by decide) (by decide) rfl hM_52 dX12_heal_52 ?_
      refine r_iconst (pc := 53) C dX12_heal_53 ?_
      have e := Option.some.inj h
      exact r_zret (pc := 54) C hr (Or.inr rfl) (congrArg (fun z => some (vB z)) (Prod.mk.inj e).1.symm) (Prod.mk.inj e).2.symm dX12_heal_54
    · refine r_sub (lv' := [(0, vR b 0)]) [0] rfl ?_
      exact w_m_heal_B21 C hr h
  · refine r_sub (lv' := [(0, vR b 0)]) [0] rfl ?_
    exact w_m_heal_B21 C hr h
set_option maxHeartbeats 4000000 in
set_option maxRecDepth 20000 in
theorem w_m_train_B28 (C : mCX p s m args meth c cX12_train 3 RX12 D E b) (hr : meth.sig.returnType = (some .boolean)) {r0 : Bool} {M0 : Mem} {M : Mem} (h : m_train_B28 M = some (r0, M0)) :
    mWX p l e 3 57 s m args below meth c 3 D E b (some (vB r0)) M0 M 28 [(0, vR b 0)] [] := by
  unfold m_train_B28 at h
  refine r_aload_n (pc := 28) C 0 rfl rfl dX12_train_28 ?_
  refine r_iconst (pc := 29) C dX12_train_29 ?_
  obtain ⟨r2, M2, hq2, h⟩ := bnd2_inv h
  refine r_callV (pc := 30) (rest := []) (st1 := [vI r2]) C (mExtOK b) [vI 3] (c_m_refuses l hq2) cl_RX12_225 m_s0 (by decide) rfl rfl rfl rfl ⟨Nat.le_of_ble_eq_true rfl, Nat.le_of_ble_eq_true rfl⟩ (Nat.le_of_ble_eq_true rfl) rfl rfl dX12_train_30 ?_
  refine r_if_lt (pc := 33) (tgt := 40) C h dX12_train_33 (by decide) (fun hc33 h => ?_) (fun hc33 h => ?_)
  · refine r_iconst (pc := 40) C dX12_train_40 ?_
    have e := Option.some.inj h
    exact r_zret (pc := 41) C hr (Or.inl rfl) (congrArg (fun z => some (vB z)) (Prod.mk.inj e).1.symm) (Prod.mk.inj e).2.symm dX12_train_41
  · refine r_iconst (pc := 36) C dX12_train_36 ?_
    refine r_goto (pc := 37) (tgt := 41) C dX12_train_37 (by decide) ?_
    have e := Option.some.inj h
    exact r_zret (pc := 41) C hr (Or.inr rfl) (congrArg (fun z => some (vB z)) (Prod.mk.inj e).1.symm) (Prod.mk.inj e).2.symm dX12_train_41
set_option maxHeartbeats 4000000 in
set_option maxRecDepth 20000 in
theorem c_m_train (l : Launch) {x1 : Int} {x2 : Int} {M : Mem} {r0 : Bool} {M0 : Mem} (h : m_train x1 x2 M = some (r0, M0)) : Ct l yX12_train cX12_train 3 (some .boolean) 3 57 vwCl mSh mN mRf mExt (fun b => [vR b 0, vI x1, vI x2]) M (fun b => (some (vB r0))) M0 := by
  refine Ct_of mExtOK (by decide) (fun b => Nat.le_of_ble_eq_true rfl) ?_
  intro p e s m args below meth c D E b C hr
  unfold m_train at h
  refine (show mWX p l e 3 57 s m args below meth c 3 D E b (some (vB r0)) M0 M 0 [(0, vR b 0), (1, vI x1), (2, vI x2)] [] from ?_)
  refine r_aload_n (pc := 0) C 0 rfl rfl dX12_train_0 ?_
  refine r_iload_n (pc := 1) C 1 rfl rfl dX12_train_1 ?_
  obtain ⟨r1, hq1, h⟩ := bnd_inv h
  refine r_callV (pc := 2) (rest := []) (st1 := [vB r1]) C (mExtOK b) [vI x1] (c_m_isVoice l hq1) cl_RX12_462 m_s0 (by decide) rfl rfl rfl rfl ⟨Nat.le_of_ble_eq_true rfl, Nat.le_of_ble_eq_true rfl⟩ (Nat.le_of_ble_eq_true rfl) rfl rfl dX12_train_2 ?_
  refine r_if_eqB (pc := 5) (tgt := 28) C h dX12_train_5 (by decide) (fun hc5 h => ?_) (fun hc5 h => ?_)
  · refine r_iload_n (pc := 8) C 2 rfl rfl dX12_train_8 ?_
    refine r_iconst (pc := 9) C dX12_train_9 ?_
    refine r_bipush (pc := 10) (j := 9) C (by decide +kernel) dX12_train_10 ?_
    obtain ⟨r3, hq3, h⟩ := bnd_inv h
    refine r_callS (pc := 12) (rest := []) (st1 := [vB r3]) C (mExtOK b) [vI x2, vI 0, vI 9] (c_m_is l hq3) cl_RX12_303 rfl rfl ⟨Nat.le_of_ble_eq_true rfl, Nat.le_of_ble_eq_true rfl⟩ (Nat.le_of_ble_eq_true rfl) rfl rfl dX12_train_12 ?_
    refine r_if_eqB (pc := 15) (tgt := 28) C h dX12_train_15 (by decide) (fun hc15 h => ?_) (fun hc15 h => ?_)
    · refine r_aload_n (pc := 18) C 0 rfl rfl dX12_train_18 ?_
      refine r_getR (pc := 19) C fl_RX12_150 m_s0 (by decide) m_k45 m_r45 dX12_train_19 ?_
      refine r_iload_n (pc := 22) C 1 rfl rfl dX12_train_22 ?_
      obtain ⟨hi23, h⟩ := chk_inv h
      refine r_iald (pc := 23) C m_s26 (by decide) (by decide) hi23 rfl dX12_train_23 ?_
      refine r_iload_n (pc := 24) C 2 rfl rfl dX12_train_24 ?_
      refine r_icmp_ne (pc := 25) (tgt := 42) C h dX12_train_25 (by decide) (fun hc25 h => ?_) (fun hc25 h => ?_)
      · refine r_aload_n (pc := 42) C 0 rfl rfl dX12_train_42 ?_
        obtain ⟨M4, hq4, h⟩ := bnd_inv h
        refine r_callV (pc := 43) (rest := []) (st1 := []) C (mExtOK b) [] (c_m_keeps l hq4) cl_RX12_506 m_s0 (by decide) rfl rfl rfl rfl ⟨Nat.le_of_ble_eq_true rfl, Nat.le_of_ble_eq_true rfl⟩ (Nat.le_of_ble_eq_true rfl) rfl rfl dX12_train_43 ?_
        refine r_aload_n (pc := 46) C 0 rfl rfl dX12_train_46 ?_
        refine r_getR (pc := 47) C fl_RX12_150 m_s0 (by decide) m_k45 m_r45 dX12_train_47 ?_
        refine r_iload_n (pc := 50) C 1 rfl rfl dX12_train_50 ?_
        refine r_iload_n (pc := 51) C 2 rfl rfl dX12_train_51 ?_
        obtain ⟨hi52, h⟩ := chk_inv h
        obtain ⟨M_52, hM_52, h⟩ := lt_inv h
        refine r_iast (pc := 52) C m_s26 (by decide) (by decide) hi52 rfl hM_52 dX12_train_52 ?_
        refine r_iconst (pc := 53) C dX12_train_53 ?_
        have e := Option.some.inj h
        exact r_zret (pc := 54) C hr (Or.inr rfl) (congrArg (fun z => some (vB z)) (Prod.mk.inj e).1.symm) (Prod.mk.inj e).2.symm dX12_train_54
      · refine r_sub (lv' := [(0, vR b 0)]) [0] rfl ?_
        exact w_m_train_B28 C hr h
    · refine r_sub (lv' := [(0, vR b 0)]) [0] rfl ?_
      exact w_m_train_B28 C hr h
  · refine r_sub (lv' := [(0, vR b 0)]) [0] rfl ?_
    exact w_m_train_B28 C hr h
set_option maxHeartbeats 4000000 in
set_option maxRecDepth 20000 in
theorem w_m_delay_B43 (C : mCX p s m args meth c cX12_delay 3 RX12 D E b) (hr : meth.sig.returnType = (some .boolean)) {r0 : Bool} {M0 : Mem} {M : Mem} (h : m_delay_B43 M = some (r0, M0)) :
    mWX p l e 3 57 s m args below meth c 3 D E b (some (vB r0)) M0 M 43 [(0, vR b 0)] [] := by
  unfold m_delay_B43 at h
  refine r_aload_n (pc := 43) C 0 rfl rfl dX12_delay_43 ?_
  refine r_iconst (pc := 44) C dX12_delay_44 ?_
  obtain ⟨r2, M2, hq2, h⟩ := bnd2_inv h
  refine r_callV (pc := 45) (rest := []) (st1 := [vI r2]) C (mExtOK b) [vI 3] (c_m_refuses l hq2) cl_RX12_225 m_s0 (by decide) rfl rfl rfl rfl ⟨Nat.le_of_ble_eq_true rfl, Nat.le_of_ble_eq_true rfl⟩ (Nat.le_of_ble_eq_true rfl) rfl rfl dX12_delay_45 ?_
  refine r_if_lt (pc := 48) (tgt := 55) C h dX12_delay_48 (by decide) (fun hc48 h => ?_) (fun hc48 h => ?_)
  · refine r_iconst (pc := 55) C dX12_delay_55 ?_
    have e := Option.some.inj h
    exact r_zret (pc := 56) C hr (Or.inl rfl) (congrArg (fun z => some (vB z)) (Prod.mk.inj e).1.symm) (Prod.mk.inj e).2.symm dX12_delay_56
  · refine r_iconst (pc := 51) C dX12_delay_51 ?_
    refine r_goto (pc := 52) (tgt := 56) C dX12_delay_52 (by decide) ?_
    have e := Option.some.inj h
    exact r_zret (pc := 56) C hr (Or.inr rfl) (congrArg (fun z => some (vB z)) (Prod.mk.inj e).1.symm) (Prod.mk.inj e).2.symm dX12_delay_56
set_option maxHeartbeats 4000000 in
set_option maxRecDepth 20000 in
theorem c_m_delay (l : Launch) {x1 : Int} {x2 : Int} {M : Mem} {r0 : Bool} {M0 : Mem} (h : m_delay x1 x2 M = some (r0, M0)) : Ct l yX12_delay cX12_delay 3 (some .boolean) 3 57 vwCl mSh mN mRf mExt (fun b => [vR b 0, vI x1, vI x2]) M (fun b => (some (vB r0))) M0 := by
  refine Ct_of mExtOK (by decide) (fun b => Nat.le_of_ble_eq_true rfl) ?_
  intro p e s m args below meth c D E b C hr
  unfold m_delay at h
  refine (show mWX p l e 3 57 s m args below meth c 3 D E b (some (vB r0)) M0 M 0 [(0, vR b 0), (1, vI x1), (2, vI x2)] [] from ?_)
  refine r_aload_n (pc := 0) C 0 rfl rfl dX12_delay_0 ?_
  refine r_iload_n (pc := 1) C 1 rfl rfl dX12_delay_1 ?_
  obtain ⟨r1, hq1, h⟩ := bnd_inv h
  refine r_callV (pc := 2) (rest := []) (st1 := [vB r1]) C (mExtOK b) [vI x1] (c_m_isSaying l hq1) cl_RX12_470 m_s0 (by decide) rfl rfl rfl rfl ⟨Nat.le_of_ble_eq_true rfl, Nat.le_of_ble_eq_true rfl⟩ (Nat.le_of_ble_eq_true rfl) rfl rfl dX12_delay_2 ?_
  refine r_if_eqB (pc := 5) (tgt := 43) C h dX12_delay_5 (by decide) (fun hc5 h => ?_) (fun hc5 h => ?_)
  · refine r_aload_n (pc := 8) C 0 rfl rfl dX12_delay_8 ?_
    refine r_getR (pc := 9) C fl_RX12_159 m_s0 (by decide) m_k48 m_r48 dX12_delay_9 ?_
    refine r_iload_n (pc := 12) C 1 rfl rfl dX12_delay_12 ?_
    obtain ⟨hi13, h⟩ := chk_inv h
    refine r_iald (pc := 13) C m_s29 (by decide) (by decide) hi13 rfl dX12_delay_13 ?_
    refine r_if_ne (pc := 14) (tgt := 43) C h dX12_delay_14 (by decide) (fun hc14 h => ?_) (fun hc14 h => ?_)
    · refine r_sub (lv' := [(0, vR b 0)]) [0] rfl ?_
      exact w_m_delay_B43 C hr h
    · refine r_iload_n (pc := 17) C 2 rfl rfl dX12_delay_17 ?_
      refine r_aload_n (pc := 18) C 0 rfl rfl dX12_delay_18 ?_
      refine r_getR (pc := 19) C fl_RX12_147 m_s0 (by decide) m_k44 m_r44 dX12_delay_19 ?_
      refine r_iconst (pc := 22) C dX12_delay_22 ?_
      refine r_iald (pc := 23) C m_s25 (by decide) (by decide) (by decide) rfl dX12_delay_23 ?_
      refine r_sipush (pc := 24) (j := 999) C (by decide +kernel) dX12_delay_24 ?_
      obtain ⟨r3, hq3, h⟩ := bnd_inv h
      refine r_callS (pc := 27) (rest := []) (st1 := [vB r3]) C (mExtOK b) [vI x2, vI (M 25 0), vI 999] (c_m_is l hq3) cl_RX12_303 rfl rfl ⟨Nat.le_of_ble_eq_true rfl, Nat.le_of_ble_eq_true rfl⟩ (Nat.le_of_ble_eq_true rfl) rfl rfl dX12_delay_27 ?_
      refine r_if_eqB (pc := 30) (tgt := 43) C h dX12_delay_30 (by decide) (fun hc30 h => ?_) (fun hc30 h => ?_)
      · refine r_aload_n (pc := 33) C 0 rfl rfl dX12_delay_33 ?_
        refine r_getR (pc := 34) C fl_RX12_162 m_s0 (by decide) m_k49 m_r49 dX12_delay_34 ?_
        refine r_iload_n (pc := 37) C 1 rfl rfl dX12_delay_37 ?_
        obtain ⟨hi38, h⟩ := chk_inv h
        refine r_iald (pc := 38) C m_s30 (by decide) (by decide) hi38 rfl dX12_delay_38 ?_
        refine r_iload_n (pc := 39) C 2 rfl rfl dX12_delay_39 ?_
        refine r_icmp_ne (pc := 40) (tgt := 57) C h dX12_delay_40 (by decide) (fun hc40 h => ?_) (fun hc40 h => ?_)
        · refine r_aload_n (pc := 57) C 0 rfl rfl dX12_delay_57 ?_
          obtain ⟨M4, hq4, h⟩ := bnd_inv h
          refine r_callV (pc := 58) (rest := []) (st1 := []) C (mExtOK b) [] (c_m_keeps l hq4) cl_RX12_506 m_s0 (by decide) rfl rfl rfl rfl ⟨Nat.le_of_ble_eq_true rfl, Nat.le_of_ble_eq_true rfl⟩ (Nat.le_of_ble_eq_true rfl) rfl rfl dX12_delay_58 ?_
          refine r_aload_n (pc := 61) C 0 rfl rfl dX12_delay_61 ?_
          refine r_getR (pc := 62) C fl_RX12_162 m_s0 (by decide) m_k49 m_r49 dX12_delay_62 ?_
          refine r_iload_n (pc := 65) C 1 rfl rfl dX12_delay_65 ?_
          refine r_iload_n (pc := 66) C 2 rfl rfl dX12_delay_66 ?_
          obtain ⟨hi67, h⟩ := chk_inv h
          obtain ⟨M_67, hM_67, h⟩ := lt_inv h
          refine r_iast (pc := 67) C m_s30 (by decide) (by decide) hi67 rfl hM_67 dX12_delay_67 ?_
          refine r_iconst (pc := 68) C dX12_delay_68 ?_
          have e := Option.some.inj h
          exact r_zret (pc := 69) C hr (Or.inr rfl) (congrArg (fun z => some (vB z)) (Prod.mk.inj e).1.symm) (Prod.mk.inj e).2.symm dX12_delay_69
        · refine r_sub (lv' := [(0, vR b 0)]) [0] rfl ?_
          exact w_m_delay_B43 C hr h
      · refine r_sub (lv' := [(0, vR b 0)]) [0] rfl ?_
        exact w_m_delay_B43 C hr h
  · refine r_sub (lv' := [(0, vR b 0)]) [0] rfl ?_
    exact w_m_delay_B43 C hr h
set_option maxHeartbeats 4000000 in
set_option maxRecDepth 20000 in
theorem c_m_seed (l : Launch) {x1 : Int} {M : Mem} {r0 : Bool} {M0 : Mem} (h : m_seed x1 M = some (r0, M0)) : Ct l yX12_seed cX12_seed 2 (some .boolean) 2 33 vwCl mSh mN mRf mExt (fun b => [vR b 0, vI x1]) M (fun b => (some (vB r0))) M0 := by
  refine Ct_of mExtOK (by decide) (fun b => Nat.le_of_ble_eq_true rfl) ?_
  intro p e s m args below meth c D E b C hr
  unfold m_seed at h
  refine (show mWX p l e 2 33 s m args below meth c 2 D E b (some (vB r0)) M0 M 0 [(0, vR b 0), (1, vI x1)] [] from ?_)
  refine r_iload_n (pc := 0) C 1 rfl rfl dX12_seed_0 ?_
  refine r_if_ge (pc := 1) (tgt := 18) C h dX12_seed_1 (by decide) (fun hc1 h => ?_) (fun hc1 h => ?_)
  · refine r_aload_n (pc := 18) C 0 rfl rfl dX12_seed_18 ?_
    refine r_iload_n (pc := 19) C 1 rfl rfl dX12_seed_19 ?_
    refine r_i2l (pc := 20) C dX12_seed_20 ?_
    obtain ⟨M_21, hM_21, h⟩ := lt_inv h
    refine r_putL (pc := 21) C fl_RX12_189 mw_ft m_w58 m_s0 (by decide) m_k58 hM_21 dX12_seed_21 ?_
    refine r_iconst (pc := 24) C dX12_seed_24 ?_
    have e := Option.some.inj h
    exact r_zret (pc := 25) C hr (Or.inr rfl) (congrArg (fun z => some (vB z)) (Prod.mk.inj e).1.symm) (Prod.mk.inj e).2.symm dX12_seed_25
  · refine r_aload_n (pc := 4) C 0 rfl rfl dX12_seed_4 ?_
    refine r_iconst (pc := 5) C dX12_seed_5 ?_
    obtain ⟨r1, M1, hq1, h⟩ := bnd2_inv h
    refine r_callV (pc := 6) (rest := []) (st1 := [vI r1]) C (mExtOK b) [vI 5] (c_m_refuses l hq1) cl_RX12_225 m_s0 (by decide) rfl rfl rfl rfl ⟨Nat.le_of_ble_eq_true rfl, Nat.le_of_ble_eq_true rfl⟩ (Nat.le_of_ble_eq_true rfl) rfl rfl dX12_seed_6 ?_
    refine r_if_lt (pc := 9) (tgt := 16) C h dX12_seed_9 (by decide) (fun hc9 h => ?_) (fun hc9 h => ?_)
    · refine r_iconst (pc := 16) C dX12_seed_16 ?_
      have e := Option.some.inj h
      exact r_zret (pc := 17) C hr (Or.inl rfl) (congrArg (fun z => some (vB z)) (Prod.mk.inj e).1.symm) (Prod.mk.inj e).2.symm dX12_seed_17
    · refine r_iconst (pc := 12) C dX12_seed_12 ?_
      refine r_goto (pc := 13) (tgt := 17) C dX12_seed_13 (by decide) ?_
      have e := Option.some.inj h
      exact r_zret (pc := 17) C hr (Or.inr rfl) (congrArg (fun z => some (vB z)) (Prod.mk.inj e).1.symm) (Prod.mk.inj e).2.symm dX12_seed_17
set_option maxHeartbeats 4000000 in
set_option maxRecDepth 20000 in
theorem c_m_kept (l : Launch) {x1 : Int} {x2 : Int} {M : Mem} {r0 : Int} (h : m_kept x1 x2 M = some r0) : Ct l yX12_kept cX12_kept 3 (some .int) 2 34 vwCl mSh mN mRf mExt (fun b => [vR b 0, vI x1, vI x2]) M (fun b => (some (vI r0))) M := by
  refine Ct_of mExtOK (by decide) (fun b => Nat.le_of_ble_eq_true rfl) ?_
  intro p e s m args below meth c D E b C hr
  unfold m_kept at h
  refine (show mWX p l e 2 34 s m args below meth c 3 D E b (some (vI r0)) M M 0 [(0, vR b 0), (1, vI x1), (2, vI x2)] [] from ?_)
  refine r_iload_n (pc := 0) C 1 rfl rfl dX12_kept_0 ?_
  refine r_iconst (pc := 1) C dX12_kept_1 ?_
  refine r_aload_n (pc := 2) C 0 rfl rfl dX12_kept_2 ?_
  refine r_getR (pc := 3) C fl_RX12_177 m_s0 (by decide) m_k54 m_r54 dX12_kept_3 ?_
  refine r_iconst (pc := 6) C dX12_kept_6 ?_
  refine r_iald (pc := 7) C m_s35 (by decide) (by decide) (by decide) rfl dX12_kept_7 ?_
  refine r_iconst (pc := 8) C dX12_kept_8 ?_
  refine r_isub (pc := 9) C dX12_kept_9 ?_
  obtain ⟨r1, hq1, h⟩ := bnd_inv h
  refine r_callS (pc := 10) (rest := []) (st1 := [vB r1]) C (mExtOK b) [vI x1, vI 0, vI ((M 35 0) - 1)] (c_m_is l hq1) cl_RX12_303 rfl rfl ⟨Nat.le_of_ble_eq_true rfl, Nat.le_of_ble_eq_true rfl⟩ (Nat.le_of_ble_eq_true rfl) rfl rfl dX12_kept_10 ?_
  refine r_if_eqB (pc := 13) (tgt := 38) C h dX12_kept_13 (by decide) (fun hc13 h => ?_) (fun hc13 h => ?_)
  · refine r_iload_n (pc := 16) C 2 rfl rfl dX12_kept_16 ?_
    refine r_iconst (pc := 17) C dX12_kept_17 ?_
    refine r_iconst (pc := 18) C dX12_kept_18 ?_
    obtain ⟨r2, hq2, h⟩ := bnd_inv h
    refine r_callS (pc := 19) (rest := []) (st1 := [vB r2]) C (mExtOK b) [vI x2, vI 0, vI 2] (c_m_is l hq2) cl_RX12_303 rfl rfl ⟨Nat.le_of_ble_eq_true rfl, Nat.le_of_ble_eq_true rfl⟩ (Nat.le_of_ble_eq_true rfl) rfl rfl dX12_kept_19 ?_
    refine r_if_eqB (pc := 22) (tgt := 38) C h dX12_kept_22 (by decide) (fun hc22 h => ?_) (fun hc22 h => ?_)
    · refine r_aload_n (pc := 25) C 0 rfl rfl dX12_kept_25 ?_
      refine r_getR (pc := 26) C fl_RX12_180 m_s0 (by decide) m_k55 m_r55 dX12_kept_26 ?_
      refine r_iconst (pc := 29) C dX12_kept_29 ?_
      refine r_iload_n (pc := 30) C 1 rfl rfl dX12_kept_30 ?_
      refine r_imul (pc := 31) C dX12_kept_31 ?_
      refine r_iload_n (pc := 32) C 2 rfl rfl dX12_kept_32 ?_
      refine r_iadd (pc := 33) C dX12_kept_33 ?_
      obtain ⟨hi34, h⟩ := chk_inv h
      refine r_iald (pc := 34) C m_s36 (by decide) (by decide) hi34 rfl dX12_kept_34 ?_
      refine r_goto (pc := 35) (tgt := 39) C dX12_kept_35 (by decide) ?_
      have e := Option.some.inj h
      exact r_iret (pc := 39) C hr (congrArg (fun z => some (vI z)) e.symm) rfl dX12_kept_39
    · refine r_iconst (pc := 38) C dX12_kept_38 ?_
      have e := Option.some.inj h
      exact r_iret (pc := 39) C hr (congrArg (fun z => some (vI z)) e.symm) rfl dX12_kept_39
  · refine r_iconst (pc := 38) C dX12_kept_38 ?_
    have e := Option.some.inj h
    exact r_iret (pc := 39) C hr (congrArg (fun z => some (vI z)) e.symm) rfl dX12_kept_39
set_option maxHeartbeats 4000000 in
set_option maxRecDepth 20000 in
theorem c_m_writes (l : Launch) {x1 : Int} {M : Mem} {M0 : Mem} (h : m_writes x1 M = some M0) : Ct l yX12_writes cX12_writes 2 none 1 12 vwCl mSh mN mRf mExt (fun b => [vR b 0, vI x1]) M (fun b => none) M0 := by
  refine Ct_of mExtOK (by decide) (fun b => Nat.le_of_ble_eq_true rfl) ?_
  intro p e s m args below meth c D E b C hr
  unfold m_writes at h
  refine (show mWX p l e 1 12 s m args below meth c 2 D E b none M0 M 0 [(0, vR b 0), (1, vI x1)] [] from ?_)
  refine r_aload_n (pc := 0) C 0 rfl rfl dX12_writes_0 ?_
  refine r_getR (pc := 1) C fl_RX12_219 m_s0 (by decide) m_k68 m_r68 dX12_writes_1 ?_
  refine r_aload_n (pc := 4) C 0 rfl rfl dX12_writes_4 ?_
  refine r_getI (pc := 5) C fl_RX12_222 m_s0 (by decide) m_k69 dX12_writes_5 ?_
  refine r_iload_n (pc := 8) C 1 rfl rfl dX12_writes_8 ?_
  refine r_sipush (pc := 9) (j := 255) C (by decide +kernel) dX12_writes_9 ?_
  refine r_iand (pc := 12) C dX12_writes_12 ?_
  obtain ⟨hi13, h⟩ := chk_inv h
  obtain ⟨M_13, hM_13, h⟩ := lt_inv h
  refine r_iast (pc := 13) C m_s45 (by decide) (by decide) hi13 rfl hM_13 dX12_writes_13 ?_
  refine r_aload_n (pc := 14) C 0 rfl rfl dX12_writes_14 ?_
  refine r_dup (pc := 15) C rfl dX12_writes_15 ?_
  refine r_getI (pc := 16) C fl_RX12_222 m_s0 (by decide) m_k69 dX12_writes_16 ?_
  refine r_iconst (pc := 19) C dX12_writes_19 ?_
  refine r_iadd (pc := 20) C dX12_writes_20 ?_
  obtain ⟨M_21, hM_21, h⟩ := lt_inv h
  refine r_putI (pc := 21) C fl_RX12_222 mw_ft m_w69 m_s0 (by decide) m_k69 hM_21 dX12_writes_21 ?_
  have e := Option.some.inj h
  exact r_vret (pc := 24) C hr rfl e.symm dX12_writes_24
end
