theorem dX11_no_0 : decode cX11_no 0 = .ok (.iload_n 1, 1) := by decide +kernel
theorem dX11_no_1 : decode cX11_no 1 = .ok (.ifCond .lt 22, 3) := by decide +kernel
theorem dX11_no_4 : decode cX11_no 4 = .ok (.iload_n 1, 1) := by decide +kernel
theorem dX11_no_5 : decode cX11_no 5 = .ok (.aload_n 0, 1) := by decide +kernel
theorem dX11_no_6 : decode cX11_no 6 = .ok (.getfield 74, 3) := by decide +kernel
theorem dX11_no_9 : decode cX11_no 9 = .ok (.arraylength, 1) := by decide +kernel
theorem dX11_no_10 : decode cX11_no 10 = .ok (.if_icmp .ge 13, 3) := by decide +kernel
theorem dX11_no_13 : decode cX11_no 13 = .ok (.aload_n 0, 1) := by decide +kernel
theorem dX11_no_14 : decode cX11_no 14 = .ok (.getfield 74, 3) := by decide +kernel
theorem dX11_no_17 : decode cX11_no 17 = .ok (.iload_n 1, 1) := by decide +kernel
theorem dX11_no_18 : decode cX11_no 18 = .ok (.dup2, 1) := by decide +kernel
theorem dX11_no_19 : decode cX11_no 19 = .ok (.iaload, 1) := by decide +kernel
theorem dX11_no_20 : decode cX11_no 20 = .ok (.iconst 1, 1) := by decide +kernel
theorem dX11_no_21 : decode cX11_no 21 = .ok (.iadd, 1) := by decide +kernel
theorem dX11_no_22 : decode cX11_no 22 = .ok (.iastore, 1) := by decide +kernel
theorem dX11_no_23 : decode cX11_no 23 = .ok (.iconst 0, 1) := by decide +kernel
theorem dX11_no_24 : decode cX11_no 24 = .ok (.ireturn, 1) := by decide +kernel
theorem dX11_none_0 : decode cX11_none 0 = .ok (.aload_n 0, 1) := by decide +kernel
theorem dX11_none_1 : decode cX11_none 1 = .ok (.iload_n 1, 1) := by decide +kernel
theorem dX11_none_2 : decode cX11_none 2 = .ok (.invokevirtual 93, 3) := by decide +kernel
theorem dX11_none_5 : decode cX11_none 5 = .ok (.pop, 1) := by decide +kernel
theorem dX11_none_6 : decode cX11_none 6 = .ok (.iconst (-1), 1) := by decide +kernel
theorem dX11_none_7 : decode cX11_none 7 = .ok (.ireturn, 1) := by decide +kernel
theorem dX7_put_0 : decode cX7_put 0 = .ok (.bipush 24, 2) := by decide +kernel
theorem dX7_put_2 : decode cX7_put 2 = .ok (.istore_n 2, 1) := by decide +kernel
theorem dX7_put_3 : decode cX7_put 3 = .ok (.iload_n 2, 1) := by decide +kernel
theorem dX7_put_4 : decode cX7_put 4 = .ok (.ifCond .lt 47, 3) := by decide +kernel
theorem dX7_put_7 : decode cX7_put 7 = .ok (.aload_n 0, 1) := by decide +kernel
theorem dX7_put_8 : decode cX7_put 8 = .ok (.getfield 15, 3) := by decide +kernel
theorem dX7_put_11 : decode cX7_put 11 = .ok (.aload_n 0, 1) := by decide +kernel
theorem dX7_put_12 : decode cX7_put 12 = .ok (.getfield 9, 3) := by decide +kernel
theorem dX7_put_15 : decode cX7_put 15 = .ok (.arraylength, 1) := by decide +kernel
theorem dX7_put_16 : decode cX7_put 16 = .ok (.if_icmp .ge 29, 3) := by decide +kernel
theorem dX7_put_19 : decode cX7_put 19 = .ok (.aload_n 0, 1) := by decide +kernel
theorem dX7_put_20 : decode cX7_put 20 = .ok (.getfield 9, 3) := by decide +kernel
theorem dX7_put_23 : decode cX7_put 23 = .ok (.aload_n 0, 1) := by decide +kernel
theorem dX7_put_24 : decode cX7_put 24 = .ok (.getfield 15, 3) := by decide +kernel
theorem dX7_put_27 : decode cX7_put 27 = .ok (.iload_n 1, 1) := by decide +kernel
theorem dX7_put_28 : decode cX7_put 28 = .ok (.iload_n 2, 1) := by decide +kernel
theorem dX7_put_29 : decode cX7_put 29 = .ok (.iushr, 1) := by decide +kernel
theorem dX7_put_30 : decode cX7_put 30 = .ok (.sipush 255, 3) := by decide +kernel
theorem dX7_put_33 : decode cX7_put 33 = .ok (.iand, 1) := by decide +kernel
theorem dX7_put_34 : decode cX7_put 34 = .ok (.iastore, 1) := by decide +kernel
theorem dX7_put_35 : decode cX7_put 35 = .ok (.aload_n 0, 1) := by decide +kernel
theorem dX7_put_36 : decode cX7_put 36 = .ok (.dup, 1) := by decide +kernel
theorem dX7_put_37 : decode cX7_put 37 = .ok (.getfield 15, 3) := by decide +kernel
theorem dX7_put_40 : decode cX7_put 40 = .ok (.iconst 1, 1) := by decide +kernel
theorem dX7_put_41 : decode cX7_put 41 = .ok (.iadd, 1) := by decide +kernel
theorem dX7_put_42 : decode cX7_put 42 = .ok (.putfield 15, 3) := by decide +kernel
theorem dX7_put_45 : decode cX7_put 45 = .ok (.iinc 2 (-8), 3) := by decide +kernel
theorem dX7_put_48 : decode cX7_put 48 = .ok (.goto (-45), 3) := by decide +kernel
theorem dX7_put_51 : decode cX7_put 51 = .ok (.return_, 1) := by decide +kernel
theorem dX11_feed_0 : decode cX11_feed 0 = .ok (.aload_n 0, 1) := by decide +kernel
theorem dX11_feed_1 : decode cX11_feed 1 = .ok (.getfield 12, 3) := by decide +kernel
theorem dX11_feed_4 : decode cX11_feed 4 = .ok (.getfield 82, 3) := by decide +kernel
theorem dX11_feed_7 : decode cX11_feed 7 = .ok (.bipush 20, 2) := by decide +kernel
theorem dX11_feed_9 : decode cX11_feed 9 = .ok (.iadd, 1) := by decide +kernel
theorem dX11_feed_10 : decode cX11_feed 10 = .ok (.sipush 1600, 3) := by decide +kernel
theorem dX11_feed_13 : decode cX11_feed 13 = .ok (.if_icmp .le 9, 3) := by decide +kernel
theorem dX11_feed_16 : decode cX11_feed 16 = .ok (.aload_n 0, 1) := by decide +kernel
theorem dX11_feed_17 : decode cX11_feed 17 = .ok (.iconst 0, 1) := by decide +kernel
theorem dX11_feed_18 : decode cX11_feed 18 = .ok (.invokevirtual 85, 3) := by decide +kernel
theorem dX11_feed_21 : decode cX11_feed 21 = .ok (.ireturn, 1) := by decide +kernel
theorem dX11_feed_22 : decode cX11_feed 22 = .ok (.aload_n 0, 1) := by decide +kernel
theorem dX11_feed_23 : decode cX11_feed 23 = .ok (.getfield 12, 3) := by decide +kernel
theorem dX11_feed_26 : decode cX11_feed 26 = .ok (.iload_n 1, 1) := by decide +kernel
theorem dX11_feed_27 : decode cX11_feed 27 = .ok (.invokevirtual 89, 3) := by decide +kernel
theorem dX11_feed_30 : decode cX11_feed 30 = .ok (.aload_n 0, 1) := by decide +kernel
theorem dX11_feed_31 : decode cX11_feed 31 = .ok (.getfield 12, 3) := by decide +kernel
theorem dX11_feed_34 : decode cX11_feed 34 = .ok (.iload_n 2, 1) := by decide +kernel
theorem dX11_feed_35 : decode cX11_feed 35 = .ok (.invokevirtual 89, 3) := by decide +kernel
theorem dX11_feed_38 : decode cX11_feed 38 = .ok (.aload_n 0, 1) := by decide +kernel
theorem dX11_feed_39 : decode cX11_feed 39 = .ok (.getfield 12, 3) := by decide +kernel
theorem dX11_feed_42 : decode cX11_feed 42 = .ok (.iload_n 3, 1) := by decide +kernel
theorem dX11_feed_43 : decode cX11_feed 43 = .ok (.invokevirtual 89, 3) := by decide +kernel
theorem dX11_feed_46 : decode cX11_feed 46 = .ok (.aload_n 0, 1) := by decide +kernel
theorem dX11_feed_47 : decode cX11_feed 47 = .ok (.getfield 12, 3) := by decide +kernel
theorem dX11_feed_50 : decode cX11_feed 50 = .ok (.iload 4, 2) := by decide +kernel
theorem dX11_feed_52 : decode cX11_feed 52 = .ok (.invokevirtual 89, 3) := by decide +kernel
theorem dX11_feed_55 : decode cX11_feed 55 = .ok (.aload_n 0, 1) := by decide +kernel
theorem dX11_feed_56 : decode cX11_feed 56 = .ok (.getfield 12, 3) := by decide +kernel
theorem dX11_feed_59 : decode cX11_feed 59 = .ok (.iload 5, 2) := by decide +kernel
theorem dX11_feed_61 : decode cX11_feed 61 = .ok (.invokevirtual 89, 3) := by decide +kernel
theorem dX11_feed_64 : decode cX11_feed 64 = .ok (.aload_n 0, 1) := by decide +kernel
theorem dX11_feed_65 : decode cX11_feed 65 = .ok (.getfield 12, 3) := by decide +kernel
theorem dX11_feed_68 : decode cX11_feed 68 = .ok (.getfield 82, 3) := by decide +kernel
theorem dX11_feed_71 : decode cX11_feed 71 = .ok (.ireturn, 1) := by decide +kernel
theorem dX11_end_0 : decode cX11_end 0 = .ok (.iload_n 1, 1) := by decide +kernel
theorem dX11_end_1 : decode cX11_end 1 = .ok (.ifCond .lt 14, 3) := by decide +kernel
theorem dX11_end_4 : decode cX11_end 4 = .ok (.iload_n 1, 1) := by decide +kernel
theorem dX11_end_5 : decode cX11_end 5 = .ok (.aload_n 0, 1) := by decide +kernel
theorem dX11_end_6 : decode cX11_end 6 = .ok (.getfield 12, 3) := by decide +kernel
theorem dX11_end_9 : decode cX11_end 9 = .ok (.getfield 82, 3) := by decide +kernel
theorem dX11_end_12 : decode cX11_end 12 = .ok (.if_icmp .le 9, 3) := by decide +kernel
theorem dX11_end_15 : decode cX11_end 15 = .ok (.aload_n 0, 1) := by decide +kernel
theorem dX11_end_16 : decode cX11_end 16 = .ok (.iconst 0, 1) := by decide +kernel
theorem dX11_end_17 : decode cX11_end 17 = .ok (.invokevirtual 93, 3) := by decide +kernel
theorem dX11_end_20 : decode cX11_end 20 = .ok (.ireturn, 1) := by decide +kernel
theorem dX11_end_21 : decode cX11_end 21 = .ok (.aload_n 0, 1) := by decide +kernel
theorem dX11_end_22 : decode cX11_end 22 = .ok (.getfield 12, 3) := by decide +kernel
theorem dX11_end_25 : decode cX11_end 25 = .ok (.iload_n 1, 1) := by decide +kernel
theorem dX11_end_26 : decode cX11_end 26 = .ok (.putfield 82, 3) := by decide +kernel
theorem dX11_end_29 : decode cX11_end 29 = .ok (.iconst 1, 1) := by decide +kernel
theorem dX11_end_30 : decode cX11_end 30 = .ok (.ireturn, 1) := by decide +kernel
theorem dX0_clear_0 : decode cX0_clear 0 = .ok (.aload_n 0, 1) := by decide +kernel
theorem dX0_clear_1 : decode cX0_clear 1 = .ok (.iconst 0, 1) := by decide +kernel
theorem dX0_clear_2 : decode cX0_clear 2 = .ok (.putfield 40, 3) := by decide +kernel
theorem dX0_clear_5 : decode cX0_clear 5 = .ok (.return_, 1) := by decide +kernel
theorem dX2_clear_0 : decode cX2_clear 0 = .ok (.aload_n 0, 1) := by decide +kernel
theorem dX2_clear_1 : decode cX2_clear 1 = .ok (.iconst 0, 1) := by decide +kernel
theorem dX2_clear_2 : decode cX2_clear 2 = .ok (.putfield 18, 3) := by decide +kernel
theorem dX2_clear_5 : decode cX2_clear 5 = .ok (.return_, 1) := by decide +kernel
theorem dX4_at_0 : decode cX4_at 0 = .ok (.aload_n 0, 1) := by decide +kernel
theorem dX4_at_1 : decode cX4_at 1 = .ok (.getfield 36, 3) := by decide +kernel
theorem dX4_at_4 : decode cX4_at 4 = .ok (.ifCond .ne 44, 3) := by decide +kernel
theorem dX4_at_7 : decode cX4_at 7 = .ok (.aload_n 0, 1) := by decide +kernel
theorem dX4_at_8 : decode cX4_at 8 = .ok (.getfield 39, 3) := by decide +kernel
theorem dX4_at_11 : decode cX4_at 11 = .ok (.ifCond .lt 37, 3) := by decide +kernel
theorem dX4_at_14 : decode cX4_at 14 = .ok (.aload_n 0, 1) := by decide +kernel
theorem dX4_at_15 : decode cX4_at 15 = .ok (.getfield 39, 3) := by decide +kernel
theorem dX4_at_18 : decode cX4_at 18 = .ok (.aload_n 0, 1) := by decide +kernel
theorem dX4_at_19 : decode cX4_at 19 = .ok (.getfield 25, 3) := by decide +kernel
theorem dX4_at_22 : decode cX4_at 22 = .ok (.getfield 182, 3) := by decide +kernel
theorem dX4_at_25 : decode cX4_at 25 = .ok (.if_icmp .ge 23, 3) := by decide +kernel
theorem dX4_at_28 : decode cX4_at 28 = .ok (.aload_n 0, 1) := by decide +kernel
theorem dX4_at_29 : decode cX4_at 29 = .ok (.getfield 25, 3) := by decide +kernel
theorem dX4_at_32 : decode cX4_at 32 = .ok (.getfield 185, 3) := by decide +kernel
theorem dX4_at_35 : decode cX4_at 35 = .ok (.aload_n 0, 1) := by decide +kernel
theorem dX4_at_36 : decode cX4_at 36 = .ok (.getfield 39, 3) := by decide +kernel
theorem dX4_at_39 : decode cX4_at 39 = .ok (.iaload, 1) := by decide +kernel
theorem dX4_at_40 : decode cX4_at 40 = .ok (.iload_n 1, 1) := by decide +kernel
theorem dX4_at_41 : decode cX4_at 41 = .ok (.if_icmp .ne 7, 3) := by decide +kernel
theorem dX4_at_44 : decode cX4_at 44 = .ok (.iconst 1, 1) := by decide +kernel
theorem dX4_at_45 : decode cX4_at 45 = .ok (.goto 4, 3) := by decide +kernel
theorem dX4_at_48 : decode cX4_at 48 = .ok (.iconst 0, 1) := by decide +kernel
theorem dX4_at_49 : decode cX4_at 49 = .ok (.ireturn, 1) := by decide +kernel
theorem dX4_kind_0 : decode cX4_kind 0 = .ok (.aload_n 0, 1) := by decide +kernel
theorem dX4_kind_1 : decode cX4_kind 1 = .ok (.getfield 39, 3) := by decide +kernel
theorem dX4_kind_4 : decode cX4_kind 4 = .ok (.ifCond .lt 32, 3) := by decide +kernel
theorem dX4_kind_7 : decode cX4_kind 7 = .ok (.aload_n 0, 1) := by decide +kernel
theorem dX4_kind_8 : decode cX4_kind 8 = .ok (.getfield 39, 3) := by decide +kernel
theorem dX4_kind_11 : decode cX4_kind 11 = .ok (.aload_n 0, 1) := by decide +kernel
theorem dX4_kind_12 : decode cX4_kind 12 = .ok (.getfield 25, 3) := by decide +kernel
theorem dX4_kind_15 : decode cX4_kind 15 = .ok (.getfield 182, 3) := by decide +kernel
theorem dX4_kind_18 : decode cX4_kind 18 = .ok (.if_icmp .ge 18, 3) := by decide +kernel
theorem dX4_kind_21 : decode cX4_kind 21 = .ok (.aload_n 0, 1) := by decide +kernel
theorem dX4_kind_22 : decode cX4_kind 22 = .ok (.getfield 25, 3) := by decide +kernel
theorem dX4_kind_25 : decode cX4_kind 25 = .ok (.getfield 185, 3) := by decide +kernel
theorem dX4_kind_28 : decode cX4_kind 28 = .ok (.aload_n 0, 1) := by decide +kernel
theorem dX4_kind_29 : decode cX4_kind 29 = .ok (.getfield 39, 3) := by decide +kernel
theorem dX4_kind_32 : decode cX4_kind 32 = .ok (.iaload, 1) := by decide +kernel
theorem dX4_kind_33 : decode cX4_kind 33 = .ok (.goto 5, 3) := by decide +kernel
theorem dX4_kind_36 : decode cX4_kind 36 = .ok (.bipush 26, 2) := by decide +kernel
theorem dX4_kind_38 : decode cX4_kind 38 = .ok (.ireturn, 1) := by decide +kernel
theorem dX4_refuse_0 : decode cX4_refuse 0 = .ok (.aload_n 0, 1) := by decide +kernel
theorem dX4_refuse_1 : decode cX4_refuse 1 = .ok (.getfield 36, 3) := by decide +kernel
theorem dX4_refuse_4 : decode cX4_refuse 4 = .ok (.ifCond .eq 4, 3) := by decide +kernel
theorem dX4_refuse_7 : decode cX4_refuse 7 = .ok (.return_, 1) := by decide +kernel
theorem dX4_refuse_8 : decode cX4_refuse 8 = .ok (.aload_n 0, 1) := by decide +kernel
theorem dX4_refuse_9 : decode cX4_refuse 9 = .ok (.iload_n 1, 1) := by decide +kernel
theorem dX4_refuse_10 : decode cX4_refuse 10 = .ok (.putfield 36, 3) := by decide +kernel
theorem dX4_refuse_13 : decode cX4_refuse 13 = .ok (.aload_n 0, 1) := by decide +kernel
theorem dX4_refuse_14 : decode cX4_refuse 14 = .ok (.aload_n 0, 1) := by decide +kernel
theorem dX4_refuse_15 : decode cX4_refuse 15 = .ok (.getfield 39, 3) := by decide +kernel
theorem dX4_refuse_18 : decode cX4_refuse 18 = .ok (.ifCond .lt 32, 3) := by decide +kernel
theorem dX4_refuse_21 : decode cX4_refuse 21 = .ok (.aload_n 0, 1) := by decide +kernel
theorem dX4_refuse_22 : decode cX4_refuse 22 = .ok (.getfield 39, 3) := by decide +kernel
theorem dX4_refuse_25 : decode cX4_refuse 25 = .ok (.aload_n 0, 1) := by decide +kernel
theorem dX4_refuse_26 : decode cX4_refuse 26 = .ok (.getfield 25, 3) := by decide +kernel
theorem dX4_refuse_29 : decode cX4_refuse 29 = .ok (.getfield 182, 3) := by decide +kernel
theorem dX4_refuse_32 : decode cX4_refuse 32 = .ok (.if_icmp .ge 18, 3) := by decide +kernel
theorem dX4_refuse_35 : decode cX4_refuse 35 = .ok (.aload_n 0, 1) := by decide +kernel
theorem dX4_refuse_36 : decode cX4_refuse 36 = .ok (.getfield 25, 3) := by decide +kernel
theorem dX4_refuse_39 : decode cX4_refuse 39 = .ok (.getfield 189, 3) := by decide +kernel
theorem dX4_refuse_42 : decode cX4_refuse 42 = .ok (.aload_n 0, 1) := by decide +kernel
theorem dX4_refuse_43 : decode cX4_refuse 43 = .ok (.getfield 39, 3) := by decide +kernel
theorem dX4_refuse_46 : decode cX4_refuse 46 = .ok (.iaload, 1) := by decide +kernel
theorem dX4_refuse_47 : decode cX4_refuse 47 = .ok (.goto 4, 3) := by decide +kernel
theorem dX4_refuse_50 : decode cX4_refuse 50 = .ok (.iconst (-1), 1) := by decide +kernel
theorem dX4_refuse_51 : decode cX4_refuse 51 = .ok (.putfield 18, 3) := by decide +kernel
theorem dX4_refuse_54 : decode cX4_refuse 54 = .ok (.return_, 1) := by decide +kernel
theorem dX4_value_0 : decode cX4_value 0 = .ok (.aload_n 0, 1) := by decide +kernel
theorem dX4_value_1 : decode cX4_value 1 = .ok (.getfield 39, 3) := by decide +kernel
theorem dX4_value_4 : decode cX4_value 4 = .ok (.ifCond .lt 32, 3) := by decide +kernel
theorem dX4_value_7 : decode cX4_value 7 = .ok (.aload_n 0, 1) := by decide +kernel
theorem dX4_value_8 : decode cX4_value 8 = .ok (.getfield 39, 3) := by decide +kernel
theorem dX4_value_11 : decode cX4_value 11 = .ok (.aload_n 0, 1) := by decide +kernel
theorem dX4_value_12 : decode cX4_value 12 = .ok (.getfield 25, 3) := by decide +kernel
theorem dX4_value_15 : decode cX4_value 15 = .ok (.getfield 182, 3) := by decide +kernel
theorem dX4_value_18 : decode cX4_value 18 = .ok (.if_icmp .ge 18, 3) := by decide +kernel
theorem dX4_value_21 : decode cX4_value 21 = .ok (.aload_n 0, 1) := by decide +kernel
theorem dX4_value_22 : decode cX4_value 22 = .ok (.getfield 25, 3) := by decide +kernel
theorem dX4_value_25 : decode cX4_value 25 = .ok (.getfield 187, 3) := by decide +kernel
theorem dX4_value_28 : decode cX4_value 28 = .ok (.aload_n 0, 1) := by decide +kernel
theorem dX4_value_29 : decode cX4_value 29 = .ok (.getfield 39, 3) := by decide +kernel
theorem dX4_value_32 : decode cX4_value 32 = .ok (.iaload, 1) := by decide +kernel
theorem dX4_value_33 : decode cX4_value 33 = .ok (.goto 4, 3) := by decide +kernel
theorem dX4_value_36 : decode cX4_value 36 = .ok (.iconst 0, 1) := by decide +kernel
theorem dX4_value_37 : decode cX4_value 37 = .ok (.ireturn, 1) := by decide +kernel
theorem dX4_number_0 : decode cX4_number 0 = .ok (.aload_n 0, 1) := by decide +kernel
theorem dX4_number_1 : decode cX4_number 1 = .ok (.bipush 24, 2) := by decide +kernel
theorem dX4_number_3 : decode cX4_number 3 = .ok (.invokevirtual 47, 3) := by decide +kernel
theorem dX4_number_6 : decode cX4_number 6 = .ok (.ifCond .ne 8, 3) := by decide +kernel
theorem dX4_number_9 : decode cX4_number 9 = .ok (.aload_n 0, 1) := by decide +kernel
theorem dX4_number_10 : decode cX4_number 10 = .ok (.iconst 1, 1) := by decide +kernel
theorem dX4_number_11 : decode cX4_number 11 = .ok (.invokevirtual 65, 3) := by decide +kernel
theorem dX4_number_14 : decode cX4_number 14 = .ok (.aload_n 0, 1) := by decide +kernel
theorem dX4_number_15 : decode cX4_number 15 = .ok (.invokevirtual 68, 3) := by decide +kernel
theorem dX4_number_18 : decode cX4_number 18 = .ok (.istore_n 3, 1) := by decide +kernel
theorem dX4_number_19 : decode cX4_number 19 = .ok (.iload_n 3, 1) := by decide +kernel
theorem dX4_number_20 : decode cX4_number 20 = .ok (.iload_n 1, 1) := by decide +kernel
theorem dX4_number_21 : decode cX4_number 21 = .ok (.if_icmp .lt 8, 3) := by decide +kernel
theorem dX4_number_24 : decode cX4_number 24 = .ok (.iload_n 3, 1) := by decide +kernel
theorem dX4_number_25 : decode cX4_number 25 = .ok (.iload_n 2, 1) := by decide +kernel
theorem dX4_number_26 : decode cX4_number 26 = .ok (.if_icmp .le 8, 3) := by decide +kernel
theorem dX4_number_29 : decode cX4_number 29 = .ok (.aload_n 0, 1) := by decide +kernel
theorem dX4_number_30 : decode cX4_number 30 = .ok (.iconst 4, 1) := by decide +kernel
theorem dX4_number_31 : decode cX4_number 31 = .ok (.invokevirtual 65, 3) := by decide +kernel
theorem dX4_number_34 : decode cX4_number 34 = .ok (.aload_n 0, 1) := by decide +kernel
theorem dX4_number_35 : decode cX4_number 35 = .ok (.getfield 36, 3) := by decide +kernel
theorem dX4_number_38 : decode cX4_number 38 = .ok (.ifCond .ne 13, 3) := by decide +kernel
theorem dX4_number_41 : decode cX4_number 41 = .ok (.aload_n 0, 1) := by decide +kernel
theorem dX4_number_42 : decode cX4_number 42 = .ok (.dup, 1) := by decide +kernel
theorem dX4_number_43 : decode cX4_number 43 = .ok (.getfield 39, 3) := by decide +kernel
theorem dX4_number_46 : decode cX4_number 46 = .ok (.iconst 1, 1) := by decide +kernel
theorem dX4_number_47 : decode cX4_number 47 = .ok (.iadd, 1) := by decide +kernel
theorem dX4_number_48 : decode cX4_number 48 = .ok (.putfield 39, 3) := by decide +kernel
theorem dX4_number_51 : decode cX4_number 51 = .ok (.iload_n 3, 1) := by decide +kernel
theorem dX4_number_52 : decode cX4_number 52 = .ok (.ireturn, 1) := by decide +kernel
theorem dX9_personOf_0 : decode cX9_personOf 0 = .ok (.iconst 0, 1) := by decide +kernel
theorem dX9_personOf_1 : decode cX9_personOf 1 = .ok (.istore_n 2, 1) := by decide +kernel
theorem dX9_personOf_2 : decode cX9_personOf 2 = .ok (.iload_n 2, 1) := by decide +kernel
theorem dX9_personOf_3 : decode cX9_personOf 3 = .ok (.aload_n 0, 1) := by decide +kernel
theorem dX9_personOf_4 : decode cX9_personOf 4 = .ok (.getfield 47, 3) := by decide +kernel
theorem dX9_personOf_7 : decode cX9_personOf 7 = .ok (.if_icmp .ge 27, 3) := by decide +kernel
theorem dX9_personOf_10 : decode cX9_personOf 10 = .ok (.iload_n 2, 1) := by decide +kernel
theorem dX9_personOf_11 : decode cX9_personOf 11 = .ok (.bipush 8, 2) := by decide +kernel
theorem dX9_personOf_13 : decode cX9_personOf 13 = .ok (.if_icmp .ge 21, 3) := by decide +kernel
theorem dX9_personOf_16 : decode cX9_personOf 16 = .ok (.aload_n 0, 1) := by decide +kernel
theorem dX9_personOf_17 : decode cX9_personOf 17 = .ok (.getfield 18, 3) := by decide +kernel
theorem dX9_personOf_20 : decode cX9_personOf 20 = .ok (.iload_n 2, 1) := by decide +kernel
theorem dX9_personOf_21 : decode cX9_personOf 21 = .ok (.iaload, 1) := by decide +kernel
theorem dX9_personOf_22 : decode cX9_personOf 22 = .ok (.iload_n 1, 1) := by decide +kernel
theorem dX9_personOf_23 : decode cX9_personOf 23 = .ok (.if_icmp .ne 5, 3) := by decide +kernel
theorem dX9_personOf_26 : decode cX9_personOf 26 = .ok (.iload_n 2, 1) := by decide +kernel
theorem dX9_personOf_27 : decode cX9_personOf 27 = .ok (.ireturn, 1) := by decide +kernel
theorem dX9_personOf_28 : decode cX9_personOf 28 = .ok (.iinc 2 1, 3) := by decide +kernel
theorem dX9_personOf_31 : decode cX9_personOf 31 = .ok (.goto (-29), 3) := by decide +kernel
theorem dX9_personOf_34 : decode cX9_personOf 34 = .ok (.iconst (-1), 1) := by decide +kernel
theorem dX9_personOf_35 : decode cX9_personOf 35 = .ok (.ireturn, 1) := by decide +kernel
theorem dX9_voiceOf_0 : decode cX9_voiceOf 0 = .ok (.iconst 0, 1) := by decide +kernel
theorem dX9_voiceOf_1 : decode cX9_voiceOf 1 = .ok (.istore_n 2, 1) := by decide +kernel
theorem dX9_voiceOf_2 : decode cX9_voiceOf 2 = .ok (.iload_n 2, 1) := by decide +kernel
theorem dX9_voiceOf_3 : decode cX9_voiceOf 3 = .ok (.aload_n 0, 1) := by decide +kernel
theorem dX9_voiceOf_4 : decode cX9_voiceOf 4 = .ok (.getfield 43, 3) := by decide +kernel
theorem dX9_voiceOf_7 : decode cX9_voiceOf 7 = .ok (.if_icmp .ge 27, 3) := by decide +kernel
theorem dX9_voiceOf_10 : decode cX9_voiceOf 10 = .ok (.iload_n 2, 1) := by decide +kernel
theorem dX9_voiceOf_11 : decode cX9_voiceOf 11 = .ok (.bipush 7, 2) := by decide +kernel
theorem dX9_voiceOf_13 : decode cX9_voiceOf 13 = .ok (.if_icmp .ge 21, 3) := by decide +kernel
theorem dX9_voiceOf_16 : decode cX9_voiceOf 16 = .ok (.aload_n 0, 1) := by decide +kernel
theorem dX9_voiceOf_17 : decode cX9_voiceOf 17 = .ok (.getfield 9, 3) := by decide +kernel
theorem dX9_voiceOf_20 : decode cX9_voiceOf 20 = .ok (.iload_n 2, 1) := by decide +kernel
theorem dX9_voiceOf_21 : decode cX9_voiceOf 21 = .ok (.iaload, 1) := by decide +kernel
theorem dX9_voiceOf_22 : decode cX9_voiceOf 22 = .ok (.iload_n 1, 1) := by decide +kernel
theorem dX9_voiceOf_23 : decode cX9_voiceOf 23 = .ok (.if_icmp .ne 5, 3) := by decide +kernel
theorem dX9_voiceOf_26 : decode cX9_voiceOf 26 = .ok (.iload_n 2, 1) := by decide +kernel
theorem dX9_voiceOf_27 : decode cX9_voiceOf 27 = .ok (.ireturn, 1) := by decide +kernel
theorem dX9_voiceOf_28 : decode cX9_voiceOf 28 = .ok (.iinc 2 1, 3) := by decide +kernel
theorem dX9_voiceOf_31 : decode cX9_voiceOf 31 = .ok (.goto (-29), 3) := by decide +kernel
theorem dX9_voiceOf_34 : decode cX9_voiceOf 34 = .ok (.iconst (-1), 1) := by decide +kernel
theorem dX9_voiceOf_35 : decode cX9_voiceOf 35 = .ok (.ireturn, 1) := by decide +kernel
theorem dX4_newName_0 : decode cX4_newName 0 = .ok (.aload_n 0, 1) := by decide +kernel
theorem dX4_newName_1 : decode cX4_newName 1 = .ok (.bipush 23, 2) := by decide +kernel
theorem dX4_newName_3 : decode cX4_newName 3 = .ok (.invokevirtual 47, 3) := by decide +kernel
theorem dX4_newName_6 : decode cX4_newName 6 = .ok (.ifCond .ne 8, 3) := by decide +kernel
theorem dX4_newName_9 : decode cX4_newName 9 = .ok (.aload_n 0, 1) := by decide +kernel
theorem dX4_newName_10 : decode cX4_newName 10 = .ok (.iconst 1, 1) := by decide +kernel
theorem dX4_newName_11 : decode cX4_newName 11 = .ok (.invokevirtual 65, 3) := by decide +kernel
theorem dX4_newName_14 : decode cX4_newName 14 = .ok (.aload_n 0, 1) := by decide +kernel
theorem dX4_newName_15 : decode cX4_newName 15 = .ok (.invokevirtual 68, 3) := by decide +kernel
theorem dX4_newName_18 : decode cX4_newName 18 = .ok (.istore_n 1, 1) := by decide +kernel
theorem dX4_newName_19 : decode cX4_newName 19 = .ok (.aload_n 0, 1) := by decide +kernel
theorem dX4_newName_20 : decode cX4_newName 20 = .ok (.getfield 12, 3) := by decide +kernel
theorem dX4_newName_23 : decode cX4_newName 23 = .ok (.iload_n 1, 1) := by decide +kernel
theorem dX4_newName_24 : decode cX4_newName 24 = .ok (.invokevirtual 175, 3) := by decide +kernel
theorem dX4_newName_27 : decode cX4_newName 27 = .ok (.iconst (-1), 1) := by decide +kernel
theorem dX4_newName_28 : decode cX4_newName 28 = .ok (.if_icmp .ne 15, 3) := by decide +kernel
theorem dX4_newName_31 : decode cX4_newName 31 = .ok (.aload_n 0, 1) := by decide +kernel
theorem dX4_newName_32 : decode cX4_newName 32 = .ok (.getfield 12, 3) := by decide +kernel
theorem dX4_newName_35 : decode cX4_newName 35 = .ok (.iload_n 1, 1) := by decide +kernel
theorem dX4_newName_36 : decode cX4_newName 36 = .ok (.invokevirtual 179, 3) := by decide +kernel
theorem dX4_newName_39 : decode cX4_newName 39 = .ok (.iconst (-1), 1) := by decide +kernel
theorem dX4_newName_40 : decode cX4_newName 40 = .ok (.if_icmp .eq 8, 3) := by decide +kernel
theorem dX4_newName_43 : decode cX4_newName 43 = .ok (.aload_n 0, 1) := by decide +kernel
theorem dX4_newName_44 : decode cX4_newName 44 = .ok (.iconst 2, 1) := by decide +kernel
theorem dX4_newName_45 : decode cX4_newName 45 = .ok (.invokevirtual 65, 3) := by decide +kernel
theorem dX4_newName_48 : decode cX4_newName 48 = .ok (.aload_n 0, 1) := by decide +kernel
theorem dX4_newName_49 : decode cX4_newName 49 = .ok (.getfield 36, 3) := by decide +kernel
theorem dX4_newName_52 : decode cX4_newName 52 = .ok (.ifCond .ne 13, 3) := by decide +kernel
theorem dX4_newName_55 : decode cX4_newName 55 = .ok (.aload_n 0, 1) := by decide +kernel
theorem dX4_newName_56 : decode cX4_newName 56 = .ok (.dup, 1) := by decide +kernel
theorem dX4_newName_57 : decode cX4_newName 57 = .ok (.getfield 39, 3) := by decide +kernel
theorem dX4_newName_60 : decode cX4_newName 60 = .ok (.iconst 1, 1) := by decide +kernel
theorem dX4_newName_61 : decode cX4_newName 61 = .ok (.iadd, 1) := by decide +kernel
theorem dX4_newName_62 : decode cX4_newName 62 = .ok (.putfield 39, 3) := by decide +kernel
theorem dX4_newName_65 : decode cX4_newName 65 = .ok (.iload_n 1, 1) := by decide +kernel
theorem dX4_newName_66 : decode cX4_newName 66 = .ok (.ireturn, 1) := by decide +kernel
theorem dX4_require_0 : decode cX4_require 0 = .ok (.aload_n 0, 1) := by decide +kernel
theorem dX4_require_1 : decode cX4_require 1 = .ok (.iload_n 1, 1) := by decide +kernel
theorem dX4_require_2 : decode cX4_require 2 = .ok (.invokevirtual 47, 3) := by decide +kernel
theorem dX4_require_5 : decode cX4_require 5 = .ok (.ifCond .ne 8, 3) := by decide +kernel
theorem dX4_require_8 : decode cX4_require 8 = .ok (.aload_n 0, 1) := by decide +kernel
theorem dX4_require_9 : decode cX4_require 9 = .ok (.iconst 1, 1) := by decide +kernel
theorem dX4_require_10 : decode cX4_require 10 = .ok (.invokevirtual 65, 3) := by decide +kernel
theorem dX4_require_13 : decode cX4_require 13 = .ok (.aload_n 0, 1) := by decide +kernel
theorem dX4_require_14 : decode cX4_require 14 = .ok (.getfield 36, 3) := by decide +kernel
theorem dX4_require_17 : decode cX4_require 17 = .ok (.ifCond .ne 13, 3) := by decide +kernel
theorem dX4_require_20 : decode cX4_require 20 = .ok (.aload_n 0, 1) := by decide +kernel
theorem dX4_require_21 : decode cX4_require 21 = .ok (.dup, 1) := by decide +kernel
theorem dX4_require_22 : decode cX4_require 22 = .ok (.getfield 39, 3) := by decide +kernel
theorem dX4_require_25 : decode cX4_require 25 = .ok (.iconst 1, 1) := by decide +kernel
theorem dX4_require_26 : decode cX4_require 26 = .ok (.iadd, 1) := by decide +kernel
theorem dX4_require_27 : decode cX4_require 27 = .ok (.putfield 39, 3) := by decide +kernel
theorem dX4_require_30 : decode cX4_require 30 = .ok (.return_, 1) := by decide +kernel
theorem dX4_readPerson_0 : decode cX4_readPerson 0 = .ok (.aload_n 0, 1) := by decide +kernel
theorem dX4_readPerson_1 : decode cX4_readPerson 1 = .ok (.getfield 12, 3) := by decide +kernel
theorem dX4_readPerson_4 : decode cX4_readPerson 4 = .ok (.getfield 103, 3) := by decide +kernel
theorem dX4_readPerson_7 : decode cX4_readPerson 7 = .ok (.istore_n 1, 1) := by decide +kernel
theorem dX4_readPerson_8 : decode cX4_readPerson 8 = .ok (.iload_n 1, 1) := by decide +kernel
theorem dX4_readPerson_9 : decode cX4_readPerson 9 = .ok (.bipush 8, 2) := by decide +kernel
theorem dX4_readPerson_11 : decode cX4_readPerson 11 = .ok (.if_icmp .lt 9, 3) := by decide +kernel
theorem dX4_readPerson_14 : decode cX4_readPerson 14 = .ok (.aload_n 0, 1) := by decide +kernel
theorem dX4_readPerson_15 : decode cX4_readPerson 15 = .ok (.bipush 6, 2) := by decide +kernel
theorem dX4_readPerson_17 : decode cX4_readPerson 17 = .ok (.invokevirtual 65, 3) := by decide +kernel
theorem dX4_readPerson_20 : decode cX4_readPerson 20 = .ok (.aload_n 0, 1) := by decide +kernel
theorem dX4_readPerson_21 : decode cX4_readPerson 21 = .ok (.iconst 1, 1) := by decide +kernel
theorem dX4_readPerson_22 : decode cX4_readPerson 22 = .ok (.invokevirtual 62, 3) := by decide +kernel
theorem dX4_readPerson_25 : decode cX4_readPerson 25 = .ok (.aload_n 0, 1) := by decide +kernel
theorem dX4_readPerson_26 : decode cX4_readPerson 26 = .ok (.invokevirtual 93, 3) := by decide +kernel
theorem dX4_readPerson_29 : decode cX4_readPerson 29 = .ok (.istore_n 2, 1) := by decide +kernel
theorem dX4_readPerson_30 : decode cX4_readPerson 30 = .ok (.aload_n 0, 1) := by decide +kernel
theorem dX4_readPerson_31 : decode cX4_readPerson 31 = .ok (.bipush 7, 2) := by decide +kernel
theorem dX4_readPerson_33 : decode cX4_readPerson 33 = .ok (.invokevirtual 62, 3) := by decide +kernel
theorem dX4_readPerson_36 : decode cX4_readPerson 36 = .ok (.aload_n 0, 1) := by decide +kernel
theorem dX4_readPerson_37 : decode cX4_readPerson 37 = .ok (.iconst 0, 1) := by decide +kernel
theorem dX4_readPerson_38 : decode cX4_readPerson 38 = .ok (.bipush 9, 2) := by decide +kernel
theorem dX4_readPerson_40 : decode cX4_readPerson 40 = .ok (.invokevirtual 83, 3) := by decide +kernel
theorem dX4_readPerson_43 : decode cX4_readPerson 43 = .ok (.istore_n 3, 1) := by decide +kernel
theorem dX4_readPerson_44 : decode cX4_readPerson 44 = .ok (.aload_n 0, 1) := by decide +kernel
theorem dX4_readPerson_45 : decode cX4_readPerson 45 = .ok (.bipush 8, 2) := by decide +kernel
theorem dX4_readPerson_47 : decode cX4_readPerson 47 = .ok (.invokevirtual 62, 3) := by decide +kernel
theorem dX4_readPerson_50 : decode cX4_readPerson 50 = .ok (.aload_n 0, 1) := by decide +kernel
theorem dX4_readPerson_51 : decode cX4_readPerson 51 = .ok (.iconst 0, 1) := by decide +kernel
theorem dX4_readPerson_52 : decode cX4_readPerson 52 = .ok (.bipush 99, 2) := by decide +kernel
theorem dX4_readPerson_54 : decode cX4_readPerson 54 = .ok (.invokevirtual 83, 3) := by decide +kernel
theorem dX4_readPerson_57 : decode cX4_readPerson 57 = .ok (.istore 4, 2) := by decide +kernel
theorem dX4_readPerson_59 : decode cX4_readPerson 59 = .ok (.aload_n 0, 1) := by decide +kernel
theorem dX4_readPerson_60 : decode cX4_readPerson 60 = .ok (.getfield 36, 3) := by decide +kernel
theorem dX4_readPerson_63 : decode cX4_readPerson 63 = .ok (.ifCond .ne 9, 3) := by decide +kernel
theorem dX4_readPerson_66 : decode cX4_readPerson 66 = .ok (.iload_n 1, 1) := by decide +kernel
theorem dX4_readPerson_67 : decode cX4_readPerson 67 = .ok (.bipush 8, 2) := by decide +kernel
theorem dX4_readPerson_69 : decode cX4_readPerson 69 = .ok (.if_icmp .lt 4, 3) := by decide +kernel
theorem dX4_readPerson_72 : decode cX4_readPerson 72 = .ok (.return_, 1) := by decide +kernel
theorem dX4_readPerson_73 : decode cX4_readPerson 73 = .ok (.aload_n 0, 1) := by decide +kernel
theorem dX4_readPerson_74 : decode cX4_readPerson 74 = .ok (.getfield 12, 3) := by decide +kernel
theorem dX4_readPerson_77 : decode cX4_readPerson 77 = .ok (.getfield 106, 3) := by decide +kernel
theorem dX4_readPerson_80 : decode cX4_readPerson 80 = .ok (.iload_n 1, 1) := by decide +kernel
theorem dX4_readPerson_81 : decode cX4_readPerson 81 = .ok (.iload_n 2, 1) := by decide +kernel
theorem dX4_readPerson_82 : decode cX4_readPerson 82 = .ok (.iastore, 1) := by decide +kernel
theorem dX4_readPerson_83 : decode cX4_readPerson 83 = .ok (.aload_n 0, 1) := by decide +kernel
theorem dX4_readPerson_84 : decode cX4_readPerson 84 = .ok (.getfield 12, 3) := by decide +kernel
theorem dX4_readPerson_87 : decode cX4_readPerson 87 = .ok (.getfield 109, 3) := by decide +kernel
theorem dX4_readPerson_90 : decode cX4_readPerson 90 = .ok (.iload_n 1, 1) := by decide +kernel
theorem dX4_readPerson_91 : decode cX4_readPerson 91 = .ok (.iload_n 3, 1) := by decide +kernel
theorem dX4_readPerson_92 : decode cX4_readPerson 92 = .ok (.iastore, 1) := by decide +kernel
theorem dX4_readPerson_93 : decode cX4_readPerson 93 = .ok (.aload_n 0, 1) := by decide +kernel
theorem dX4_readPerson_94 : decode cX4_readPerson 94 = .ok (.getfield 12, 3) := by decide +kernel
theorem dX4_readPerson_97 : decode cX4_readPerson 97 = .ok (.getfield 112, 3) := by decide +kernel
theorem dX4_readPerson_100 : decode cX4_readPerson 100 = .ok (.iload_n 1, 1) := by decide +kernel
theorem dX4_readPerson_101 : decode cX4_readPerson 101 = .ok (.iload 4, 2) := by decide +kernel
theorem dX4_readPerson_103 : decode cX4_readPerson 103 = .ok (.iastore, 1) := by decide +kernel
theorem dX4_readPerson_104 : decode cX4_readPerson 104 = .ok (.aload_n 0, 1) := by decide +kernel
theorem dX4_readPerson_105 : decode cX4_readPerson 105 = .ok (.getfield 12, 3) := by decide +kernel
theorem dX4_readPerson_108 : decode cX4_readPerson 108 = .ok (.dup, 1) := by decide +kernel
theorem dX4_readPerson_109 : decode cX4_readPerson 109 = .ok (.getfield 103, 3) := by decide +kernel
theorem dX4_readPerson_112 : decode cX4_readPerson 112 = .ok (.iconst 1, 1) := by decide +kernel
theorem dX4_readPerson_113 : decode cX4_readPerson 113 = .ok (.iadd, 1) := by decide +kernel
theorem dX4_readPerson_114 : decode cX4_readPerson 114 = .ok (.putfield 103, 3) := by decide +kernel
theorem dX4_readPerson_117 : decode cX4_readPerson 117 = .ok (.return_, 1) := by decide +kernel
theorem dX4_enter_0 : decode cX4_enter 0 = .ok (.aload_n 0, 1) := by decide +kernel
theorem dX4_enter_1 : decode cX4_enter 1 = .ok (.getfield 42, 3) := by decide +kernel
theorem dX4_enter_4 : decode cX4_enter 4 = .ok (.bipush 7, 2) := by decide +kernel
theorem dX4_enter_6 : decode cX4_enter 6 = .ok (.if_icmp .lt 8, 3) := by decide +kernel
theorem dX4_enter_9 : decode cX4_enter 9 = .ok (.aload_n 0, 1) := by decide +kernel
theorem dX4_enter_10 : decode cX4_enter 10 = .ok (.iconst 5, 1) := by decide +kernel
theorem dX4_enter_11 : decode cX4_enter 11 = .ok (.invokevirtual 65, 3) := by decide +kernel
theorem dX4_enter_14 : decode cX4_enter 14 = .ok (.aload_n 0, 1) := by decide +kernel
theorem dX4_enter_15 : decode cX4_enter 15 = .ok (.getfield 36, 3) := by decide +kernel
theorem dX4_enter_18 : decode cX4_enter 18 = .ok (.ifCond .eq 5, 3) := by decide +kernel
theorem dX4_enter_21 : decode cX4_enter 21 = .ok (.iconst 0, 1) := by decide +kernel
theorem dX4_enter_22 : decode cX4_enter 22 = .ok (.ireturn, 1) := by decide +kernel
theorem dX4_enter_23 : decode cX4_enter 23 = .ok (.aload_n 0, 1) := by decide +kernel
theorem dX4_enter_24 : decode cX4_enter 24 = .ok (.dup, 1) := by decide +kernel
theorem dX4_enter_25 : decode cX4_enter 25 = .ok (.getfield 42, 3) := by decide +kernel
theorem dX4_enter_28 : decode cX4_enter 28 = .ok (.iconst 1, 1) := by decide +kernel
theorem dX4_enter_29 : decode cX4_enter 29 = .ok (.iadd, 1) := by decide +kernel
theorem dX4_enter_30 : decode cX4_enter 30 = .ok (.putfield 42, 3) := by decide +kernel
theorem dX4_enter_33 : decode cX4_enter 33 = .ok (.aload_n 0, 1) := by decide +kernel
theorem dX4_enter_34 : decode cX4_enter 34 = .ok (.dup, 1) := by decide +kernel
theorem dX4_enter_35 : decode cX4_enter 35 = .ok (.getfield 39, 3) := by decide +kernel
theorem dX4_enter_38 : decode cX4_enter 38 = .ok (.iconst 1, 1) := by decide +kernel
theorem dX4_enter_39 : decode cX4_enter 39 = .ok (.iadd, 1) := by decide +kernel
theorem dX4_enter_40 : decode cX4_enter 40 = .ok (.putfield 39, 3) := by decide +kernel
theorem dX4_enter_43 : decode cX4_enter 43 = .ok (.iconst 1, 1) := by decide +kernel
theorem dX4_enter_44 : decode cX4_enter 44 = .ok (.ireturn, 1) := by decide +kernel
theorem dX4_isAsked_0 : decode cX4_isAsked 0 = .ok (.iload_n 1, 1) := by decide +kernel
theorem dX4_isAsked_1 : decode cX4_isAsked 1 = .ok (.tableswitch 115 7 15 #[66, 101, 115, 51, 51, 51, 51, 53, 87], 51) := by decide +kernel
theorem dX4_isAsked_52 : decode cX4_isAsked 52 = .ok (.iconst 1, 1) := by decide +kernel
theorem dX4_isAsked_53 : decode cX4_isAsked 53 = .ok (.ireturn, 1) := by decide +kernel
theorem dX4_isAsked_54 : decode cX4_isAsked 54 = .ok (.aload_n 0, 1) := by decide +kernel
theorem dX4_isAsked_55 : decode cX4_isAsked 55 = .ok (.getfield 138, 3) := by decide +kernel
theorem dX4_isAsked_58 : decode cX4_isAsked 58 = .ok (.ifCond .ne 7, 3) := by decide +kernel
theorem dX4_isAsked_61 : decode cX4_isAsked 61 = .ok (.iconst 1, 1) := by decide +kernel
theorem dX4_isAsked_62 : decode cX4_isAsked 62 = .ok (.goto 4, 3) := by decide +kernel
theorem dX4_isAsked_65 : decode cX4_isAsked 65 = .ok (.iconst 0, 1) := by decide +kernel
theorem dX4_isAsked_66 : decode cX4_isAsked 66 = .ok (.ireturn, 1) := by decide +kernel
theorem dX4_isAsked_67 : decode cX4_isAsked 67 = .ok (.aload_n 0, 1) := by decide +kernel
theorem dX4_isAsked_68 : decode cX4_isAsked 68 = .ok (.getfield 138, 3) := by decide +kernel
theorem dX4_isAsked_71 : decode cX4_isAsked 71 = .ok (.ifCond .eq 11, 3) := by decide +kernel
theorem dX4_isAsked_74 : decode cX4_isAsked 74 = .ok (.aload_n 0, 1) := by decide +kernel
theorem dX4_isAsked_75 : decode cX4_isAsked 75 = .ok (.getfield 138, 3) := by decide +kernel
theorem dX4_isAsked_78 : decode cX4_isAsked 78 = .ok (.iconst 1, 1) := by decide +kernel
theorem dX4_isAsked_79 : decode cX4_isAsked 79 = .ok (.if_icmp .ne 7, 3) := by decide +kernel
theorem dX4_isAsked_82 : decode cX4_isAsked 82 = .ok (.iconst 1, 1) := by decide +kernel
theorem dX4_isAsked_83 : decode cX4_isAsked 83 = .ok (.goto 4, 3) := by decide +kernel
theorem dX4_isAsked_86 : decode cX4_isAsked 86 = .ok (.iconst 0, 1) := by decide +kernel
theorem dX4_isAsked_87 : decode cX4_isAsked 87 = .ok (.ireturn, 1) := by decide +kernel
theorem dX4_isAsked_88 : decode cX4_isAsked 88 = .ok (.aload_n 0, 1) := by decide +kernel
theorem dX4_isAsked_89 : decode cX4_isAsked 89 = .ok (.getfield 138, 3) := by decide +kernel
theorem dX4_isAsked_92 : decode cX4_isAsked 92 = .ok (.iconst 1, 1) := by decide +kernel
theorem dX4_isAsked_93 : decode cX4_isAsked 93 = .ok (.if_icmp .ne 7, 3) := by decide +kernel
theorem dX4_isAsked_96 : decode cX4_isAsked 96 = .ok (.iconst 1, 1) := by decide +kernel
theorem dX4_isAsked_97 : decode cX4_isAsked 97 = .ok (.goto 4, 3) := by decide +kernel
theorem dX4_isAsked_100 : decode cX4_isAsked 100 = .ok (.iconst 0, 1) := by decide +kernel
theorem dX4_isAsked_101 : decode cX4_isAsked 101 = .ok (.ireturn, 1) := by decide +kernel
theorem dX4_isAsked_102 : decode cX4_isAsked 102 = .ok (.aload_n 0, 1) := by decide +kernel
theorem dX4_isAsked_103 : decode cX4_isAsked 103 = .ok (.getfield 138, 3) := by decide +kernel
theorem dX4_isAsked_106 : decode cX4_isAsked 106 = .ok (.iconst 2, 1) := by decide +kernel
theorem dX4_isAsked_107 : decode cX4_isAsked 107 = .ok (.if_icmp .ne 7, 3) := by decide +kernel
theorem dX4_isAsked_110 : decode cX4_isAsked 110 = .ok (.iconst 1, 1) := by decide +kernel
theorem dX4_isAsked_111 : decode cX4_isAsked 111 = .ok (.goto 4, 3) := by decide +kernel
theorem dX4_isAsked_114 : decode cX4_isAsked 114 = .ok (.iconst 0, 1) := by decide +kernel
theorem dX4_isAsked_115 : decode cX4_isAsked 115 = .ok (.ireturn, 1) := by decide +kernel
theorem dX4_isAsked_116 : decode cX4_isAsked 116 = .ok (.iconst 0, 1) := by decide +kernel
theorem dX4_isAsked_117 : decode cX4_isAsked 117 = .ok (.ireturn, 1) := by decide +kernel
theorem dX5_add_0 : decode cX5_add 0 = .ok (.aload_n 0, 1) := by decide +kernel
theorem dX5_add_1 : decode cX5_add 1 = .ok (.getfield 29, 3) := by decide +kernel
theorem dX5_add_4 : decode cX5_add 4 = .ok (.aload_n 0, 1) := by decide +kernel
theorem dX5_add_5 : decode cX5_add 5 = .ok (.getfield 17, 3) := by decide +kernel
theorem dX5_add_8 : decode cX5_add 8 = .ok (.arraylength, 1) := by decide +kernel
theorem dX5_add_9 : decode cX5_add 9 = .ok (.if_icmp .ge 23, 3) := by decide +kernel
theorem dX5_add_12 : decode cX5_add 12 = .ok (.aload_n 0, 1) := by decide +kernel
theorem dX5_add_13 : decode cX5_add 13 = .ok (.getfield 17, 3) := by decide +kernel
theorem dX5_add_16 : decode cX5_add 16 = .ok (.aload_n 0, 1) := by decide +kernel
theorem dX5_add_17 : decode cX5_add 17 = .ok (.getfield 29, 3) := by decide +kernel
theorem dX5_add_20 : decode cX5_add 20 = .ok (.iload_n 1, 1) := by decide +kernel
theorem dX5_add_21 : decode cX5_add 21 = .ok (.iastore, 1) := by decide +kernel
theorem dX5_add_22 : decode cX5_add 22 = .ok (.aload_n 0, 1) := by decide +kernel
theorem dX5_add_23 : decode cX5_add 23 = .ok (.dup, 1) := by decide +kernel
theorem dX5_add_24 : decode cX5_add 24 = .ok (.getfield 29, 3) := by decide +kernel
theorem dX5_add_27 : decode cX5_add 27 = .ok (.iconst 1, 1) := by decide +kernel
theorem dX5_add_28 : decode cX5_add 28 = .ok (.iadd, 1) := by decide +kernel
theorem dX5_add_29 : decode cX5_add 29 = .ok (.putfield 29, 3) := by decide +kernel
theorem dX5_add_32 : decode cX5_add 32 = .ok (.return_, 1) := by decide +kernel
theorem dX5_addNumber_0 : decode cX5_addNumber 0 = .ok (.aload_n 0, 1) := by decide +kernel
theorem dX5_addNumber_1 : decode cX5_addNumber 1 = .ok (.iload_n 1, 1) := by decide +kernel
theorem dX5_addNumber_2 : decode cX5_addNumber 2 = .ok (.invokevirtual 45, 3) := by decide +kernel
theorem dX5_addNumber_5 : decode cX5_addNumber 5 = .ok (.return_, 1) := by decide +kernel
theorem dX5_addSign_0 : decode cX5_addSign 0 = .ok (.aload_n 0, 1) := by decide +kernel
theorem dX5_addSign_1 : decode cX5_addSign 1 = .ok (.sipush 20000, 3) := by decide +kernel
theorem dX5_addSign_4 : decode cX5_addSign 4 = .ok (.iload_n 1, 1) := by decide +kernel
theorem dX5_addSign_5 : decode cX5_addSign 5 = .ok (.iadd, 1) := by decide +kernel
theorem dX5_addSign_6 : decode cX5_addSign 6 = .ok (.invokevirtual 45, 3) := by decide +kernel
theorem dX5_addSign_9 : decode cX5_addSign 9 = .ok (.return_, 1) := by decide +kernel
theorem dX5_addFact_0 : decode cX5_addFact 0 = .ok (.aload_n 0, 1) := by decide +kernel
theorem dX5_addFact_1 : decode cX5_addFact 1 = .ok (.sipush 10000, 3) := by decide +kernel
theorem dX5_addFact_4 : decode cX5_addFact 4 = .ok (.iload_n 1, 1) := by decide +kernel
theorem dX5_addFact_5 : decode cX5_addFact 5 = .ok (.iadd, 1) := by decide +kernel
theorem dX5_addFact_6 : decode cX5_addFact 6 = .ok (.invokevirtual 45, 3) := by decide +kernel
theorem dX5_addFact_9 : decode cX5_addFact 9 = .ok (.return_, 1) := by decide +kernel
theorem dX5_isTold_0 : decode cX5_isTold 0 = .ok (.iload_n 1, 1) := by decide +kernel
theorem dX5_isTold_1 : decode cX5_isTold 1 = .ok (.ifCond .lt 27, 3) := by decide +kernel
theorem dX5_isTold_4 : decode cX5_isTold 4 = .ok (.iload_n 1, 1) := by decide +kernel
theorem dX5_isTold_5 : decode cX5_isTold 5 = .ok (.iconst 3, 1) := by decide +kernel
theorem dX5_isTold_6 : decode cX5_isTold 6 = .ok (.if_icmp .ge 22, 3) := by decide +kernel
theorem dX5_isTold_9 : decode cX5_isTold 9 = .ok (.aload_n 0, 1) := by decide +kernel
theorem dX5_isTold_10 : decode cX5_isTold 10 = .ok (.getfield 23, 3) := by decide +kernel
theorem dX5_isTold_13 : decode cX5_isTold 13 = .ok (.iload_n 1, 1) := by decide +kernel
theorem dX5_isTold_14 : decode cX5_isTold 14 = .ok (.iaload, 1) := by decide +kernel
theorem dX5_isTold_15 : decode cX5_isTold 15 = .ok (.aload_n 0, 1) := by decide +kernel
theorem dX5_isTold_16 : decode cX5_isTold 16 = .ok (.getfield 20, 3) := by decide +kernel
theorem dX5_isTold_19 : decode cX5_isTold 19 = .ok (.iload_n 1, 1) := by decide +kernel
theorem dX5_isTold_20 : decode cX5_isTold 20 = .ok (.iaload, 1) := by decide +kernel
theorem dX5_isTold_21 : decode cX5_isTold 21 = .ok (.if_icmp .le 7, 3) := by decide +kernel
theorem dX5_isTold_24 : decode cX5_isTold 24 = .ok (.iconst 1, 1) := by decide +kernel
theorem dX5_isTold_25 : decode cX5_isTold 25 = .ok (.goto 4, 3) := by decide +kernel
theorem dX5_isTold_28 : decode cX5_isTold 28 = .ok (.iconst 0, 1) := by decide +kernel
theorem dX5_isTold_29 : decode cX5_isTold 29 = .ok (.ireturn, 1) := by decide +kernel
theorem dX5_start_0 : decode cX5_start 0 = .ok (.iload_n 1, 1) := by decide +kernel
theorem dX5_start_1 : decode cX5_start 1 = .ok (.ifCond .lt 18, 3) := by decide +kernel
theorem dX5_start_4 : decode cX5_start 4 = .ok (.iload_n 1, 1) := by decide +kernel
theorem dX5_start_5 : decode cX5_start 5 = .ok (.iconst 3, 1) := by decide +kernel
theorem dX5_start_6 : decode cX5_start 6 = .ok (.if_icmp .ge 13, 3) := by decide +kernel
theorem dX5_start_9 : decode cX5_start 9 = .ok (.aload_n 0, 1) := by decide +kernel
theorem dX5_start_10 : decode cX5_start 10 = .ok (.getfield 20, 3) := by decide +kernel
theorem dX5_start_13 : decode cX5_start 13 = .ok (.iload_n 1, 1) := by decide +kernel
theorem dX5_start_14 : decode cX5_start 14 = .ok (.aload_n 0, 1) := by decide +kernel
theorem dX5_start_15 : decode cX5_start 15 = .ok (.getfield 29, 3) := by decide +kernel
theorem dX5_start_18 : decode cX5_start 18 = .ok (.iastore, 1) := by decide +kernel
theorem dX5_start_19 : decode cX5_start 19 = .ok (.return_, 1) := by decide +kernel
theorem dX5_stop_0 : decode cX5_stop 0 = .ok (.iload_n 1, 1) := by decide +kernel
theorem dX5_stop_1 : decode cX5_stop 1 = .ok (.ifCond .lt 18, 3) := by decide +kernel
theorem dX5_stop_4 : decode cX5_stop 4 = .ok (.iload_n 1, 1) := by decide +kernel
theorem dX5_stop_5 : decode cX5_stop 5 = .ok (.iconst 3, 1) := by decide +kernel
theorem dX5_stop_6 : decode cX5_stop 6 = .ok (.if_icmp .ge 13, 3) := by decide +kernel
theorem dX5_stop_9 : decode cX5_stop 9 = .ok (.aload_n 0, 1) := by decide +kernel
theorem dX5_stop_10 : decode cX5_stop 10 = .ok (.getfield 23, 3) := by decide +kernel
theorem dX5_stop_13 : decode cX5_stop 13 = .ok (.iload_n 1, 1) := by decide +kernel
theorem dX5_stop_14 : decode cX5_stop 14 = .ok (.aload_n 0, 1) := by decide +kernel
theorem dX5_stop_15 : decode cX5_stop 15 = .ok (.getfield 29, 3) := by decide +kernel
theorem dX5_stop_18 : decode cX5_stop 18 = .ok (.iastore, 1) := by decide +kernel
theorem dX5_stop_19 : decode cX5_stop 19 = .ok (.return_, 1) := by decide +kernel
theorem dX4_readVoice_0 : decode cX4_readVoice 0 = .ok (.aload_n 0, 1) := by decide +kernel
theorem dX4_readVoice_1 : decode cX4_readVoice 1 = .ok (.getfield 12, 3) := by decide +kernel
theorem dX4_readVoice_4 : decode cX4_readVoice 4 = .ok (.getfield 90, 3) := by decide +kernel
theorem dX4_readVoice_7 : decode cX4_readVoice 7 = .ok (.istore_n 1, 1) := by decide +kernel
theorem dX4_readVoice_8 : decode cX4_readVoice 8 = .ok (.iload_n 1, 1) := by decide +kernel
theorem dX4_readVoice_9 : decode cX4_readVoice 9 = .ok (.bipush 7, 2) := by decide +kernel
theorem dX4_readVoice_11 : decode cX4_readVoice 11 = .ok (.if_icmp .lt 9, 3) := by decide +kernel
theorem dX4_readVoice_14 : decode cX4_readVoice 14 = .ok (.aload_n 0, 1) := by decide +kernel
theorem dX4_readVoice_15 : decode cX4_readVoice 15 = .ok (.bipush 6, 2) := by decide +kernel
theorem dX4_readVoice_17 : decode cX4_readVoice 17 = .ok (.invokevirtual 65, 3) := by decide +kernel
theorem dX4_readVoice_20 : decode cX4_readVoice 20 = .ok (.aload_n 0, 1) := by decide +kernel
theorem dX4_readVoice_21 : decode cX4_readVoice 21 = .ok (.iconst 0, 1) := by decide +kernel
theorem dX4_readVoice_22 : decode cX4_readVoice 22 = .ok (.invokevirtual 62, 3) := by decide +kernel
theorem dX4_readVoice_25 : decode cX4_readVoice 25 = .ok (.aload_n 0, 1) := by decide +kernel
theorem dX4_readVoice_26 : decode cX4_readVoice 26 = .ok (.invokevirtual 93, 3) := by decide +kernel
theorem dX4_readVoice_29 : decode cX4_readVoice 29 = .ok (.istore_n 2, 1) := by decide +kernel
theorem dX4_readVoice_30 : decode cX4_readVoice 30 = .ok (.aload_n 0, 1) := by decide +kernel
theorem dX4_readVoice_31 : decode cX4_readVoice 31 = .ok (.bipush 7, 2) := by decide +kernel
theorem dX4_readVoice_33 : decode cX4_readVoice 33 = .ok (.invokevirtual 62, 3) := by decide +kernel
theorem dX4_readVoice_36 : decode cX4_readVoice 36 = .ok (.aload_n 0, 1) := by decide +kernel
theorem dX4_readVoice_37 : decode cX4_readVoice 37 = .ok (.iconst 0, 1) := by decide +kernel
theorem dX4_readVoice_38 : decode cX4_readVoice 38 = .ok (.bipush 9, 2) := by decide +kernel
theorem dX4_readVoice_40 : decode cX4_readVoice 40 = .ok (.invokevirtual 83, 3) := by decide +kernel
theorem dX4_readVoice_43 : decode cX4_readVoice 43 = .ok (.istore_n 3, 1) := by decide +kernel
theorem dX4_readVoice_44 : decode cX4_readVoice 44 = .ok (.aload_n 0, 1) := by decide +kernel
theorem dX4_readVoice_45 : decode cX4_readVoice 45 = .ok (.getfield 36, 3) := by decide +kernel
theorem dX4_readVoice_48 : decode cX4_readVoice 48 = .ok (.ifCond .ne 9, 3) := by decide +kernel
theorem dX4_readVoice_51 : decode cX4_readVoice 51 = .ok (.iload_n 1, 1) := by decide +kernel
theorem dX4_readVoice_52 : decode cX4_readVoice 52 = .ok (.bipush 7, 2) := by decide +kernel
theorem dX4_readVoice_54 : decode cX4_readVoice 54 = .ok (.if_icmp .lt 4, 3) := by decide +kernel
theorem dX4_readVoice_57 : decode cX4_readVoice 57 = .ok (.return_, 1) := by decide +kernel
theorem dX4_readVoice_58 : decode cX4_readVoice 58 = .ok (.aload_n 0, 1) := by decide +kernel
theorem dX4_readVoice_59 : decode cX4_readVoice 59 = .ok (.getfield 12, 3) := by decide +kernel
theorem dX4_readVoice_62 : decode cX4_readVoice 62 = .ok (.getfield 96, 3) := by decide +kernel
theorem dX4_readVoice_65 : decode cX4_readVoice 65 = .ok (.iload_n 1, 1) := by decide +kernel
theorem dX4_readVoice_66 : decode cX4_readVoice 66 = .ok (.iload_n 2, 1) := by decide +kernel
theorem dX4_readVoice_67 : decode cX4_readVoice 67 = .ok (.iastore, 1) := by decide +kernel
theorem dX4_readVoice_68 : decode cX4_readVoice 68 = .ok (.aload_n 0, 1) := by decide +kernel
theorem dX4_readVoice_69 : decode cX4_readVoice 69 = .ok (.getfield 12, 3) := by decide +kernel
theorem dX4_readVoice_72 : decode cX4_readVoice 72 = .ok (.getfield 100, 3) := by decide +kernel
theorem dX4_readVoice_75 : decode cX4_readVoice 75 = .ok (.iload_n 1, 1) := by decide +kernel
theorem dX4_readVoice_76 : decode cX4_readVoice 76 = .ok (.iload_n 3, 1) := by decide +kernel
theorem dX4_readVoice_77 : decode cX4_readVoice 77 = .ok (.iastore, 1) := by decide +kernel
theorem dX4_readVoice_78 : decode cX4_readVoice 78 = .ok (.aload_n 0, 1) := by decide +kernel
theorem dX4_readVoice_79 : decode cX4_readVoice 79 = .ok (.getfield 12, 3) := by decide +kernel
theorem dX4_readVoice_82 : decode cX4_readVoice 82 = .ok (.dup, 1) := by decide +kernel
theorem dX4_readVoice_83 : decode cX4_readVoice 83 = .ok (.getfield 90, 3) := by decide +kernel
theorem dX4_readVoice_86 : decode cX4_readVoice 86 = .ok (.iconst 1, 1) := by decide +kernel
theorem dX4_readVoice_87 : decode cX4_readVoice 87 = .ok (.iadd, 1) := by decide +kernel
theorem dX4_readVoice_88 : decode cX4_readVoice 88 = .ok (.putfield 90, 3) := by decide +kernel
theorem dX4_readVoice_91 : decode cX4_readVoice 91 = .ok (.return_, 1) := by decide +kernel
theorem dX4_personName_0 : decode cX4_personName 0 = .ok (.aload_n 0, 1) := by decide +kernel
theorem dX4_personName_1 : decode cX4_personName 1 = .ok (.bipush 23, 2) := by decide +kernel
theorem dX4_personName_3 : decode cX4_personName 3 = .ok (.invokevirtual 47, 3) := by decide +kernel
theorem dX4_personName_6 : decode cX4_personName 6 = .ok (.ifCond .ne 8, 3) := by decide +kernel
theorem dX4_personName_9 : decode cX4_personName 9 = .ok (.aload_n 0, 1) := by decide +kernel
theorem dX4_personName_10 : decode cX4_personName 10 = .ok (.iconst 1, 1) := by decide +kernel
theorem dX4_personName_11 : decode cX4_personName 11 = .ok (.invokevirtual 65, 3) := by decide +kernel
theorem dX4_personName_14 : decode cX4_personName 14 = .ok (.aload_n 0, 1) := by decide +kernel
theorem dX4_personName_15 : decode cX4_personName 15 = .ok (.getfield 12, 3) := by decide +kernel
theorem dX4_personName_18 : decode cX4_personName 18 = .ok (.aload_n 0, 1) := by decide +kernel
theorem dX4_personName_19 : decode cX4_personName 19 = .ok (.invokevirtual 68, 3) := by decide +kernel
theorem dX4_personName_22 : decode cX4_personName 22 = .ok (.invokevirtual 179, 3) := by decide +kernel
theorem dX4_personName_25 : decode cX4_personName 25 = .ok (.istore_n 1, 1) := by decide +kernel
theorem dX4_personName_26 : decode cX4_personName 26 = .ok (.iload_n 1, 1) := by decide +kernel
theorem dX4_personName_27 : decode cX4_personName 27 = .ok (.iconst (-1), 1) := by decide +kernel
theorem dX4_personName_28 : decode cX4_personName 28 = .ok (.if_icmp .ne 8, 3) := by decide +kernel
theorem dX4_personName_31 : decode cX4_personName 31 = .ok (.aload_n 0, 1) := by decide +kernel
theorem dX4_personName_32 : decode cX4_personName 32 = .ok (.iconst 3, 1) := by decide +kernel
theorem dX4_personName_33 : decode cX4_personName 33 = .ok (.invokevirtual 65, 3) := by decide +kernel
theorem dX4_personName_36 : decode cX4_personName 36 = .ok (.aload_n 0, 1) := by decide +kernel
theorem dX4_personName_37 : decode cX4_personName 37 = .ok (.getfield 36, 3) := by decide +kernel
theorem dX4_personName_40 : decode cX4_personName 40 = .ok (.ifCond .ne 13, 3) := by decide +kernel
theorem dX4_personName_43 : decode cX4_personName 43 = .ok (.aload_n 0, 1) := by decide +kernel
theorem dX4_personName_44 : decode cX4_personName 44 = .ok (.dup, 1) := by decide +kernel
theorem dX4_personName_45 : decode cX4_personName 45 = .ok (.getfield 39, 3) := by decide +kernel
theorem dX4_personName_48 : decode cX4_personName 48 = .ok (.iconst 1, 1) := by decide +kernel
theorem dX4_personName_49 : decode cX4_personName 49 = .ok (.iadd, 1) := by decide +kernel
theorem dX4_personName_50 : decode cX4_personName 50 = .ok (.putfield 39, 3) := by decide +kernel
theorem dX4_personName_53 : decode cX4_personName 53 = .ok (.iload_n 1, 1) := by decide +kernel
theorem dX4_personName_54 : decode cX4_personName 54 = .ok (.ireturn, 1) := by decide +kernel
theorem dX4_readWants_0 : decode cX4_readWants 0 = .ok (.aload_n 0, 1) := by decide +kernel
theorem dX4_readWants_1 : decode cX4_readWants 1 = .ok (.getfield 12, 3) := by decide +kernel
theorem dX4_readWants_4 : decode cX4_readWants 4 = .ok (.getfield 115, 3) := by decide +kernel
theorem dX4_readWants_7 : decode cX4_readWants 7 = .ok (.istore_n 1, 1) := by decide +kernel
theorem dX4_readWants_8 : decode cX4_readWants 8 = .ok (.iload_n 1, 1) := by decide +kernel
theorem dX4_readWants_9 : decode cX4_readWants 9 = .ok (.bipush 12, 2) := by decide +kernel
theorem dX4_readWants_11 : decode cX4_readWants 11 = .ok (.if_icmp .lt 9, 3) := by decide +kernel
theorem dX4_readWants_14 : decode cX4_readWants 14 = .ok (.aload_n 0, 1) := by decide +kernel
theorem dX4_readWants_15 : decode cX4_readWants 15 = .ok (.bipush 6, 2) := by decide +kernel
theorem dX4_readWants_17 : decode cX4_readWants 17 = .ok (.invokevirtual 65, 3) := by decide +kernel
theorem dX4_readWants_20 : decode cX4_readWants 20 = .ok (.aload_n 0, 1) := by decide +kernel
theorem dX4_readWants_21 : decode cX4_readWants 21 = .ok (.iconst 2, 1) := by decide +kernel
theorem dX4_readWants_22 : decode cX4_readWants 22 = .ok (.invokevirtual 62, 3) := by decide +kernel
theorem dX4_readWants_25 : decode cX4_readWants 25 = .ok (.aload_n 0, 1) := by decide +kernel
theorem dX4_readWants_26 : decode cX4_readWants 26 = .ok (.invokevirtual 118, 3) := by decide +kernel
theorem dX4_readWants_29 : decode cX4_readWants 29 = .ok (.istore_n 2, 1) := by decide +kernel
theorem dX4_readWants_30 : decode cX4_readWants 30 = .ok (.aload_n 0, 1) := by decide +kernel
theorem dX4_readWants_31 : decode cX4_readWants 31 = .ok (.bipush 9, 2) := by decide +kernel
theorem dX4_readWants_33 : decode cX4_readWants 33 = .ok (.invokevirtual 62, 3) := by decide +kernel
theorem dX4_readWants_36 : decode cX4_readWants 36 = .ok (.aload_n 0, 1) := by decide +kernel
theorem dX4_readWants_37 : decode cX4_readWants 37 = .ok (.iconst 0, 1) := by decide +kernel
theorem dX4_readWants_38 : decode cX4_readWants 38 = .ok (.sipush 999, 3) := by decide +kernel
theorem dX4_readWants_41 : decode cX4_readWants 41 = .ok (.invokevirtual 83, 3) := by decide +kernel
theorem dX4_readWants_44 : decode cX4_readWants 44 = .ok (.istore_n 3, 1) := by decide +kernel
theorem dX4_readWants_45 : decode cX4_readWants 45 = .ok (.aload_n 0, 1) := by decide +kernel
theorem dX4_readWants_46 : decode cX4_readWants 46 = .ok (.bipush 10, 2) := by decide +kernel
theorem dX4_readWants_48 : decode cX4_readWants 48 = .ok (.invokevirtual 62, 3) := by decide +kernel
theorem dX4_readWants_51 : decode cX4_readWants 51 = .ok (.aload_n 0, 1) := by decide +kernel
theorem dX4_readWants_52 : decode cX4_readWants 52 = .ok (.iconst 1, 1) := by decide +kernel
theorem dX4_readWants_53 : decode cX4_readWants 53 = .ok (.bipush 20, 2) := by decide +kernel
theorem dX4_readWants_55 : decode cX4_readWants 55 = .ok (.invokevirtual 83, 3) := by decide +kernel
theorem dX4_readWants_58 : decode cX4_readWants 58 = .ok (.istore 4, 2) := by decide +kernel
theorem dX4_readWants_60 : decode cX4_readWants 60 = .ok (.aload_n 0, 1) := by decide +kernel
theorem dX4_readWants_61 : decode cX4_readWants 61 = .ok (.getfield 36, 3) := by decide +kernel
theorem dX4_readWants_64 : decode cX4_readWants 64 = .ok (.ifCond .ne 9, 3) := by decide +kernel
theorem dX4_readWants_67 : decode cX4_readWants 67 = .ok (.iload_n 1, 1) := by decide +kernel
theorem dX4_readWants_68 : decode cX4_readWants 68 = .ok (.bipush 12, 2) := by decide +kernel
theorem dX4_readWants_70 : decode cX4_readWants 70 = .ok (.if_icmp .lt 4, 3) := by decide +kernel
theorem dX4_readWants_73 : decode cX4_readWants 73 = .ok (.return_, 1) := by decide +kernel
theorem dX4_readWants_74 : decode cX4_readWants 74 = .ok (.aload_n 0, 1) := by decide +kernel
theorem dX4_readWants_75 : decode cX4_readWants 75 = .ok (.getfield 12, 3) := by decide +kernel
theorem dX4_readWants_78 : decode cX4_readWants 78 = .ok (.getfield 120, 3) := by decide +kernel
theorem dX4_readWants_81 : decode cX4_readWants 81 = .ok (.iload_n 1, 1) := by decide +kernel
theorem dX4_readWants_82 : decode cX4_readWants 82 = .ok (.iload_n 2, 1) := by decide +kernel
theorem dX4_readWants_83 : decode cX4_readWants 83 = .ok (.iastore, 1) := by decide +kernel
theorem dX4_readWants_84 : decode cX4_readWants 84 = .ok (.aload_n 0, 1) := by decide +kernel
theorem dX4_readWants_85 : decode cX4_readWants 85 = .ok (.getfield 12, 3) := by decide +kernel
theorem dX4_readWants_88 : decode cX4_readWants 88 = .ok (.getfield 123, 3) := by decide +kernel
theorem dX4_readWants_91 : decode cX4_readWants 91 = .ok (.iload_n 1, 1) := by decide +kernel
theorem dX4_readWants_92 : decode cX4_readWants 92 = .ok (.iload_n 3, 1) := by decide +kernel
theorem dX4_readWants_93 : decode cX4_readWants 93 = .ok (.iastore, 1) := by decide +kernel
theorem dX4_readWants_94 : decode cX4_readWants 94 = .ok (.aload_n 0, 1) := by decide +kernel
theorem dX4_readWants_95 : decode cX4_readWants 95 = .ok (.getfield 12, 3) := by decide +kernel
theorem dX4_readWants_98 : decode cX4_readWants 98 = .ok (.getfield 126, 3) := by decide +kernel
theorem dX4_readWants_101 : decode cX4_readWants 101 = .ok (.iload_n 1, 1) := by decide +kernel
theorem dX4_readWants_102 : decode cX4_readWants 102 = .ok (.iload 4, 2) := by decide +kernel
theorem dX4_readWants_104 : decode cX4_readWants 104 = .ok (.iastore, 1) := by decide +kernel
theorem dX4_readWants_105 : decode cX4_readWants 105 = .ok (.aload_n 0, 1) := by decide +kernel
theorem dX4_readWants_106 : decode cX4_readWants 106 = .ok (.getfield 12, 3) := by decide +kernel
theorem dX4_readWants_109 : decode cX4_readWants 109 = .ok (.dup, 1) := by decide +kernel
theorem dX4_readWants_110 : decode cX4_readWants 110 = .ok (.getfield 115, 3) := by decide +kernel
theorem dX4_readWants_113 : decode cX4_readWants 113 = .ok (.iconst 1, 1) := by decide +kernel
theorem dX4_readWants_114 : decode cX4_readWants 114 = .ok (.iadd, 1) := by decide +kernel
theorem dX4_readWants_115 : decode cX4_readWants 115 = .ok (.putfield 115, 3) := by decide +kernel
theorem dX4_readWants_118 : decode cX4_readWants 118 = .ok (.return_, 1) := by decide +kernel
theorem dX4_refuseOneMore_0 : decode cX4_refuseOneMore 0 = .ok (.aload_n 0, 1) := by decide +kernel
theorem dX4_refuseOneMore_1 : decode cX4_refuseOneMore 1 = .ok (.bipush 26, 2) := by decide +kernel
theorem dX4_refuseOneMore_3 : decode cX4_refuseOneMore 3 = .ok (.invokevirtual 47, 3) := by decide +kernel
theorem dX4_refuseOneMore_6 : decode cX4_refuseOneMore 6 = .ok (.istore_n 1, 1) := by decide +kernel
theorem dX4_refuseOneMore_7 : decode cX4_refuseOneMore 7 = .ok (.aload_n 0, 1) := by decide +kernel
theorem dX4_refuseOneMore_8 : decode cX4_refuseOneMore 8 = .ok (.bipush 6, 2) := by decide +kernel
theorem dX4_refuseOneMore_10 : decode cX4_refuseOneMore 10 = .ok (.invokevirtual 65, 3) := by decide +kernel
theorem dX4_refuseOneMore_13 : decode cX4_refuseOneMore 13 = .ok (.iload_n 1, 1) := by decide +kernel
theorem dX4_refuseOneMore_14 : decode cX4_refuseOneMore 14 = .ok (.ifCond .eq 11, 3) := by decide +kernel
theorem dX4_refuseOneMore_17 : decode cX4_refuseOneMore 17 = .ok (.aload_n 0, 1) := by decide +kernel
theorem dX4_refuseOneMore_18 : decode cX4_refuseOneMore 18 = .ok (.aload_n 0, 1) := by decide +kernel
theorem dX4_refuseOneMore_19 : decode cX4_refuseOneMore 19 = .ok (.invokevirtual 68, 3) := by decide +kernel
theorem dX4_refuseOneMore_22 : decode cX4_refuseOneMore 22 = .ok (.putfield 18, 3) := by decide +kernel
theorem dX4_refuseOneMore_25 : decode cX4_refuseOneMore 25 = .ok (.return_, 1) := by decide +kernel
theorem dX8_add_0 : decode cX8_add 0 = .ok (.aload_n 0, 1) := by decide +kernel
theorem dX8_add_1 : decode cX8_add 1 = .ok (.getfield 21, 3) := by decide +kernel
theorem dX8_add_4 : decode cX8_add 4 = .ok (.aload_n 0, 1) := by decide +kernel
theorem dX8_add_5 : decode cX8_add 5 = .ok (.getfield 9, 3) := by decide +kernel
theorem dX8_add_8 : decode cX8_add 8 = .ok (.arraylength, 1) := by decide +kernel
theorem dX8_add_9 : decode cX8_add 9 = .ok (.if_icmp .ge 67, 3) := by decide +kernel
theorem dX8_add_12 : decode cX8_add 12 = .ok (.aload_n 0, 1) := by decide +kernel
theorem dX8_add_13 : decode cX8_add 13 = .ok (.getfield 21, 3) := by decide +kernel
theorem dX8_add_16 : decode cX8_add 16 = .ok (.aload_n 0, 1) := by decide +kernel
theorem dX8_add_17 : decode cX8_add 17 = .ok (.getfield 15, 3) := by decide +kernel
theorem dX8_add_20 : decode cX8_add 20 = .ok (.arraylength, 1) := by decide +kernel
theorem dX8_add_21 : decode cX8_add 21 = .ok (.if_icmp .ge 55, 3) := by decide +kernel
theorem dX8_add_24 : decode cX8_add 24 = .ok (.aload_n 0, 1) := by decide +kernel
theorem dX8_add_25 : decode cX8_add 25 = .ok (.getfield 21, 3) := by decide +kernel
theorem dX8_add_28 : decode cX8_add 28 = .ok (.aload_n 0, 1) := by decide +kernel
theorem dX8_add_29 : decode cX8_add 29 = .ok (.getfield 18, 3) := by decide +kernel
theorem dX8_add_32 : decode cX8_add 32 = .ok (.arraylength, 1) := by decide +kernel
theorem dX8_add_33 : decode cX8_add 33 = .ok (.if_icmp .ge 43, 3) := by decide +kernel
theorem dX8_add_36 : decode cX8_add 36 = .ok (.aload_n 0, 1) := by decide +kernel
theorem dX8_add_37 : decode cX8_add 37 = .ok (.getfield 9, 3) := by decide +kernel
theorem dX8_add_40 : decode cX8_add 40 = .ok (.aload_n 0, 1) := by decide +kernel
theorem dX8_add_41 : decode cX8_add 41 = .ok (.getfield 21, 3) := by decide +kernel
theorem dX8_add_44 : decode cX8_add 44 = .ok (.iload_n 1, 1) := by decide +kernel
theorem dX8_add_45 : decode cX8_add 45 = .ok (.iastore, 1) := by decide +kernel
theorem dX8_add_46 : decode cX8_add 46 = .ok (.aload_n 0, 1) := by decide +kernel
theorem dX8_add_47 : decode cX8_add 47 = .ok (.getfield 15, 3) := by decide +kernel
theorem dX8_add_50 : decode cX8_add 50 = .ok (.aload_n 0, 1) := by decide +kernel
theorem dX8_add_51 : decode cX8_add 51 = .ok (.getfield 21, 3) := by decide +kernel
theorem dX8_add_54 : decode cX8_add 54 = .ok (.iload_n 2, 1) := by decide +kernel
theorem dX8_add_55 : decode cX8_add 55 = .ok (.iastore, 1) := by decide +kernel
theorem dX8_add_56 : decode cX8_add 56 = .ok (.aload_n 0, 1) := by decide +kernel
theorem dX8_add_57 : decode cX8_add 57 = .ok (.getfield 18, 3) := by decide +kernel
theorem dX8_add_60 : decode cX8_add 60 = .ok (.aload_n 0, 1) := by decide +kernel
theorem dX8_add_61 : decode cX8_add 61 = .ok (.getfield 21, 3) := by decide +kernel
theorem dX8_add_64 : decode cX8_add 64 = .ok (.iload_n 3, 1) := by decide +kernel
theorem dX8_add_65 : decode cX8_add 65 = .ok (.iastore, 1) := by decide +kernel
theorem dX8_add_66 : decode cX8_add 66 = .ok (.aload_n 0, 1) := by decide +kernel
theorem dX8_add_67 : decode cX8_add 67 = .ok (.dup, 1) := by decide +kernel
theorem dX8_add_68 : decode cX8_add 68 = .ok (.getfield 21, 3) := by decide +kernel
theorem dX8_add_71 : decode cX8_add 71 = .ok (.iconst 1, 1) := by decide +kernel
theorem dX8_add_72 : decode cX8_add 72 = .ok (.iadd, 1) := by decide +kernel
theorem dX8_add_73 : decode cX8_add 73 = .ok (.putfield 21, 3) := by decide +kernel
theorem dX8_add_76 : decode cX8_add 76 = .ok (.return_, 1) := by decide +kernel
theorem dX10_kindOf_0 : decode cX10_kindOf 0 = .ok (.iconst 0, 1) := by decide +kernel
theorem dX10_kindOf_1 : decode cX10_kindOf 1 = .ok (.istore_n 1, 1) := by decide +kernel
theorem dX10_kindOf_2 : decode cX10_kindOf 2 = .ok (.iload_n 1, 1) := by decide +kernel
theorem dX10_kindOf_3 : decode cX10_kindOf 3 = .ok (.bipush 23, 2) := by decide +kernel
theorem dX10_kindOf_5 : decode cX10_kindOf 5 = .ok (.if_icmp .ge 85, 3) := by decide +kernel
theorem dX10_kindOf_8 : decode cX10_kindOf 8 = .ok (.iconst 0, 1) := by decide +kernel
theorem dX10_kindOf_9 : decode cX10_kindOf 9 = .ok (.istore_n 2, 1) := by decide +kernel
theorem dX10_kindOf_10 : decode cX10_kindOf 10 = .ok (.iconst 0, 1) := by decide +kernel
theorem dX10_kindOf_11 : decode cX10_kindOf 11 = .ok (.istore_n 3, 1) := by decide +kernel
theorem dX10_kindOf_12 : decode cX10_kindOf 12 = .ok (.iload_n 3, 1) := by decide +kernel
theorem dX10_kindOf_13 : decode cX10_kindOf 13 = .ok (.bipush 6, 2) := by decide +kernel
theorem dX10_kindOf_15 : decode cX10_kindOf 15 = .ok (.if_icmp .ge 62, 3) := by decide +kernel
theorem dX10_kindOf_18 : decode cX10_kindOf 18 = .ok (.bipush 6, 2) := by decide +kernel
theorem dX10_kindOf_20 : decode cX10_kindOf 20 = .ok (.iload_n 1, 1) := by decide +kernel
theorem dX10_kindOf_21 : decode cX10_kindOf 21 = .ok (.imul, 1) := by decide +kernel
theorem dX10_kindOf_22 : decode cX10_kindOf 22 = .ok (.iload_n 3, 1) := by decide +kernel
theorem dX10_kindOf_23 : decode cX10_kindOf 23 = .ok (.iadd, 1) := by decide +kernel
theorem dX10_kindOf_24 : decode cX10_kindOf 24 = .ok (.istore 4, 2) := by decide +kernel
theorem dX10_kindOf_26 : decode cX10_kindOf 26 = .ok (.iload 4, 2) := by decide +kernel
theorem dX10_kindOf_28 : decode cX10_kindOf 28 = .ok (.ldc 11, 2) := by decide +kernel
theorem dX10_kindOf_30 : decode cX10_kindOf 30 = .ok (.invokevirtual 13, 3) := by decide +kernel
theorem dX10_kindOf_33 : decode cX10_kindOf 33 = .ok (.if_icmp .ge 13, 3) := by decide +kernel
theorem dX10_kindOf_36 : decode cX10_kindOf 36 = .ok (.ldc 11, 2) := by decide +kernel
theorem dX10_kindOf_38 : decode cX10_kindOf 38 = .ok (.iload 4, 2) := by decide +kernel
theorem dX10_kindOf_40 : decode cX10_kindOf 40 = .ok (.invokevirtual 19, 3) := by decide +kernel
theorem dX10_kindOf_43 : decode cX10_kindOf 43 = .ok (.goto 5, 3) := by decide +kernel
theorem dX10_kindOf_46 : decode cX10_kindOf 46 = .ok (.bipush 32, 2) := by decide +kernel
theorem dX10_kindOf_48 : decode cX10_kindOf 48 = .ok (.istore 5, 2) := by decide +kernel
theorem dX10_kindOf_50 : decode cX10_kindOf 50 = .ok (.iload 5, 2) := by decide +kernel
theorem dX10_kindOf_52 : decode cX10_kindOf 52 = .ok (.bipush 32, 2) := by decide +kernel
theorem dX10_kindOf_54 : decode cX10_kindOf 54 = .ok (.if_icmp .eq 17, 3) := by decide +kernel
theorem dX10_kindOf_57 : decode cX10_kindOf 57 = .ok (.iload_n 2, 1) := by decide +kernel
theorem dX10_kindOf_58 : decode cX10_kindOf 58 = .ok (.iload 5, 2) := by decide +kernel
theorem dX10_kindOf_60 : decode cX10_kindOf 60 = .ok (.bipush 97, 2) := by decide +kernel
theorem dX10_kindOf_62 : decode cX10_kindOf 62 = .ok (.isub, 1) := by decide +kernel
theorem dX10_kindOf_63 : decode cX10_kindOf 63 = .ok (.iconst 1, 1) := by decide +kernel
theorem dX10_kindOf_64 : decode cX10_kindOf 64 = .ok (.iadd, 1) := by decide +kernel
theorem dX10_kindOf_65 : decode cX10_kindOf 65 = .ok (.iconst 5, 1) := by decide +kernel
theorem dX10_kindOf_66 : decode cX10_kindOf 66 = .ok (.iload_n 3, 1) := by decide +kernel
theorem dX10_kindOf_67 : decode cX10_kindOf 67 = .ok (.imul, 1) := by decide +kernel
theorem dX10_kindOf_68 : decode cX10_kindOf 68 = .ok (.ishl, 1) := by decide +kernel
theorem dX10_kindOf_69 : decode cX10_kindOf 69 = .ok (.ior, 1) := by decide +kernel
theorem dX10_kindOf_70 : decode cX10_kindOf 70 = .ok (.istore_n 2, 1) := by decide +kernel
theorem dX10_kindOf_71 : decode cX10_kindOf 71 = .ok (.iinc 3 1, 3) := by decide +kernel
theorem dX10_kindOf_74 : decode cX10_kindOf 74 = .ok (.goto (-62), 3) := by decide +kernel
theorem dX10_kindOf_77 : decode cX10_kindOf 77 = .ok (.iload_n 2, 1) := by decide +kernel
theorem dX10_kindOf_78 : decode cX10_kindOf 78 = .ok (.iload_n 0, 1) := by decide +kernel
theorem dX10_kindOf_79 : decode cX10_kindOf 79 = .ok (.if_icmp .ne 5, 3) := by decide +kernel
theorem dX10_kindOf_82 : decode cX10_kindOf 82 = .ok (.iload_n 1, 1) := by decide +kernel
theorem dX10_kindOf_83 : decode cX10_kindOf 83 = .ok (.ireturn, 1) := by decide +kernel
theorem dX10_kindOf_84 : decode cX10_kindOf 84 = .ok (.iinc 1 1, 3) := by decide +kernel
theorem dX10_kindOf_87 : decode cX10_kindOf 87 = .ok (.goto (-85), 3) := by decide +kernel
theorem dX10_kindOf_90 : decode cX10_kindOf 90 = .ok (.bipush 23, 2) := by decide +kernel
theorem dX10_kindOf_92 : decode cX10_kindOf 92 = .ok (.ireturn, 1) := by decide +kernel
theorem dX8_finish_0 : decode cX8_finish 0 = .ok (.aload_n 0, 1) := by decide +kernel
theorem dX8_finish_1 : decode cX8_finish 1 = .ok (.getfield 25, 3) := by decide +kernel
theorem dX8_finish_4 : decode cX8_finish 4 = .ok (.ifCond .le 34, 3) := by decide +kernel
theorem dX8_finish_7 : decode cX8_finish 7 = .ok (.aload_n 0, 1) := by decide +kernel
theorem dX8_finish_8 : decode cX8_finish 8 = .ok (.aload_n 0, 1) := by decide +kernel
theorem dX8_finish_9 : decode cX8_finish 9 = .ok (.getfield 52, 3) := by decide +kernel
theorem dX8_finish_12 : decode cX8_finish 12 = .ok (.ifCond .eq 13, 3) := by decide +kernel
theorem dX8_finish_15 : decode cX8_finish 15 = .ok (.aload_n 0, 1) := by decide +kernel
theorem dX8_finish_16 : decode cX8_finish 16 = .ok (.getfield 62, 3) := by decide +kernel
theorem dX8_finish_19 : decode cX8_finish 19 = .ok (.invokestatic 76, 3) := by decide +kernel
theorem dX8_finish_22 : decode cX8_finish 22 = .ok (.goto 5, 3) := by decide +kernel
theorem dX8_finish_25 : decode cX8_finish 25 = .ok (.bipush 24, 2) := by decide +kernel
theorem dX8_finish_27 : decode cX8_finish 27 = .ok (.aload_n 0, 1) := by decide +kernel
theorem dX8_finish_28 : decode cX8_finish 28 = .ok (.getfield 59, 3) := by decide +kernel
theorem dX8_finish_31 : decode cX8_finish 31 = .ok (.aload_n 0, 1) := by decide +kernel
theorem dX8_finish_32 : decode cX8_finish 32 = .ok (.getfield 62, 3) := by decide +kernel
theorem dX8_finish_35 : decode cX8_finish 35 = .ok (.invokevirtual 45, 3) := by decide +kernel
theorem dX8_finish_38 : decode cX8_finish 38 = .ok (.aload_n 0, 1) := by decide +kernel
theorem dX8_finish_39 : decode cX8_finish 39 = .ok (.iconst 0, 1) := by decide +kernel
theorem dX8_finish_40 : decode cX8_finish 40 = .ok (.putfield 25, 3) := by decide +kernel
theorem dX8_finish_43 : decode cX8_finish 43 = .ok (.return_, 1) := by decide +kernel
theorem dX8_bad_0 : decode cX8_bad 0 = .ok (.aload_n 0, 1) := by decide +kernel
theorem dX8_bad_1 : decode cX8_bad 1 = .ok (.bipush 26, 2) := by decide +kernel
theorem dX8_bad_3 : decode cX8_bad 3 = .ok (.iload_n 1, 1) := by decide +kernel
theorem dX8_bad_4 : decode cX8_bad 4 = .ok (.iload_n 2, 1) := by decide +kernel
theorem dX8_bad_5 : decode cX8_bad 5 = .ok (.invokevirtual 45, 3) := by decide +kernel
theorem dX8_bad_8 : decode cX8_bad 8 = .ok (.iconst 0, 1) := by decide +kernel
theorem dX8_bad_9 : decode cX8_bad 9 = .ok (.ireturn, 1) := by decide +kernel
theorem dX8_takeSign_0 : decode cX8_takeSign 0 = .ok (.aload_n 0, 1) := by decide +kernel
theorem dX8_takeSign_1 : decode cX8_takeSign 1 = .ok (.invokevirtual 40, 3) := by decide +kernel
theorem dX8_takeSign_4 : decode cX8_takeSign 4 = .ok (.iload_n 1, 1) := by decide +kernel
theorem dX8_takeSign_5 : decode cX8_takeSign 5 = .ok (.bipush 32, 2) := by decide +kernel
theorem dX8_takeSign_7 : decode cX8_takeSign 7 = .ok (.if_icmp .eq 9, 3) := by decide +kernel
theorem dX8_takeSign_10 : decode cX8_takeSign 10 = .ok (.iload_n 1, 1) := by decide +kernel
theorem dX8_takeSign_11 : decode cX8_takeSign 11 = .ok (.bipush 10, 2) := by decide +kernel
theorem dX8_takeSign_13 : decode cX8_takeSign 13 = .ok (.if_icmp .ne 5, 3) := by decide +kernel
theorem dX8_takeSign_16 : decode cX8_takeSign 16 = .ok (.iconst 1, 1) := by decide +kernel
theorem dX8_takeSign_17 : decode cX8_takeSign 17 = .ok (.ireturn, 1) := by decide +kernel
theorem dX8_takeSign_18 : decode cX8_takeSign 18 = .ok (.iconst 0, 1) := by decide +kernel
theorem dX8_takeSign_19 : decode cX8_takeSign 19 = .ok (.istore_n 3, 1) := by decide +kernel
theorem dX8_takeSign_20 : decode cX8_takeSign 20 = .ok (.iload_n 3, 1) := by decide +kernel
theorem dX8_takeSign_21 : decode cX8_takeSign 21 = .ok (.ldc 65, 2) := by decide +kernel
theorem dX8_takeSign_23 : decode cX8_takeSign 23 = .ok (.invokevirtual 67, 3) := by decide +kernel
theorem dX8_takeSign_26 : decode cX8_takeSign 26 = .ok (.if_icmp .ge 28, 3) := by decide +kernel
theorem dX8_takeSign_29 : decode cX8_takeSign 29 = .ok (.ldc 65, 2) := by decide +kernel
theorem dX8_takeSign_31 : decode cX8_takeSign 31 = .ok (.iload_n 3, 1) := by decide +kernel
theorem dX8_takeSign_32 : decode cX8_takeSign 32 = .ok (.invokevirtual 72, 3) := by decide +kernel
theorem dX8_takeSign_35 : decode cX8_takeSign 35 = .ok (.iload_n 1, 1) := by decide +kernel
theorem dX8_takeSign_36 : decode cX8_takeSign 36 = .ok (.if_icmp .ne 12, 3) := by decide +kernel
theorem dX8_takeSign_39 : decode cX8_takeSign 39 = .ok (.aload_n 0, 1) := by decide +kernel
theorem dX8_takeSign_40 : decode cX8_takeSign 40 = .ok (.iload_n 1, 1) := by decide +kernel
theorem dX8_takeSign_41 : decode cX8_takeSign 41 = .ok (.iload_n 2, 1) := by decide +kernel
theorem dX8_takeSign_42 : decode cX8_takeSign 42 = .ok (.iconst 0, 1) := by decide +kernel
theorem dX8_takeSign_43 : decode cX8_takeSign 43 = .ok (.invokevirtual 45, 3) := by decide +kernel
theorem dX8_takeSign_46 : decode cX8_takeSign 46 = .ok (.iconst 1, 1) := by decide +kernel
theorem dX8_takeSign_47 : decode cX8_takeSign 47 = .ok (.ireturn, 1) := by decide +kernel
theorem dX8_takeSign_48 : decode cX8_takeSign 48 = .ok (.iinc 3 1, 3) := by decide +kernel
theorem dX8_takeSign_51 : decode cX8_takeSign 51 = .ok (.goto (-31), 3) := by decide +kernel
theorem dX8_takeSign_54 : decode cX8_takeSign 54 = .ok (.aload_n 0, 1) := by decide +kernel
theorem dX8_takeSign_55 : decode cX8_takeSign 55 = .ok (.iload_n 2, 1) := by decide +kernel
theorem dX8_takeSign_56 : decode cX8_takeSign 56 = .ok (.iload_n 2, 1) := by decide +kernel
theorem dX8_takeSign_57 : decode cX8_takeSign 57 = .ok (.invokevirtual 56, 3) := by decide +kernel
theorem dX8_takeSign_60 : decode cX8_takeSign 60 = .ok (.ireturn, 1) := by decide +kernel
theorem dX8_take_0 : decode cX8_take 0 = .ok (.iload_n 1, 1) := by decide +kernel
theorem dX8_take_1 : decode cX8_take 1 = .ok (.bipush 97, 2) := by decide +kernel
theorem dX8_take_3 : decode cX8_take 3 = .ok (.if_icmp .lt 13, 3) := by decide +kernel
theorem dX8_take_6 : decode cX8_take 6 = .ok (.iload_n 1, 1) := by decide +kernel
theorem dX8_take_7 : decode cX8_take 7 = .ok (.bipush 122, 2) := by decide +kernel
theorem dX8_take_9 : decode cX8_take 9 = .ok (.if_icmp .gt 7, 3) := by decide +kernel
theorem dX8_take_12 : decode cX8_take 12 = .ok (.iconst 1, 1) := by decide +kernel
theorem dX8_take_13 : decode cX8_take 13 = .ok (.goto 4, 3) := by decide +kernel
theorem dX8_take_16 : decode cX8_take 16 = .ok (.iconst 0, 1) := by decide +kernel
theorem dX8_take_17 : decode cX8_take 17 = .ok (.istore_n 3, 1) := by decide +kernel
theorem dX8_take_18 : decode cX8_take 18 = .ok (.iload_n 1, 1) := by decide +kernel
theorem dX8_take_19 : decode cX8_take 19 = .ok (.bipush 48, 2) := by decide +kernel
theorem dX8_take_21 : decode cX8_take 21 = .ok (.if_icmp .lt 13, 3) := by decide +kernel
theorem dX8_take_24 : decode cX8_take 24 = .ok (.iload_n 1, 1) := by decide +kernel
theorem dX8_take_25 : decode cX8_take 25 = .ok (.bipush 57, 2) := by decide +kernel
theorem dX8_take_27 : decode cX8_take 27 = .ok (.if_icmp .gt 7, 3) := by decide +kernel
theorem dX8_take_30 : decode cX8_take 30 = .ok (.iconst 1, 1) := by decide +kernel
theorem dX8_take_31 : decode cX8_take 31 = .ok (.goto 4, 3) := by decide +kernel
theorem dX8_take_34 : decode cX8_take 34 = .ok (.iconst 0, 1) := by decide +kernel
theorem dX8_take_35 : decode cX8_take 35 = .ok (.istore 4, 2) := by decide +kernel
theorem dX8_take_37 : decode cX8_take 37 = .ok (.iload_n 3, 1) := by decide +kernel
theorem dX8_take_38 : decode cX8_take 38 = .ok (.ifCond .ne 15, 3) := by decide +kernel
theorem dX8_take_41 : decode cX8_take 41 = .ok (.iload 4, 2) := by decide +kernel
theorem dX8_take_43 : decode cX8_take 43 = .ok (.ifCond .ne 10, 3) := by decide +kernel
theorem dX8_take_46 : decode cX8_take 46 = .ok (.aload_n 0, 1) := by decide +kernel
theorem dX8_take_47 : decode cX8_take 47 = .ok (.iload_n 1, 1) := by decide +kernel
theorem dX8_take_48 : decode cX8_take 48 = .ok (.iload_n 2, 1) := by decide +kernel
theorem dX8_take_49 : decode cX8_take 49 = .ok (.invokevirtual 49, 3) := by decide +kernel
theorem dX8_take_52 : decode cX8_take 52 = .ok (.ireturn, 1) := by decide +kernel
theorem dX8_take_53 : decode cX8_take 53 = .ok (.aload_n 0, 1) := by decide +kernel
theorem dX8_take_54 : decode cX8_take 54 = .ok (.getfield 25, 3) := by decide +kernel
theorem dX8_take_57 : decode cX8_take 57 = .ok (.ifCond .le 22, 3) := by decide +kernel
theorem dX8_take_60 : decode cX8_take 60 = .ok (.iload_n 3, 1) := by decide +kernel
theorem dX8_take_61 : decode cX8_take 61 = .ok (.aload_n 0, 1) := by decide +kernel
theorem dX8_take_62 : decode cX8_take 62 = .ok (.getfield 52, 3) := by decide +kernel
theorem dX8_take_65 : decode cX8_take 65 = .ok (.if_icmp .eq 14, 3) := by decide +kernel
theorem dX8_take_68 : decode cX8_take 68 = .ok (.aload_n 0, 1) := by decide +kernel
theorem dX8_take_69 : decode cX8_take 69 = .ok (.invokevirtual 40, 3) := by decide +kernel
theorem dX8_take_72 : decode cX8_take 72 = .ok (.aload_n 0, 1) := by decide +kernel
theorem dX8_take_73 : decode cX8_take 73 = .ok (.iload_n 2, 1) := by decide +kernel
theorem dX8_take_74 : decode cX8_take 74 = .ok (.iload_n 2, 1) := by decide +kernel
theorem dX8_take_75 : decode cX8_take 75 = .ok (.invokevirtual 56, 3) := by decide +kernel
theorem dX8_take_78 : decode cX8_take 78 = .ok (.ireturn, 1) := by decide +kernel
theorem dX8_take_79 : decode cX8_take 79 = .ok (.aload_n 0, 1) := by decide +kernel
theorem dX8_take_80 : decode cX8_take 80 = .ok (.getfield 25, 3) := by decide +kernel
theorem dX8_take_83 : decode cX8_take 83 = .ok (.iload_n 3, 1) := by decide +kernel
theorem dX8_take_84 : decode cX8_take 84 = .ok (.ifCond .eq 8, 3) := by decide +kernel
theorem dX8_take_87 : decode cX8_take 87 = .ok (.bipush 6, 2) := by decide +kernel
theorem dX8_take_89 : decode cX8_take 89 = .ok (.goto 4, 3) := by decide +kernel
theorem dX8_take_92 : decode cX8_take 92 = .ok (.iconst 4, 1) := by decide +kernel
theorem dX8_take_93 : decode cX8_take 93 = .ok (.if_icmp .ne 13, 3) := by decide +kernel
theorem dX8_take_96 : decode cX8_take 96 = .ok (.aload_n 0, 1) := by decide +kernel
theorem dX8_take_97 : decode cX8_take 97 = .ok (.iload_n 2, 1) := by decide +kernel
theorem dX8_take_98 : decode cX8_take 98 = .ok (.aload_n 0, 1) := by decide +kernel
theorem dX8_take_99 : decode cX8_take 99 = .ok (.getfield 59, 3) := by decide +kernel
theorem dX8_take_102 : decode cX8_take 102 = .ok (.invokevirtual 56, 3) := by decide +kernel
theorem dX8_take_105 : decode cX8_take 105 = .ok (.ireturn, 1) := by decide +kernel
theorem dX8_take_106 : decode cX8_take 106 = .ok (.aload_n 0, 1) := by decide +kernel
theorem dX8_take_107 : decode cX8_take 107 = .ok (.getfield 25, 3) := by decide +kernel
theorem dX8_take_110 : decode cX8_take 110 = .ok (.ifCond .ne 18, 3) := by decide +kernel
theorem dX8_take_113 : decode cX8_take 113 = .ok (.aload_n 0, 1) := by decide +kernel
theorem dX8_take_114 : decode cX8_take 114 = .ok (.iload_n 2, 1) := by decide +kernel
theorem dX8_take_115 : decode cX8_take 115 = .ok (.putfield 59, 3) := by decide +kernel
theorem dX8_take_118 : decode cX8_take 118 = .ok (.aload_n 0, 1) := by decide +kernel
theorem dX8_take_119 : decode cX8_take 119 = .ok (.iload_n 3, 1) := by decide +kernel
theorem dX8_take_120 : decode cX8_take 120 = .ok (.putfield 52, 3) := by decide +kernel
theorem dX8_take_123 : decode cX8_take 123 = .ok (.aload_n 0, 1) := by decide +kernel
theorem dX8_take_124 : decode cX8_take 124 = .ok (.iconst 0, 1) := by decide +kernel
theorem dX8_take_125 : decode cX8_take 125 = .ok (.putfield 62, 3) := by decide +kernel
theorem dX8_take_128 : decode cX8_take 128 = .ok (.aload_n 0, 1) := by decide +kernel
theorem dX8_take_129 : decode cX8_take 129 = .ok (.iload_n 3, 1) := by decide +kernel
theorem dX8_take_130 : decode cX8_take 130 = .ok (.ifCond .eq 24, 3) := by decide +kernel
theorem dX8_take_133 : decode cX8_take 133 = .ok (.aload_n 0, 1) := by decide +kernel
theorem dX8_take_134 : decode cX8_take 134 = .ok (.getfield 62, 3) := by decide +kernel
theorem dX8_take_137 : decode cX8_take 137 = .ok (.iload_n 1, 1) := by decide +kernel
theorem dX8_take_138 : decode cX8_take 138 = .ok (.bipush 97, 2) := by decide +kernel
theorem dX8_take_140 : decode cX8_take 140 = .ok (.isub, 1) := by decide +kernel
theorem dX8_take_141 : decode cX8_take 141 = .ok (.iconst 1, 1) := by decide +kernel
theorem dX8_take_142 : decode cX8_take 142 = .ok (.iadd, 1) := by decide +kernel
theorem dX8_take_143 : decode cX8_take 143 = .ok (.iconst 5, 1) := by decide +kernel
theorem dX8_take_144 : decode cX8_take 144 = .ok (.aload_n 0, 1) := by decide +kernel
theorem dX8_take_145 : decode cX8_take 145 = .ok (.getfield 25, 3) := by decide +kernel
theorem dX8_take_148 : decode cX8_take 148 = .ok (.imul, 1) := by decide +kernel
theorem dX8_take_149 : decode cX8_take 149 = .ok (.ishl, 1) := by decide +kernel
theorem dX8_take_150 : decode cX8_take 150 = .ok (.ior, 1) := by decide +kernel
theorem dX8_take_151 : decode cX8_take 151 = .ok (.goto 15, 3) := by decide +kernel
theorem dX8_take_154 : decode cX8_take 154 = .ok (.bipush 10, 2) := by decide +kernel
theorem dX8_take_156 : decode cX8_take 156 = .ok (.aload_n 0, 1) := by decide +kernel
theorem dX8_take_157 : decode cX8_take 157 = .ok (.getfield 62, 3) := by decide +kernel
theorem dX8_take_160 : decode cX8_take 160 = .ok (.imul, 1) := by decide +kernel
theorem dX8_take_161 : decode cX8_take 161 = .ok (.iload_n 1, 1) := by decide +kernel
theorem dX8_take_162 : decode cX8_take 162 = .ok (.iadd, 1) := by decide +kernel
theorem dX8_take_163 : decode cX8_take 163 = .ok (.bipush 48, 2) := by decide +kernel
theorem dX8_take_165 : decode cX8_take 165 = .ok (.isub, 1) := by decide +kernel
theorem dX8_take_166 : decode cX8_take 166 = .ok (.putfield 62, 3) := by decide +kernel
theorem dX8_take_169 : decode cX8_take 169 = .ok (.aload_n 0, 1) := by decide +kernel
theorem dX8_take_170 : decode cX8_take 170 = .ok (.dup, 1) := by decide +kernel
theorem dX8_take_171 : decode cX8_take 171 = .ok (.getfield 25, 3) := by decide +kernel
theorem dX8_take_174 : decode cX8_take 174 = .ok (.iconst 1, 1) := by decide +kernel
theorem dX8_take_175 : decode cX8_take 175 = .ok (.iadd, 1) := by decide +kernel
theorem dX8_take_176 : decode cX8_take 176 = .ok (.putfield 25, 3) := by decide +kernel
theorem dX8_take_179 : decode cX8_take 179 = .ok (.iconst 1, 1) := by decide +kernel
theorem dX8_take_180 : decode cX8_take 180 = .ok (.ireturn, 1) := by decide +kernel
theorem dX8_split_0 : decode cX8_split 0 = .ok (.aload_n 0, 1) := by decide +kernel
theorem dX8_split_1 : decode cX8_split 1 = .ok (.iconst 0, 1) := by decide +kernel
theorem dX8_split_2 : decode cX8_split 2 = .ok (.putfield 21, 3) := by decide +kernel
theorem dX8_split_5 : decode cX8_split 5 = .ok (.aload_n 0, 1) := by decide +kernel
theorem dX8_split_6 : decode cX8_split 6 = .ok (.iconst 0, 1) := by decide +kernel
theorem dX8_split_7 : decode cX8_split 7 = .ok (.putfield 25, 3) := by decide +kernel
theorem dX8_split_10 : decode cX8_split 10 = .ok (.iconst 1, 1) := by decide +kernel
theorem dX8_split_11 : decode cX8_split 11 = .ok (.istore_n 2, 1) := by decide +kernel
theorem dX8_split_12 : decode cX8_split 12 = .ok (.iconst 0, 1) := by decide +kernel
theorem dX8_split_13 : decode cX8_split 13 = .ok (.istore_n 3, 1) := by decide +kernel
theorem dX8_split_14 : decode cX8_split 14 = .ok (.iload_n 3, 1) := by decide +kernel
theorem dX8_split_15 : decode cX8_split 15 = .ok (.aload_n 1, 1) := by decide +kernel
theorem dX8_split_16 : decode cX8_split 16 = .ok (.getfield 28, 3) := by decide +kernel
theorem dX8_split_19 : decode cX8_split 19 = .ok (.if_icmp .ge 34, 3) := by decide +kernel
theorem dX8_split_22 : decode cX8_split 22 = .ok (.iload_n 3, 1) := by decide +kernel
theorem dX8_split_23 : decode cX8_split 23 = .ok (.aload_n 1, 1) := by decide +kernel
theorem dX8_split_24 : decode cX8_split 24 = .ok (.getfield 33, 3) := by decide +kernel
theorem dX8_split_27 : decode cX8_split 27 = .ok (.arraylength, 1) := by decide +kernel
theorem dX8_split_28 : decode cX8_split 28 = .ok (.if_icmp .ge 25, 3) := by decide +kernel
theorem dX8_split_31 : decode cX8_split 31 = .ok (.iload_n 2, 1) := by decide +kernel
theorem dX8_split_32 : decode cX8_split 32 = .ok (.ifCond .eq 21, 3) := by decide +kernel
theorem dX8_split_35 : decode cX8_split 35 = .ok (.aload_n 0, 1) := by decide +kernel
theorem dX8_split_36 : decode cX8_split 36 = .ok (.aload_n 1, 1) := by decide +kernel
theorem dX8_split_37 : decode cX8_split 37 = .ok (.getfield 33, 3) := by decide +kernel
theorem dX8_split_40 : decode cX8_split 40 = .ok (.iload_n 3, 1) := by decide +kernel
theorem dX8_split_41 : decode cX8_split 41 = .ok (.iaload, 1) := by decide +kernel
theorem dX8_split_42 : decode cX8_split 42 = .ok (.iload_n 3, 1) := by decide +kernel
theorem dX8_split_43 : decode cX8_split 43 = .ok (.invokevirtual 36, 3) := by decide +kernel
theorem dX8_split_46 : decode cX8_split 46 = .ok (.istore_n 2, 1) := by decide +kernel
theorem dX8_split_47 : decode cX8_split 47 = .ok (.iinc 3 1, 3) := by decide +kernel
theorem dX8_split_50 : decode cX8_split 50 = .ok (.goto (-36), 3) := by decide +kernel
theorem dX8_split_53 : decode cX8_split 53 = .ok (.iload_n 2, 1) := by decide +kernel
theorem dX8_split_54 : decode cX8_split 54 = .ok (.ifCond .eq 18, 3) := by decide +kernel
theorem dX8_split_57 : decode cX8_split 57 = .ok (.aload_n 0, 1) := by decide +kernel
theorem dX8_split_58 : decode cX8_split 58 = .ok (.invokevirtual 40, 3) := by decide +kernel
theorem dX8_split_61 : decode cX8_split 61 = .ok (.aload_n 0, 1) := by decide +kernel
theorem dX8_split_62 : decode cX8_split 62 = .ok (.bipush 25, 2) := by decide +kernel
theorem dX8_split_64 : decode cX8_split 64 = .ok (.aload_n 1, 1) := by decide +kernel
theorem dX8_split_65 : decode cX8_split 65 = .ok (.getfield 28, 3) := by decide +kernel
theorem dX8_split_68 : decode cX8_split 68 = .ok (.iconst 0, 1) := by decide +kernel
theorem dX8_split_69 : decode cX8_split 69 = .ok (.invokevirtual 45, 3) := by decide +kernel
theorem dX8_split_72 : decode cX8_split 72 = .ok (.return_, 1) := by decide +kernel
theorem dJ7_fill_53178_0 : decode cJ7_fill_53178 0 = .ok (.iconst 0, 1) := by decide +kernel
theorem dJ7_fill_53178_1 : decode cJ7_fill_53178 1 = .ok (.istore_n 2, 1) := by decide +kernel
theorem dJ7_fill_53178_2 : decode cJ7_fill_53178 2 = .ok (.aload_n 0, 1) := by decide +kernel
theorem dJ7_fill_53178_3 : decode cJ7_fill_53178 3 = .ok (.arraylength, 1) := by decide +kernel
theorem dJ7_fill_53178_4 : decode cJ7_fill_53178 4 = .ok (.istore_n 3, 1) := by decide +kernel
theorem dJ7_fill_53178_5 : decode cJ7_fill_53178 5 = .ok (.iload_n 2, 1) := by decide +kernel
theorem dJ7_fill_53178_6 : decode cJ7_fill_53178 6 = .ok (.iload_n 3, 1) := by decide +kernel
theorem dJ7_fill_53178_7 : decode cJ7_fill_53178 7 = .ok (.if_icmp .ge 13, 3) := by decide +kernel
theorem dJ7_fill_53178_10 : decode cJ7_fill_53178 10 = .ok (.aload_n 0, 1) := by decide +kernel
theorem dJ7_fill_53178_11 : decode cJ7_fill_53178 11 = .ok (.iload_n 2, 1) := by decide +kernel
theorem dJ7_fill_53178_12 : decode cJ7_fill_53178 12 = .ok (.iload_n 1, 1) := by decide +kernel
theorem dJ7_fill_53178_13 : decode cJ7_fill_53178 13 = .ok (.iastore, 1) := by decide +kernel
theorem dJ7_fill_53178_14 : decode cJ7_fill_53178 14 = .ok (.iinc 2 1, 3) := by decide +kernel
theorem dJ7_fill_53178_17 : decode cJ7_fill_53178 17 = .ok (.goto (-12), 3) := by decide +kernel
theorem dJ7_fill_53178_20 : decode cJ7_fill_53178 20 = .ok (.return_, 1) := by decide +kernel
theorem dX5_clear_0 : decode cX5_clear 0 = .ok (.aload_n 0, 1) := by decide +kernel
theorem dX5_clear_1 : decode cX5_clear 1 = .ok (.iconst 0, 1) := by decide +kernel
theorem dX5_clear_2 : decode cX5_clear 2 = .ok (.putfield 29, 3) := by decide +kernel
theorem dX5_clear_5 : decode cX5_clear 5 = .ok (.aload_n 0, 1) := by decide +kernel
theorem dX5_clear_6 : decode cX5_clear 6 = .ok (.getfield 20, 3) := by decide +kernel
theorem dX5_clear_9 : decode cX5_clear 9 = .ok (.iconst 0, 1) := by decide +kernel
theorem dX5_clear_10 : decode cX5_clear 10 = .ok (.invokestatic 33, 3) := by decide +kernel
theorem dX5_clear_13 : decode cX5_clear 13 = .ok (.aload_n 0, 1) := by decide +kernel
theorem dX5_clear_14 : decode cX5_clear 14 = .ok (.getfield 23, 3) := by decide +kernel
theorem dX5_clear_17 : decode cX5_clear 17 = .ok (.iconst 0, 1) := by decide +kernel
theorem dX5_clear_18 : decode cX5_clear 18 = .ok (.invokestatic 33, 3) := by decide +kernel
theorem dX5_clear_21 : decode cX5_clear 21 = .ok (.return_, 1) := by decide +kernel
theorem dX9_clear_0 : decode cX9_clear 0 = .ok (.aload_n 0, 1) := by decide +kernel
theorem dX9_clear_1 : decode cX9_clear 1 = .ok (.iconst 0, 1) := by decide +kernel
theorem dX9_clear_2 : decode cX9_clear 2 = .ok (.putfield 43, 3) := by decide +kernel
theorem dX9_clear_5 : decode cX9_clear 5 = .ok (.aload_n 0, 1) := by decide +kernel
theorem dX9_clear_6 : decode cX9_clear 6 = .ok (.iconst 0, 1) := by decide +kernel
theorem dX9_clear_7 : decode cX9_clear 7 = .ok (.putfield 47, 3) := by decide +kernel
theorem dX9_clear_10 : decode cX9_clear 10 = .ok (.aload_n 0, 1) := by decide +kernel
theorem dX9_clear_11 : decode cX9_clear 11 = .ok (.iconst 0, 1) := by decide +kernel
theorem dX9_clear_12 : decode cX9_clear 12 = .ok (.putfield 50, 3) := by decide +kernel
theorem dX9_clear_15 : decode cX9_clear 15 = .ok (.aload_n 0, 1) := by decide +kernel
theorem dX9_clear_16 : decode cX9_clear 16 = .ok (.iconst 0, 1) := by decide +kernel
theorem dX9_clear_17 : decode cX9_clear 17 = .ok (.putfield 53, 3) := by decide +kernel
theorem dX9_clear_20 : decode cX9_clear 20 = .ok (.aload_n 0, 1) := by decide +kernel
theorem dX9_clear_21 : decode cX9_clear 21 = .ok (.getfield 39, 3) := by decide +kernel
theorem dX9_clear_24 : decode cX9_clear 24 = .ok (.invokevirtual 56, 3) := by decide +kernel
theorem dX9_clear_27 : decode cX9_clear 27 = .ok (.return_, 1) := by decide +kernel
theorem dX6_reset_0 : decode cX6_reset 0 = .ok (.aload_n 0, 1) := by decide +kernel
theorem dX6_reset_1 : decode cX6_reset 1 = .ok (.getfield 48, 3) := by decide +kernel
theorem dX6_reset_4 : decode cX6_reset 4 = .ok (.getfield 52, 3) := by decide +kernel
theorem dX6_reset_7 : decode cX6_reset 7 = .ok (.iconst 0, 1) := by decide +kernel
theorem dX6_reset_8 : decode cX6_reset 8 = .ok (.aload_n 0, 1) := by decide +kernel
theorem dX6_reset_9 : decode cX6_reset 9 = .ok (.getfield 9, 3) := by decide +kernel
theorem dX6_reset_12 : decode cX6_reset 12 = .ok (.iconst 0, 1) := by decide +kernel
theorem dX6_reset_13 : decode cX6_reset 13 = .ok (.bipush 7, 2) := by decide +kernel
theorem dX6_reset_15 : decode cX6_reset 15 = .ok (.invokestatic 57, 3) := by decide +kernel
theorem dX6_reset_18 : decode cX6_reset 18 = .ok (.aload_n 0, 1) := by decide +kernel
theorem dX6_reset_19 : decode cX6_reset 19 = .ok (.getfield 15, 3) := by decide +kernel
theorem dX6_reset_22 : decode cX6_reset 22 = .ok (.iconst 0, 1) := by decide +kernel
theorem dX6_reset_23 : decode cX6_reset 23 = .ok (.invokestatic 63, 3) := by decide +kernel
theorem dX6_reset_26 : decode cX6_reset 26 = .ok (.aload_n 0, 1) := by decide +kernel
theorem dX6_reset_27 : decode cX6_reset 27 = .ok (.getfield 18, 3) := by decide +kernel
theorem dX6_reset_30 : decode cX6_reset 30 = .ok (.iconst 0, 1) := by decide +kernel
theorem dX6_reset_31 : decode cX6_reset 31 = .ok (.invokestatic 63, 3) := by decide +kernel
theorem dX6_reset_34 : decode cX6_reset 34 = .ok (.aload_n 0, 1) := by decide +kernel
theorem dX6_reset_35 : decode cX6_reset 35 = .ok (.getfield 21, 3) := by decide +kernel
theorem dX6_reset_38 : decode cX6_reset 38 = .ok (.iconst 0, 1) := by decide +kernel
theorem dX6_reset_39 : decode cX6_reset 39 = .ok (.invokestatic 63, 3) := by decide +kernel
theorem dX6_reset_42 : decode cX6_reset 42 = .ok (.aload_n 0, 1) := by decide +kernel
theorem dX6_reset_43 : decode cX6_reset 43 = .ok (.getfield 48, 3) := by decide +kernel
theorem dX6_reset_46 : decode cX6_reset 46 = .ok (.getfield 69, 3) := by decide +kernel
theorem dX6_reset_49 : decode cX6_reset 49 = .ok (.iconst 0, 1) := by decide +kernel
theorem dX6_reset_50 : decode cX6_reset 50 = .ok (.aload_n 0, 1) := by decide +kernel
theorem dX6_reset_51 : decode cX6_reset 51 = .ok (.getfield 24, 3) := by decide +kernel
theorem dX6_reset_54 : decode cX6_reset 54 = .ok (.iconst 0, 1) := by decide +kernel
theorem dX6_reset_55 : decode cX6_reset 55 = .ok (.bipush 12, 2) := by decide +kernel
theorem dX6_reset_57 : decode cX6_reset 57 = .ok (.invokestatic 57, 3) := by decide +kernel
theorem dX6_reset_60 : decode cX6_reset 60 = .ok (.aload_n 0, 1) := by decide +kernel
theorem dX6_reset_61 : decode cX6_reset 61 = .ok (.getfield 27, 3) := by decide +kernel
theorem dX6_reset_64 : decode cX6_reset 64 = .ok (.iconst 0, 1) := by decide +kernel
theorem dX6_reset_65 : decode cX6_reset 65 = .ok (.invokestatic 63, 3) := by decide +kernel
theorem dX6_reset_68 : decode cX6_reset 68 = .ok (.aload_n 0, 1) := by decide +kernel
theorem dX6_reset_69 : decode cX6_reset 69 = .ok (.getfield 30, 3) := by decide +kernel
theorem dX6_reset_72 : decode cX6_reset 72 = .ok (.iconst (-1), 1) := by decide +kernel
theorem dX6_reset_73 : decode cX6_reset 73 = .ok (.invokestatic 63, 3) := by decide +kernel
theorem dX6_reset_76 : decode cX6_reset 76 = .ok (.aload_n 0, 1) := by decide +kernel
theorem dX6_reset_77 : decode cX6_reset 77 = .ok (.getfield 33, 3) := by decide +kernel
theorem dX6_reset_80 : decode cX6_reset 80 = .ok (.iconst 0, 1) := by decide +kernel
theorem dX6_reset_81 : decode cX6_reset 81 = .ok (.invokestatic 63, 3) := by decide +kernel
theorem dX6_reset_84 : decode cX6_reset 84 = .ok (.aload_n 0, 1) := by decide +kernel
theorem dX6_reset_85 : decode cX6_reset 85 = .ok (.getfield 36, 3) := by decide +kernel
theorem dX6_reset_88 : decode cX6_reset 88 = .ok (.iconst 0, 1) := by decide +kernel
theorem dX6_reset_89 : decode cX6_reset 89 = .ok (.invokestatic 63, 3) := by decide +kernel
theorem dX6_reset_92 : decode cX6_reset 92 = .ok (.aload_n 0, 1) := by decide +kernel
theorem dX6_reset_93 : decode cX6_reset 93 = .ok (.iconst 0, 1) := by decide +kernel
theorem dX6_reset_94 : decode cX6_reset 94 = .ok (.putfield 72, 3) := by decide +kernel
theorem dX6_reset_97 : decode cX6_reset 97 = .ok (.aload_n 0, 1) := by decide +kernel
theorem dX6_reset_98 : decode cX6_reset 98 = .ok (.iconst 0, 1) := by decide +kernel
theorem dX6_reset_99 : decode cX6_reset 99 = .ok (.putfield 76, 3) := by decide +kernel
theorem dX6_reset_102 : decode cX6_reset 102 = .ok (.return_, 1) := by decide +kernel
section
variable {σ : Nat → Nat} {p : Program} {l : Launch} {e : Env} {s : State} {m : MethodId} {args : Array Value} {below : List Frame} {meth : Method} {c : Code} {D : va_G} {E : Nat → ClassId} {b : Nat}
set_option maxHeartbeats 4000000 in
set_option maxRecDepth 20000 in
theorem c_x_X_no (l : Launch) {x1 : Int} {M : Mem} {r0 : Bool} {M0 : Mem} (h : x_X_no x1 M = some (r0, M0)) : Ct l yX11_no cX11_no 2 (some .boolean) 1 12 vwCl xSh xN xRf (xExt σ) (fun b => [vR b 0, vI x1]) M (fun b => (some (vB r0))) M0 := by
  refine Ct_of (xExtOK σ) (by decide) (fun b => Nat.le_of_ble_eq_true rfl) ?_
  intro p e s m args below meth c D E b C hr
  unfold x_X_no at h
  refine (show xWX p l e 1 12 s m args below meth c 2 D E b (some (vB r0)) M0 M 0 [(0, vR b 0), (1, vI x1)] [] from ?_)
  refine r_iload_n (pc := 0) C 1 rfl rfl dX11_no_0 ?_
  refine r_if_lt (pc := 1) (tgt := 23) C h dX11_no_1 (by decide) (fun hc1 h => ?_) (fun hc1 h => ?_)
  · refine r_iconst (pc := 23) C dX11_no_23 ?_
    have e := Option.some.inj h
    exact r_zret (pc := 24) C hr (Or.inl rfl) (congrArg (fun z => some (vB z)) (Prod.mk.inj e).1.symm) (Prod.mk.inj e).2.symm dX11_no_24
  · refine r_iload_n (pc := 4) C 1 rfl rfl dX11_no_4 ?_
    refine r_aload_n (pc := 5) C 0 rfl rfl dX11_no_5 ?_
    refine r_getR (pc := 6) C fl_RX11_74 x_s0 (by decide) x_kX_9 x_r0_9 dX11_no_6 ?_
    refine r_alen (pc := 9) C x_s372 (by decide) dX11_no_9 ?_
    refine r_icmp_ge (pc := 10) (tgt := 23) C h dX11_no_10 (by decide) (fun hc10 h => ?_) (fun hc10 h => ?_)
    · refine r_iconst (pc := 23) C dX11_no_23 ?_
      have e := Option.some.inj h
      exact r_zret (pc := 24) C hr (Or.inl rfl) (congrArg (fun z => some (vB z)) (Prod.mk.inj e).1.symm) (Prod.mk.inj e).2.symm dX11_no_24
    · refine r_aload_n (pc := 13) C 0 rfl rfl dX11_no_13 ?_
      refine r_getR (pc := 14) C fl_RX11_74 x_s0 (by decide) x_kX_9 x_r0_9 dX11_no_14 ?_
      refine r_iload_n (pc := 17) C 1 rfl rfl dX11_no_17 ?_
      refine r_dup2 (pc := 18) C rfl rfl dX11_no_18 ?_
      obtain ⟨hi19, h⟩ := chk_inv h
      refine r_iald (pc := 19) C x_s372 (by decide) (by decide) hi19 rfl dX11_no_19 ?_
      refine r_iconst (pc := 20) C dX11_no_20 ?_
      refine r_iadd (pc := 21) C dX11_no_21 ?_
      obtain ⟨hi22, h⟩ := chk_inv h
      obtain ⟨M_22, hM_22, h⟩ := lt_inv h
      refine r_iast (pc := 22) C x_s372 (by decide) (by decide) hi22 rfl hM_22 dX11_no_22 ?_
      refine r_iconst (pc := 23) C dX11_no_23 ?_
      have e := Option.some.inj h
      exact r_zret (pc := 24) C hr (Or.inl rfl) (congrArg (fun z => some (vB z)) (Prod.mk.inj e).1.symm) (Prod.mk.inj e).2.symm dX11_no_24
set_option maxHeartbeats 4000000 in
set_option maxRecDepth 20000 in
theorem c_x_X_none (l : Launch) {x1 : Int} {M : Mem} {r0 : Int} {M0 : Mem} (h : x_X_none x1 M = some (r0, M0)) : Ct l yX11_none cX11_none 2 (some .int) 2 33 vwCl xSh xN xRf (xExt σ) (fun b => [vR b 0, vI x1]) M (fun b => (some (vI r0))) M0 := by
  refine Ct_of (xExtOK σ) (by decide) (fun b => Nat.le_of_ble_eq_true rfl) ?_
  intro p e s m args below meth c D E b C hr
  unfold x_X_none at h
  refine (show xWX p l e 2 33 s m args below meth c 2 D E b (some (vI r0)) M0 M 0 [(0, vR b 0), (1, vI x1)] [] from ?_)
  refine r_aload_n (pc := 0) C 0 rfl rfl dX11_none_0 ?_
  refine r_iload_n (pc := 1) C 1 rfl rfl dX11_none_1 ?_
  obtain ⟨r1, M1, hq1, h⟩ := bnd2_inv h
  refine r_callV (pc := 2) (rest := []) (st1 := [vB r1]) C (xExtOK σ b) [vI x1] (c_x_X_no l hq1) cl_RX11_93 x_s0 (by decide) rfl rfl rfl rfl ⟨Nat.le_of_ble_eq_true rfl, Nat.le_of_ble_eq_true rfl⟩ (Nat.le_of_ble_eq_true rfl) rfl rfl dX11_none_2 ?_
  refine r_pop (pc := 5) C rfl dX11_none_5 ?_
  refine r_iconst (pc := 6) C dX11_none_6 ?_
  have e := Option.some.inj h
  exact r_iret (pc := 7) C hr (congrArg (fun z => some (vI z)) (Prod.mk.inj e).1.symm) (Prod.mk.inj e).2.symm dX11_none_7
set_option maxHeartbeats 4000000 in
set_option maxRecDepth 20000 in
theorem w_x_Tape_put_L3_s (C : xCX σ p s m args meth c cX7_put 3 RX7 D E b) (hr : meth.sig.returnType = none) {M0 : Mem} {v1 : Int} {v2 : Int} {M : Mem} {q : Int × Mem} {rec : Int → Mem → Option (Int × Mem)} (hrec : ∀ (v2 : Int) (M : Mem), rec v2 M = some q → xWX p l e 1 12 s m args below meth c 3 D E b none M0 M 3 [(0, vR b 1), (1, vI v1), (2, vI v2)] []) (hfol : ∀ (v2 : Int) (M : Mem), q = (v2, M) → xWX p l e 1 12 s m args below meth c 3 D E b none M0 M 51 [] []) (h : x_Tape_put_L3 v1 rec v2 M = some q) :
    xWX p l e 1 12 s m args below meth c 3 D E b none M0 M 3 [(0, vR b 1), (1, vI v1), (2, vI v2)] [] := by
  unfold x_Tape_put_L3 at h
  refine r_iload_n (pc := 3) C 2 rfl rfl dX7_put_3 ?_
  refine r_if_lt (pc := 4) (tgt := 51) C h dX7_put_4 (by decide) (fun hc4 h => ?_) (fun hc4 h => ?_)
  · refine r_sub (lv' := []) [] rfl ?_
    exact hfol _ _ (Option.some.inj h).symm
  · refine r_aload_n (pc := 7) C 0 rfl rfl dX7_put_7 ?_
    refine r_getI (pc := 8) C fl_RX7_15 x_s1 (by decide) x_kTape_1 dX7_put_8 ?_
    refine r_aload_n (pc := 11) C 0 rfl rfl dX7_put_11 ?_
    refine r_getR (pc := 12) C fl_RX7_9 x_s1 (by decide) x_kTape_0 x_r1_0 dX7_put_12 ?_
    refine r_alen (pc := 15) C x_s2 (by decide) dX7_put_15 ?_
    refine r_icmp_ge (pc := 16) (tgt := 45) C h dX7_put_16 (by decide) (fun hc16 h => ?_) (fun hc16 h => ?_)
    · obtain ⟨v2_45, hv2_45, h⟩ := lt_inv h
      refine r_iincN (pc := 45) (y := v2_45) (lv' := [(2, vI v2_45), (0, vR b 1), (1, vI v1)]) C 2 rfl hv2_45 dX7_put_45 (by decide) rfl ?_
      refine r_goto (pc := 48) (tgt := 3) C dX7_put_48 (by decide) ?_
      refine r_sub (lv' := [(0, vR b 1), (1, vI v1), (2, vI v2_45)]) [1, 2, 0] rfl ?_
      exact hrec _ _ h
    · refine r_aload_n (pc := 19) C 0 rfl rfl dX7_put_19 ?_
      refine r_getR (pc := 20) C fl_RX7_9 x_s1 (by decide) x_kTape_0 x_r1_0 dX7_put_20 ?_
      refine r_aload_n (pc := 23) C 0 rfl rfl dX7_put_23 ?_
      refine r_getI (pc := 24) C fl_RX7_15 x_s1 (by decide) x_kTape_1 dX7_put_24 ?_
      refine r_iload_n (pc := 27) C 1 rfl rfl dX7_put_27 ?_
      refine r_iload_n (pc := 28) C 2 rfl rfl dX7_put_28 ?_
      refine r_iushr (pc := 29) C dX7_put_29 ?_
      refine r_sipush (pc := 30) (j := 255) C (by decide +kernel) dX7_put_30 ?_
      refine r_iand (pc := 33) C dX7_put_33 ?_
      obtain ⟨hi34, h⟩ := chk_inv h
      obtain ⟨M_34, hM_34, h⟩ := lt_inv h
      refine r_iast (pc := 34) C x_s2 (by decide) (by decide) hi34 rfl hM_34 dX7_put_34 ?_
      refine r_aload_n (pc := 35) C 0 rfl rfl dX7_put_35 ?_
      refine r_dup (pc := 36) C rfl dX7_put_36 ?_
      refine r_getI (pc := 37) C fl_RX7_15 x_s1 (by decide) x_kTape_1 dX7_put_37 ?_
      refine r_iconst (pc := 40) C dX7_put_40 ?_
      refine r_iadd (pc := 41) C dX7_put_41 ?_
      obtain ⟨M_42, hM_42, h⟩ := lt_inv h
      refine r_putI (pc := 42) C fl_RX7_15 x_ft7 x_w7_1 x_s1 (by decide) x_kTape_1 hM_42 dX7_put_42 ?_
      obtain ⟨v2_45, hv2_45, h⟩ := lt_inv h
      refine r_iincN (pc := 45) (y := v2_45) (lv' := [(2, vI v2_45), (0, vR b 1), (1, vI v1)]) C 2 rfl hv2_45 dX7_put_45 (by decide) rfl ?_
      refine r_goto (pc := 48) (tgt := 3) C dX7_put_48 (by decide) ?_
      refine r_sub (lv' := [(0, vR b 1), (1, vI v1), (2, vI v2_45)]) [1, 2, 0] rfl ?_
      exact hrec _ _ h
set_option maxHeartbeats 4000000 in
theorem w_x_Tape_put_L3 (C : xCX σ p s m args meth c cX7_put 3 RX7 D E b) (hr : meth.sig.returnType = none) {M0 : Mem} {v1 : Int} {q : Int × Mem} (hfol : ∀ (v2 : Int) (M : Mem), q = (v2, M) → xWX p l e 1 12 s m args below meth c 3 D E b none M0 M 51 [] []) : ∀ (n : Nat) (v2 : Int) (M : Mem), itr2 (x_Tape_put_L3 v1) n v2 M = some q →
    xWX p l e 1 12 s m args below meth c 3 D E b none M0 M 3 [(0, vR b 1), (1, vI v1), (2, vI v2)] [] := by
  intro n
  induction n with
  | zero => exact fun _ _ h => itr_z h
  | succ n ih => exact fun _ _ h => w_x_Tape_put_L3_s C hr ih hfol h
set_option maxHeartbeats 4000000 in
set_option maxRecDepth 20000 in
theorem c_x_Tape_put (l : Launch) {x1 : Int} {M : Mem} {M0 : Mem} (h : x_Tape_put x1 M = some M0) : Ct l yX7_put cX7_put 3 none 1 12 vwCl xSh xN xRf (xExt σ) (fun b => [vR b 1, vI x1]) M (fun b => none) M0 := by
  refine Ct_of (xExtOK σ) (by decide) (fun b => Nat.le_of_ble_eq_true rfl) ?_
  intro p e s m args below meth c D E b C hr
  unfold x_Tape_put at h
  refine (show xWX p l e 1 12 s m args below meth c 3 D E b none M0 M 0 [(0, vR b 1), (1, vI x1)] [] from ?_)
  refine r_bipush (pc := 0) (j := 24) C (by decide +kernel) dX7_put_0 ?_
  refine r_istore_n (pc := 2) (lv' := [(2, vI 24), (0, vR b 1), (1, vI x1)]) C rfl dX7_put_2 (by decide) rfl ?_
  refine r_sub (lv' := [(0, vR b 1), (1, vI x1), (2, vI 24)]) [1, 2, 0] rfl ?_
  obtain ⟨q1, hl1, h⟩ := bnd_inv h
  refine w_x_Tape_put_L3 C hr (fun v2_1 M_1 hq => ?_) FUEL _ _ hl1
  have hq := hq.symm
  subst hq
  have e := Option.some.inj h
  exact r_vret (pc := 51) C hr rfl e.symm dX7_put_51
set_option maxHeartbeats 4000000 in
set_option maxRecDepth 20000 in
theorem c_x_X_feed (l : Launch) {x1 : Int} {x2 : Int} {x3 : Int} {x4 : Int} {x5 : Int} {M : Mem} {r0 : Int} {M0 : Mem} (h : x_X_feed x1 x2 x3 x4 x5 M = some (r0, M0)) : Ct l yX11_feed cX11_feed 6 (some .int) 3 54 vwCl xSh xN xRf (xExt σ) (fun b => [vR b 0, vI x1, vI x2, vI x3, vI x4, vI x5]) M (fun b => (some (vI r0))) M0 := by
  refine Ct_of (xExtOK σ) (by decide) (fun b => Nat.le_of_ble_eq_true rfl) ?_
  intro p e s m args below meth c D E b C hr
  unfold x_X_feed at h
  refine (show xWX p l e 3 54 s m args below meth c 6 D E b (some (vI r0)) M0 M 0 [(0, vR b 0), (1, vI x1), (2, vI x2), (3, vI x3), (4, vI x4), (5, vI x5)] [] from ?_)
  refine r_aload_n (pc := 0) C 0 rfl rfl dX11_feed_0 ?_
  refine r_getR (pc := 1) C fl_RX11_12 x_s0 (by decide) x_kX_0 x_r0_0 dX11_feed_1 ?_
  refine r_getI (pc := 4) C fl_RX11_82 x_s1 (by decide) x_kTape_1 dX11_feed_4 ?_
  refine r_bipush (pc := 7) (j := 20) C (by decide +kernel) dX11_feed_7 ?_
  refine r_iadd (pc := 9) C dX11_feed_9 ?_
  refine r_sipush (pc := 10) (j := 1600) C (by decide +kernel) dX11_feed_10 ?_
  refine r_icmp_le (pc := 13) (tgt := 22) C h dX11_feed_13 (by decide) (fun hc13 h => ?_) (fun hc13 h => ?_)
  · refine r_aload_n (pc := 22) C 0 rfl rfl dX11_feed_22 ?_
    refine r_getR (pc := 23) C fl_RX11_12 x_s0 (by decide) x_kX_0 x_r0_0 dX11_feed_23 ?_
    refine r_iload_n (pc := 26) C 1 rfl rfl dX11_feed_26 ?_
    obtain ⟨M1, hq1, h⟩ := bnd_inv h
    refine r_callV (pc := 27) (rest := []) (st1 := []) C (xExtOK σ b) [vI x1] (c_x_Tape_put l hq1) cl_RX11_89 x_s1 (by decide) rfl rfl rfl rfl ⟨Nat.le_of_ble_eq_true rfl, Nat.le_of_ble_eq_true rfl⟩ (Nat.le_of_ble_eq_true rfl) rfl rfl dX11_feed_27 ?_
    refine r_aload_n (pc := 30) C 0 rfl rfl dX11_feed_30 ?_
    refine r_getR (pc := 31) C fl_RX11_12 x_s0 (by decide) x_kX_0 x_r0_0 dX11_feed_31 ?_
    refine r_iload_n (pc := 34) C 2 rfl rfl dX11_feed_34 ?_
    obtain ⟨M2, hq2, h⟩ := bnd_inv h
    refine r_callV (pc := 35) (rest := []) (st1 := []) C (xExtOK σ b) [vI x2] (c_x_Tape_put l hq2) cl_RX11_89 x_s1 (by decide) rfl rfl rfl rfl ⟨Nat.le_of_ble_eq_true rfl, Nat.le_of_ble_eq_true rfl⟩ (Nat.le_of_ble_eq_true rfl) rfl rfl dX11_feed_35 ?_
    refine r_aload_n (pc := 38) C 0 rfl rfl dX11_feed_38 ?_
    refine r_getR (pc := 39) C fl_RX11_12 x_s0 (by decide) x_kX_0 x_r0_0 dX11_feed_39 ?_
    refine r_iload_n (pc := 42) C 3 rfl rfl dX11_feed_42 ?_
    obtain ⟨M3, hq3, h⟩ := bnd_inv h
    refine r_callV (pc := 43) (rest := []) (st1 := []) C (xExtOK σ b) [vI x3] (c_x_Tape_put l hq3) cl_RX11_89 x_s1 (by decide) rfl rfl rfl rfl ⟨Nat.le_of_ble_eq_true rfl, Nat.le_of_ble_eq_true rfl⟩ (Nat.le_of_ble_eq_true rfl) rfl rfl dX11_feed_43 ?_
    refine r_aload_n (pc := 46) C 0 rfl rfl dX11_feed_46 ?_
    refine r_getR (pc := 47) C fl_RX11_12 x_s0 (by decide) x_kX_0 x_r0_0 dX11_feed_47 ?_
    refine r_iload (pc := 50) C 4 rfl dX11_feed_50 ?_
    obtain ⟨M4, hq4, h⟩ := bnd_inv h
    refine r_callV (pc := 52) (rest := []) (st1 := []) C (xExtOK σ b) [vI x4] (c_x_Tape_put l hq4) cl_RX11_89 x_s1 (by decide) rfl rfl rfl rfl ⟨Nat.le_of_ble_eq_true rfl, Nat.le_of_ble_eq_true rfl⟩ (Nat.le_of_ble_eq_true rfl) rfl rfl dX11_feed_52 ?_
    refine r_aload_n (pc := 55) C 0 rfl rfl dX11_feed_55 ?_
    refine r_getR (pc := 56) C fl_RX11_12 x_s0 (by decide) x_kX_0 x_r0_0 dX11_feed_56 ?_
    refine r_iload (pc := 59) C 5 rfl dX11_feed_59 ?_
    obtain ⟨M5, hq5, h⟩ := bnd_inv h
    refine r_callV (pc := 61) (rest := []) (st1 := []) C (xExtOK σ b) [vI x5] (c_x_Tape_put l hq5) cl_RX11_89 x_s1 (by decide) rfl rfl rfl rfl ⟨Nat.le_of_ble_eq_true rfl, Nat.le_of_ble_eq_true rfl⟩ (Nat.le_of_ble_eq_true rfl) rfl rfl dX11_feed_61 ?_
    refine r_aload_n (pc := 64) C 0 rfl rfl dX11_feed_64 ?_
    refine r_getR (pc := 65) C fl_RX11_12 x_s0 (by decide) x_kX_0 x_r0_0 dX11_feed_65 ?_
    refine r_getI (pc := 68) C fl_RX11_82 x_s1 (by decide) x_kTape_1 dX11_feed_68 ?_
    have e := Option.some.inj h
    exact r_iret (pc := 71) C hr (congrArg (fun z => some (vI z)) (Prod.mk.inj e).1.symm) (Prod.mk.inj e).2.symm dX11_feed_71
  · refine r_aload_n (pc := 16) C 0 rfl rfl dX11_feed_16 ?_
    refine r_iconst (pc := 17) C dX11_feed_17 ?_
    obtain ⟨r6, M6, hq6, h⟩ := bnd2_inv h
    refine r_callV (pc := 18) (rest := []) (st1 := [vI r6]) C (xExtOK σ b) [vI 0] (c_x_X_none l hq6) cl_RX11_85 x_s0 (by decide) rfl rfl rfl rfl ⟨Nat.le_of_ble_eq_true rfl, Nat.le_of_ble_eq_true rfl⟩ (Nat.le_of_ble_eq_true rfl) rfl rfl dX11_feed_18 ?_
    have e := Option.some.inj h
    exact r_iret (pc := 21) C hr (congrArg (fun z => some (vI z)) (Prod.mk.inj e).1.symm) (Prod.mk.inj e).2.symm dX11_feed_21
set_option maxHeartbeats 4000000 in
set_option maxRecDepth 20000 in
theorem c_x_X_end (l : Launch) {x1 : Int} {M : Mem} {r0 : Bool} {M0 : Mem} (h : x_X_end x1 M = some (r0, M0)) : Ct l yX11_end cX11_end 2 (some .boolean) 2 33 vwCl xSh xN xRf (xExt σ) (fun b => [vR b 0, vI x1]) M (fun b => (some (vB r0))) M0 := by
  refine Ct_of (xExtOK σ) (by decide) (fun b => Nat.le_of_ble_eq_true rfl) ?_
  intro p e s m args below meth c D E b C hr
  unfold x_X_end at h
  refine (show xWX p l e 2 33 s m args below meth c 2 D E b (some (vB r0)) M0 M 0 [(0, vR b 0), (1, vI x1)] [] from ?_)
  refine r_iload_n (pc := 0) C 1 rfl rfl dX11_end_0 ?_
  refine r_if_lt (pc := 1) (tgt := 15) C h dX11_end_1 (by decide) (fun hc1 h => ?_) (fun hc1 h => ?_)
  · refine r_aload_n (pc := 15) C 0 rfl rfl dX11_end_15 ?_
    refine r_iconst (pc := 16) C dX11_end_16 ?_
    obtain ⟨r1, M1, hq1, h⟩ := bnd2_inv h
    refine r_callV (pc := 17) (rest := []) (st1 := [vB r1]) C (xExtOK σ b) [vI 0] (c_x_X_no l hq1) cl_RX11_93 x_s0 (by decide) rfl rfl rfl rfl ⟨Nat.le_of_ble_eq_true rfl, Nat.le_of_ble_eq_true rfl⟩ (Nat.le_of_ble_eq_true rfl) rfl rfl dX11_end_17 ?_
    have e := Option.some.inj h
    exact r_zret (pc := 20) C hr (b2i01 _) (congrArg (fun z => some (vB z)) (Prod.mk.inj e).1.symm) (Prod.mk.inj e).2.symm dX11_end_20
  · refine r_iload_n (pc := 4) C 1 rfl rfl dX11_end_4 ?_
    refine r_aload_n (pc := 5) C 0 rfl rfl dX11_end_5 ?_
    refine r_getR (pc := 6) C fl_RX11_12 x_s0 (by decide) x_kX_0 x_r0_0 dX11_end_6 ?_
    refine r_getI (pc := 9) C fl_RX11_82 x_s1 (by decide) x_kTape_1 dX11_end_9 ?_
    refine r_icmp_le (pc := 12) (tgt := 21) C h dX11_end_12 (by decide) (fun hc12 h => ?_) (fun hc12 h => ?_)
    · refine r_aload_n (pc := 21) C 0 rfl rfl dX11_end_21 ?_
      refine r_getR (pc := 22) C fl_RX11_12 x_s0 (by decide) x_kX_0 x_r0_0 dX11_end_22 ?_
      refine r_iload_n (pc := 25) C 1 rfl rfl dX11_end_25 ?_
      obtain ⟨M_26, hM_26, h⟩ := lt_inv h
      refine r_putI (pc := 26) C fl_RX11_82 x_ft7 x_w7_1 x_s1 (by decide) x_kTape_1 hM_26 dX11_end_26 ?_
      refine r_iconst (pc := 29) C dX11_end_29 ?_
      have e := Option.some.inj h
      exact r_zret (pc := 30) C hr (Or.inr rfl) (congrArg (fun z => some (vB z)) (Prod.mk.inj e).1.symm) (Prod.mk.inj e).2.symm dX11_end_30
    · refine r_aload_n (pc := 15) C 0 rfl rfl dX11_end_15 ?_
      refine r_iconst (pc := 16) C dX11_end_16 ?_
      obtain ⟨r2, M2, hq2, h⟩ := bnd2_inv h
      refine r_callV (pc := 17) (rest := []) (st1 := [vB r2]) C (xExtOK σ b) [vI 0] (c_x_X_no l hq2) cl_RX11_93 x_s0 (by decide) rfl rfl rfl rfl ⟨Nat.le_of_ble_eq_true rfl, Nat.le_of_ble_eq_true rfl⟩ (Nat.le_of_ble_eq_true rfl) rfl rfl dX11_end_17 ?_
      have e := Option.some.inj h
      exact r_zret (pc := 20) C hr (b2i01 _) (congrArg (fun z => some (vB z)) (Prod.mk.inj e).1.symm) (Prod.mk.inj e).2.symm dX11_end_20
set_option maxHeartbeats 4000000 in
set_option maxRecDepth 20000 in
theorem c_x_Heard_clear (l : Launch) {M : Mem} {M0 : Mem} (h : x_Heard_clear M = some M0) : Ct l yX0_clear cX0_clear 1 none 1 12 vwCl xSh xN xRf (xExt σ) (fun b => [vR b 354]) M (fun b => none) M0 := by
  refine Ct_of (xExtOK σ) (by decide) (fun b => Nat.le_of_ble_eq_true rfl) ?_
  intro p e s m args below meth c D E b C hr
  unfold x_Heard_clear at h
  refine (show xWX p l e 1 12 s m args below meth c 1 D E b none M0 M 0 [(0, vR b 354)] [] from ?_)
  refine r_aload_n (pc := 0) C 0 rfl rfl dX0_clear_0 ?_
  refine r_iconst (pc := 1) C dX0_clear_1 ?_
  obtain ⟨M_2, hM_2, h⟩ := lt_inv h
  refine r_putI (pc := 2) C fl_RX0_40 x_ft0 x_w0_0 x_s354 (by decide) x_kHeard_0 hM_2 dX0_clear_2 ?_
  have e := Option.some.inj h
  exact r_vret (pc := 5) C hr rfl e.symm dX0_clear_5
set_option maxHeartbeats 4000000 in
set_option maxRecDepth 20000 in
theorem c_x_Past_clear (l : Launch) {M : Mem} {M0 : Mem} (h : x_Past_clear M = some M0) : Ct l yX2_clear cX2_clear 1 none 1 12 vwCl xSh xN xRf (xExt σ) (fun b => [vR b 64]) M (fun b => none) M0 := by
  refine Ct_of (xExtOK σ) (by decide) (fun b => Nat.le_of_ble_eq_true rfl) ?_
  intro p e s m args below meth c D E b C hr
  unfold x_Past_clear at h
  refine (show xWX p l e 1 12 s m args below meth c 1 D E b none M0 M 0 [(0, vR b 64)] [] from ?_)
  refine r_aload_n (pc := 0) C 0 rfl rfl dX2_clear_0 ?_
  refine r_iconst (pc := 1) C dX2_clear_1 ?_
  obtain ⟨M_2, hM_2, h⟩ := lt_inv h
  refine r_putI (pc := 2) C fl_RX2_18 x_ft2 x_w2_0 x_s64 (by decide) x_kPast_0 hM_2 dX2_clear_2 ?_
  have e := Option.some.inj h
  exact r_vret (pc := 5) C hr rfl e.symm dX2_clear_5
set_option maxHeartbeats 4000000 in
set_option maxRecDepth 20000 in
theorem c_x_Reader_at (l : Launch) {x1 : Int} {M : Mem} {r0 : Bool} (h : x_Reader_at x1 M = some r0) : Ct l yX4_at cX4_at 2 (some .boolean) 1 12 vwCl xSh xN xRf (xExt σ) (fun b => [vR b 3, vI x1]) M (fun b => (some (vB r0))) M := by
  refine Ct_of (xExtOK σ) (by decide) (fun b => Nat.le_of_ble_eq_true rfl) ?_
  intro p e s m args below meth c D E b C hr
  unfold x_Reader_at at h
  refine (show xWX p l e 1 12 s m args below meth c 2 D E b (some (vB r0)) M M 0 [(0, vR b 3), (1, vI x1)] [] from ?_)
  refine r_aload_n (pc := 0) C 0 rfl rfl dX4_at_0 ?_
  refine r_getI (pc := 1) C fl_RX4_36 x_s3 (by decide) x_kReader_1 dX4_at_1 ?_
  refine r_if_ne (pc := 4) (tgt := 48) C h dX4_at_4 (by decide) (fun hc4 h => ?_) (fun hc4 h => ?_)
  · refine r_iconst (pc := 48) C dX4_at_48 ?_
    have e := Option.some.inj h
    exact r_zret (pc := 49) C hr (Or.inl rfl) (congrArg (fun z => some (vB z)) e.symm) rfl dX4_at_49
  · refine r_aload_n (pc := 7) C 0 rfl rfl dX4_at_7 ?_
    refine r_getI (pc := 8) C fl_RX4_39 x_s3 (by decide) x_kReader_4 dX4_at_8 ?_
    refine r_if_lt (pc := 11) (tgt := 48) C h dX4_at_11 (by decide) (fun hc11 h => ?_) (fun hc11 h => ?_)
    · refine r_iconst (pc := 48) C dX4_at_48 ?_
      have e := Option.some.inj h
      exact r_zret (pc := 49) C hr (Or.inl rfl) (congrArg (fun z => some (vB z)) e.symm) rfl dX4_at_49
    · refine r_aload_n (pc := 14) C 0 rfl rfl dX4_at_14 ?_
      refine r_getI (pc := 15) C fl_RX4_39 x_s3 (by decide) x_kReader_4 dX4_at_15 ?_
      refine r_aload_n (pc := 18) C 0 rfl rfl dX4_at_18 ?_
      refine r_getR (pc := 19) C fl_RX4_25 x_s3 (by decide) x_kReader_3 x_r3_3 dX4_at_19 ?_
      refine r_getI (pc := 22) C fl_RX4_182 x_s19 (by decide) x_kTokens_3 dX4_at_22 ?_
      refine r_icmp_ge (pc := 25) (tgt := 48) C h dX4_at_25 (by decide) (fun hc25 h => ?_) (fun hc25 h => ?_)
      · refine r_iconst (pc := 48) C dX4_at_48 ?_
        have e := Option.some.inj h
        exact r_zret (pc := 49) C hr (Or.inl rfl) (congrArg (fun z => some (vB z)) e.symm) rfl dX4_at_49
      · refine r_aload_n (pc := 28) C 0 rfl rfl dX4_at_28 ?_
        refine r_getR (pc := 29) C fl_RX4_25 x_s3 (by decide) x_kReader_3 x_r3_3 dX4_at_29 ?_
        refine r_getR (pc := 32) C fl_RX4_185 x_s19 (by decide) x_kTokens_0 x_r19_0 dX4_at_32 ?_
        refine r_aload_n (pc := 35) C 0 rfl rfl dX4_at_35 ?_
        refine r_getI (pc := 36) C fl_RX4_39 x_s3 (by decide) x_kReader_4 dX4_at_36 ?_
        obtain ⟨hi39, h⟩ := chk_inv h
        refine r_iald (pc := 39) C x_s20 (by decide) (by decide) hi39 rfl dX4_at_39 ?_
        refine r_iload_n (pc := 40) C 1 rfl rfl dX4_at_40 ?_
        refine r_icmp_ne (pc := 41) (tgt := 48) C h dX4_at_41 (by decide) (fun hc41 h => ?_) (fun hc41 h => ?_)
        · refine r_iconst (pc := 48) C dX4_at_48 ?_
          have e := Option.some.inj h
          exact r_zret (pc := 49) C hr (Or.inl rfl) (congrArg (fun z => some (vB z)) e.symm) rfl dX4_at_49
        · refine r_iconst (pc := 44) C dX4_at_44 ?_
          refine r_goto (pc := 45) (tgt := 49) C dX4_at_45 (by decide) ?_
          have e := Option.some.inj h
          exact r_zret (pc := 49) C hr (Or.inr rfl) (congrArg (fun z => some (vB z)) e.symm) rfl dX4_at_49
set_option maxHeartbeats 4000000 in
set_option maxRecDepth 20000 in
theorem c_x_Reader_kind (l : Launch) {M : Mem} {r0 : Int} (h : x_Reader_kind M = some r0) : Ct l yX4_kind cX4_kind 1 (some .int) 1 12 vwCl xSh xN xRf (xExt σ) (fun b => [vR b 3]) M (fun b => (some (vI r0))) M := by
  refine Ct_of (xExtOK σ) (by decide) (fun b => Nat.le_of_ble_eq_true rfl) ?_
  intro p e s m args below meth c D E b C hr
  unfold x_Reader_kind at h
  refine (show xWX p l e 1 12 s m args below meth c 1 D E b (some (vI r0)) M M 0 [(0, vR b 3)] [] from ?_)
  refine r_aload_n (pc := 0) C 0 rfl rfl dX4_kind_0 ?_
  refine r_getI (pc := 1) C fl_RX4_39 x_s3 (by decide) x_kReader_4 dX4_kind_1 ?_
  refine r_if_lt (pc := 4) (tgt := 36) C h dX4_kind_4 (by decide) (fun hc4 h => ?_) (fun hc4 h => ?_)
  · refine r_bipush (pc := 36) (j := 26) C (by decide +kernel) dX4_kind_36 ?_
    have e := Option.some.inj h
    exact r_iret (pc := 38) C hr (congrArg (fun z => some (vI z)) e.symm) rfl dX4_kind_38
  · refine r_aload_n (pc := 7) C 0 rfl rfl dX4_kind_7 ?_
    refine r_getI (pc := 8) C fl_RX4_39 x_s3 (by decide) x_kReader_4 dX4_kind_8 ?_
    refine r_aload_n (pc := 11) C 0 rfl rfl dX4_kind_11 ?_
    refine r_getR (pc := 12) C fl_RX4_25 x_s3 (by decide) x_kReader_3 x_r3_3 dX4_kind_12 ?_
    refine r_getI (pc := 15) C fl_RX4_182 x_s19 (by decide) x_kTokens_3 dX4_kind_15 ?_
    refine r_icmp_ge (pc := 18) (tgt := 36) C h dX4_kind_18 (by decide) (fun hc18 h => ?_) (fun hc18 h => ?_)
    · refine r_bipush (pc := 36) (j := 26) C (by decide +kernel) dX4_kind_36 ?_
      have e := Option.some.inj h
      exact r_iret (pc := 38) C hr (congrArg (fun z => some (vI z)) e.symm) rfl dX4_kind_38
    · refine r_aload_n (pc := 21) C 0 rfl rfl dX4_kind_21 ?_
      refine r_getR (pc := 22) C fl_RX4_25 x_s3 (by decide) x_kReader_3 x_r3_3 dX4_kind_22 ?_
      refine r_getR (pc := 25) C fl_RX4_185 x_s19 (by decide) x_kTokens_0 x_r19_0 dX4_kind_25 ?_
      refine r_aload_n (pc := 28) C 0 rfl rfl dX4_kind_28 ?_
      refine r_getI (pc := 29) C fl_RX4_39 x_s3 (by decide) x_kReader_4 dX4_kind_29 ?_
      obtain ⟨hi32, h⟩ := chk_inv h
      refine r_iald (pc := 32) C x_s20 (by decide) (by decide) hi32 rfl dX4_kind_32 ?_
      refine r_goto (pc := 33) (tgt := 38) C dX4_kind_33 (by decide) ?_
      have e := Option.some.inj h
      exact r_iret (pc := 38) C hr (congrArg (fun z => some (vI z)) e.symm) rfl dX4_kind_38
set_option maxHeartbeats 4000000 in
set_option maxRecDepth 20000 in
theorem c_x_Reader_refuse (l : Launch) {x1 : Int} {M : Mem} {M0 : Mem} (h : x_Reader_refuse x1 M = some M0) : Ct l yX4_refuse cX4_refuse 2 none 1 12 vwCl xSh xN xRf (xExt σ) (fun b => [vR b 3, vI x1]) M (fun b => none) M0 := by
  refine Ct_of (xExtOK σ) (by decide) (fun b => Nat.le_of_ble_eq_true rfl) ?_
  intro p e s m args below meth c D E b C hr
  unfold x_Reader_refuse at h
  refine (show xWX p l e 1 12 s m args below meth c 2 D E b none M0 M 0 [(0, vR b 3), (1, vI x1)] [] from ?_)
  refine r_aload_n (pc := 0) C 0 rfl rfl dX4_refuse_0 ?_
  refine r_getI (pc := 1) C fl_RX4_36 x_s3 (by decide) x_kReader_1 dX4_refuse_1 ?_
  refine r_if_eq (pc := 4) (tgt := 8) C h dX4_refuse_4 (by decide) (fun hc4 h => ?_) (fun hc4 h => ?_)
  · refine r_aload_n (pc := 8) C 0 rfl rfl dX4_refuse_8 ?_
    refine r_iload_n (pc := 9) C 1 rfl rfl dX4_refuse_9 ?_
    obtain ⟨M_10, hM_10, h⟩ := lt_inv h
    refine r_putI (pc := 10) C fl_RX4_36 x_ft4 x_w4_1 x_s3 (by decide) x_kReader_1 hM_10 dX4_refuse_10 ?_
    refine r_aload_n (pc := 13) C 0 rfl rfl dX4_refuse_13 ?_
    refine r_aload_n (pc := 14) C 0 rfl rfl dX4_refuse_14 ?_
    refine r_getI (pc := 15) C fl_RX4_39 x_s3 (by decide) x_kReader_4 dX4_refuse_15 ?_
    refine r_if_lt (pc := 18) (tgt := 50) C h dX4_refuse_18 (by decide) (fun hc18 h => ?_) (fun hc18 h => ?_)
    · refine r_iconst (pc := 50) C dX4_refuse_50 ?_
      obtain ⟨M_51, hM_51, h⟩ := lt_inv h
      refine r_putI (pc := 51) C fl_RX4_18 x_ft4 x_w4_2 x_s3 (by decide) x_kReader_2 hM_51 dX4_refuse_51 ?_
      have e := Option.some.inj h
      exact r_vret (pc := 54) C hr rfl e.symm dX4_refuse_54
    · refine r_aload_n (pc := 21) C 0 rfl rfl dX4_refuse_21 ?_
      refine r_getI (pc := 22) C fl_RX4_39 x_s3 (by decide) x_kReader_4 dX4_refuse_22 ?_
      refine r_aload_n (pc := 25) C 0 rfl rfl dX4_refuse_25 ?_
      refine r_getR (pc := 26) C fl_RX4_25 x_s3 (by decide) x_kReader_3 x_r3_3 dX4_refuse_26 ?_
      refine r_getI (pc := 29) C fl_RX4_182 x_s19 (by decide) x_kTokens_3 dX4_refuse_29 ?_
      refine r_icmp_ge (pc := 32) (tgt := 50) C h dX4_refuse_32 (by decide) (fun hc32 h => ?_) (fun hc32 h => ?_)
      · refine r_iconst (pc := 50) C dX4_refuse_50 ?_
        obtain ⟨M_51, hM_51, h⟩ := lt_inv h
        refine r_putI (pc := 51) C fl_RX4_18 x_ft4 x_w4_2 x_s3 (by decide) x_kReader_2 hM_51 dX4_refuse_51 ?_
        have e := Option.some.inj h
        exact r_vret (pc := 54) C hr rfl e.symm dX4_refuse_54
      · refine r_aload_n (pc := 35) C 0 rfl rfl dX4_refuse_35 ?_
        refine r_getR (pc := 36) C fl_RX4_25 x_s3 (by decide) x_kReader_3 x_r3_3 dX4_refuse_36 ?_
        refine r_getR (pc := 39) C fl_RX4_189 x_s19 (by decide) x_kTokens_1 x_r19_1 dX4_refuse_39 ?_
        refine r_aload_n (pc := 42) C 0 rfl rfl dX4_refuse_42 ?_
        refine r_getI (pc := 43) C fl_RX4_39 x_s3 (by decide) x_kReader_4 dX4_refuse_43 ?_
        obtain ⟨hi46, h⟩ := chk_inv h
        refine r_iald (pc := 46) C x_s21 (by decide) (by decide) hi46 rfl dX4_refuse_46 ?_
        refine r_goto (pc := 47) (tgt := 51) C dX4_refuse_47 (by decide) ?_
        obtain ⟨M_51, hM_51, h⟩ := lt_inv h
        refine r_putI (pc := 51) C fl_RX4_18 x_ft4 x_w4_2 x_s3 (by decide) x_kReader_2 hM_51 dX4_refuse_51 ?_
        have e := Option.some.inj h
        exact r_vret (pc := 54) C hr rfl e.symm dX4_refuse_54
  · have e := Option.some.inj h
    exact r_vret (pc := 7) C hr rfl e.symm dX4_refuse_7
set_option maxHeartbeats 4000000 in
set_option maxRecDepth 20000 in
theorem c_x_Reader_value (l : Launch) {M : Mem} {r0 : Int} (h : x_Reader_value M = some r0) : Ct l yX4_value cX4_value 1 (some .int) 1 12 vwCl xSh xN xRf (xExt σ) (fun b => [vR b 3]) M (fun b => (some (vI r0))) M := by
  refine Ct_of (xExtOK σ) (by decide) (fun b => Nat.le_of_ble_eq_true rfl) ?_
  intro p e s m args below meth c D E b C hr
  unfold x_Reader_value at h
  refine (show xWX p l e 1 12 s m args below meth c 1 D E b (some (vI r0)) M M 0 [(0, vR b 3)] [] from ?_)
  refine r_aload_n (pc := 0) C 0 rfl rfl dX4_value_0 ?_
  refine r_getI (pc := 1) C fl_RX4_39 x_s3 (by decide) x_kReader_4 dX4_value_1 ?_
  refine r_if_lt (pc := 4) (tgt := 36) C h dX4_value_4 (by decide) (fun hc4 h => ?_) (fun hc4 h => ?_)
  · refine r_iconst (pc := 36) C dX4_value_36 ?_
    have e := Option.some.inj h
    exact r_iret (pc := 37) C hr (congrArg (fun z => some (vI z)) e.symm) rfl dX4_value_37
  · refine r_aload_n (pc := 7) C 0 rfl rfl dX4_value_7 ?_
    refine r_getI (pc := 8) C fl_RX4_39 x_s3 (by decide) x_kReader_4 dX4_value_8 ?_
    refine r_aload_n (pc := 11) C 0 rfl rfl dX4_value_11 ?_
    refine r_getR (pc := 12) C fl_RX4_25 x_s3 (by decide) x_kReader_3 x_r3_3 dX4_value_12 ?_
    refine r_getI (pc := 15) C fl_RX4_182 x_s19 (by decide) x_kTokens_3 dX4_value_15 ?_
    refine r_icmp_ge (pc := 18) (tgt := 36) C h dX4_value_18 (by decide) (fun hc18 h => ?_) (fun hc18 h => ?_)
    · refine r_iconst (pc := 36) C dX4_value_36 ?_
      have e := Option.some.inj h
      exact r_iret (pc := 37) C hr (congrArg (fun z => some (vI z)) e.symm) rfl dX4_value_37
    · refine r_aload_n (pc := 21) C 0 rfl rfl dX4_value_21 ?_
      refine r_getR (pc := 22) C fl_RX4_25 x_s3 (by decide) x_kReader_3 x_r3_3 dX4_value_22 ?_
      refine r_getR (pc := 25) C fl_RX4_187 x_s19 (by decide) x_kTokens_2 x_r19_2 dX4_value_25 ?_
      refine r_aload_n (pc := 28) C 0 rfl rfl dX4_value_28 ?_
      refine r_getI (pc := 29) C fl_RX4_39 x_s3 (by decide) x_kReader_4 dX4_value_29 ?_
      obtain ⟨hi32, h⟩ := chk_inv h
      refine r_iald (pc := 32) C x_s22 (by decide) (by decide) hi32 rfl dX4_value_32 ?_
      refine r_goto (pc := 33) (tgt := 37) C dX4_value_33 (by decide) ?_
      have e := Option.some.inj h
      exact r_iret (pc := 37) C hr (congrArg (fun z => some (vI z)) e.symm) rfl dX4_value_37
set_option maxHeartbeats 4000000 in
set_option maxRecDepth 20000 in
theorem w_x_Reader_number_B34 (C : xCX σ p s m args meth c cX4_number 4 RX4 D E b) (hr : meth.sig.returnType = (some .int)) {r0 : Int} {M0 : Mem} {M : Mem} {v3 : Int} (h : x_Reader_number_B34 v3 M = some (r0, M0)) :
    xWX p l e 2 33 s m args below meth c 4 D E b (some (vI r0)) M0 M 34 [(0, vR b 3), (3, vI v3)] [] := by
  unfold x_Reader_number_B34 at h
  refine r_aload_n (pc := 34) C 0 rfl rfl dX4_number_34 ?_
  refine r_getI (pc := 35) C fl_RX4_36 x_s3 (by decide) x_kReader_1 dX4_number_35 ?_
  refine r_if_ne (pc := 38) (tgt := 51) C h dX4_number_38 (by decide) (fun hc38 h => ?_) (fun hc38 h => ?_)
  · refine r_iload_n (pc := 51) C 1 rfl rfl dX4_number_51 ?_
    have e := Option.some.inj h
    exact r_iret (pc := 52) C hr (congrArg (fun z => some (vI z)) (Prod.mk.inj e).1.symm) (Prod.mk.inj e).2.symm dX4_number_52
  · refine r_aload_n (pc := 41) C 0 rfl rfl dX4_number_41 ?_
    refine r_dup (pc := 42) C rfl dX4_number_42 ?_
    refine r_getI (pc := 43) C fl_RX4_39 x_s3 (by decide) x_kReader_4 dX4_number_43 ?_
    refine r_iconst (pc := 46) C dX4_number_46 ?_
    refine r_iadd (pc := 47) C dX4_number_47 ?_
    obtain ⟨M_48, hM_48, h⟩ := lt_inv h
    refine r_putI (pc := 48) C fl_RX4_39 x_ft4 x_w4_4 x_s3 (by decide) x_kReader_4 hM_48 dX4_number_48 ?_
    refine r_iload_n (pc := 51) C 1 rfl rfl dX4_number_51 ?_
    have e := Option.some.inj h
    exact r_iret (pc := 52) C hr (congrArg (fun z => some (vI z)) (Prod.mk.inj e).1.symm) (Prod.mk.inj e).2.symm dX4_number_52
set_option maxHeartbeats 4000000 in
set_option maxRecDepth 20000 in
theorem w_x_Reader_number_B29 (C : xCX σ p s m args meth c cX4_number 4 RX4 D E b) (hr : meth.sig.returnType = (some .int)) {r0 : Int} {M0 : Mem} {M : Mem} {v3 : Int} (h : x_Reader_number_B29 v3 M = some (r0, M0)) :
    xWX p l e 2 33 s m args below meth c 4 D E b (some (vI r0)) M0 M 29 [(0, vR b 3), (3, vI v3)] [] := by
  unfold x_Reader_number_B29 at h
  refine r_aload_n (pc := 29) C 0 rfl rfl dX4_number_29 ?_
  refine r_iconst (pc := 30) C dX4_number_30 ?_
  obtain ⟨M3, hq3, h⟩ := bnd_inv h
  refine r_callV (pc := 31) (rest := []) (st1 := []) C (xExtOK σ b) [vI 4] (c_x_Reader_refuse l hq3) cl_RX4_65 x_s3 (by decide) rfl rfl rfl rfl ⟨Nat.le_of_ble_eq_true rfl, Nat.le_of_ble_eq_true rfl⟩ (Nat.le_of_ble_eq_true rfl) rfl rfl dX4_number_31 ?_
  refine r_sub (lv' := [(0, vR b 3), (3, vI v3)]) [0, 1] rfl ?_
  exact w_x_Reader_number_B34 C hr h
set_option maxHeartbeats 4000000 in
set_option maxRecDepth 20000 in
theorem w_x_Reader_number_B14 (C : xCX σ p s m args meth c cX4_number 4 RX4 D E b) (hr : meth.sig.returnType = (some .int)) {r0 : Int} {M0 : Mem} {M : Mem} {v1 : Int} {v2 : Int} (h : x_Reader_number_B14 v1 v2 M = some (r0, M0)) :
    xWX p l e 2 33 s m args below meth c 4 D E b (some (vI r0)) M0 M 14 [(0, vR b 3), (1, vI v1), (2, vI v2)] [] := by
  unfold x_Reader_number_B14 at h
  refine r_aload_n (pc := 14) C 0 rfl rfl dX4_number_14 ?_
  obtain ⟨r2, hq2, h⟩ := bnd_inv h
  refine r_callV (pc := 15) (rest := []) (st1 := [vI r2]) C (xExtOK σ b) [] (c_x_Reader_value l hq2) cl_RX4_68 x_s3 (by decide) rfl rfl rfl rfl ⟨Nat.le_of_ble_eq_true rfl, Nat.le_of_ble_eq_true rfl⟩ (Nat.le_of_ble_eq_true rfl) rfl rfl dX4_number_15 ?_
  refine r_istore_n (pc := 18) (lv' := [(3, vI r2), (0, vR b 3), (1, vI v1), (2, vI v2)]) C rfl dX4_number_18 (by decide) rfl ?_
  refine r_iload_n (pc := 19) C 0 rfl rfl dX4_number_19 ?_
  refine r_iload_n (pc := 20) C 2 rfl rfl dX4_number_20 ?_
  refine r_icmp_lt (pc := 21) (tgt := 29) C h dX4_number_21 (by decide) (fun hc21 h => ?_) (fun hc21 h => ?_)
  · refine r_sub (lv' := [(0, vR b 3), (3, vI r2)]) [1, 0] rfl ?_
    exact w_x_Reader_number_B29 C hr h
  · refine r_iload_n (pc := 24) C 0 rfl rfl dX4_number_24 ?_
    refine r_iload_n (pc := 25) C 3 rfl rfl dX4_number_25 ?_
    refine r_icmp_le (pc := 26) (tgt := 34) C h dX4_number_26 (by decide) (fun hc26 h => ?_) (fun hc26 h => ?_)
    · refine r_sub (lv' := [(0, vR b 3), (3, vI r2)]) [1, 0] rfl ?_
      exact w_x_Reader_number_B34 C hr h
    · refine r_sub (lv' := [(0, vR b 3), (3, vI r2)]) [1, 0] rfl ?_
      exact w_x_Reader_number_B29 C hr h
set_option maxHeartbeats 4000000 in
set_option maxRecDepth 20000 in
theorem c_x_Reader_number (l : Launch) {x1 : Int} {x2 : Int} {M : Mem} {r0 : Int} {M0 : Mem} (h : x_Reader_number x1 x2 M = some (r0, M0)) : Ct l yX4_number cX4_number 4 (some .int) 2 33 vwCl xSh xN xRf (xExt σ) (fun b => [vR b 3, vI x1, vI x2]) M (fun b => (some (vI r0))) M0 := by
  refine Ct_of (xExtOK σ) (by decide) (fun b => Nat.le_of_ble_eq_true rfl) ?_
  intro p e s m args below meth c D E b C hr
  unfold x_Reader_number at h
  refine (show xWX p l e 2 33 s m args below meth c 4 D E b (some (vI r0)) M0 M 0 [(0, vR b 3), (1, vI x1), (2, vI x2)] [] from ?_)
  refine r_aload_n (pc := 0) C 0 rfl rfl dX4_number_0 ?_
  refine r_bipush (pc := 1) (j := 24) C (by decide +kernel) dX4_number_1 ?_
  obtain ⟨r1, hq1, h⟩ := bnd_inv h
  refine r_callV (pc := 3) (rest := []) (st1 := [vB r1]) C (xExtOK σ b) [vI 24] (c_x_Reader_at l hq1) cl_RX4_47 x_s3 (by decide) rfl rfl rfl rfl ⟨Nat.le_of_ble_eq_true rfl, Nat.le_of_ble_eq_true rfl⟩ (Nat.le_of_ble_eq_true rfl) rfl rfl dX4_number_3 ?_
  refine r_if_neB (pc := 6) (tgt := 14) C h dX4_number_6 (by decide) (fun hc6 h => ?_) (fun hc6 h => ?_)
  · refine r_sub (lv' := [(0, vR b 3), (1, vI x1), (2, vI x2)]) [0, 1, 2] rfl ?_
    exact w_x_Reader_number_B14 C hr h
  · refine r_aload_n (pc := 9) C 0 rfl rfl dX4_number_9 ?_
    refine r_iconst (pc := 10) C dX4_number_10 ?_
    obtain ⟨M4, hq4, h⟩ := bnd_inv h
    refine r_callV (pc := 11) (rest := []) (st1 := []) C (xExtOK σ b) [vI 1] (c_x_Reader_refuse l hq4) cl_RX4_65 x_s3 (by decide) rfl rfl rfl rfl ⟨Nat.le_of_ble_eq_true rfl, Nat.le_of_ble_eq_true rfl⟩ (Nat.le_of_ble_eq_true rfl) rfl rfl dX4_number_11 ?_
    refine r_sub (lv' := [(0, vR b 3), (1, vI x1), (2, vI x2)]) [0, 1, 2] rfl ?_
    exact w_x_Reader_number_B14 C hr h
set_option maxHeartbeats 4000000 in
set_option maxRecDepth 20000 in
theorem w_x_Town_personOf_L2_s (C : xCX σ p s m args meth c cX9_personOf 3 RX9 D E b) (hr : meth.sig.returnType = (some .int)) {r0 : Int} (th : Nat) (hth : th ∈ xI_Town) {v1 : Int} {M : Mem} {v2 : Int} {q : (Int) ⊕ (Int)} {rec : Int → Option ((Int) ⊕ (Int))} (hrec : ∀ (v2 : Int), rec v2 = some q → xWX p l e 1 12 s m args below meth c 3 D E b (some (vI r0)) M M 2 [(0, vR b th), (1, vI v1), (2, vI v2)] []) (hret : ∀ r, q = .inl r → r = r0) (hfol : ∀ (v2 : Int), q = .inr v2 → xWX p l e 1 12 s m args below meth c 3 D E b (some (vI r0)) M M 34 [] []) (h : x_Town_personOf_L2 th v1 M rec v2 = some q) :
    xWX p l e 1 12 s m args below meth c 3 D E b (some (vI r0)) M M 2 [(0, vR b th), (1, vI v1), (2, vI v2)] [] := by
  unfold x_Town_personOf_L2 at h
  refine r_iload_n (pc := 2) C 2 rfl rfl dX9_personOf_2 ?_
  refine r_aload_n (pc := 3) C 0 rfl rfl dX9_personOf_3 ?_
  refine r_getI (pc := 4) C fl_RX9_47 (x_sI_Town hth) (x_nI_Town hth) x_kTown_1 dX9_personOf_4 ?_
  refine r_icmp_ge (pc := 7) (tgt := 34) C h dX9_personOf_7 (by decide) (fun hc7 h => ?_) (fun hc7 h => ?_)
  · refine r_sub (lv' := []) [] rfl ?_
    exact hfol _ (Option.some.inj h).symm
  · refine r_iload_n (pc := 10) C 2 rfl rfl dX9_personOf_10 ?_
    refine r_bipush (pc := 11) (j := 8) C (by decide +kernel) dX9_personOf_11 ?_
    refine r_icmp_ge (pc := 13) (tgt := 34) C h dX9_personOf_13 (by decide) (fun hc13 h => ?_) (fun hc13 h => ?_)
    · refine r_sub (lv' := []) [] rfl ?_
      exact hfol _ (Option.some.inj h).symm
    · refine r_aload_n (pc := 16) C 0 rfl rfl dX9_personOf_16 ?_
      refine r_getR (pc := 17) C fl_RX9_18 (x_sI_Town hth) (x_nI_Town hth) x_kTown_6 (x_rI_Town_6 hth) dX9_personOf_17 ?_
      refine r_iload_n (pc := 20) C 2 rfl rfl dX9_personOf_20 ?_
      obtain ⟨hi21, h⟩ := chk_inv h
      refine r_iald (pc := 21) C (x_aI_Town_6 hth) (x_bI_Town_6 hth) (by decide) hi21 rfl dX9_personOf_21 ?_
      refine r_iload_n (pc := 22) C 1 rfl rfl dX9_personOf_22 ?_
      refine r_icmp_ne (pc := 23) (tgt := 28) C h dX9_personOf_23 (by decide) (fun hc23 h => ?_) (fun hc23 h => ?_)
      · obtain ⟨v2_28, hv2_28, h⟩ := lt_inv h
        refine r_iincN (pc := 28) (y := v2_28) (lv' := [(2, vI v2_28), (0, vR b th), (1, vI v1)]) C 2 rfl hv2_28 dX9_personOf_28 (by decide) rfl ?_
        refine r_goto (pc := 31) (tgt := 2) C dX9_personOf_31 (by decide) ?_
        refine r_sub (lv' := [(0, vR b th), (1, vI v1), (2, vI v2_28)]) [1, 2, 0] rfl ?_
        exact hrec _ h
      · refine r_iload_n (pc := 26) C 2 rfl rfl dX9_personOf_26 ?_
        have e := hret _ (Option.some.inj h).symm
        exact r_iret (pc := 27) C hr (congrArg (fun z => some (vI z)) e.symm) rfl dX9_personOf_27
set_option maxHeartbeats 4000000 in
theorem w_x_Town_personOf_L2 (C : xCX σ p s m args meth c cX9_personOf 3 RX9 D E b) (hr : meth.sig.returnType = (some .int)) {r0 : Int} (th : Nat) (hth : th ∈ xI_Town) {v1 : Int} {M : Mem} {q : (Int) ⊕ (Int)} (hret : ∀ r, q = .inl r → r = r0) (hfol : ∀ (v2 : Int), q = .inr v2 → xWX p l e 1 12 s m args below meth c 3 D E b (some (vI r0)) M M 34 [] []) : ∀ (n : Nat) (v2 : Int), itr1 (x_Town_personOf_L2 th v1 M) n v2 = some q →
    xWX p l e 1 12 s m args below meth c 3 D E b (some (vI r0)) M M 2 [(0, vR b th), (1, vI v1), (2, vI v2)] [] := by
  intro n
  induction n with
  | zero => exact fun _ h => itr_z h
  | succ n ih => exact fun _ h => w_x_Town_personOf_L2_s C hr th hth ih hret hfol h
set_option maxHeartbeats 4000000 in
set_option maxRecDepth 20000 in
theorem c_x_Town_personOf (l : Launch) (th : Nat) (hth : th ∈ xI_Town) {x1 : Int} {M : Mem} {r0 : Int} (h : x_Town_personOf th x1 M = some r0) : Ct l yX9_personOf cX9_personOf 3 (some .int) 1 12 vwCl xSh xN xRf (xExt σ) (fun b => [vR b th, vI x1]) M (fun b => (some (vI r0))) M := by
  refine Ct_of (xExtOK σ) (by decide) (fun b => Nat.le_of_ble_eq_true rfl) ?_
  intro p e s m args below meth c D E b C hr
  unfold x_Town_personOf at h
  refine (show xWX p l e 1 12 s m args below meth c 3 D E b (some (vI r0)) M M 0 [(0, vR b th), (1, vI x1)] [] from ?_)
  refine r_iconst (pc := 0) C dX9_personOf_0 ?_
  refine r_istore_n (pc := 1) (lv' := [(2, vI 0), (0, vR b th), (1, vI x1)]) C rfl dX9_personOf_1 (by decide) rfl ?_
  refine r_sub (lv' := [(0, vR b th), (1, vI x1), (2, vI 0)]) [1, 2, 0] rfl ?_
  obtain ⟨q1, hl1, h⟩ := bnd_inv h
  refine w_x_Town_personOf_L2 C hr th hth (fun r hq => ?_) (fun v2_1 hq => ?_) FUEL _ hl1
  · have hq := hq.symm
    subst hq
    exact Option.some.inj h
  · have hq := hq.symm
    subst hq
    refine r_iconst (pc := 34) C dX9_personOf_34 ?_
    have e := Option.some.inj h
    exact r_iret (pc := 35) C hr (congrArg (fun z => some (vI z)) e.symm) rfl dX9_personOf_35
set_option maxHeartbeats 4000000 in
set_option maxRecDepth 20000 in
theorem w_x_Town_voiceOf_L2_s (C : xCX σ p s m args meth c cX9_voiceOf 3 RX9 D E b) (hr : meth.sig.returnType = (some .int)) {r0 : Int} (th : Nat) (hth : th ∈ xI_Town) {v1 : Int} {M : Mem} {v2 : Int} {q : (Int) ⊕ (Int)} {rec : Int → Option ((Int) ⊕ (Int))} (hrec : ∀ (v2 : Int), rec v2 = some q → xWX p l e 1 12 s m args below meth c 3 D E b (some (vI r0)) M M 2 [(0, vR b th), (1, vI v1), (2, vI v2)] []) (hret : ∀ r, q = .inl r → r = r0) (hfol : ∀ (v2 : Int), q = .inr v2 → xWX p l e 1 12 s m args below meth c 3 D E b (some (vI r0)) M M 34 [] []) (h : x_Town_voiceOf_L2 th v1 M rec v2 = some q) :
    xWX p l e 1 12 s m args below meth c 3 D E b (some (vI r0)) M M 2 [(0, vR b th), (1, vI v1), (2, vI v2)] [] := by
  unfold x_Town_voiceOf_L2 at h
  refine r_iload_n (pc := 2) C 2 rfl rfl dX9_voiceOf_2 ?_
  refine r_aload_n (pc := 3) C 0 rfl rfl dX9_voiceOf_3 ?_
  refine r_getI (pc := 4) C fl_RX9_43 (x_sI_Town hth) (x_nI_Town hth) x_kTown_0 dX9_voiceOf_4 ?_
  refine r_icmp_ge (pc := 7) (tgt := 34) C h dX9_voiceOf_7 (by decide) (fun hc7 h => ?_) (fun hc7 h => ?_)
  · refine r_sub (lv' := []) [] rfl ?_
    exact hfol _ (Option.some.inj h).symm
  · refine r_iload_n (pc := 10) C 2 rfl rfl dX9_voiceOf_10 ?_
    refine r_bipush (pc := 11) (j := 7) C (by decide +kernel) dX9_voiceOf_11 ?_
    refine r_icmp_ge (pc := 13) (tgt := 34) C h dX9_voiceOf_13 (by decide) (fun hc13 h => ?_) (fun hc13 h => ?_)
    · refine r_sub (lv' := []) [] rfl ?_
      exact hfol _ (Option.some.inj h).symm
    · refine r_aload_n (pc := 16) C 0 rfl rfl dX9_voiceOf_16 ?_
      refine r_getR (pc := 17) C fl_RX9_9 (x_sI_Town hth) (x_nI_Town hth) x_kTown_4 (x_rI_Town_4 hth) dX9_voiceOf_17 ?_
      refine r_iload_n (pc := 20) C 2 rfl rfl dX9_voiceOf_20 ?_
      obtain ⟨hi21, h⟩ := chk_inv h
      refine r_iald (pc := 21) C (x_aI_Town_4 hth) (x_bI_Town_4 hth) (by decide) hi21 rfl dX9_voiceOf_21 ?_
      refine r_iload_n (pc := 22) C 1 rfl rfl dX9_voiceOf_22 ?_
      refine r_icmp_ne (pc := 23) (tgt := 28) C h dX9_voiceOf_23 (by decide) (fun hc23 h => ?_) (fun hc23 h => ?_)
      · obtain ⟨v2_28, hv2_28, h⟩ := lt_inv h
        refine r_iincN (pc := 28) (y := v2_28) (lv' := [(2, vI v2_28), (0, vR b th), (1, vI v1)]) C 2 rfl hv2_28 dX9_voiceOf_28 (by decide) rfl ?_
        refine r_goto (pc := 31) (tgt := 2) C dX9_voiceOf_31 (by decide) ?_
        refine r_sub (lv' := [(0, vR b th), (1, vI v1), (2, vI v2_28)]) [1, 2, 0] rfl ?_
        exact hrec _ h
      · refine r_iload_n (pc := 26) C 2 rfl rfl dX9_voiceOf_26 ?_
        have e := hret _ (Option.some.inj h).symm
        exact r_iret (pc := 27) C hr (congrArg (fun z => some (vI z)) e.symm) rfl dX9_voiceOf_27
set_option maxHeartbeats 4000000 in
theorem w_x_Town_voiceOf_L2 (C : xCX σ p s m args meth c cX9_voiceOf 3 RX9 D E b) (hr : meth.sig.returnType = (some .int)) {r0 : Int} (th : Nat) (hth : th ∈ xI_Town) {v1 : Int} {M : Mem} {q : (Int) ⊕ (Int)} (hret : ∀ r, q = .inl r → r = r0) (hfol : ∀ (v2 : Int), q = .inr v2 → xWX p l e 1 12 s m args below meth c 3 D E b (some (vI r0)) M M 34 [] []) : ∀ (n : Nat) (v2 : Int), itr1 (x_Town_voiceOf_L2 th v1 M) n v2 = some q →
    xWX p l e 1 12 s m args below meth c 3 D E b (some (vI r0)) M M 2 [(0, vR b th), (1, vI v1), (2, vI v2)] [] := by
  intro n
  induction n with
  | zero => exact fun _ h => itr_z h
  | succ n ih => exact fun _ h => w_x_Town_voiceOf_L2_s C hr th hth ih hret hfol h
set_option maxHeartbeats 4000000 in
set_option maxRecDepth 20000 in
theorem c_x_Town_voiceOf (l : Launch) (th : Nat) (hth : th ∈ xI_Town) {x1 : Int} {M : Mem} {r0 : Int} (h : x_Town_voiceOf th x1 M = some r0) : Ct l yX9_voiceOf cX9_voiceOf 3 (some .int) 1 12 vwCl xSh xN xRf (xExt σ) (fun b => [vR b th, vI x1]) M (fun b => (some (vI r0))) M := by
  refine Ct_of (xExtOK σ) (by decide) (fun b => Nat.le_of_ble_eq_true rfl) ?_
  intro p e s m args below meth c D E b C hr
  unfold x_Town_voiceOf at h
  refine (show xWX p l e 1 12 s m args below meth c 3 D E b (some (vI r0)) M M 0 [(0, vR b th), (1, vI x1)] [] from ?_)
  refine r_iconst (pc := 0) C dX9_voiceOf_0 ?_
  refine r_istore_n (pc := 1) (lv' := [(2, vI 0), (0, vR b th), (1, vI x1)]) C rfl dX9_voiceOf_1 (by decide) rfl ?_
  refine r_sub (lv' := [(0, vR b th), (1, vI x1), (2, vI 0)]) [1, 2, 0] rfl ?_
  obtain ⟨q1, hl1, h⟩ := bnd_inv h
  refine w_x_Town_voiceOf_L2 C hr th hth (fun r hq => ?_) (fun v2_1 hq => ?_) FUEL _ hl1
  · have hq := hq.symm
    subst hq
    exact Option.some.inj h
  · have hq := hq.symm
    subst hq
    refine r_iconst (pc := 34) C dX9_voiceOf_34 ?_
    have e := Option.some.inj h
    exact r_iret (pc := 35) C hr (congrArg (fun z => some (vI z)) e.symm) rfl dX9_voiceOf_35
set_option maxHeartbeats 4000000 in
set_option maxRecDepth 20000 in
theorem w_x_Reader_newName_B48 (C : xCX σ p s m args meth c cX4_newName 2 RX4 D E b) (hr : meth.sig.returnType = (some .int)) {r0 : Int} {M0 : Mem} {M : Mem} {v1 : Int} (h : x_Reader_newName_B48 v1 M = some (r0, M0)) :
    xWX p l e 2 34 s m args below meth c 2 D E b (some (vI r0)) M0 M 48 [(0, vR b 3), (1, vI v1)] [] := by
  unfold x_Reader_newName_B48 at h
  refine r_aload_n (pc := 48) C 0 rfl rfl dX4_newName_48 ?_
  refine r_getI (pc := 49) C fl_RX4_36 x_s3 (by decide) x_kReader_1 dX4_newName_49 ?_
  refine r_if_ne (pc := 52) (tgt := 65) C h dX4_newName_52 (by decide) (fun hc52 h => ?_) (fun hc52 h => ?_)
  · refine r_iload_n (pc := 65) C 1 rfl rfl dX4_newName_65 ?_
    have e := Option.some.inj h
    exact r_iret (pc := 66) C hr (congrArg (fun z => some (vI z)) (Prod.mk.inj e).1.symm) (Prod.mk.inj e).2.symm dX4_newName_66
  · refine r_aload_n (pc := 55) C 0 rfl rfl dX4_newName_55 ?_
    refine r_dup (pc := 56) C rfl dX4_newName_56 ?_
    refine r_getI (pc := 57) C fl_RX4_39 x_s3 (by decide) x_kReader_4 dX4_newName_57 ?_
    refine r_iconst (pc := 60) C dX4_newName_60 ?_
    refine r_iadd (pc := 61) C dX4_newName_61 ?_
    obtain ⟨M_62, hM_62, h⟩ := lt_inv h
    refine r_putI (pc := 62) C fl_RX4_39 x_ft4 x_w4_4 x_s3 (by decide) x_kReader_4 hM_62 dX4_newName_62 ?_
    refine r_iload_n (pc := 65) C 1 rfl rfl dX4_newName_65 ?_
    have e := Option.some.inj h
    exact r_iret (pc := 66) C hr (congrArg (fun z => some (vI z)) (Prod.mk.inj e).1.symm) (Prod.mk.inj e).2.symm dX4_newName_66
set_option maxHeartbeats 4000000 in
set_option maxRecDepth 20000 in
theorem w_x_Reader_newName_B43 (C : xCX σ p s m args meth c cX4_newName 2 RX4 D E b) (hr : meth.sig.returnType = (some .int)) {r0 : Int} {M0 : Mem} {M : Mem} {v1 : Int} (h : x_Reader_newName_B43 v1 M = some (r0, M0)) :
    xWX p l e 2 34 s m args below meth c 2 D E b (some (vI r0)) M0 M 43 [(0, vR b 3), (1, vI v1)] [] := by
  unfold x_Reader_newName_B43 at h
  refine r_aload_n (pc := 43) C 0 rfl rfl dX4_newName_43 ?_
  refine r_iconst (pc := 44) C dX4_newName_44 ?_
  obtain ⟨M4, hq4, h⟩ := bnd_inv h
  refine r_callV (pc := 45) (rest := []) (st1 := []) C (xExtOK σ b) [vI 2] (c_x_Reader_refuse l hq4) cl_RX4_65 x_s3 (by decide) rfl rfl rfl rfl ⟨Nat.le_of_ble_eq_true rfl, Nat.le_of_ble_eq_true rfl⟩ (Nat.le_of_ble_eq_true rfl) rfl rfl dX4_newName_45 ?_
  refine r_sub (lv' := [(0, vR b 3), (1, vI v1)]) [0, 1] rfl ?_
  exact w_x_Reader_newName_B48 C hr h
set_option maxHeartbeats 4000000 in
set_option maxRecDepth 20000 in
theorem w_x_Reader_newName_B14 (C : xCX σ p s m args meth c cX4_newName 2 RX4 D E b) (hr : meth.sig.returnType = (some .int)) {r0 : Int} {M0 : Mem} {M : Mem} (h : x_Reader_newName_B14 M = some (r0, M0)) :
    xWX p l e 2 34 s m args below meth c 2 D E b (some (vI r0)) M0 M 14 [(0, vR b 3)] [] := by
  unfold x_Reader_newName_B14 at h
  refine r_aload_n (pc := 14) C 0 rfl rfl dX4_newName_14 ?_
  obtain ⟨r2, hq2, h⟩ := bnd_inv h
  refine r_callV (pc := 15) (rest := []) (st1 := [vI r2]) C (xExtOK σ b) [] (c_x_Reader_value l hq2) cl_RX4_68 x_s3 (by decide) rfl rfl rfl rfl ⟨Nat.le_of_ble_eq_true rfl, Nat.le_of_ble_eq_true rfl⟩ (Nat.le_of_ble_eq_true rfl) rfl rfl dX4_newName_15 ?_
  refine r_istore_n (pc := 18) (lv' := [(1, vI r2), (0, vR b 3)]) C rfl dX4_newName_18 (by decide) rfl ?_
  refine r_aload_n (pc := 19) C 1 rfl rfl dX4_newName_19 ?_
  refine r_getR (pc := 20) C fl_RX4_12 x_s3 (by decide) x_kReader_0 x_r3_0 dX4_newName_20 ?_
  refine r_iload_n (pc := 23) C 0 rfl rfl dX4_newName_23 ?_
  obtain ⟨r3, hq3, h⟩ := bnd_inv h
  refine r_callV (pc := 24) (rest := []) (st1 := [vI r3]) C (xExtOK σ b) [vI r2] (c_x_Town_voiceOf l 4 x_m4 hq3) cl_RX4_175 x_s4 (by decide) rfl rfl rfl rfl ⟨Nat.le_of_ble_eq_true rfl, Nat.le_of_ble_eq_true rfl⟩ (Nat.le_of_ble_eq_true rfl) rfl rfl dX4_newName_24 ?_
  refine r_iconst (pc := 27) C dX4_newName_27 ?_
  refine r_icmp_ne (pc := 28) (tgt := 43) C h dX4_newName_28 (by decide) (fun hc28 h => ?_) (fun hc28 h => ?_)
  · refine r_sub (lv' := [(0, vR b 3), (1, vI r2)]) [1, 0] rfl ?_
    exact w_x_Reader_newName_B43 C hr h
  · refine r_aload_n (pc := 31) C 1 rfl rfl dX4_newName_31 ?_
    refine r_getR (pc := 32) C fl_RX4_12 x_s3 (by decide) x_kReader_0 x_r3_0 dX4_newName_32 ?_
    refine r_iload_n (pc := 35) C 0 rfl rfl dX4_newName_35 ?_
    obtain ⟨r5, hq5, h⟩ := bnd_inv h
    refine r_callV (pc := 36) (rest := []) (st1 := [vI r5]) C (xExtOK σ b) [vI r2] (c_x_Town_personOf l 4 x_m4 hq5) cl_RX4_179 x_s4 (by decide) rfl rfl rfl rfl ⟨Nat.le_of_ble_eq_true rfl, Nat.le_of_ble_eq_true rfl⟩ (Nat.le_of_ble_eq_true rfl) rfl rfl dX4_newName_36 ?_
    refine r_iconst (pc := 39) C dX4_newName_39 ?_
    refine r_icmp_eq (pc := 40) (tgt := 48) C h dX4_newName_40 (by decide) (fun hc40 h => ?_) (fun hc40 h => ?_)
    · refine r_sub (lv' := [(0, vR b 3), (1, vI r2)]) [1, 0] rfl ?_
      exact w_x_Reader_newName_B48 C hr h
    · refine r_sub (lv' := [(0, vR b 3), (1, vI r2)]) [1, 0] rfl ?_
      exact w_x_Reader_newName_B43 C hr h
set_option maxHeartbeats 4000000 in
set_option maxRecDepth 20000 in
theorem c_x_Reader_newName (l : Launch) {M : Mem} {r0 : Int} {M0 : Mem} (h : x_Reader_newName M = some (r0, M0)) : Ct l yX4_newName cX4_newName 2 (some .int) 2 34 vwCl xSh xN xRf (xExt σ) (fun b => [vR b 3]) M (fun b => (some (vI r0))) M0 := by
  refine Ct_of (xExtOK σ) (by decide) (fun b => Nat.le_of_ble_eq_true rfl) ?_
  intro p e s m args below meth c D E b C hr
  unfold x_Reader_newName at h
  refine (show xWX p l e 2 34 s m args below meth c 2 D E b (some (vI r0)) M0 M 0 [(0, vR b 3)] [] from ?_)
  refine r_aload_n (pc := 0) C 0 rfl rfl dX4_newName_0 ?_
  refine r_bipush (pc := 1) (j := 23) C (by decide +kernel) dX4_newName_1 ?_
  obtain ⟨r1, hq1, h⟩ := bnd_inv h
  refine r_callV (pc := 3) (rest := []) (st1 := [vB r1]) C (xExtOK σ b) [vI 23] (c_x_Reader_at l hq1) cl_RX4_47 x_s3 (by decide) rfl rfl rfl rfl ⟨Nat.le_of_ble_eq_true rfl, Nat.le_of_ble_eq_true rfl⟩ (Nat.le_of_ble_eq_true rfl) rfl rfl dX4_newName_3 ?_
  refine r_if_neB (pc := 6) (tgt := 14) C h dX4_newName_6 (by decide) (fun hc6 h => ?_) (fun hc6 h => ?_)
  · refine r_sub (lv' := [(0, vR b 3)]) [0] rfl ?_
    exact w_x_Reader_newName_B14 C hr h
  · refine r_aload_n (pc := 9) C 0 rfl rfl dX4_newName_9 ?_
    refine r_iconst (pc := 10) C dX4_newName_10 ?_
    obtain ⟨M6, hq6, h⟩ := bnd_inv h
    refine r_callV (pc := 11) (rest := []) (st1 := []) C (xExtOK σ b) [vI 1] (c_x_Reader_refuse l hq6) cl_RX4_65 x_s3 (by decide) rfl rfl rfl rfl ⟨Nat.le_of_ble_eq_true rfl, Nat.le_of_ble_eq_true rfl⟩ (Nat.le_of_ble_eq_true rfl) rfl rfl dX4_newName_11 ?_
    refine r_sub (lv' := [(0, vR b 3)]) [0] rfl ?_
    exact w_x_Reader_newName_B14 C hr h
set_option maxHeartbeats 4000000 in
set_option maxRecDepth 20000 in
theorem w_x_Reader_require_B13 (C : xCX σ p s m args meth c cX4_require 2 RX4 D E b) (hr : meth.sig.returnType = none) {M0 : Mem} {M : Mem} (h : x_Reader_require_B13 M = some M0) :
    xWX p l e 2 33 s m args below meth c 2 D E b none M0 M 13 [(0, vR b 3)] [] := by
  unfold x_Reader_require_B13 at h
  refine r_aload_n (pc := 13) C 0 rfl rfl dX4_require_13 ?_
  refine r_getI (pc := 14) C fl_RX4_36 x_s3 (by decide) x_kReader_1 dX4_require_14 ?_
  refine r_if_ne (pc := 17) (tgt := 30) C h dX4_require_17 (by decide) (fun hc17 h => ?_) (fun hc17 h => ?_)
  · have e := Option.some.inj h
    exact r_vret (pc := 30) C hr rfl e.symm dX4_require_30
  · refine r_aload_n (pc := 20) C 0 rfl rfl dX4_require_20 ?_
    refine r_dup (pc := 21) C rfl dX4_require_21 ?_
    refine r_getI (pc := 22) C fl_RX4_39 x_s3 (by decide) x_kReader_4 dX4_require_22 ?_
    refine r_iconst (pc := 25) C dX4_require_25 ?_
    refine r_iadd (pc := 26) C dX4_require_26 ?_
    obtain ⟨M_27, hM_27, h⟩ := lt_inv h
    refine r_putI (pc := 27) C fl_RX4_39 x_ft4 x_w4_4 x_s3 (by decide) x_kReader_4 hM_27 dX4_require_27 ?_
    have e := Option.some.inj h
    exact r_vret (pc := 30) C hr rfl e.symm dX4_require_30
set_option maxHeartbeats 4000000 in
set_option maxRecDepth 20000 in
theorem c_x_Reader_require (l : Launch) {x1 : Int} {M : Mem} {M0 : Mem} (h : x_Reader_require x1 M = some M0) : Ct l yX4_require cX4_require 2 none 2 33 vwCl xSh xN xRf (xExt σ) (fun b => [vR b 3, vI x1]) M (fun b => none) M0 := by
  refine Ct_of (xExtOK σ) (by decide) (fun b => Nat.le_of_ble_eq_true rfl) ?_
  intro p e s m args below meth c D E b C hr
  unfold x_Reader_require at h
  refine (show xWX p l e 2 33 s m args below meth c 2 D E b none M0 M 0 [(0, vR b 3), (1, vI x1)] [] from ?_)
  refine r_aload_n (pc := 0) C 0 rfl rfl dX4_require_0 ?_
  refine r_iload_n (pc := 1) C 1 rfl rfl dX4_require_1 ?_
  obtain ⟨r1, hq1, h⟩ := bnd_inv h
  refine r_callV (pc := 2) (rest := []) (st1 := [vB r1]) C (xExtOK σ b) [vI x1] (c_x_Reader_at l hq1) cl_RX4_47 x_s3 (by decide) rfl rfl rfl rfl ⟨Nat.le_of_ble_eq_true rfl, Nat.le_of_ble_eq_true rfl⟩ (Nat.le_of_ble_eq_true rfl) rfl rfl dX4_require_2 ?_
  refine r_if_neB (pc := 5) (tgt := 13) C h dX4_require_5 (by decide) (fun hc5 h => ?_) (fun hc5 h => ?_)
  · refine r_sub (lv' := [(0, vR b 3)]) [0] rfl ?_
    exact w_x_Reader_require_B13 C hr h
  · refine r_aload_n (pc := 8) C 0 rfl rfl dX4_require_8 ?_
    refine r_iconst (pc := 9) C dX4_require_9 ?_
    obtain ⟨M2, hq2, h⟩ := bnd_inv h
    refine r_callV (pc := 10) (rest := []) (st1 := []) C (xExtOK σ b) [vI 1] (c_x_Reader_refuse l hq2) cl_RX4_65 x_s3 (by decide) rfl rfl rfl rfl ⟨Nat.le_of_ble_eq_true rfl, Nat.le_of_ble_eq_true rfl⟩ (Nat.le_of_ble_eq_true rfl) rfl rfl dX4_require_10 ?_
    refine r_sub (lv' := [(0, vR b 3)]) [0] rfl ?_
    exact w_x_Reader_require_B13 C hr h
set_option maxHeartbeats 4000000 in
set_option maxRecDepth 20000 in
theorem w_x_Reader_readPerson_B20 (C : xCX σ p s m args meth c cX4_readPerson 5 RX4 D E b) (hr : meth.sig.returnType = none) {M0 : Mem} {M : Mem} {v1 : Int} (h : x_Reader_readPerson_B20 v1 M = some M0) :
    xWX p l e 3 56 s m args below meth c 5 D E b none M0 M 20 [(0, vR b 3), (1, vI v1)] [] := by
  unfold x_Reader_readPerson_B20 at h
  refine r_aload_n (pc := 20) C 0 rfl rfl dX4_readPerson_20 ?_
  refine r_iconst (pc := 21) C dX4_readPerson_21 ?_
  obtain ⟨M1, hq1, h⟩ := bnd_inv h
  refine r_callV (pc := 22) (rest := []) (st1 := []) C (xExtOK σ b) [vI 1] (c_x_Reader_require l hq1) cl_RX4_62 x_s3 (by decide) rfl rfl rfl rfl ⟨Nat.le_of_ble_eq_true rfl, Nat.le_of_ble_eq_true rfl⟩ (Nat.le_of_ble_eq_true rfl) rfl rfl dX4_readPerson_22 ?_
  refine r_aload_n (pc := 25) C 0 rfl rfl dX4_readPerson_25 ?_
  obtain ⟨r2, M2, hq2, h⟩ := bnd2_inv h
  refine r_callV (pc := 26) (rest := []) (st1 := [vI r2]) C (xExtOK σ b) [] (c_x_Reader_newName l hq2) cl_RX4_93 x_s3 (by decide) rfl rfl rfl rfl ⟨Nat.le_of_ble_eq_true rfl, Nat.le_of_ble_eq_true rfl⟩ (Nat.le_of_ble_eq_true rfl) rfl rfl dX4_readPerson_26 ?_
  refine r_istore_n (pc := 29) (lv' := [(2, vI r2), (0, vR b 3), (1, vI v1)]) C rfl dX4_readPerson_29 (by decide) rfl ?_
  refine r_aload_n (pc := 30) C 1 rfl rfl dX4_readPerson_30 ?_
  refine r_bipush (pc := 31) (j := 7) C (by decide +kernel) dX4_readPerson_31 ?_
  obtain ⟨M3, hq3, h⟩ := bnd_inv h
  refine r_callV (pc := 33) (rest := []) (st1 := []) C (xExtOK σ b) [vI 7] (c_x_Reader_require l hq3) cl_RX4_62 x_s3 (by decide) rfl rfl rfl rfl ⟨Nat.le_of_ble_eq_true rfl, Nat.le_of_ble_eq_true rfl⟩ (Nat.le_of_ble_eq_true rfl) rfl rfl dX4_readPerson_33 ?_
  refine r_aload_n (pc := 36) C 1 rfl rfl dX4_readPerson_36 ?_
  refine r_iconst (pc := 37) C dX4_readPerson_37 ?_
  refine r_bipush (pc := 38) (j := 9) C (by decide +kernel) dX4_readPerson_38 ?_
  obtain ⟨r4, M4, hq4, h⟩ := bnd2_inv h
  refine r_callV (pc := 40) (rest := []) (st1 := [vI r4]) C (xExtOK σ b) [vI 0, vI 9] (c_x_Reader_number l hq4) cl_RX4_83 x_s3 (by decide) rfl rfl rfl rfl ⟨Nat.le_of_ble_eq_true rfl, Nat.le_of_ble_eq_true rfl⟩ (Nat.le_of_ble_eq_true rfl) rfl rfl dX4_readPerson_40 ?_
  refine r_istore_n (pc := 43) (lv' := [(3, vI r4), (2, vI r2), (0, vR b 3), (1, vI v1)]) C rfl dX4_readPerson_43 (by decide) rfl ?_
  refine r_aload_n (pc := 44) C 2 rfl rfl dX4_readPerson_44 ?_
  refine r_bipush (pc := 45) (j := 8) C (by decide +kernel) dX4_readPerson_45 ?_
  obtain ⟨M5, hq5, h⟩ := bnd_inv h
  refine r_callV (pc := 47) (rest := []) (st1 := []) C (xExtOK σ b) [vI 8] (c_x_Reader_require l hq5) cl_RX4_62 x_s3 (by decide) rfl rfl rfl rfl ⟨Nat.le_of_ble_eq_true rfl, Nat.le_of_ble_eq_true rfl⟩ (Nat.le_of_ble_eq_true rfl) rfl rfl dX4_readPerson_47 ?_
  refine r_aload_n (pc := 50) C 2 rfl rfl dX4_readPerson_50 ?_
  refine r_iconst (pc := 51) C dX4_readPerson_51 ?_
  refine r_bipush (pc := 52) (j := 99) C (by decide +kernel) dX4_readPerson_52 ?_
  obtain ⟨r6, M6, hq6, h⟩ := bnd2_inv h
  refine r_callV (pc := 54) (rest := []) (st1 := [vI r6]) C (xExtOK σ b) [vI 0, vI 99] (c_x_Reader_number l hq6) cl_RX4_83 x_s3 (by decide) rfl rfl rfl rfl ⟨Nat.le_of_ble_eq_true rfl, Nat.le_of_ble_eq_true rfl⟩ (Nat.le_of_ble_eq_true rfl) rfl rfl dX4_readPerson_54 ?_
  refine r_istore (pc := 57) (lv' := [(4, vI r6), (3, vI r4), (2, vI r2), (0, vR b 3), (1, vI v1)]) C dX4_readPerson_57 (by decide) rfl ?_
  refine r_aload_n (pc := 59) C 3 rfl rfl dX4_readPerson_59 ?_
  refine r_getI (pc := 60) C fl_RX4_36 x_s3 (by decide) x_kReader_1 dX4_readPerson_60 ?_
  refine r_if_ne (pc := 63) (tgt := 72) C h dX4_readPerson_63 (by decide) (fun hc63 h => ?_) (fun hc63 h => ?_)
  · have e := Option.some.inj h
    exact r_vret (pc := 72) C hr rfl e.symm dX4_readPerson_72
  · refine r_iload_n (pc := 66) C 4 rfl rfl dX4_readPerson_66 ?_
    refine r_bipush (pc := 67) (j := 8) C (by decide +kernel) dX4_readPerson_67 ?_
    refine r_icmp_lt (pc := 69) (tgt := 73) C h dX4_readPerson_69 (by decide) (fun hc69 h => ?_) (fun hc69 h => ?_)
    · refine r_aload_n (pc := 73) C 3 rfl rfl dX4_readPerson_73 ?_
      refine r_getR (pc := 74) C fl_RX4_12 x_s3 (by decide) x_kReader_0 x_r3_0 dX4_readPerson_74 ?_
      refine r_getR (pc := 77) C fl_RX4_106 x_s4 (by decide) x_kTown_6 x_r4_6 dX4_readPerson_77 ?_
      refine r_iload_n (pc := 80) C 4 rfl rfl dX4_readPerson_80 ?_
      refine r_iload_n (pc := 81) C 2 rfl rfl dX4_readPerson_81 ?_
      obtain ⟨hi82, h⟩ := chk_inv h
      obtain ⟨M_82, hM_82, h⟩ := lt_inv h
      refine r_iast (pc := 82) C x_s7 (by decide) (by decide) hi82 rfl hM_82 dX4_readPerson_82 ?_
      refine r_aload_n (pc := 83) C 3 rfl rfl dX4_readPerson_83 ?_
      refine r_getR (pc := 84) C fl_RX4_12 x_s3 (by decide) x_kReader_0 x_r3_0 dX4_readPerson_84 ?_
      refine r_getR (pc := 87) C fl_RX4_109 x_s4 (by decide) x_kTown_7 x_r4_7 dX4_readPerson_87 ?_
      refine r_iload_n (pc := 90) C 4 rfl rfl dX4_readPerson_90 ?_
      refine r_iload_n (pc := 91) C 1 rfl rfl dX4_readPerson_91 ?_
      obtain ⟨hi92, h⟩ := chk_inv h
      obtain ⟨M_92, hM_92, h⟩ := lt_inv h
      refine r_iast (pc := 92) C x_s8 (by decide) (by decide) hi92 rfl hM_92 dX4_readPerson_92 ?_
      refine r_aload_n (pc := 93) C 3 rfl rfl dX4_readPerson_93 ?_
      refine r_getR (pc := 94) C fl_RX4_12 x_s3 (by decide) x_kReader_0 x_r3_0 dX4_readPerson_94 ?_
      refine r_getR (pc := 97) C fl_RX4_112 x_s4 (by decide) x_kTown_8 x_r4_8 dX4_readPerson_97 ?_
      refine r_iload_n (pc := 100) C 4 rfl rfl dX4_readPerson_100 ?_
      refine r_iload (pc := 101) C 0 rfl dX4_readPerson_101 ?_
      obtain ⟨hi103, h⟩ := chk_inv h
      obtain ⟨M_103, hM_103, h⟩ := lt_inv h
      refine r_iast (pc := 103) C x_s9 (by decide) (by decide) hi103 rfl hM_103 dX4_readPerson_103 ?_
      refine r_aload_n (pc := 104) C 3 rfl rfl dX4_readPerson_104 ?_
      refine r_getR (pc := 105) C fl_RX4_12 x_s3 (by decide) x_kReader_0 x_r3_0 dX4_readPerson_105 ?_
      refine r_dup (pc := 108) C rfl dX4_readPerson_108 ?_
      refine r_getI (pc := 109) C fl_RX4_103 x_s4 (by decide) x_kTown_1 dX4_readPerson_109 ?_
      refine r_iconst (pc := 112) C dX4_readPerson_112 ?_
      refine r_iadd (pc := 113) C dX4_readPerson_113 ?_
      obtain ⟨M_114, hM_114, h⟩ := lt_inv h
      refine r_putI (pc := 114) C fl_RX4_103 x_ft9 x_w9_1 x_s4 (by decide) x_kTown_1 hM_114 dX4_readPerson_114 ?_
      have e := Option.some.inj h
      exact r_vret (pc := 117) C hr rfl e.symm dX4_readPerson_117
    · have e := Option.some.inj h
      exact r_vret (pc := 72) C hr rfl e.symm dX4_readPerson_72
set_option maxHeartbeats 4000000 in
set_option maxRecDepth 20000 in
theorem c_x_Reader_readPerson (l : Launch) {M : Mem} {M0 : Mem} (h : x_Reader_readPerson M = some M0) : Ct l yX4_readPerson cX4_readPerson 5 none 3 56 vwCl xSh xN xRf (xExt σ) (fun b => [vR b 3]) M (fun b => none) M0 := by
  refine Ct_of (xExtOK σ) (by decide) (fun b => Nat.le_of_ble_eq_true rfl) ?_
  intro p e s m args below meth c D E b C hr
  unfold x_Reader_readPerson at h
  refine (show xWX p l e 3 56 s m args below meth c 5 D E b none M0 M 0 [(0, vR b 3)] [] from ?_)
  refine r_aload_n (pc := 0) C 0 rfl rfl dX4_readPerson_0 ?_
  refine r_getR (pc := 1) C fl_RX4_12 x_s3 (by decide) x_kReader_0 x_r3_0 dX4_readPerson_1 ?_
  refine r_getI (pc := 4) C fl_RX4_103 x_s4 (by decide) x_kTown_1 dX4_readPerson_4 ?_
  obtain ⟨v1_7, hv1_7, h⟩ := lt_inv h
  refine r_topI hv1_7 ?_
  refine r_istore_n (pc := 7) (lv' := [(1, vI v1_7), (0, vR b 3)]) C rfl dX4_readPerson_7 (by decide) rfl ?_
  refine r_iload_n (pc := 8) C 0 rfl rfl dX4_readPerson_8 ?_
  refine r_bipush (pc := 9) (j := 8) C (by decide +kernel) dX4_readPerson_9 ?_
  refine r_icmp_lt (pc := 11) (tgt := 20) C h dX4_readPerson_11 (by decide) (fun hc11 h => ?_) (fun hc11 h => ?_)
  · refine r_sub (lv' := [(0, vR b 3), (1, vI v1_7)]) [1, 0] rfl ?_
    exact w_x_Reader_readPerson_B20 C hr h
  · refine r_aload_n (pc := 14) C 1 rfl rfl dX4_readPerson_14 ?_
    refine r_bipush (pc := 15) (j := 6) C (by decide +kernel) dX4_readPerson_15 ?_
    obtain ⟨M7, hq7, h⟩ := bnd_inv h
    refine r_callV (pc := 17) (rest := []) (st1 := []) C (xExtOK σ b) [vI 6] (c_x_Reader_refuse l hq7) cl_RX4_65 x_s3 (by decide) rfl rfl rfl rfl ⟨Nat.le_of_ble_eq_true rfl, Nat.le_of_ble_eq_true rfl⟩ (Nat.le_of_ble_eq_true rfl) rfl rfl dX4_readPerson_17 ?_
    refine r_sub (lv' := [(0, vR b 3), (1, vI v1_7)]) [1, 0] rfl ?_
    exact w_x_Reader_readPerson_B20 C hr h
set_option maxHeartbeats 4000000 in
set_option maxRecDepth 20000 in
theorem w_x_Reader_enter_B14 (C : xCX σ p s m args meth c cX4_enter 1 RX4 D E b) (hr : meth.sig.returnType = (some .boolean)) {r0 : Bool} {M0 : Mem} {M : Mem} (h : x_Reader_enter_B14 M = some (r0, M0)) :
    xWX p l e 2 33 s m args below meth c 1 D E b (some (vB r0)) M0 M 14 [(0, vR b 3)] [] := by
  unfold x_Reader_enter_B14 at h
  refine r_aload_n (pc := 14) C 0 rfl rfl dX4_enter_14 ?_
  refine r_getI (pc := 15) C fl_RX4_36 x_s3 (by decide) x_kReader_1 dX4_enter_15 ?_
  refine r_if_eq (pc := 18) (tgt := 23) C h dX4_enter_18 (by decide) (fun hc18 h => ?_) (fun hc18 h => ?_)
  · refine r_aload_n (pc := 23) C 0 rfl rfl dX4_enter_23 ?_
    refine r_dup (pc := 24) C rfl dX4_enter_24 ?_
    refine r_getI (pc := 25) C fl_RX4_42 x_s3 (by decide) x_kReader_5 dX4_enter_25 ?_
    refine r_iconst (pc := 28) C dX4_enter_28 ?_
    refine r_iadd (pc := 29) C dX4_enter_29 ?_
    obtain ⟨M_30, hM_30, h⟩ := lt_inv h
    refine r_putI (pc := 30) C fl_RX4_42 x_ft4 x_w4_5 x_s3 (by decide) x_kReader_5 hM_30 dX4_enter_30 ?_
    refine r_aload_n (pc := 33) C 0 rfl rfl dX4_enter_33 ?_
    refine r_dup (pc := 34) C rfl dX4_enter_34 ?_
    refine r_getI (pc := 35) C fl_RX4_39 x_s3 (by decide) x_kReader_4 dX4_enter_35 ?_
    refine r_iconst (pc := 38) C dX4_enter_38 ?_
    refine r_iadd (pc := 39) C dX4_enter_39 ?_
    obtain ⟨M_40, hM_40, h⟩ := lt_inv h
    refine r_putI (pc := 40) C fl_RX4_39 x_ft4 x_w4_4 x_s3 (by decide) x_kReader_4 hM_40 dX4_enter_40 ?_
    refine r_iconst (pc := 43) C dX4_enter_43 ?_
    have e := Option.some.inj h
    exact r_zret (pc := 44) C hr (Or.inr rfl) (congrArg (fun z => some (vB z)) (Prod.mk.inj e).1.symm) (Prod.mk.inj e).2.symm dX4_enter_44
  · refine r_iconst (pc := 21) C dX4_enter_21 ?_
    have e := Option.some.inj h
    exact r_zret (pc := 22) C hr (Or.inl rfl) (congrArg (fun z => some (vB z)) (Prod.mk.inj e).1.symm) (Prod.mk.inj e).2.symm dX4_enter_22
set_option maxHeartbeats 4000000 in
set_option maxRecDepth 20000 in
theorem c_x_Reader_enter (l : Launch) {M : Mem} {r0 : Bool} {M0 : Mem} (h : x_Reader_enter M = some (r0, M0)) : Ct l yX4_enter cX4_enter 1 (some .boolean) 2 33 vwCl xSh xN xRf (xExt σ) (fun b => [vR b 3]) M (fun b => (some (vB r0))) M0 := by
  refine Ct_of (xExtOK σ) (by decide) (fun b => Nat.le_of_ble_eq_true rfl) ?_
  intro p e s m args below meth c D E b C hr
  unfold x_Reader_enter at h
  refine (show xWX p l e 2 33 s m args below meth c 1 D E b (some (vB r0)) M0 M 0 [(0, vR b 3)] [] from ?_)
  refine r_aload_n (pc := 0) C 0 rfl rfl dX4_enter_0 ?_
  refine r_getI (pc := 1) C fl_RX4_42 x_s3 (by decide) x_kReader_5 dX4_enter_1 ?_
  refine r_bipush (pc := 4) (j := 7) C (by decide +kernel) dX4_enter_4 ?_
  refine r_icmp_lt (pc := 6) (tgt := 14) C h dX4_enter_6 (by decide) (fun hc6 h => ?_) (fun hc6 h => ?_)
  · refine r_sub (lv' := [(0, vR b 3)]) [0] rfl ?_
    exact w_x_Reader_enter_B14 C hr h
  · refine r_aload_n (pc := 9) C 0 rfl rfl dX4_enter_9 ?_
    refine r_iconst (pc := 10) C dX4_enter_10 ?_
    obtain ⟨M1, hq1, h⟩ := bnd_inv h
    refine r_callV (pc := 11) (rest := []) (st1 := []) C (xExtOK σ b) [vI 5] (c_x_Reader_refuse l hq1) cl_RX4_65 x_s3 (by decide) rfl rfl rfl rfl ⟨Nat.le_of_ble_eq_true rfl, Nat.le_of_ble_eq_true rfl⟩ (Nat.le_of_ble_eq_true rfl) rfl rfl dX4_enter_11 ?_
    refine r_sub (lv' := [(0, vR b 3)]) [0] rfl ?_
    exact w_x_Reader_enter_B14 C hr h
set_option maxHeartbeats 4000000 in
set_option maxRecDepth 20000 in
theorem c_x_Reader_isAsked (l : Launch) {x1 : Int} {M : Mem} {r0 : Bool} (h : x_Reader_isAsked x1 M = some r0) : Ct l yX4_isAsked cX4_isAsked 2 (some .boolean) 1 12 vwCl xSh xN xRf (xExt σ) (fun b => [vR b 3, vI x1]) M (fun b => (some (vB r0))) M := by
  refine Ct_of (xExtOK σ) (by decide) (fun b => Nat.le_of_ble_eq_true rfl) ?_
  intro p e s m args below meth c D E b C hr
  unfold x_Reader_isAsked at h
  refine (show xWX p l e 1 12 s m args below meth c 2 D E b (some (vB r0)) M M 0 [(0, vR b 3), (1, vI x1)] [] from ?_)
  refine r_iload_n (pc := 0) C 1 rfl rfl dX4_isAsked_0 ?_
  refine ite_split h (fun hc1_7 h => ?_) (fun hn1_7 h => ?_)
  · refine r_tabI (pc := 1) (tgt := 67) C hc1_7 (by decide) (by decide) rfl dX4_isAsked_1 (by decide) ?_
    refine r_aload_n (pc := 67) C 0 rfl rfl dX4_isAsked_67 ?_
    refine r_getI (pc := 68) C fl_RX4_138 x_s3 (by decide) x_kReader_6 dX4_isAsked_68 ?_
    refine r_if_eq (pc := 71) (tgt := 82) C h dX4_isAsked_71 (by decide) (fun hc71 h => ?_) (fun hc71 h => ?_)
    · refine r_iconst (pc := 82) C dX4_isAsked_82 ?_
      refine r_goto (pc := 83) (tgt := 87) C dX4_isAsked_83 (by decide) ?_
      have e := Option.some.inj h
      exact r_zret (pc := 87) C hr (Or.inr rfl) (congrArg (fun z => some (vB z)) e.symm) rfl dX4_isAsked_87
    · refine r_aload_n (pc := 74) C 0 rfl rfl dX4_isAsked_74 ?_
      refine r_getI (pc := 75) C fl_RX4_138 x_s3 (by decide) x_kReader_6 dX4_isAsked_75 ?_
      refine r_iconst (pc := 78) C dX4_isAsked_78 ?_
      refine r_icmp_ne (pc := 79) (tgt := 86) C h dX4_isAsked_79 (by decide) (fun hc79 h => ?_) (fun hc79 h => ?_)
      · refine r_iconst (pc := 86) C dX4_isAsked_86 ?_
        have e := Option.some.inj h
        exact r_zret (pc := 87) C hr (Or.inl rfl) (congrArg (fun z => some (vB z)) e.symm) rfl dX4_isAsked_87
      · refine r_iconst (pc := 82) C dX4_isAsked_82 ?_
        refine r_goto (pc := 83) (tgt := 87) C dX4_isAsked_83 (by decide) ?_
        have e := Option.some.inj h
        exact r_zret (pc := 87) C hr (Or.inr rfl) (congrArg (fun z => some (vB z)) e.symm) rfl dX4_isAsked_87
  refine ite_split h (fun hc1_8 h => ?_) (fun hn1_8 h => ?_)
  · refine r_tabI (pc := 1) (tgt := 102) C hc1_8 (by decide) (by decide) rfl dX4_isAsked_1 (by decide) ?_
    refine r_aload_n (pc := 102) C 0 rfl rfl dX4_isAsked_102 ?_
    refine r_getI (pc := 103) C fl_RX4_138 x_s3 (by decide) x_kReader_6 dX4_isAsked_103 ?_
    refine r_iconst (pc := 106) C dX4_isAsked_106 ?_
    refine r_icmp_ne (pc := 107) (tgt := 114) C h dX4_isAsked_107 (by decide) (fun hc107 h => ?_) (fun hc107 h => ?_)
    · refine r_iconst (pc := 114) C dX4_isAsked_114 ?_
      have e := Option.some.inj h
      exact r_zret (pc := 115) C hr (Or.inl rfl) (congrArg (fun z => some (vB z)) e.symm) rfl dX4_isAsked_115
    · refine r_iconst (pc := 110) C dX4_isAsked_110 ?_
      refine r_goto (pc := 111) (tgt := 115) C dX4_isAsked_111 (by decide) ?_
      have e := Option.some.inj h
      exact r_zret (pc := 115) C hr (Or.inr rfl) (congrArg (fun z => some (vB z)) e.symm) rfl dX4_isAsked_115
  refine ite_split h (fun hc1_10 h => ?_) (fun hn1_10 h => ?_)
  · refine r_tabI (pc := 1) (tgt := 52) C hc1_10 (by decide) (by decide) rfl dX4_isAsked_1 (by decide) ?_
    refine r_iconst (pc := 52) C dX4_isAsked_52 ?_
    have e := Option.some.inj h
    exact r_zret (pc := 53) C hr (Or.inr rfl) (congrArg (fun z => some (vB z)) e.symm) rfl dX4_isAsked_53
  refine ite_split h (fun hc1_11 h => ?_) (fun hn1_11 h => ?_)
  · refine r_tabI (pc := 1) (tgt := 52) C hc1_11 (by decide) (by decide) rfl dX4_isAsked_1 (by decide) ?_
    refine r_iconst (pc := 52) C dX4_isAsked_52 ?_
    have e := Option.some.inj h
    exact r_zret (pc := 53) C hr (Or.inr rfl) (congrArg (fun z => some (vB z)) e.symm) rfl dX4_isAsked_53
  refine ite_split h (fun hc1_12 h => ?_) (fun hn1_12 h => ?_)
  · refine r_tabI (pc := 1) (tgt := 52) C hc1_12 (by decide) (by decide) rfl dX4_isAsked_1 (by decide) ?_
    refine r_iconst (pc := 52) C dX4_isAsked_52 ?_
    have e := Option.some.inj h
    exact r_zret (pc := 53) C hr (Or.inr rfl) (congrArg (fun z => some (vB z)) e.symm) rfl dX4_isAsked_53
  refine ite_split h (fun hc1_13 h => ?_) (fun hn1_13 h => ?_)
  · refine r_tabI (pc := 1) (tgt := 52) C hc1_13 (by decide) (by decide) rfl dX4_isAsked_1 (by decide) ?_
    refine r_iconst (pc := 52) C dX4_isAsked_52 ?_
    have e := Option.some.inj h
    exact r_zret (pc := 53) C hr (Or.inr rfl) (congrArg (fun z => some (vB z)) e.symm) rfl dX4_isAsked_53
  refine ite_split h (fun hc1_14 h => ?_) (fun hn1_14 h => ?_)
  · refine r_tabI (pc := 1) (tgt := 54) C hc1_14 (by decide) (by decide) rfl dX4_isAsked_1 (by decide) ?_
    refine r_aload_n (pc := 54) C 0 rfl rfl dX4_isAsked_54 ?_
    refine r_getI (pc := 55) C fl_RX4_138 x_s3 (by decide) x_kReader_6 dX4_isAsked_55 ?_
    refine r_if_ne (pc := 58) (tgt := 65) C h dX4_isAsked_58 (by decide) (fun hc58 h => ?_) (fun hc58 h => ?_)
    · refine r_iconst (pc := 65) C dX4_isAsked_65 ?_
      have e := Option.some.inj h
      exact r_zret (pc := 66) C hr (Or.inl rfl) (congrArg (fun z => some (vB z)) e.symm) rfl dX4_isAsked_66
    · refine r_iconst (pc := 61) C dX4_isAsked_61 ?_
      refine r_goto (pc := 62) (tgt := 66) C dX4_isAsked_62 (by decide) ?_
      have e := Option.some.inj h
      exact r_zret (pc := 66) C hr (Or.inr rfl) (congrArg (fun z => some (vB z)) e.symm) rfl dX4_isAsked_66
  refine ite_split h (fun hc1_15 h => ?_) (fun hn1_15 h => ?_)
  · refine r_tabI (pc := 1) (tgt := 88) C hc1_15 (by decide) (by decide) rfl dX4_isAsked_1 (by decide) ?_
    refine r_aload_n (pc := 88) C 0 rfl rfl dX4_isAsked_88 ?_
    refine r_getI (pc := 89) C fl_RX4_138 x_s3 (by decide) x_kReader_6 dX4_isAsked_89 ?_
    refine r_iconst (pc := 92) C dX4_isAsked_92 ?_
    refine r_icmp_ne (pc := 93) (tgt := 100) C h dX4_isAsked_93 (by decide) (fun hc93 h => ?_) (fun hc93 h => ?_)
    · refine r_iconst (pc := 100) C dX4_isAsked_100 ?_
      have e := Option.some.inj h
      exact r_zret (pc := 101) C hr (Or.inl rfl) (congrArg (fun z => some (vB z)) e.symm) rfl dX4_isAsked_101
    · refine r_iconst (pc := 96) C dX4_isAsked_96 ?_
      refine r_goto (pc := 97) (tgt := 101) C dX4_isAsked_97 (by decide) ?_
      have e := Option.some.inj h
      exact r_zret (pc := 101) C hr (Or.inr rfl) (congrArg (fun z => some (vB z)) e.symm) rfl dX4_isAsked_101
  rcases Classical.em (w32 x1 = 9) with hg1_9 | hg1_9
  · refine r_tabI (pc := 1) (tgt := 116) C hg1_9 (by decide) (by decide) rfl dX4_isAsked_1 (by decide) ?_
    refine r_iconst (pc := 116) C dX4_isAsked_116 ?_
    have e := Option.some.inj h
    exact r_zret (pc := 117) C hr (Or.inl rfl) (congrArg (fun z => some (vB z)) e.symm) rfl dX4_isAsked_117
  refine r_tabO (pc := 1) (tgt := 116) C (by have hx := w32_rng x1; omega) dX4_isAsked_1 (by decide) ?_
  refine r_iconst (pc := 116) C dX4_isAsked_116 ?_
  have e := Option.some.inj h
  exact r_zret (pc := 117) C hr (Or.inl rfl) (congrArg (fun z => some (vB z)) e.symm) rfl dX4_isAsked_117
set_option maxHeartbeats 4000000 in
set_option maxRecDepth 20000 in
theorem c_x_Rules_add (l : Launch) (th : Nat) (hth : th ∈ xI_Rules) {x1 : Int} {M : Mem} {M0 : Mem} (h : x_Rules_add th x1 M = some M0) : Ct l yX5_add cX5_add 2 none 1 12 vwCl xSh xN xRf (xExt σ) (fun b => [vR b th, vI x1]) M (fun b => none) M0 := by
  refine Ct_of (xExtOK σ) (by decide) (fun b => Nat.le_of_ble_eq_true rfl) ?_
  intro p e s m args below meth c D E b C hr
  unfold x_Rules_add at h
  refine (show xWX p l e 1 12 s m args below meth c 2 D E b none M0 M 0 [(0, vR b th), (1, vI x1)] [] from ?_)
  refine r_aload_n (pc := 0) C 0 rfl rfl dX5_add_0 ?_
  refine r_getI (pc := 1) C fl_RX5_29 (x_sI_Rules hth) (x_nI_Rules hth) x_kRules_5 dX5_add_1 ?_
  refine r_aload_n (pc := 4) C 0 rfl rfl dX5_add_4 ?_
  refine r_getR (pc := 5) C fl_RX5_17 (x_sI_Rules hth) (x_nI_Rules hth) x_kRules_1 (x_rI_Rules_1 hth) dX5_add_5 ?_
  refine r_alen (pc := 8) C (x_aI_Rules_1 hth) (x_bI_Rules_1 hth) dX5_add_8 ?_
  refine r_icmp_ge (pc := 9) (tgt := 32) C h dX5_add_9 (by decide) (fun hc9 h => ?_) (fun hc9 h => ?_)
  · have e := Option.some.inj h
    exact r_vret (pc := 32) C hr rfl e.symm dX5_add_32
  · refine r_aload_n (pc := 12) C 0 rfl rfl dX5_add_12 ?_
    refine r_getR (pc := 13) C fl_RX5_17 (x_sI_Rules hth) (x_nI_Rules hth) x_kRules_1 (x_rI_Rules_1 hth) dX5_add_13 ?_
    refine r_aload_n (pc := 16) C 0 rfl rfl dX5_add_16 ?_
    refine r_getI (pc := 17) C fl_RX5_29 (x_sI_Rules hth) (x_nI_Rules hth) x_kRules_5 dX5_add_17 ?_
    refine r_iload_n (pc := 20) C 1 rfl rfl dX5_add_20 ?_
    obtain ⟨hi21, h⟩ := chk_inv h
    obtain ⟨M_21, hM_21, h⟩ := lt_inv h
    refine r_iast (pc := 21) C (x_aI_Rules_1 hth) (x_bI_Rules_1 hth) (by decide) hi21 rfl hM_21 dX5_add_21 ?_
    refine r_aload_n (pc := 22) C 0 rfl rfl dX5_add_22 ?_
    refine r_dup (pc := 23) C rfl dX5_add_23 ?_
    refine r_getI (pc := 24) C fl_RX5_29 (x_sI_Rules hth) (x_nI_Rules hth) x_kRules_5 dX5_add_24 ?_
    refine r_iconst (pc := 27) C dX5_add_27 ?_
    refine r_iadd (pc := 28) C dX5_add_28 ?_
    obtain ⟨M_29, hM_29, h⟩ := lt_inv h
    refine r_putI (pc := 29) C fl_RX5_29 x_ft5 x_w5_5 (x_sI_Rules hth) (x_nI_Rules hth) x_kRules_5 hM_29 dX5_add_29 ?_
    have e := Option.some.inj h
    exact r_vret (pc := 32) C hr rfl e.symm dX5_add_32
set_option maxHeartbeats 4000000 in
set_option maxRecDepth 20000 in
theorem c_x_Rules_addNumber (l : Launch) (th : Nat) (hth : th ∈ xI_Rules) {x1 : Int} {M : Mem} {M0 : Mem} (h : x_Rules_addNumber th x1 M = some M0) : Ct l yX5_addNumber cX5_addNumber 2 none 2 33 vwCl xSh xN xRf (xExt σ) (fun b => [vR b th, vI x1]) M (fun b => none) M0 := by
  refine Ct_of (xExtOK σ) (by decide) (fun b => Nat.le_of_ble_eq_true rfl) ?_
  intro p e s m args below meth c D E b C hr
  unfold x_Rules_addNumber at h
  refine (show xWX p l e 2 33 s m args below meth c 2 D E b none M0 M 0 [(0, vR b th), (1, vI x1)] [] from ?_)
  refine r_aload_n (pc := 0) C 0 rfl rfl dX5_addNumber_0 ?_
  refine r_iload_n (pc := 1) C 1 rfl rfl dX5_addNumber_1 ?_
  obtain ⟨M1, hq1, h⟩ := bnd_inv h
  refine r_callV (pc := 2) (rest := []) (st1 := []) C (xExtOK σ b) [vI x1] (c_x_Rules_add l th hth hq1) cl_RX5_45 (x_sI_Rules hth) (x_nI_Rules hth) rfl rfl rfl rfl ⟨Nat.le_of_ble_eq_true rfl, Nat.le_of_ble_eq_true rfl⟩ (Nat.le_of_ble_eq_true rfl) rfl rfl dX5_addNumber_2 ?_
  have e := Option.some.inj h
  exact r_vret (pc := 5) C hr rfl e.symm dX5_addNumber_5
set_option maxHeartbeats 4000000 in
set_option maxRecDepth 20000 in
theorem c_x_Rules_addSign (l : Launch) (th : Nat) (hth : th ∈ xI_Rules) {x1 : Int} {M : Mem} {M0 : Mem} (h : x_Rules_addSign th x1 M = some M0) : Ct l yX5_addSign cX5_addSign 2 none 2 33 vwCl xSh xN xRf (xExt σ) (fun b => [vR b th, vI x1]) M (fun b => none) M0 := by
  refine Ct_of (xExtOK σ) (by decide) (fun b => Nat.le_of_ble_eq_true rfl) ?_
  intro p e s m args below meth c D E b C hr
  unfold x_Rules_addSign at h
  refine (show xWX p l e 2 33 s m args below meth c 2 D E b none M0 M 0 [(0, vR b th), (1, vI x1)] [] from ?_)
  refine r_aload_n (pc := 0) C 0 rfl rfl dX5_addSign_0 ?_
  refine r_sipush (pc := 1) (j := 20000) C (by decide +kernel) dX5_addSign_1 ?_
  refine r_iload_n (pc := 4) C 1 rfl rfl dX5_addSign_4 ?_
  refine r_iadd (pc := 5) C dX5_addSign_5 ?_
  obtain ⟨M1, hq1, h⟩ := bnd_inv h
  refine r_callV (pc := 6) (rest := []) (st1 := []) C (xExtOK σ b) [vI (20000 + x1)] (c_x_Rules_add l th hth hq1) cl_RX5_45 (x_sI_Rules hth) (x_nI_Rules hth) rfl rfl rfl rfl ⟨Nat.le_of_ble_eq_true rfl, Nat.le_of_ble_eq_true rfl⟩ (Nat.le_of_ble_eq_true rfl) rfl rfl dX5_addSign_6 ?_
  have e := Option.some.inj h
  exact r_vret (pc := 9) C hr rfl e.symm dX5_addSign_9
set_option maxHeartbeats 4000000 in
set_option maxRecDepth 20000 in
theorem c_x_Rules_addFact (l : Launch) (th : Nat) (hth : th ∈ xI_Rules) {x1 : Int} {M : Mem} {M0 : Mem} (h : x_Rules_addFact th x1 M = some M0) : Ct l yX5_addFact cX5_addFact 2 none 2 33 vwCl xSh xN xRf (xExt σ) (fun b => [vR b th, vI x1]) M (fun b => none) M0 := by
  refine Ct_of (xExtOK σ) (by decide) (fun b => Nat.le_of_ble_eq_true rfl) ?_
  intro p e s m args below meth c D E b C hr
  unfold x_Rules_addFact at h
  refine (show xWX p l e 2 33 s m args below meth c 2 D E b none M0 M 0 [(0, vR b th), (1, vI x1)] [] from ?_)
  refine r_aload_n (pc := 0) C 0 rfl rfl dX5_addFact_0 ?_
  refine r_sipush (pc := 1) (j := 10000) C (by decide +kernel) dX5_addFact_1 ?_
  refine r_iload_n (pc := 4) C 1 rfl rfl dX5_addFact_4 ?_
  refine r_iadd (pc := 5) C dX5_addFact_5 ?_
  obtain ⟨M1, hq1, h⟩ := bnd_inv h
  refine r_callV (pc := 6) (rest := []) (st1 := []) C (xExtOK σ b) [vI (10000 + x1)] (c_x_Rules_add l th hth hq1) cl_RX5_45 (x_sI_Rules hth) (x_nI_Rules hth) rfl rfl rfl rfl ⟨Nat.le_of_ble_eq_true rfl, Nat.le_of_ble_eq_true rfl⟩ (Nat.le_of_ble_eq_true rfl) rfl rfl dX5_addFact_6 ?_
  have e := Option.some.inj h
  exact r_vret (pc := 9) C hr rfl e.symm dX5_addFact_9
set_option maxHeartbeats 4000000 in
set_option maxRecDepth 20000 in
theorem c_x_Rules_isTold (l : Launch) (th : Nat) (hth : th ∈ xI_Rules) {x1 : Int} {M : Mem} {r0 : Bool} (h : x_Rules_isTold th x1 M = some r0) : Ct l yX5_isTold cX5_isTold 2 (some .boolean) 1 12 vwCl xSh xN xRf (xExt σ) (fun b => [vR b th, vI x1]) M (fun b => (some (vB r0))) M := by
  refine Ct_of (xExtOK σ) (by decide) (fun b => Nat.le_of_ble_eq_true rfl) ?_
  intro p e s m args below meth c D E b C hr
  unfold x_Rules_isTold at h
  refine (show xWX p l e 1 12 s m args below meth c 2 D E b (some (vB r0)) M M 0 [(0, vR b th), (1, vI x1)] [] from ?_)
  refine r_iload_n (pc := 0) C 1 rfl rfl dX5_isTold_0 ?_
  refine r_if_lt (pc := 1) (tgt := 28) C h dX5_isTold_1 (by decide) (fun hc1 h => ?_) (fun hc1 h => ?_)
  · refine r_iconst (pc := 28) C dX5_isTold_28 ?_
    have e := Option.some.inj h
    exact r_zret (pc := 29) C hr (Or.inl rfl) (congrArg (fun z => some (vB z)) e.symm) rfl dX5_isTold_29
  · refine r_iload_n (pc := 4) C 1 rfl rfl dX5_isTold_4 ?_
    refine r_iconst (pc := 5) C dX5_isTold_5 ?_
    refine r_icmp_ge (pc := 6) (tgt := 28) C h dX5_isTold_6 (by decide) (fun hc6 h => ?_) (fun hc6 h => ?_)
    · refine r_iconst (pc := 28) C dX5_isTold_28 ?_
      have e := Option.some.inj h
      exact r_zret (pc := 29) C hr (Or.inl rfl) (congrArg (fun z => some (vB z)) e.symm) rfl dX5_isTold_29
    · refine r_aload_n (pc := 9) C 0 rfl rfl dX5_isTold_9 ?_
      refine r_getR (pc := 10) C fl_RX5_23 (x_sI_Rules hth) (x_nI_Rules hth) x_kRules_3 (x_rI_Rules_3 hth) dX5_isTold_10 ?_
      refine r_iload_n (pc := 13) C 1 rfl rfl dX5_isTold_13 ?_
      obtain ⟨hi14, h⟩ := chk_inv h
      refine r_iald (pc := 14) C (x_aI_Rules_3 hth) (x_bI_Rules_3 hth) (by decide) hi14 rfl dX5_isTold_14 ?_
      refine r_aload_n (pc := 15) C 0 rfl rfl dX5_isTold_15 ?_
      refine r_getR (pc := 16) C fl_RX5_20 (x_sI_Rules hth) (x_nI_Rules hth) x_kRules_2 (x_rI_Rules_2 hth) dX5_isTold_16 ?_
      refine r_iload_n (pc := 19) C 1 rfl rfl dX5_isTold_19 ?_
      obtain ⟨hi20, h⟩ := chk_inv h
      refine r_iald (pc := 20) C (x_aI_Rules_2 hth) (x_bI_Rules_2 hth) (by decide) hi20 rfl dX5_isTold_20 ?_
      refine r_icmp_le (pc := 21) (tgt := 28) C h dX5_isTold_21 (by decide) (fun hc21 h => ?_) (fun hc21 h => ?_)
      · refine r_iconst (pc := 28) C dX5_isTold_28 ?_
        have e := Option.some.inj h
        exact r_zret (pc := 29) C hr (Or.inl rfl) (congrArg (fun z => some (vB z)) e.symm) rfl dX5_isTold_29
      · refine r_iconst (pc := 24) C dX5_isTold_24 ?_
        refine r_goto (pc := 25) (tgt := 29) C dX5_isTold_25 (by decide) ?_
        have e := Option.some.inj h
        exact r_zret (pc := 29) C hr (Or.inr rfl) (congrArg (fun z => some (vB z)) e.symm) rfl dX5_isTold_29
set_option maxHeartbeats 4000000 in
set_option maxRecDepth 20000 in
theorem c_x_Rules_start (l : Launch) (th : Nat) (hth : th ∈ xI_Rules) {x1 : Int} {M : Mem} {M0 : Mem} (h : x_Rules_start th x1 M = some M0) : Ct l yX5_start cX5_start 2 none 1 12 vwCl xSh xN xRf (xExt σ) (fun b => [vR b th, vI x1]) M (fun b => none) M0 := by
  refine Ct_of (xExtOK σ) (by decide) (fun b => Nat.le_of_ble_eq_true rfl) ?_
  intro p e s m args below meth c D E b C hr
  unfold x_Rules_start at h
  refine (show xWX p l e 1 12 s m args below meth c 2 D E b none M0 M 0 [(0, vR b th), (1, vI x1)] [] from ?_)
  refine r_iload_n (pc := 0) C 1 rfl rfl dX5_start_0 ?_
  refine r_if_lt (pc := 1) (tgt := 19) C h dX5_start_1 (by decide) (fun hc1 h => ?_) (fun hc1 h => ?_)
  · have e := Option.some.inj h
    exact r_vret (pc := 19) C hr rfl e.symm dX5_start_19
  · refine r_iload_n (pc := 4) C 1 rfl rfl dX5_start_4 ?_
    refine r_iconst (pc := 5) C dX5_start_5 ?_
    refine r_icmp_ge (pc := 6) (tgt := 19) C h dX5_start_6 (by decide) (fun hc6 h => ?_) (fun hc6 h => ?_)
    · have e := Option.some.inj h
      exact r_vret (pc := 19) C hr rfl e.symm dX5_start_19
    · refine r_aload_n (pc := 9) C 0 rfl rfl dX5_start_9 ?_
      refine r_getR (pc := 10) C fl_RX5_20 (x_sI_Rules hth) (x_nI_Rules hth) x_kRules_2 (x_rI_Rules_2 hth) dX5_start_10 ?_
      refine r_iload_n (pc := 13) C 1 rfl rfl dX5_start_13 ?_
      refine r_aload_n (pc := 14) C 0 rfl rfl dX5_start_14 ?_
      refine r_getI (pc := 15) C fl_RX5_29 (x_sI_Rules hth) (x_nI_Rules hth) x_kRules_5 dX5_start_15 ?_
      obtain ⟨hi18, h⟩ := chk_inv h
      obtain ⟨M_18, hM_18, h⟩ := lt_inv h
      refine r_iast (pc := 18) C (x_aI_Rules_2 hth) (x_bI_Rules_2 hth) (by decide) hi18 rfl hM_18 dX5_start_18 ?_
      have e := Option.some.inj h
      exact r_vret (pc := 19) C hr rfl e.symm dX5_start_19
set_option maxHeartbeats 4000000 in
set_option maxRecDepth 20000 in
theorem c_x_Rules_stop (l : Launch) (th : Nat) (hth : th ∈ xI_Rules) {x1 : Int} {M : Mem} {M0 : Mem} (h : x_Rules_stop th x1 M = some M0) : Ct l yX5_stop cX5_stop 2 none 1 12 vwCl xSh xN xRf (xExt σ) (fun b => [vR b th, vI x1]) M (fun b => none) M0 := by
  refine Ct_of (xExtOK σ) (by decide) (fun b => Nat.le_of_ble_eq_true rfl) ?_
  intro p e s m args below meth c D E b C hr
  unfold x_Rules_stop at h
  refine (show xWX p l e 1 12 s m args below meth c 2 D E b none M0 M 0 [(0, vR b th), (1, vI x1)] [] from ?_)
  refine r_iload_n (pc := 0) C 1 rfl rfl dX5_stop_0 ?_
  refine r_if_lt (pc := 1) (tgt := 19) C h dX5_stop_1 (by decide) (fun hc1 h => ?_) (fun hc1 h => ?_)
  · have e := Option.some.inj h
    exact r_vret (pc := 19) C hr rfl e.symm dX5_stop_19
  · refine r_iload_n (pc := 4) C 1 rfl rfl dX5_stop_4 ?_
    refine r_iconst (pc := 5) C dX5_stop_5 ?_
    refine r_icmp_ge (pc := 6) (tgt := 19) C h dX5_stop_6 (by decide) (fun hc6 h => ?_) (fun hc6 h => ?_)
    · have e := Option.some.inj h
      exact r_vret (pc := 19) C hr rfl e.symm dX5_stop_19
    · refine r_aload_n (pc := 9) C 0 rfl rfl dX5_stop_9 ?_
      refine r_getR (pc := 10) C fl_RX5_23 (x_sI_Rules hth) (x_nI_Rules hth) x_kRules_3 (x_rI_Rules_3 hth) dX5_stop_10 ?_
      refine r_iload_n (pc := 13) C 1 rfl rfl dX5_stop_13 ?_
      refine r_aload_n (pc := 14) C 0 rfl rfl dX5_stop_14 ?_
      refine r_getI (pc := 15) C fl_RX5_29 (x_sI_Rules hth) (x_nI_Rules hth) x_kRules_5 dX5_stop_15 ?_
      obtain ⟨hi18, h⟩ := chk_inv h
      obtain ⟨M_18, hM_18, h⟩ := lt_inv h
      refine r_iast (pc := 18) C (x_aI_Rules_3 hth) (x_bI_Rules_3 hth) (by decide) hi18 rfl hM_18 dX5_stop_18 ?_
      have e := Option.some.inj h
      exact r_vret (pc := 19) C hr rfl e.symm dX5_stop_19
set_option maxHeartbeats 4000000 in
set_option maxRecDepth 20000 in
theorem w_x_Reader_readVoice_B20 (C : xCX σ p s m args meth c cX4_readVoice 4 RX4 D E b) (hr : meth.sig.returnType = none) {M0 : Mem} {M : Mem} {v1 : Int} (h : x_Reader_readVoice_B20 v1 M = some M0) :
    xWX p l e 3 56 s m args below meth c 4 D E b none M0 M 20 [(0, vR b 3), (1, vI v1)] [] := by
  unfold x_Reader_readVoice_B20 at h
  refine r_aload_n (pc := 20) C 0 rfl rfl dX4_readVoice_20 ?_
  refine r_iconst (pc := 21) C dX4_readVoice_21 ?_
  obtain ⟨M1, hq1, h⟩ := bnd_inv h
  refine r_callV (pc := 22) (rest := []) (st1 := []) C (xExtOK σ b) [vI 0] (c_x_Reader_require l hq1) cl_RX4_62 x_s3 (by decide) rfl rfl rfl rfl ⟨Nat.le_of_ble_eq_true rfl, Nat.le_of_ble_eq_true rfl⟩ (Nat.le_of_ble_eq_true rfl) rfl rfl dX4_readVoice_22 ?_
  refine r_aload_n (pc := 25) C 0 rfl rfl dX4_readVoice_25 ?_
  obtain ⟨r2, M2, hq2, h⟩ := bnd2_inv h
  refine r_callV (pc := 26) (rest := []) (st1 := [vI r2]) C (xExtOK σ b) [] (c_x_Reader_newName l hq2) cl_RX4_93 x_s3 (by decide) rfl rfl rfl rfl ⟨Nat.le_of_ble_eq_true rfl, Nat.le_of_ble_eq_true rfl⟩ (Nat.le_of_ble_eq_true rfl) rfl rfl dX4_readVoice_26 ?_
  refine r_istore_n (pc := 29) (lv' := [(2, vI r2), (0, vR b 3), (1, vI v1)]) C rfl dX4_readVoice_29 (by decide) rfl ?_
  refine r_aload_n (pc := 30) C 1 rfl rfl dX4_readVoice_30 ?_
  refine r_bipush (pc := 31) (j := 7) C (by decide +kernel) dX4_readVoice_31 ?_
  obtain ⟨M3, hq3, h⟩ := bnd_inv h
  refine r_callV (pc := 33) (rest := []) (st1 := []) C (xExtOK σ b) [vI 7] (c_x_Reader_require l hq3) cl_RX4_62 x_s3 (by decide) rfl rfl rfl rfl ⟨Nat.le_of_ble_eq_true rfl, Nat.le_of_ble_eq_true rfl⟩ (Nat.le_of_ble_eq_true rfl) rfl rfl dX4_readVoice_33 ?_
  refine r_aload_n (pc := 36) C 1 rfl rfl dX4_readVoice_36 ?_
  refine r_iconst (pc := 37) C dX4_readVoice_37 ?_
  refine r_bipush (pc := 38) (j := 9) C (by decide +kernel) dX4_readVoice_38 ?_
  obtain ⟨r4, M4, hq4, h⟩ := bnd2_inv h
  refine r_callV (pc := 40) (rest := []) (st1 := [vI r4]) C (xExtOK σ b) [vI 0, vI 9] (c_x_Reader_number l hq4) cl_RX4_83 x_s3 (by decide) rfl rfl rfl rfl ⟨Nat.le_of_ble_eq_true rfl, Nat.le_of_ble_eq_true rfl⟩ (Nat.le_of_ble_eq_true rfl) rfl rfl dX4_readVoice_40 ?_
  refine r_istore_n (pc := 43) (lv' := [(3, vI r4), (2, vI r2), (0, vR b 3), (1, vI v1)]) C rfl dX4_readVoice_43 (by decide) rfl ?_
  refine r_aload_n (pc := 44) C 2 rfl rfl dX4_readVoice_44 ?_
  refine r_getI (pc := 45) C fl_RX4_36 x_s3 (by decide) x_kReader_1 dX4_readVoice_45 ?_
  refine r_if_ne (pc := 48) (tgt := 57) C h dX4_readVoice_48 (by decide) (fun hc48 h => ?_) (fun hc48 h => ?_)
  · have e := Option.some.inj h
    exact r_vret (pc := 57) C hr rfl e.symm dX4_readVoice_57
  · refine r_iload_n (pc := 51) C 3 rfl rfl dX4_readVoice_51 ?_
    refine r_bipush (pc := 52) (j := 7) C (by decide +kernel) dX4_readVoice_52 ?_
    refine r_icmp_lt (pc := 54) (tgt := 58) C h dX4_readVoice_54 (by decide) (fun hc54 h => ?_) (fun hc54 h => ?_)
    · refine r_aload_n (pc := 58) C 2 rfl rfl dX4_readVoice_58 ?_
      refine r_getR (pc := 59) C fl_RX4_12 x_s3 (by decide) x_kReader_0 x_r3_0 dX4_readVoice_59 ?_
      refine r_getR (pc := 62) C fl_RX4_96 x_s4 (by decide) x_kTown_4 x_r4_4 dX4_readVoice_62 ?_
      refine r_iload_n (pc := 65) C 3 rfl rfl dX4_readVoice_65 ?_
      refine r_iload_n (pc := 66) C 1 rfl rfl dX4_readVoice_66 ?_
      obtain ⟨hi67, h⟩ := chk_inv h
      obtain ⟨M_67, hM_67, h⟩ := lt_inv h
      refine r_iast (pc := 67) C x_s5 (by decide) (by decide) hi67 rfl hM_67 dX4_readVoice_67 ?_
      refine r_aload_n (pc := 68) C 2 rfl rfl dX4_readVoice_68 ?_
      refine r_getR (pc := 69) C fl_RX4_12 x_s3 (by decide) x_kReader_0 x_r3_0 dX4_readVoice_69 ?_
      refine r_getR (pc := 72) C fl_RX4_100 x_s4 (by decide) x_kTown_5 x_r4_5 dX4_readVoice_72 ?_
      refine r_iload_n (pc := 75) C 3 rfl rfl dX4_readVoice_75 ?_
      refine r_iload_n (pc := 76) C 0 rfl rfl dX4_readVoice_76 ?_
      obtain ⟨hi77, h⟩ := chk_inv h
      obtain ⟨M_77, hM_77, h⟩ := lt_inv h
      refine r_iast (pc := 77) C x_s6 (by decide) (by decide) hi77 rfl hM_77 dX4_readVoice_77 ?_
      refine r_aload_n (pc := 78) C 2 rfl rfl dX4_readVoice_78 ?_
      refine r_getR (pc := 79) C fl_RX4_12 x_s3 (by decide) x_kReader_0 x_r3_0 dX4_readVoice_79 ?_
      refine r_dup (pc := 82) C rfl dX4_readVoice_82 ?_
      refine r_getI (pc := 83) C fl_RX4_90 x_s4 (by decide) x_kTown_0 dX4_readVoice_83 ?_
      refine r_iconst (pc := 86) C dX4_readVoice_86 ?_
      refine r_iadd (pc := 87) C dX4_readVoice_87 ?_
      obtain ⟨M_88, hM_88, h⟩ := lt_inv h
      refine r_putI (pc := 88) C fl_RX4_90 x_ft9 x_w9_0 x_s4 (by decide) x_kTown_0 hM_88 dX4_readVoice_88 ?_
      have e := Option.some.inj h
      exact r_vret (pc := 91) C hr rfl e.symm dX4_readVoice_91
    · have e := Option.some.inj h
      exact r_vret (pc := 57) C hr rfl e.symm dX4_readVoice_57
set_option maxHeartbeats 4000000 in
set_option maxRecDepth 20000 in
theorem c_x_Reader_readVoice (l : Launch) {M : Mem} {M0 : Mem} (h : x_Reader_readVoice M = some M0) : Ct l yX4_readVoice cX4_readVoice 4 none 3 56 vwCl xSh xN xRf (xExt σ) (fun b => [vR b 3]) M (fun b => none) M0 := by
  refine Ct_of (xExtOK σ) (by decide) (fun b => Nat.le_of_ble_eq_true rfl) ?_
  intro p e s m args below meth c D E b C hr
  unfold x_Reader_readVoice at h
  refine (show xWX p l e 3 56 s m args below meth c 4 D E b none M0 M 0 [(0, vR b 3)] [] from ?_)
  refine r_aload_n (pc := 0) C 0 rfl rfl dX4_readVoice_0 ?_
  refine r_getR (pc := 1) C fl_RX4_12 x_s3 (by decide) x_kReader_0 x_r3_0 dX4_readVoice_1 ?_
  refine r_getI (pc := 4) C fl_RX4_90 x_s4 (by decide) x_kTown_0 dX4_readVoice_4 ?_
  obtain ⟨v1_7, hv1_7, h⟩ := lt_inv h
  refine r_topI hv1_7 ?_
  refine r_istore_n (pc := 7) (lv' := [(1, vI v1_7), (0, vR b 3)]) C rfl dX4_readVoice_7 (by decide) rfl ?_
  refine r_iload_n (pc := 8) C 0 rfl rfl dX4_readVoice_8 ?_
  refine r_bipush (pc := 9) (j := 7) C (by decide +kernel) dX4_readVoice_9 ?_
  refine r_icmp_lt (pc := 11) (tgt := 20) C h dX4_readVoice_11 (by decide) (fun hc11 h => ?_) (fun hc11 h => ?_)
  · refine r_sub (lv' := [(0, vR b 3), (1, vI v1_7)]) [1, 0] rfl ?_
    exact w_x_Reader_readVoice_B20 C hr h
  · refine r_aload_n (pc := 14) C 1 rfl rfl dX4_readVoice_14 ?_
    refine r_bipush (pc := 15) (j := 6) C (by decide +kernel) dX4_readVoice_15 ?_
    obtain ⟨M5, hq5, h⟩ := bnd_inv h
    refine r_callV (pc := 17) (rest := []) (st1 := []) C (xExtOK σ b) [vI 6] (c_x_Reader_refuse l hq5) cl_RX4_65 x_s3 (by decide) rfl rfl rfl rfl ⟨Nat.le_of_ble_eq_true rfl, Nat.le_of_ble_eq_true rfl⟩ (Nat.le_of_ble_eq_true rfl) rfl rfl dX4_readVoice_17 ?_
    refine r_sub (lv' := [(0, vR b 3), (1, vI v1_7)]) [1, 0] rfl ?_
    exact w_x_Reader_readVoice_B20 C hr h
set_option maxHeartbeats 4000000 in
set_option maxRecDepth 20000 in
theorem w_x_Reader_personName_B36 (C : xCX σ p s m args meth c cX4_personName 2 RX4 D E b) (hr : meth.sig.returnType = (some .int)) {r0 : Int} {M0 : Mem} {M : Mem} {v1 : Int} (h : x_Reader_personName_B36 v1 M = some (r0, M0)) :
    xWX p l e 2 34 s m args below meth c 2 D E b (some (vI r0)) M0 M 36 [(0, vR b 3), (1, vI v1)] [] := by
  unfold x_Reader_personName_B36 at h
  refine r_aload_n (pc := 36) C 0 rfl rfl dX4_personName_36 ?_
  refine r_getI (pc := 37) C fl_RX4_36 x_s3 (by decide) x_kReader_1 dX4_personName_37 ?_
  refine r_if_ne (pc := 40) (tgt := 53) C h dX4_personName_40 (by decide) (fun hc40 h => ?_) (fun hc40 h => ?_)
  · refine r_iload_n (pc := 53) C 1 rfl rfl dX4_personName_53 ?_
    have e := Option.some.inj h
    exact r_iret (pc := 54) C hr (congrArg (fun z => some (vI z)) (Prod.mk.inj e).1.symm) (Prod.mk.inj e).2.symm dX4_personName_54
  · refine r_aload_n (pc := 43) C 0 rfl rfl dX4_personName_43 ?_
    refine r_dup (pc := 44) C rfl dX4_personName_44 ?_
    refine r_getI (pc := 45) C fl_RX4_39 x_s3 (by decide) x_kReader_4 dX4_personName_45 ?_
    refine r_iconst (pc := 48) C dX4_personName_48 ?_
    refine r_iadd (pc := 49) C dX4_personName_49 ?_
    obtain ⟨M_50, hM_50, h⟩ := lt_inv h
    refine r_putI (pc := 50) C fl_RX4_39 x_ft4 x_w4_4 x_s3 (by decide) x_kReader_4 hM_50 dX4_personName_50 ?_
    refine r_iload_n (pc := 53) C 1 rfl rfl dX4_personName_53 ?_
    have e := Option.some.inj h
    exact r_iret (pc := 54) C hr (congrArg (fun z => some (vI z)) (Prod.mk.inj e).1.symm) (Prod.mk.inj e).2.symm dX4_personName_54
set_option maxHeartbeats 4000000 in
set_option maxRecDepth 20000 in
theorem w_x_Reader_personName_B14 (C : xCX σ p s m args meth c cX4_personName 2 RX4 D E b) (hr : meth.sig.returnType = (some .int)) {r0 : Int} {M0 : Mem} {M : Mem} (h : x_Reader_personName_B14 M = some (r0, M0)) :
    xWX p l e 2 34 s m args below meth c 2 D E b (some (vI r0)) M0 M 14 [(0, vR b 3)] [] := by
  unfold x_Reader_personName_B14 at h
  refine r_aload_n (pc := 14) C 0 rfl rfl dX4_personName_14 ?_
  refine r_getR (pc := 15) C fl_RX4_12 x_s3 (by decide) x_kReader_0 x_r3_0 dX4_personName_15 ?_
  refine r_aload_n (pc := 18) C 0 rfl rfl dX4_personName_18 ?_
  obtain ⟨r2, hq2, h⟩ := bnd_inv h
  refine r_callV (pc := 19) (rest := [vR b 4]) (st1 := [vI r2, vR b 4]) C (xExtOK σ b) [] (c_x_Reader_value l hq2) cl_RX4_68 x_s3 (by decide) rfl rfl rfl rfl ⟨Nat.le_of_ble_eq_true rfl, Nat.le_of_ble_eq_true rfl⟩ (Nat.le_of_ble_eq_true rfl) rfl rfl dX4_personName_19 ?_
  obtain ⟨r3, hq3, h⟩ := bnd_inv h
  refine r_callV (pc := 22) (rest := []) (st1 := [vI r3]) C (xExtOK σ b) [vI r2] (c_x_Town_personOf l 4 x_m4 hq3) cl_RX4_179 x_s4 (by decide) rfl rfl rfl rfl ⟨Nat.le_of_ble_eq_true rfl, Nat.le_of_ble_eq_true rfl⟩ (Nat.le_of_ble_eq_true rfl) rfl rfl dX4_personName_22 ?_
  refine r_istore_n (pc := 25) (lv' := [(1, vI r3), (0, vR b 3)]) C rfl dX4_personName_25 (by decide) rfl ?_
  refine r_iload_n (pc := 26) C 0 rfl rfl dX4_personName_26 ?_
  refine r_iconst (pc := 27) C dX4_personName_27 ?_
  refine r_icmp_ne (pc := 28) (tgt := 36) C h dX4_personName_28 (by decide) (fun hc28 h => ?_) (fun hc28 h => ?_)
  · refine r_sub (lv' := [(0, vR b 3), (1, vI r3)]) [1, 0] rfl ?_
    exact w_x_Reader_personName_B36 C hr h
  · refine r_aload_n (pc := 31) C 1 rfl rfl dX4_personName_31 ?_
    refine r_iconst (pc := 32) C dX4_personName_32 ?_
    obtain ⟨M4, hq4, h⟩ := bnd_inv h
    refine r_callV (pc := 33) (rest := []) (st1 := []) C (xExtOK σ b) [vI 3] (c_x_Reader_refuse l hq4) cl_RX4_65 x_s3 (by decide) rfl rfl rfl rfl ⟨Nat.le_of_ble_eq_true rfl, Nat.le_of_ble_eq_true rfl⟩ (Nat.le_of_ble_eq_true rfl) rfl rfl dX4_personName_33 ?_
    refine r_sub (lv' := [(0, vR b 3), (1, vI r3)]) [1, 0] rfl ?_
    exact w_x_Reader_personName_B36 C hr h
set_option maxHeartbeats 4000000 in
set_option maxRecDepth 20000 in
theorem c_x_Reader_personName (l : Launch) {M : Mem} {r0 : Int} {M0 : Mem} (h : x_Reader_personName M = some (r0, M0)) : Ct l yX4_personName cX4_personName 2 (some .int) 2 34 vwCl xSh xN xRf (xExt σ) (fun b => [vR b 3]) M (fun b => (some (vI r0))) M0 := by
  refine Ct_of (xExtOK σ) (by decide) (fun b => Nat.le_of_ble_eq_true rfl) ?_
  intro p e s m args below meth c D E b C hr
  unfold x_Reader_personName at h
  refine (show xWX p l e 2 34 s m args below meth c 2 D E b (some (vI r0)) M0 M 0 [(0, vR b 3)] [] from ?_)
  refine r_aload_n (pc := 0) C 0 rfl rfl dX4_personName_0 ?_
  refine r_bipush (pc := 1) (j := 23) C (by decide +kernel) dX4_personName_1 ?_
  obtain ⟨r1, hq1, h⟩ := bnd_inv h
  refine r_callV (pc := 3) (rest := []) (st1 := [vB r1]) C (xExtOK σ b) [vI 23] (c_x_Reader_at l hq1) cl_RX4_47 x_s3 (by decide) rfl rfl rfl rfl ⟨Nat.le_of_ble_eq_true rfl, Nat.le_of_ble_eq_true rfl⟩ (Nat.le_of_ble_eq_true rfl) rfl rfl dX4_personName_3 ?_
  refine r_if_neB (pc := 6) (tgt := 14) C h dX4_personName_6 (by decide) (fun hc6 h => ?_) (fun hc6 h => ?_)
  · refine r_sub (lv' := [(0, vR b 3)]) [0] rfl ?_
    exact w_x_Reader_personName_B14 C hr h
  · refine r_aload_n (pc := 9) C 0 rfl rfl dX4_personName_9 ?_
    refine r_iconst (pc := 10) C dX4_personName_10 ?_
    obtain ⟨M5, hq5, h⟩ := bnd_inv h
    refine r_callV (pc := 11) (rest := []) (st1 := []) C (xExtOK σ b) [vI 1] (c_x_Reader_refuse l hq5) cl_RX4_65 x_s3 (by decide) rfl rfl rfl rfl ⟨Nat.le_of_ble_eq_true rfl, Nat.le_of_ble_eq_true rfl⟩ (Nat.le_of_ble_eq_true rfl) rfl rfl dX4_personName_11 ?_
    refine r_sub (lv' := [(0, vR b 3)]) [0] rfl ?_
    exact w_x_Reader_personName_B14 C hr h
set_option maxHeartbeats 4000000 in
set_option maxRecDepth 20000 in
theorem w_x_Reader_readWants_B20 (C : xCX σ p s m args meth c cX4_readWants 5 RX4 D E b) (hr : meth.sig.returnType = none) {M0 : Mem} {M : Mem} {v1 : Int} (h : x_Reader_readWants_B20 v1 M = some M0) :
    xWX p l e 3 56 s m args below meth c 5 D E b none M0 M 20 [(0, vR b 3), (1, vI v1)] [] := by
  unfold x_Reader_readWants_B20 at h
  refine r_aload_n (pc := 20) C 0 rfl rfl dX4_readWants_20 ?_
  refine r_iconst (pc := 21) C dX4_readWants_21 ?_
  obtain ⟨M1, hq1, h⟩ := bnd_inv h
  refine r_callV (pc := 22) (rest := []) (st1 := []) C (xExtOK σ b) [vI 2] (c_x_Reader_require l hq1) cl_RX4_62 x_s3 (by decide) rfl rfl rfl rfl ⟨Nat.le_of_ble_eq_true rfl, Nat.le_of_ble_eq_true rfl⟩ (Nat.le_of_ble_eq_true rfl) rfl rfl dX4_readWants_22 ?_
  refine r_aload_n (pc := 25) C 0 rfl rfl dX4_readWants_25 ?_
  obtain ⟨r2, M2, hq2, h⟩ := bnd2_inv h
  refine r_callV (pc := 26) (rest := []) (st1 := [vI r2]) C (xExtOK σ b) [] (c_x_Reader_personName l hq2) cl_RX4_118 x_s3 (by decide) rfl rfl rfl rfl ⟨Nat.le_of_ble_eq_true rfl, Nat.le_of_ble_eq_true rfl⟩ (Nat.le_of_ble_eq_true rfl) rfl rfl dX4_readWants_26 ?_
  refine r_istore_n (pc := 29) (lv' := [(2, vI r2), (0, vR b 3), (1, vI v1)]) C rfl dX4_readWants_29 (by decide) rfl ?_
  refine r_aload_n (pc := 30) C 1 rfl rfl dX4_readWants_30 ?_
  refine r_bipush (pc := 31) (j := 9) C (by decide +kernel) dX4_readWants_31 ?_
  obtain ⟨M3, hq3, h⟩ := bnd_inv h
  refine r_callV (pc := 33) (rest := []) (st1 := []) C (xExtOK σ b) [vI 9] (c_x_Reader_require l hq3) cl_RX4_62 x_s3 (by decide) rfl rfl rfl rfl ⟨Nat.le_of_ble_eq_true rfl, Nat.le_of_ble_eq_true rfl⟩ (Nat.le_of_ble_eq_true rfl) rfl rfl dX4_readWants_33 ?_
  refine r_aload_n (pc := 36) C 1 rfl rfl dX4_readWants_36 ?_
  refine r_iconst (pc := 37) C dX4_readWants_37 ?_
  refine r_sipush (pc := 38) (j := 999) C (by decide +kernel) dX4_readWants_38 ?_
  obtain ⟨r4, M4, hq4, h⟩ := bnd2_inv h
  refine r_callV (pc := 41) (rest := []) (st1 := [vI r4]) C (xExtOK σ b) [vI 0, vI 999] (c_x_Reader_number l hq4) cl_RX4_83 x_s3 (by decide) rfl rfl rfl rfl ⟨Nat.le_of_ble_eq_true rfl, Nat.le_of_ble_eq_true rfl⟩ (Nat.le_of_ble_eq_true rfl) rfl rfl dX4_readWants_41 ?_
  refine r_istore_n (pc := 44) (lv' := [(3, vI r4), (2, vI r2), (0, vR b 3), (1, vI v1)]) C rfl dX4_readWants_44 (by decide) rfl ?_
  refine r_aload_n (pc := 45) C 2 rfl rfl dX4_readWants_45 ?_
  refine r_bipush (pc := 46) (j := 10) C (by decide +kernel) dX4_readWants_46 ?_
  obtain ⟨M5, hq5, h⟩ := bnd_inv h
  refine r_callV (pc := 48) (rest := []) (st1 := []) C (xExtOK σ b) [vI 10] (c_x_Reader_require l hq5) cl_RX4_62 x_s3 (by decide) rfl rfl rfl rfl ⟨Nat.le_of_ble_eq_true rfl, Nat.le_of_ble_eq_true rfl⟩ (Nat.le_of_ble_eq_true rfl) rfl rfl dX4_readWants_48 ?_
  refine r_aload_n (pc := 51) C 2 rfl rfl dX4_readWants_51 ?_
  refine r_iconst (pc := 52) C dX4_readWants_52 ?_
  refine r_bipush (pc := 53) (j := 20) C (by decide +kernel) dX4_readWants_53 ?_
  obtain ⟨r6, M6, hq6, h⟩ := bnd2_inv h
  refine r_callV (pc := 55) (rest := []) (st1 := [vI r6]) C (xExtOK σ b) [vI 1, vI 20] (c_x_Reader_number l hq6) cl_RX4_83 x_s3 (by decide) rfl rfl rfl rfl ⟨Nat.le_of_ble_eq_true rfl, Nat.le_of_ble_eq_true rfl⟩ (Nat.le_of_ble_eq_true rfl) rfl rfl dX4_readWants_55 ?_
  refine r_istore (pc := 58) (lv' := [(4, vI r6), (3, vI r4), (2, vI r2), (0, vR b 3), (1, vI v1)]) C dX4_readWants_58 (by decide) rfl ?_
  refine r_aload_n (pc := 60) C 3 rfl rfl dX4_readWants_60 ?_
  refine r_getI (pc := 61) C fl_RX4_36 x_s3 (by decide) x_kReader_1 dX4_readWants_61 ?_
  refine r_if_ne (pc := 64) (tgt := 73) C h dX4_readWants_64 (by decide) (fun hc64 h => ?_) (fun hc64 h => ?_)
  · have e := Option.some.inj h
    exact r_vret (pc := 73) C hr rfl e.symm dX4_readWants_73
  · refine r_iload_n (pc := 67) C 4 rfl rfl dX4_readWants_67 ?_
    refine r_bipush (pc := 68) (j := 12) C (by decide +kernel) dX4_readWants_68 ?_
    refine r_icmp_lt (pc := 70) (tgt := 74) C h dX4_readWants_70 (by decide) (fun hc70 h => ?_) (fun hc70 h => ?_)
    · refine r_aload_n (pc := 74) C 3 rfl rfl dX4_readWants_74 ?_
      refine r_getR (pc := 75) C fl_RX4_12 x_s3 (by decide) x_kReader_0 x_r3_0 dX4_readWants_75 ?_
      refine r_getR (pc := 78) C fl_RX4_120 x_s4 (by decide) x_kTown_9 x_r4_9 dX4_readWants_78 ?_
      refine r_iload_n (pc := 81) C 4 rfl rfl dX4_readWants_81 ?_
      refine r_iload_n (pc := 82) C 2 rfl rfl dX4_readWants_82 ?_
      obtain ⟨hi83, h⟩ := chk_inv h
      obtain ⟨M_83, hM_83, h⟩ := lt_inv h
      refine r_iast (pc := 83) C x_s10 (by decide) (by decide) hi83 rfl hM_83 dX4_readWants_83 ?_
      refine r_aload_n (pc := 84) C 3 rfl rfl dX4_readWants_84 ?_
      refine r_getR (pc := 85) C fl_RX4_12 x_s3 (by decide) x_kReader_0 x_r3_0 dX4_readWants_85 ?_
      refine r_getR (pc := 88) C fl_RX4_123 x_s4 (by decide) x_kTown_10 x_r4_10 dX4_readWants_88 ?_
      refine r_iload_n (pc := 91) C 4 rfl rfl dX4_readWants_91 ?_
      refine r_iload_n (pc := 92) C 1 rfl rfl dX4_readWants_92 ?_
      obtain ⟨hi93, h⟩ := chk_inv h
      obtain ⟨M_93, hM_93, h⟩ := lt_inv h
      refine r_iast (pc := 93) C x_s11 (by decide) (by decide) hi93 rfl hM_93 dX4_readWants_93 ?_
      refine r_aload_n (pc := 94) C 3 rfl rfl dX4_readWants_94 ?_
      refine r_getR (pc := 95) C fl_RX4_12 x_s3 (by decide) x_kReader_0 x_r3_0 dX4_readWants_95 ?_
      refine r_getR (pc := 98) C fl_RX4_126 x_s4 (by decide) x_kTown_11 x_r4_11 dX4_readWants_98 ?_
      refine r_iload_n (pc := 101) C 4 rfl rfl dX4_readWants_101 ?_
      refine r_iload (pc := 102) C 0 rfl dX4_readWants_102 ?_
      obtain ⟨hi104, h⟩ := chk_inv h
      obtain ⟨M_104, hM_104, h⟩ := lt_inv h
      refine r_iast (pc := 104) C x_s12 (by decide) (by decide) hi104 rfl hM_104 dX4_readWants_104 ?_
      refine r_aload_n (pc := 105) C 3 rfl rfl dX4_readWants_105 ?_
      refine r_getR (pc := 106) C fl_RX4_12 x_s3 (by decide) x_kReader_0 x_r3_0 dX4_readWants_106 ?_
      refine r_dup (pc := 109) C rfl dX4_readWants_109 ?_
      refine r_getI (pc := 110) C fl_RX4_115 x_s4 (by decide) x_kTown_2 dX4_readWants_110 ?_
      refine r_iconst (pc := 113) C dX4_readWants_113 ?_
      refine r_iadd (pc := 114) C dX4_readWants_114 ?_
      obtain ⟨M_115, hM_115, h⟩ := lt_inv h
      refine r_putI (pc := 115) C fl_RX4_115 x_ft9 x_w9_2 x_s4 (by decide) x_kTown_2 hM_115 dX4_readWants_115 ?_
      have e := Option.some.inj h
      exact r_vret (pc := 118) C hr rfl e.symm dX4_readWants_118
    · have e := Option.some.inj h
      exact r_vret (pc := 73) C hr rfl e.symm dX4_readWants_73
set_option maxHeartbeats 4000000 in
set_option maxRecDepth 20000 in
theorem c_x_Reader_readWants (l : Launch) {M : Mem} {M0 : Mem} (h : x_Reader_readWants M = some M0) : Ct l yX4_readWants cX4_readWants 5 none 3 56 vwCl xSh xN xRf (xExt σ) (fun b => [vR b 3]) M (fun b => none) M0 := by
  refine Ct_of (xExtOK σ) (by decide) (fun b => Nat.le_of_ble_eq_true rfl) ?_
  intro p e s m args below meth c D E b C hr
  unfold x_Reader_readWants at h
  refine (show xWX p l e 3 56 s m args below meth c 5 D E b none M0 M 0 [(0, vR b 3)] [] from ?_)
  refine r_aload_n (pc := 0) C 0 rfl rfl dX4_readWants_0 ?_
  refine r_getR (pc := 1) C fl_RX4_12 x_s3 (by decide) x_kReader_0 x_r3_0 dX4_readWants_1 ?_
  refine r_getI (pc := 4) C fl_RX4_115 x_s4 (by decide) x_kTown_2 dX4_readWants_4 ?_
  obtain ⟨v1_7, hv1_7, h⟩ := lt_inv h
  refine r_topI hv1_7 ?_
  refine r_istore_n (pc := 7) (lv' := [(1, vI v1_7), (0, vR b 3)]) C rfl dX4_readWants_7 (by decide) rfl ?_
  refine r_iload_n (pc := 8) C 0 rfl rfl dX4_readWants_8 ?_
  refine r_bipush (pc := 9) (j := 12) C (by decide +kernel) dX4_readWants_9 ?_
  refine r_icmp_lt (pc := 11) (tgt := 20) C h dX4_readWants_11 (by decide) (fun hc11 h => ?_) (fun hc11 h => ?_)
  · refine r_sub (lv' := [(0, vR b 3), (1, vI v1_7)]) [1, 0] rfl ?_
    exact w_x_Reader_readWants_B20 C hr h
  · refine r_aload_n (pc := 14) C 1 rfl rfl dX4_readWants_14 ?_
    refine r_bipush (pc := 15) (j := 6) C (by decide +kernel) dX4_readWants_15 ?_
    obtain ⟨M7, hq7, h⟩ := bnd_inv h
    refine r_callV (pc := 17) (rest := []) (st1 := []) C (xExtOK σ b) [vI 6] (c_x_Reader_refuse l hq7) cl_RX4_65 x_s3 (by decide) rfl rfl rfl rfl ⟨Nat.le_of_ble_eq_true rfl, Nat.le_of_ble_eq_true rfl⟩ (Nat.le_of_ble_eq_true rfl) rfl rfl dX4_readWants_17 ?_
    refine r_sub (lv' := [(0, vR b 3), (1, vI v1_7)]) [1, 0] rfl ?_
    exact w_x_Reader_readWants_B20 C hr h
set_option maxHeartbeats 4000000 in
set_option maxRecDepth 20000 in
theorem c_x_Reader_refuseOneMore (l : Launch) {M : Mem} {M0 : Mem} (h : x_Reader_refuseOneMore M = some M0) : Ct l yX4_refuseOneMore cX4_refuseOneMore 2 none 2 33 vwCl xSh xN xRf (xExt σ) (fun b => [vR b 3]) M (fun b => none) M0 := by
  refine Ct_of (xExtOK σ) (by decide) (fun b => Nat.le_of_ble_eq_true rfl) ?_
  intro p e s m args below meth c D E b C hr
  unfold x_Reader_refuseOneMore at h
  refine (show xWX p l e 2 33 s m args below meth c 2 D E b none M0 M 0 [(0, vR b 3)] [] from ?_)
  refine r_aload_n (pc := 0) C 0 rfl rfl dX4_refuseOneMore_0 ?_
  refine r_bipush (pc := 1) (j := 26) C (by decide +kernel) dX4_refuseOneMore_1 ?_
  obtain ⟨r1, hq1, h⟩ := bnd_inv h
  refine r_callV (pc := 3) (rest := []) (st1 := [vB r1]) C (xExtOK σ b) [vI 26] (c_x_Reader_at l hq1) cl_RX4_47 x_s3 (by decide) rfl rfl rfl rfl ⟨Nat.le_of_ble_eq_true rfl, Nat.le_of_ble_eq_true rfl⟩ (Nat.le_of_ble_eq_true rfl) rfl rfl dX4_refuseOneMore_3 ?_
  obtain ⟨v1_6, hv1_6, h⟩ := lt_inv h
  refine r_topI hv1_6 ?_
  refine r_istore_n (pc := 6) (lv' := [(1, vI v1_6), (0, vR b 3)]) C rfl dX4_refuseOneMore_6 (by decide) rfl ?_
  refine r_aload_n (pc := 7) C 1 rfl rfl dX4_refuseOneMore_7 ?_
  refine r_bipush (pc := 8) (j := 6) C (by decide +kernel) dX4_refuseOneMore_8 ?_
  obtain ⟨M2, hq2, h⟩ := bnd_inv h
  refine r_callV (pc := 10) (rest := []) (st1 := []) C (xExtOK σ b) [vI 6] (c_x_Reader_refuse l hq2) cl_RX4_65 x_s3 (by decide) rfl rfl rfl rfl ⟨Nat.le_of_ble_eq_true rfl, Nat.le_of_ble_eq_true rfl⟩ (Nat.le_of_ble_eq_true rfl) rfl rfl dX4_refuseOneMore_10 ?_
  refine r_iload_n (pc := 13) C 0 rfl rfl dX4_refuseOneMore_13 ?_
  refine r_if_eq (pc := 14) (tgt := 25) C h dX4_refuseOneMore_14 (by decide) (fun hc14 h => ?_) (fun hc14 h => ?_)
  · have e := Option.some.inj h
    exact r_vret (pc := 25) C hr rfl e.symm dX4_refuseOneMore_25
  · refine r_aload_n (pc := 17) C 1 rfl rfl dX4_refuseOneMore_17 ?_
    refine r_aload_n (pc := 18) C 1 rfl rfl dX4_refuseOneMore_18 ?_
    obtain ⟨r3, hq3, h⟩ := bnd_inv h
    refine r_callV (pc := 19) (rest := [vR b 3]) (st1 := [vI r3, vR b 3]) C (xExtOK σ b) [] (c_x_Reader_value l hq3) cl_RX4_68 x_s3 (by decide) rfl rfl rfl rfl ⟨Nat.le_of_ble_eq_true rfl, Nat.le_of_ble_eq_true rfl⟩ (Nat.le_of_ble_eq_true rfl) rfl rfl dX4_refuseOneMore_19 ?_
    obtain ⟨M_22, hM_22, h⟩ := lt_inv h
    refine r_putI (pc := 22) C fl_RX4_18 x_ft4 x_w4_2 x_s3 (by decide) x_kReader_2 hM_22 dX4_refuseOneMore_22 ?_
    have e := Option.some.inj h
    exact r_vret (pc := 25) C hr rfl e.symm dX4_refuseOneMore_25
set_option maxHeartbeats 4000000 in
set_option maxRecDepth 20000 in
theorem c_x_Tokens_add (l : Launch) {x1 : Int} {x2 : Int} {x3 : Int} {M : Mem} {M0 : Mem} (h : x_Tokens_add x1 x2 x3 M = some M0) : Ct l yX8_add cX8_add 4 none 1 12 vwCl xSh xN xRf (xExt σ) (fun b => [vR b 19, vI x1, vI x2, vI x3]) M (fun b => none) M0 := by
  refine Ct_of (xExtOK σ) (by decide) (fun b => Nat.le_of_ble_eq_true rfl) ?_
  intro p e s m args below meth c D E b C hr
  unfold x_Tokens_add at h
  refine (show xWX p l e 1 12 s m args below meth c 4 D E b none M0 M 0 [(0, vR b 19), (1, vI x1), (2, vI x2), (3, vI x3)] [] from ?_)
  refine r_aload_n (pc := 0) C 0 rfl rfl dX8_add_0 ?_
  refine r_getI (pc := 1) C fl_RX8_21 x_s19 (by decide) x_kTokens_3 dX8_add_1 ?_
  refine r_aload_n (pc := 4) C 0 rfl rfl dX8_add_4 ?_
  refine r_getR (pc := 5) C fl_RX8_9 x_s19 (by decide) x_kTokens_0 x_r19_0 dX8_add_5 ?_
  refine r_alen (pc := 8) C x_s20 (by decide) dX8_add_8 ?_
  refine r_icmp_ge (pc := 9) (tgt := 76) C h dX8_add_9 (by decide) (fun hc9 h => ?_) (fun hc9 h => ?_)
  · have e := Option.some.inj h
    exact r_vret (pc := 76) C hr rfl e.symm dX8_add_76
  · refine r_aload_n (pc := 12) C 0 rfl rfl dX8_add_12 ?_
    refine r_getI (pc := 13) C fl_RX8_21 x_s19 (by decide) x_kTokens_3 dX8_add_13 ?_
    refine r_aload_n (pc := 16) C 0 rfl rfl dX8_add_16 ?_
    refine r_getR (pc := 17) C fl_RX8_15 x_s19 (by decide) x_kTokens_1 x_r19_1 dX8_add_17 ?_
    refine r_alen (pc := 20) C x_s21 (by decide) dX8_add_20 ?_
    refine r_icmp_ge (pc := 21) (tgt := 76) C h dX8_add_21 (by decide) (fun hc21 h => ?_) (fun hc21 h => ?_)
    · have e := Option.some.inj h
      exact r_vret (pc := 76) C hr rfl e.symm dX8_add_76
    · refine r_aload_n (pc := 24) C 0 rfl rfl dX8_add_24 ?_
      refine r_getI (pc := 25) C fl_RX8_21 x_s19 (by decide) x_kTokens_3 dX8_add_25 ?_
      refine r_aload_n (pc := 28) C 0 rfl rfl dX8_add_28 ?_
      refine r_getR (pc := 29) C fl_RX8_18 x_s19 (by decide) x_kTokens_2 x_r19_2 dX8_add_29 ?_
      refine r_alen (pc := 32) C x_s22 (by decide) dX8_add_32 ?_
      refine r_icmp_ge (pc := 33) (tgt := 76) C h dX8_add_33 (by decide) (fun hc33 h => ?_) (fun hc33 h => ?_)
      · have e := Option.some.inj h
        exact r_vret (pc := 76) C hr rfl e.symm dX8_add_76
      · refine r_aload_n (pc := 36) C 0 rfl rfl dX8_add_36 ?_
        refine r_getR (pc := 37) C fl_RX8_9 x_s19 (by decide) x_kTokens_0 x_r19_0 dX8_add_37 ?_
        refine r_aload_n (pc := 40) C 0 rfl rfl dX8_add_40 ?_
        refine r_getI (pc := 41) C fl_RX8_21 x_s19 (by decide) x_kTokens_3 dX8_add_41 ?_
        refine r_iload_n (pc := 44) C 1 rfl rfl dX8_add_44 ?_
        obtain ⟨hi45, h⟩ := chk_inv h
        obtain ⟨M_45, hM_45, h⟩ := lt_inv h
        refine r_iast (pc := 45) C x_s20 (by decide) (by decide) hi45 rfl hM_45 dX8_add_45 ?_
        refine r_aload_n (pc := 46) C 0 rfl rfl dX8_add_46 ?_
        refine r_getR (pc := 47) C fl_RX8_15 x_s19 (by decide) x_kTokens_1 x_r19_1 dX8_add_47 ?_
        refine r_aload_n (pc := 50) C 0 rfl rfl dX8_add_50 ?_
        refine r_getI (pc := 51) C fl_RX8_21 x_s19 (by decide) x_kTokens_3 dX8_add_51 ?_
        refine r_iload_n (pc := 54) C 2 rfl rfl dX8_add_54 ?_
        obtain ⟨hi55, h⟩ := chk_inv h
        obtain ⟨M_55, hM_55, h⟩ := lt_inv h
        refine r_iast (pc := 55) C x_s21 (by decide) (by decide) hi55 rfl hM_55 dX8_add_55 ?_
        refine r_aload_n (pc := 56) C 0 rfl rfl dX8_add_56 ?_
        refine r_getR (pc := 57) C fl_RX8_18 x_s19 (by decide) x_kTokens_2 x_r19_2 dX8_add_57 ?_
        refine r_aload_n (pc := 60) C 0 rfl rfl dX8_add_60 ?_
        refine r_getI (pc := 61) C fl_RX8_21 x_s19 (by decide) x_kTokens_3 dX8_add_61 ?_
        refine r_iload_n (pc := 64) C 3 rfl rfl dX8_add_64 ?_
        obtain ⟨hi65, h⟩ := chk_inv h
        obtain ⟨M_65, hM_65, h⟩ := lt_inv h
        refine r_iast (pc := 65) C x_s22 (by decide) (by decide) hi65 rfl hM_65 dX8_add_65 ?_
        refine r_aload_n (pc := 66) C 0 rfl rfl dX8_add_66 ?_
        refine r_dup (pc := 67) C rfl dX8_add_67 ?_
        refine r_getI (pc := 68) C fl_RX8_21 x_s19 (by decide) x_kTokens_3 dX8_add_68 ?_
        refine r_iconst (pc := 71) C dX8_add_71 ?_
        refine r_iadd (pc := 72) C dX8_add_72 ?_
        obtain ⟨M_73, hM_73, h⟩ := lt_inv h
        refine r_putI (pc := 73) C fl_RX8_21 x_ft8 x_w8_3 x_s19 (by decide) x_kTokens_3 hM_73 dX8_add_73 ?_
        have e := Option.some.inj h
        exact r_vret (pc := 76) C hr rfl e.symm dX8_add_76
set_option maxHeartbeats 4000000 in
set_option maxRecDepth 20000 in
theorem w_x_Word_kindOf_L12_B48 (C : xCX σ p s m args meth c cX10_kindOf 6 RX10 D E b) (hr : meth.sig.returnType = (some .int)) {r0 : Int} {M : Mem} {v0 : Int} {v1 : Int} {v2 : Int} {v3 : Int} {s0 : Int} {q : Int × Int} {rec : Int → Int → Option (Int × Int)} (hrec : ∀ (v2 : Int) (v3 : Int), rec v2 v3 = some q → xWX p l e 5 111 s m args below meth c 6 D E b (some (vI r0)) M M 12 [(0, vI v0), (1, vI v1), (2, vI v2), (3, vI v3)] []) (hfol : ∀ (v2 : Int) (v3 : Int), q = (v2, v3) → xWX p l e 5 111 s m args below meth c 6 D E b (some (vI r0)) M M 77 [(0, vI v0), (1, vI v1), (2, vI v2)] []) (h : x_Word_kindOf_L12_B48 rec v0 v1 v2 v3 s0 M = some q) :
    xWX p l e 5 111 s m args below meth c 6 D E b (some (vI r0)) M M 48 [(0, vI v0), (1, vI v1), (2, vI v2), (3, vI v3)] [vI s0] := by
  unfold x_Word_kindOf_L12_B48 at h
  refine r_istore (pc := 48) (lv' := [(5, vI s0), (0, vI v0), (1, vI v1), (2, vI v2), (3, vI v3)]) C dX10_kindOf_48 (by decide) rfl ?_
  refine r_iload (pc := 50) C 0 rfl dX10_kindOf_50 ?_
  refine r_bipush (pc := 52) (j := 32) C (by decide +kernel) dX10_kindOf_52 ?_
  refine r_icmp_eq (pc := 54) (tgt := 71) C h dX10_kindOf_54 (by decide) (fun hc54 h => ?_) (fun hc54 h => ?_)
  · obtain ⟨v3_71, hv3_71, h⟩ := lt_inv h
    refine r_iincN (pc := 71) (y := v3_71) (lv' := [(3, vI v3_71), (5, vI s0), (0, vI v0), (1, vI v1), (2, vI v2)]) C 4 rfl hv3_71 dX10_kindOf_71 (by decide) rfl ?_
    refine r_goto (pc := 74) (tgt := 12) C dX10_kindOf_74 (by decide) ?_
    refine r_sub (lv' := [(0, vI v0), (1, vI v1), (2, vI v2), (3, vI v3_71)]) [2, 3, 4, 0] rfl ?_
    exact hrec _ _ h
  · refine r_iload_n (pc := 57) C 3 rfl rfl dX10_kindOf_57 ?_
    refine r_iload (pc := 58) C 0 rfl dX10_kindOf_58 ?_
    refine r_bipush (pc := 60) (j := 97) C (by decide +kernel) dX10_kindOf_60 ?_
    refine r_isub (pc := 62) C dX10_kindOf_62 ?_
    refine r_iconst (pc := 63) C dX10_kindOf_63 ?_
    refine r_iadd (pc := 64) C dX10_kindOf_64 ?_
    refine r_iconst (pc := 65) C dX10_kindOf_65 ?_
    refine r_iload_n (pc := 66) C 4 rfl rfl dX10_kindOf_66 ?_
    refine r_imul (pc := 67) C dX10_kindOf_67 ?_
    refine r_ishl (pc := 68) C dX10_kindOf_68 ?_
    refine r_ior (pc := 69) C dX10_kindOf_69 ?_
    obtain ⟨v2_70, hv2_70, h⟩ := lt_inv h
    refine r_topI hv2_70 ?_
    refine r_istore_n (pc := 70) (lv' := [(2, vI v2_70), (5, vI s0), (0, vI v0), (1, vI v1), (3, vI v3)]) C rfl dX10_kindOf_70 (by decide) rfl ?_
    obtain ⟨v3_71, hv3_71, h⟩ := lt_inv h
    refine r_iincN (pc := 71) (y := v3_71) (lv' := [(3, vI v3_71), (2, vI v2_70), (5, vI s0), (0, vI v0), (1, vI v1)]) C 4 rfl hv3_71 dX10_kindOf_71 (by decide) rfl ?_
    refine r_goto (pc := 74) (tgt := 12) C dX10_kindOf_74 (by decide) ?_
    refine r_sub (lv' := [(0, vI v0), (1, vI v1), (2, vI v2_70), (3, vI v3_71)]) [3, 4, 1, 0] rfl ?_
    exact hrec _ _ h
set_option maxHeartbeats 4000000 in
set_option maxRecDepth 20000 in
theorem w_x_Word_kindOf_L12_s (C : xCX σ p s m args meth c cX10_kindOf 6 RX10 D E b) (hr : meth.sig.returnType = (some .int)) {r0 : Int} {v0 : Int} {v1 : Int} {M : Mem} {v2 : Int} {v3 : Int} {q : Int × Int} {rec : Int → Int → Option (Int × Int)} (hrec : ∀ (v2 : Int) (v3 : Int), rec v2 v3 = some q → xWX p l e 5 111 s m args below meth c 6 D E b (some (vI r0)) M M 12 [(0, vI v0), (1, vI v1), (2, vI v2), (3, vI v3)] []) (hfol : ∀ (v2 : Int) (v3 : Int), q = (v2, v3) → xWX p l e 5 111 s m args below meth c 6 D E b (some (vI r0)) M M 77 [(0, vI v0), (1, vI v1), (2, vI v2)] []) (h : x_Word_kindOf_L12 v0 v1 M rec v2 v3 = some q) :
    xWX p l e 5 111 s m args below meth c 6 D E b (some (vI r0)) M M 12 [(0, vI v0), (1, vI v1), (2, vI v2), (3, vI v3)] [] := by
  unfold x_Word_kindOf_L12 at h
  refine r_iload_n (pc := 12) C 3 rfl rfl dX10_kindOf_12 ?_
  refine r_bipush (pc := 13) (j := 6) C (by decide +kernel) dX10_kindOf_13 ?_
  refine r_icmp_ge (pc := 15) (tgt := 77) C h dX10_kindOf_15 (by decide) (fun hc15 h => ?_) (fun hc15 h => ?_)
  · refine r_sub (lv' := [(0, vI v0), (1, vI v1), (2, vI v2)]) [0, 1, 2] rfl ?_
    exact hfol _ _ (Option.some.inj h).symm
  · refine r_bipush (pc := 18) (j := 6) C (by decide +kernel) dX10_kindOf_18 ?_
    refine r_iload_n (pc := 20) C 1 rfl rfl dX10_kindOf_20 ?_
    refine r_imul (pc := 21) C dX10_kindOf_21 ?_
    refine r_iload_n (pc := 22) C 3 rfl rfl dX10_kindOf_22 ?_
    refine r_iadd (pc := 23) C dX10_kindOf_23 ?_
    obtain ⟨v4_24, hv4_24, h⟩ := lt_inv h
    refine r_topI hv4_24 ?_
    refine r_istore (pc := 24) (lv' := [(4, vI v4_24), (0, vI v0), (1, vI v1), (2, vI v2), (3, vI v3)]) C dX10_kindOf_24 (by decide) rfl ?_
    refine r_iload (pc := 26) C 0 rfl dX10_kindOf_26 ?_
    refine r_ldcS (pc := 28) C (x_tr0 (ext_now C)) dX10_kindOf_28 ?_
    refine r_callVS (pc := 30) (rest := [vI v4_24]) (st1 := [vI 138, vI v4_24]) C (xExtOK σ b) [] (s_length l x_tx0 (by decide) (k := 138) rfl) cl_RX10_13 (x_tx0 b s (ext_now C)).1 rfl rfl ⟨Nat.le_of_ble_eq_true rfl, Nat.le_of_ble_eq_true rfl⟩ (Nat.le_of_ble_eq_true rfl) rfl rfl dX10_kindOf_30 ?_
    refine r_icmp_ge (pc := 33) (tgt := 46) C h dX10_kindOf_33 (by decide) (fun hc33 h => ?_) (fun hc33 h => ?_)
    · refine r_bipush (pc := 46) (j := 32) C (by decide +kernel) dX10_kindOf_46 ?_
      refine r_sub (lv' := [(0, vI v0), (1, vI v1), (2, vI v2), (3, vI v3)]) [1, 2, 3, 4] rfl ?_
      exact w_x_Word_kindOf_L12_B48 C hr hrec hfol h
    · refine r_ldcS (pc := 36) C (x_tr0 (ext_now C)) dX10_kindOf_36 ?_
      refine r_iload (pc := 38) C 0 rfl dX10_kindOf_38 ?_
      obtain ⟨hi40, h⟩ := chk_inv h
      refine r_callVS (pc := 40) (rest := []) (st1 := [vI (xT0.getD v4_24.toNat 0)]) C (xExtOK σ b) [vI v4_24] (s_charAt l x_tx0 x_tb0 (by decide) hi40) cl_RX10_19 (x_tx0 b s (ext_now C)).1 rfl rfl ⟨Nat.le_of_ble_eq_true rfl, Nat.le_of_ble_eq_true rfl⟩ (Nat.le_of_ble_eq_true rfl) rfl rfl dX10_kindOf_40 ?_
      refine r_goto (pc := 43) (tgt := 48) C dX10_kindOf_43 (by decide) ?_
      refine r_sub (lv' := [(0, vI v0), (1, vI v1), (2, vI v2), (3, vI v3)]) [1, 2, 3, 4] rfl ?_
      exact w_x_Word_kindOf_L12_B48 C hr hrec hfol h
set_option maxHeartbeats 4000000 in
theorem w_x_Word_kindOf_L12 (C : xCX σ p s m args meth c cX10_kindOf 6 RX10 D E b) (hr : meth.sig.returnType = (some .int)) {r0 : Int} {v0 : Int} {v1 : Int} {M : Mem} {q : Int × Int} (hfol : ∀ (v2 : Int) (v3 : Int), q = (v2, v3) → xWX p l e 5 111 s m args below meth c 6 D E b (some (vI r0)) M M 77 [(0, vI v0), (1, vI v1), (2, vI v2)] []) : ∀ (n : Nat) (v2 : Int) (v3 : Int), itr2 (x_Word_kindOf_L12 v0 v1 M) n v2 v3 = some q →
    xWX p l e 5 111 s m args below meth c 6 D E b (some (vI r0)) M M 12 [(0, vI v0), (1, vI v1), (2, vI v2), (3, vI v3)] [] := by
  intro n
  induction n with
  | zero => exact fun _ _ h => itr_z h
  | succ n ih => exact fun _ _ h => w_x_Word_kindOf_L12_s C hr ih hfol h
set_option maxHeartbeats 4000000 in
set_option maxRecDepth 20000 in
theorem w_x_Word_kindOf_L2_s (C : xCX σ p s m args meth c cX10_kindOf 6 RX10 D E b) (hr : meth.sig.returnType = (some .int)) {r0 : Int} {v0 : Int} {M : Mem} {v1 : Int} {q : (Int) ⊕ (Int)} {rec : Int → Option ((Int) ⊕ (Int))} (hrec : ∀ (v1 : Int), rec v1 = some q → xWX p l e 5 111 s m args below meth c 6 D E b (some (vI r0)) M M 2 [(0, vI v0), (1, vI v1)] []) (hret : ∀ r, q = .inl r → r = r0) (hfol : ∀ (v1 : Int), q = .inr v1 → xWX p l e 5 111 s m args below meth c 6 D E b (some (vI r0)) M M 90 [] []) (h : x_Word_kindOf_L2 v0 M rec v1 = some q) :
    xWX p l e 5 111 s m args below meth c 6 D E b (some (vI r0)) M M 2 [(0, vI v0), (1, vI v1)] [] := by
  unfold x_Word_kindOf_L2 at h
  refine r_iload_n (pc := 2) C 1 rfl rfl dX10_kindOf_2 ?_
  refine r_bipush (pc := 3) (j := 23) C (by decide +kernel) dX10_kindOf_3 ?_
  refine r_icmp_ge (pc := 5) (tgt := 90) C h dX10_kindOf_5 (by decide) (fun hc5 h => ?_) (fun hc5 h => ?_)
  · refine r_sub (lv' := []) [] rfl ?_
    exact hfol _ (Option.some.inj h).symm
  · refine r_iconst (pc := 8) C dX10_kindOf_8 ?_
    refine r_istore_n (pc := 9) (lv' := [(2, vI 0), (0, vI v0), (1, vI v1)]) C rfl dX10_kindOf_9 (by decide) rfl ?_
    refine r_iconst (pc := 10) C dX10_kindOf_10 ?_
    refine r_istore_n (pc := 11) (lv' := [(3, vI 0), (2, vI 0), (0, vI v0), (1, vI v1)]) C rfl dX10_kindOf_11 (by decide) rfl ?_
    refine r_sub (lv' := [(0, vI v0), (1, vI v1), (2, vI 0), (3, vI 0)]) [2, 3, 1, 0] rfl ?_
    obtain ⟨q1, hl1, h⟩ := bnd_inv h
    refine w_x_Word_kindOf_L12 C hr (fun v2_1 v3_1 hq => ?_) FUEL _ _ hl1
    have hq := hq.symm
    subst hq
    refine r_iload_n (pc := 77) C 2 rfl rfl dX10_kindOf_77 ?_
    refine r_iload_n (pc := 78) C 0 rfl rfl dX10_kindOf_78 ?_
    refine r_icmp_ne (pc := 79) (tgt := 84) C h dX10_kindOf_79 (by decide) (fun hc79 h => ?_) (fun hc79 h => ?_)
    · obtain ⟨v1_84, hv1_84, h⟩ := lt_inv h
      refine r_iincN (pc := 84) (y := v1_84) (lv' := [(1, vI v1_84), (0, vI v0), (2, vI v2_1)]) C 1 rfl hv1_84 dX10_kindOf_84 (by decide) rfl ?_
      refine r_goto (pc := 87) (tgt := 2) C dX10_kindOf_87 (by decide) ?_
      refine r_sub (lv' := [(0, vI v0), (1, vI v1_84)]) [1, 0] rfl ?_
      exact hrec _ h
    · refine r_iload_n (pc := 82) C 1 rfl rfl dX10_kindOf_82 ?_
      have e := hret _ (Option.some.inj h).symm
      exact r_iret (pc := 83) C hr (congrArg (fun z => some (vI z)) e.symm) rfl dX10_kindOf_83
set_option maxHeartbeats 4000000 in
theorem w_x_Word_kindOf_L2 (C : xCX σ p s m args meth c cX10_kindOf 6 RX10 D E b) (hr : meth.sig.returnType = (some .int)) {r0 : Int} {v0 : Int} {M : Mem} {q : (Int) ⊕ (Int)} (hret : ∀ r, q = .inl r → r = r0) (hfol : ∀ (v1 : Int), q = .inr v1 → xWX p l e 5 111 s m args below meth c 6 D E b (some (vI r0)) M M 90 [] []) : ∀ (n : Nat) (v1 : Int), itr1 (x_Word_kindOf_L2 v0 M) n v1 = some q →
    xWX p l e 5 111 s m args below meth c 6 D E b (some (vI r0)) M M 2 [(0, vI v0), (1, vI v1)] [] := by
  intro n
  induction n with
  | zero => exact fun _ h => itr_z h
  | succ n ih => exact fun _ h => w_x_Word_kindOf_L2_s C hr ih hret hfol h
set_option maxHeartbeats 4000000 in
set_option maxRecDepth 20000 in
theorem c_x_Word_kindOf (l : Launch) {x0 : Int} {M : Mem} {r0 : Int} (h : x_Word_kindOf x0 M = some r0) : Ct l yX10_kindOf cX10_kindOf 6 (some .int) 5 111 vwCl xSh xN xRf (xExt σ) (fun b => [vI x0]) M (fun b => (some (vI r0))) M := by
  refine Ct_of (xExtOK σ) (by decide) (fun b => Nat.le_of_ble_eq_true rfl) ?_
  intro p e s m args below meth c D E b C hr
  unfold x_Word_kindOf at h
  refine (show xWX p l e 5 111 s m args below meth c 6 D E b (some (vI r0)) M M 0 [(0, vI x0)] [] from ?_)
  refine r_iconst (pc := 0) C dX10_kindOf_0 ?_
  refine r_istore_n (pc := 1) (lv' := [(1, vI 0), (0, vI x0)]) C rfl dX10_kindOf_1 (by decide) rfl ?_
  refine r_sub (lv' := [(0, vI x0), (1, vI 0)]) [1, 0] rfl ?_
  obtain ⟨q2, hl2, h⟩ := bnd_inv h
  refine w_x_Word_kindOf_L2 C hr (fun r hq => ?_) (fun v1_2 hq => ?_) FUEL _ hl2
  · have hq := hq.symm
    subst hq
    exact Option.some.inj h
  · have hq := hq.symm
    subst hq
    refine r_bipush (pc := 90) (j := 23) C (by decide +kernel) dX10_kindOf_90 ?_
    have e := Option.some.inj h
    exact r_iret (pc := 92) C hr (congrArg (fun z => some (vI z)) e.symm) rfl dX10_kindOf_92
set_option maxHeartbeats 4000000 in
set_option maxRecDepth 20000 in
theorem w_x_Tokens_finish_B27 (C : xCX σ p s m args meth c cX8_finish 1 RX8 D E b) (hr : meth.sig.returnType = none) {M0 : Mem} {M : Mem} {s1 : Int} (h : x_Tokens_finish_B27 s1 M = some M0) :
    xWX p l e 6 136 s m args below meth c 1 D E b none M0 M 27 [(0, vR b 19)] [vI s1, vR b 19] := by
  unfold x_Tokens_finish_B27 at h
  refine r_aload_n (pc := 27) C 0 rfl rfl dX8_finish_27 ?_
  refine r_getI (pc := 28) C fl_RX8_59 x_s19 (by decide) x_kTokens_5 dX8_finish_28 ?_
  refine r_aload_n (pc := 31) C 0 rfl rfl dX8_finish_31 ?_
  refine r_getI (pc := 32) C fl_RX8_62 x_s19 (by decide) x_kTokens_7 dX8_finish_32 ?_
  obtain ⟨M1, hq1, h⟩ := bnd_inv h
  refine r_callV (pc := 35) (rest := []) (st1 := []) C (xExtOK σ b) [vI s1, vI (M 19 5), vI (M 19 7)] (c_x_Tokens_add l hq1) cl_RX8_45 x_s19 (by decide) rfl rfl rfl rfl ⟨Nat.le_of_ble_eq_true rfl, Nat.le_of_ble_eq_true rfl⟩ (Nat.le_of_ble_eq_true rfl) rfl rfl dX8_finish_35 ?_
  refine r_aload_n (pc := 38) C 0 rfl rfl dX8_finish_38 ?_
  refine r_iconst (pc := 39) C dX8_finish_39 ?_
  obtain ⟨M_40, hM_40, h⟩ := lt_inv h
  refine r_putI (pc := 40) C fl_RX8_25 x_ft8 x_w8_6 x_s19 (by decide) x_kTokens_6 hM_40 dX8_finish_40 ?_
  have e := Option.some.inj h
  exact r_vret (pc := 43) C hr rfl e.symm dX8_finish_43
set_option maxHeartbeats 4000000 in
set_option maxRecDepth 20000 in
theorem c_x_Tokens_finish (l : Launch) {M : Mem} {M0 : Mem} (h : x_Tokens_finish M = some M0) : Ct l yX8_finish cX8_finish 1 none 6 136 vwCl xSh xN xRf (xExt σ) (fun b => [vR b 19]) M (fun b => none) M0 := by
  refine Ct_of (xExtOK σ) (by decide) (fun b => Nat.le_of_ble_eq_true rfl) ?_
  intro p e s m args below meth c D E b C hr
  unfold x_Tokens_finish at h
  refine (show xWX p l e 6 136 s m args below meth c 1 D E b none M0 M 0 [(0, vR b 19)] [] from ?_)
  refine r_aload_n (pc := 0) C 0 rfl rfl dX8_finish_0 ?_
  refine r_getI (pc := 1) C fl_RX8_25 x_s19 (by decide) x_kTokens_6 dX8_finish_1 ?_
  refine r_if_le (pc := 4) (tgt := 38) C h dX8_finish_4 (by decide) (fun hc4 h => ?_) (fun hc4 h => ?_)
  · refine r_aload_n (pc := 38) C 0 rfl rfl dX8_finish_38 ?_
    refine r_iconst (pc := 39) C dX8_finish_39 ?_
    obtain ⟨M_40, hM_40, h⟩ := lt_inv h
    refine r_putI (pc := 40) C fl_RX8_25 x_ft8 x_w8_6 x_s19 (by decide) x_kTokens_6 hM_40 dX8_finish_40 ?_
    have e := Option.some.inj h
    exact r_vret (pc := 43) C hr rfl e.symm dX8_finish_43
  · refine r_aload_n (pc := 7) C 0 rfl rfl dX8_finish_7 ?_
    refine r_aload_n (pc := 8) C 0 rfl rfl dX8_finish_8 ?_
    refine r_getZ (pc := 9) C fl_RX8_52 x_s19 (by decide) x_kTokens_4 dX8_finish_9 ?_
    refine r_if_eq (pc := 12) (tgt := 25) C h dX8_finish_12 (by decide) (fun hc12 h => ?_) (fun hc12 h => ?_)
    · refine r_bipush (pc := 25) (j := 24) C (by decide +kernel) dX8_finish_25 ?_
      refine r_sub (lv' := [(0, vR b 19)]) [0] rfl ?_
      exact w_x_Tokens_finish_B27 C hr h
    · refine r_aload_n (pc := 15) C 0 rfl rfl dX8_finish_15 ?_
      refine r_getI (pc := 16) C fl_RX8_62 x_s19 (by decide) x_kTokens_7 dX8_finish_16 ?_
      obtain ⟨r2, hq2, h⟩ := bnd_inv h
      refine r_callS (pc := 19) (rest := [vR b 19]) (st1 := [vI r2, vR b 19]) C (xExtOK σ b) [vI (M 19 7)] (c_x_Word_kindOf l hq2) cl_RX8_76 rfl rfl ⟨Nat.le_of_ble_eq_true rfl, Nat.le_of_ble_eq_true rfl⟩ (Nat.le_of_ble_eq_true rfl) rfl rfl dX8_finish_19 ?_
      refine r_goto (pc := 22) (tgt := 27) C dX8_finish_22 (by decide) ?_
      refine r_sub (lv' := [(0, vR b 19)]) [0] rfl ?_
      exact w_x_Tokens_finish_B27 C hr h
set_option maxHeartbeats 4000000 in
set_option maxRecDepth 20000 in
theorem c_x_Tokens_bad (l : Launch) {x1 : Int} {x2 : Int} {M : Mem} {r0 : Bool} {M0 : Mem} (h : x_Tokens_bad x1 x2 M = some (r0, M0)) : Ct l yX8_bad cX8_bad 3 (some .boolean) 2 35 vwCl xSh xN xRf (xExt σ) (fun b => [vR b 19, vI x1, vI x2]) M (fun b => (some (vB r0))) M0 := by
  refine Ct_of (xExtOK σ) (by decide) (fun b => Nat.le_of_ble_eq_true rfl) ?_
  intro p e s m args below meth c D E b C hr
  unfold x_Tokens_bad at h
  refine (show xWX p l e 2 35 s m args below meth c 3 D E b (some (vB r0)) M0 M 0 [(0, vR b 19), (1, vI x1), (2, vI x2)] [] from ?_)
  refine r_aload_n (pc := 0) C 0 rfl rfl dX8_bad_0 ?_
  refine r_bipush (pc := 1) (j := 26) C (by decide +kernel) dX8_bad_1 ?_
  refine r_iload_n (pc := 3) C 1 rfl rfl dX8_bad_3 ?_
  refine r_iload_n (pc := 4) C 2 rfl rfl dX8_bad_4 ?_
  obtain ⟨M1, hq1, h⟩ := bnd_inv h
  refine r_callV (pc := 5) (rest := []) (st1 := []) C (xExtOK σ b) [vI 26, vI x1, vI x2] (c_x_Tokens_add l hq1) cl_RX8_45 x_s19 (by decide) rfl rfl rfl rfl ⟨Nat.le_of_ble_eq_true rfl, Nat.le_of_ble_eq_true rfl⟩ (Nat.le_of_ble_eq_true rfl) rfl rfl dX8_bad_5 ?_
  refine r_iconst (pc := 8) C dX8_bad_8 ?_
  have e := Option.some.inj h
  exact r_zret (pc := 9) C hr (Or.inl rfl) (congrArg (fun z => some (vB z)) (Prod.mk.inj e).1.symm) (Prod.mk.inj e).2.symm dX8_bad_9
set_option maxHeartbeats 4000000 in
set_option maxRecDepth 20000 in
theorem w_x_Tokens_takeSign_L20_s (C : xCX σ p s m args meth c cX8_takeSign 4 RX8 D E b) (hr : meth.sig.returnType = (some .boolean)) {r0 : Bool} {M0 : Mem} {v1 : Int} {v2 : Int} {M : Mem} {v3 : Int} {q : (Bool × Mem) ⊕ (Int)} {rec : Int → Option ((Bool × Mem) ⊕ (Int))} (hrec : ∀ (v3 : Int), rec v3 = some q → xWX p l e 7 156 s m args below meth c 4 D E b (some (vB r0)) M0 M 20 [(0, vR b 19), (1, vI v1), (2, vI v2), (3, vI v3)] []) (hret : ∀ r, q = .inl r → r = (r0, M0)) (hfol : ∀ (v3 : Int), q = .inr v3 → xWX p l e 7 156 s m args below meth c 4 D E b (some (vB r0)) M0 M 54 [(0, vR b 19), (2, vI v2)] []) (h : x_Tokens_takeSign_L20 v1 v2 M rec v3 = some q) :
    xWX p l e 7 156 s m args below meth c 4 D E b (some (vB r0)) M0 M 20 [(0, vR b 19), (1, vI v1), (2, vI v2), (3, vI v3)] [] := by
  unfold x_Tokens_takeSign_L20 at h
  refine r_iload_n (pc := 20) C 3 rfl rfl dX8_takeSign_20 ?_
  refine r_ldcS (pc := 21) C (x_tr1 (ext_now C)) dX8_takeSign_21 ?_
  refine r_callVS (pc := 23) (rest := [vI v3]) (st1 := [vI 14, vI v3]) C (xExtOK σ b) [] (s_length l x_tx1 (by decide) (k := 14) rfl) cl_RX8_67 (x_tx1 b s (ext_now C)).1 rfl rfl ⟨Nat.le_of_ble_eq_true rfl, Nat.le_of_ble_eq_true rfl⟩ (Nat.le_of_ble_eq_true rfl) rfl rfl dX8_takeSign_23 ?_
  refine r_icmp_ge (pc := 26) (tgt := 54) C h dX8_takeSign_26 (by decide) (fun hc26 h => ?_) (fun hc26 h => ?_)
  · refine r_sub (lv' := [(0, vR b 19), (2, vI v2)]) [0, 2] rfl ?_
    exact hfol _ (Option.some.inj h).symm
  · refine r_ldcS (pc := 29) C (x_tr1 (ext_now C)) dX8_takeSign_29 ?_
    refine r_iload_n (pc := 31) C 3 rfl rfl dX8_takeSign_31 ?_
    obtain ⟨hi32, h⟩ := chk_inv h
    refine r_callVS (pc := 32) (rest := []) (st1 := [vI (xT1.getD v3.toNat 0)]) C (xExtOK σ b) [vI v3] (s_charAt l x_tx1 x_tb1 (by decide) hi32) cl_RX8_72 (x_tx1 b s (ext_now C)).1 rfl rfl ⟨Nat.le_of_ble_eq_true rfl, Nat.le_of_ble_eq_true rfl⟩ (Nat.le_of_ble_eq_true rfl) rfl rfl dX8_takeSign_32 ?_
    refine r_iload_n (pc := 35) C 1 rfl rfl dX8_takeSign_35 ?_
    refine r_icmp_ne (pc := 36) (tgt := 48) C h dX8_takeSign_36 (by decide) (fun hc36 h => ?_) (fun hc36 h => ?_)
    · obtain ⟨v3_48, hv3_48, h⟩ := lt_inv h
      refine r_iincN (pc := 48) (y := v3_48) (lv' := [(3, vI v3_48), (0, vR b 19), (1, vI v1), (2, vI v2)]) C 3 rfl hv3_48 dX8_takeSign_48 (by decide) rfl ?_
      refine r_goto (pc := 51) (tgt := 20) C dX8_takeSign_51 (by decide) ?_
      refine r_sub (lv' := [(0, vR b 19), (1, vI v1), (2, vI v2), (3, vI v3_48)]) [1, 2, 3, 0] rfl ?_
      exact hrec _ h
    · refine r_aload_n (pc := 39) C 0 rfl rfl dX8_takeSign_39 ?_
      refine r_iload_n (pc := 40) C 1 rfl rfl dX8_takeSign_40 ?_
      refine r_iload_n (pc := 41) C 2 rfl rfl dX8_takeSign_41 ?_
      refine r_iconst (pc := 42) C dX8_takeSign_42 ?_
      obtain ⟨M2, hq2, h⟩ := bnd_inv h
      refine r_callV (pc := 43) (rest := []) (st1 := []) C (xExtOK σ b) [vI v1, vI v2, vI 0] (c_x_Tokens_add l hq2) cl_RX8_45 x_s19 (by decide) rfl rfl rfl rfl ⟨Nat.le_of_ble_eq_true rfl, Nat.le_of_ble_eq_true rfl⟩ (Nat.le_of_ble_eq_true rfl) rfl rfl dX8_takeSign_43 ?_
      refine r_iconst (pc := 46) C dX8_takeSign_46 ?_
      have e := hret _ (Option.some.inj h).symm
      exact r_zret (pc := 47) C hr (Or.inr rfl) (congrArg (fun z => some (vB z)) (Prod.mk.inj e).1.symm) (Prod.mk.inj e).2.symm dX8_takeSign_47
set_option maxHeartbeats 4000000 in
theorem w_x_Tokens_takeSign_L20 (C : xCX σ p s m args meth c cX8_takeSign 4 RX8 D E b) (hr : meth.sig.returnType = (some .boolean)) {r0 : Bool} {M0 : Mem} {v1 : Int} {v2 : Int} {M : Mem} {q : (Bool × Mem) ⊕ (Int)} (hret : ∀ r, q = .inl r → r = (r0, M0)) (hfol : ∀ (v3 : Int), q = .inr v3 → xWX p l e 7 156 s m args below meth c 4 D E b (some (vB r0)) M0 M 54 [(0, vR b 19), (2, vI v2)] []) : ∀ (n : Nat) (v3 : Int), itr1 (x_Tokens_takeSign_L20 v1 v2 M) n v3 = some q →
    xWX p l e 7 156 s m args below meth c 4 D E b (some (vB r0)) M0 M 20 [(0, vR b 19), (1, vI v1), (2, vI v2), (3, vI v3)] [] := by
  intro n
  induction n with
  | zero => exact fun _ h => itr_z h
  | succ n ih => exact fun _ h => w_x_Tokens_takeSign_L20_s C hr ih hret hfol h
set_option maxHeartbeats 4000000 in
set_option maxRecDepth 20000 in
theorem c_x_Tokens_takeSign (l : Launch) {x1 : Int} {x2 : Int} {M : Mem} {r0 : Bool} {M0 : Mem} (h : x_Tokens_takeSign x1 x2 M = some (r0, M0)) : Ct l yX8_takeSign cX8_takeSign 4 (some .boolean) 7 156 vwCl xSh xN xRf (xExt σ) (fun b => [vR b 19, vI x1, vI x2]) M (fun b => (some (vB r0))) M0 := by
  refine Ct_of (xExtOK σ) (by decide) (fun b => Nat.le_of_ble_eq_true rfl) ?_
  intro p e s m args below meth c D E b C hr
  unfold x_Tokens_takeSign at h
  refine (show xWX p l e 7 156 s m args below meth c 4 D E b (some (vB r0)) M0 M 0 [(0, vR b 19), (1, vI x1), (2, vI x2)] [] from ?_)
  refine r_aload_n (pc := 0) C 0 rfl rfl dX8_takeSign_0 ?_
  obtain ⟨M1, hq1, h⟩ := bnd_inv h
  refine r_callV (pc := 1) (rest := []) (st1 := []) C (xExtOK σ b) [] (c_x_Tokens_finish l hq1) cl_RX8_40 x_s19 (by decide) rfl rfl rfl rfl ⟨Nat.le_of_ble_eq_true rfl, Nat.le_of_ble_eq_true rfl⟩ (Nat.le_of_ble_eq_true rfl) rfl rfl dX8_takeSign_1 ?_
  refine r_iload_n (pc := 4) C 1 rfl rfl dX8_takeSign_4 ?_
  refine r_bipush (pc := 5) (j := 32) C (by decide +kernel) dX8_takeSign_5 ?_
  refine r_icmp_eq (pc := 7) (tgt := 16) C h dX8_takeSign_7 (by decide) (fun hc7 h => ?_) (fun hc7 h => ?_)
  · refine r_iconst (pc := 16) C dX8_takeSign_16 ?_
    have e := Option.some.inj h
    exact r_zret (pc := 17) C hr (Or.inr rfl) (congrArg (fun z => some (vB z)) (Prod.mk.inj e).1.symm) (Prod.mk.inj e).2.symm dX8_takeSign_17
  · refine r_iload_n (pc := 10) C 1 rfl rfl dX8_takeSign_10 ?_
    refine r_bipush (pc := 11) (j := 10) C (by decide +kernel) dX8_takeSign_11 ?_
    refine r_icmp_ne (pc := 13) (tgt := 18) C h dX8_takeSign_13 (by decide) (fun hc13 h => ?_) (fun hc13 h => ?_)
    · refine r_iconst (pc := 18) C dX8_takeSign_18 ?_
      refine r_istore_n (pc := 19) (lv' := [(3, vI 0), (0, vR b 19), (1, vI x1), (2, vI x2)]) C rfl dX8_takeSign_19 (by decide) rfl ?_
      refine r_sub (lv' := [(0, vR b 19), (1, vI x1), (2, vI x2), (3, vI 0)]) [1, 2, 3, 0] rfl ?_
      obtain ⟨q3, hl3, h⟩ := bnd_inv h
      refine w_x_Tokens_takeSign_L20 C hr (fun r hq => ?_) (fun v3_3 hq => ?_) FUEL _ hl3
      · have hq := hq.symm
        subst hq
        exact Option.some.inj h
      · have hq := hq.symm
        subst hq
        refine r_aload_n (pc := 54) C 0 rfl rfl dX8_takeSign_54 ?_
        refine r_iload_n (pc := 55) C 1 rfl rfl dX8_takeSign_55 ?_
        refine r_iload_n (pc := 56) C 1 rfl rfl dX8_takeSign_56 ?_
        obtain ⟨r4, M4, hq4, h⟩ := bnd2_inv h
        refine r_callV (pc := 57) (rest := []) (st1 := [vB r4]) C (xExtOK σ b) [vI x2, vI x2] (c_x_Tokens_bad l hq4) cl_RX8_56 x_s19 (by decide) rfl rfl rfl rfl ⟨Nat.le_of_ble_eq_true rfl, Nat.le_of_ble_eq_true rfl⟩ (Nat.le_of_ble_eq_true rfl) rfl rfl dX8_takeSign_57 ?_
        have e := Option.some.inj h
        exact r_zret (pc := 60) C hr (b2i01 _) (congrArg (fun z => some (vB z)) (Prod.mk.inj e).1.symm) (Prod.mk.inj e).2.symm dX8_takeSign_60
    · refine r_iconst (pc := 16) C dX8_takeSign_16 ?_
      have e := Option.some.inj h
      exact r_zret (pc := 17) C hr (Or.inr rfl) (congrArg (fun z => some (vB z)) (Prod.mk.inj e).1.symm) (Prod.mk.inj e).2.symm dX8_takeSign_17
set_option maxHeartbeats 4000000 in
set_option maxRecDepth 20000 in
theorem w_x_Tokens_take_B166 (C : xCX σ p s m args meth c cX8_take 5 RX8 D E b) (hr : meth.sig.returnType = (some .boolean)) {r0 : Bool} {M0 : Mem} {M : Mem} {s1 : Int} (h : x_Tokens_take_B166 s1 M = some (r0, M0)) :
    xWX p l e 8 179 s m args below meth c 5 D E b (some (vB r0)) M0 M 166 [(0, vR b 19)] [vI s1, vR b 19] := by
  unfold x_Tokens_take_B166 at h
  obtain ⟨M_166, hM_166, h⟩ := lt_inv h
  refine r_putI (pc := 166) C fl_RX8_62 x_ft8 x_w8_7 x_s19 (by decide) x_kTokens_7 hM_166 dX8_take_166 ?_
  refine r_aload_n (pc := 169) C 0 rfl rfl dX8_take_169 ?_
  refine r_dup (pc := 170) C rfl dX8_take_170 ?_
  refine r_getI (pc := 171) C fl_RX8_25 x_s19 (by decide) x_kTokens_6 dX8_take_171 ?_
  refine r_iconst (pc := 174) C dX8_take_174 ?_
  refine r_iadd (pc := 175) C dX8_take_175 ?_
  obtain ⟨M_176, hM_176, h⟩ := lt_inv h
  refine r_putI (pc := 176) C fl_RX8_25 x_ft8 x_w8_6 x_s19 (by decide) x_kTokens_6 hM_176 dX8_take_176 ?_
  refine r_iconst (pc := 179) C dX8_take_179 ?_
  have e := Option.some.inj h
  exact r_zret (pc := 180) C hr (Or.inr rfl) (congrArg (fun z => some (vB z)) (Prod.mk.inj e).1.symm) (Prod.mk.inj e).2.symm dX8_take_180
set_option maxHeartbeats 4000000 in
set_option maxRecDepth 20000 in
theorem w_x_Tokens_take_B128 (C : xCX σ p s m args meth c cX8_take 5 RX8 D E b) (hr : meth.sig.returnType = (some .boolean)) {r0 : Bool} {M0 : Mem} {M : Mem} {v1 : Int} {v3 : Int} (h : x_Tokens_take_B128 v1 v3 M = some (r0, M0)) :
    xWX p l e 8 179 s m args below meth c 5 D E b (some (vB r0)) M0 M 128 [(0, vR b 19), (1, vI v1), (3, vI v3)] [] := by
  unfold x_Tokens_take_B128 at h
  refine r_aload_n (pc := 128) C 0 rfl rfl dX8_take_128 ?_
  refine r_iload_n (pc := 129) C 2 rfl rfl dX8_take_129 ?_
  refine r_if_eq (pc := 130) (tgt := 154) C h dX8_take_130 (by decide) (fun hc130 h => ?_) (fun hc130 h => ?_)
  · refine r_bipush (pc := 154) (j := 10) C (by decide +kernel) dX8_take_154 ?_
    refine r_aload_n (pc := 156) C 0 rfl rfl dX8_take_156 ?_
    refine r_getI (pc := 157) C fl_RX8_62 x_s19 (by decide) x_kTokens_7 dX8_take_157 ?_
    refine r_imul (pc := 160) C dX8_take_160 ?_
    refine r_iload_n (pc := 161) C 1 rfl rfl dX8_take_161 ?_
    refine r_iadd (pc := 162) C dX8_take_162 ?_
    refine r_bipush (pc := 163) (j := 48) C (by decide +kernel) dX8_take_163 ?_
    refine r_isub (pc := 165) C dX8_take_165 ?_
    refine r_sub (lv' := [(0, vR b 19)]) [0] rfl ?_
    exact w_x_Tokens_take_B166 C hr h
  · refine r_aload_n (pc := 133) C 0 rfl rfl dX8_take_133 ?_
    refine r_getI (pc := 134) C fl_RX8_62 x_s19 (by decide) x_kTokens_7 dX8_take_134 ?_
    refine r_iload_n (pc := 137) C 1 rfl rfl dX8_take_137 ?_
    refine r_bipush (pc := 138) (j := 97) C (by decide +kernel) dX8_take_138 ?_
    refine r_isub (pc := 140) C dX8_take_140 ?_
    refine r_iconst (pc := 141) C dX8_take_141 ?_
    refine r_iadd (pc := 142) C dX8_take_142 ?_
    refine r_iconst (pc := 143) C dX8_take_143 ?_
    refine r_aload_n (pc := 144) C 0 rfl rfl dX8_take_144 ?_
    refine r_getI (pc := 145) C fl_RX8_25 x_s19 (by decide) x_kTokens_6 dX8_take_145 ?_
    refine r_imul (pc := 148) C dX8_take_148 ?_
    refine r_ishl (pc := 149) C dX8_take_149 ?_
    refine r_ior (pc := 150) C dX8_take_150 ?_
    refine r_goto (pc := 151) (tgt := 166) C dX8_take_151 (by decide) ?_
    refine r_sub (lv' := [(0, vR b 19)]) [0] rfl ?_
    exact w_x_Tokens_take_B166 C hr h
set_option maxHeartbeats 4000000 in
set_option maxRecDepth 20000 in
theorem w_x_Tokens_take_B93 (C : xCX σ p s m args meth c cX8_take 5 RX8 D E b) (hr : meth.sig.returnType = (some .boolean)) {r0 : Bool} {M0 : Mem} {M : Mem} {v1 : Int} {v2 : Int} {v3 : Int} {s0 : Int} {s1 : Int} (h : x_Tokens_take_B93 v1 v2 v3 s0 s1 M = some (r0, M0)) :
    xWX p l e 8 179 s m args below meth c 5 D E b (some (vB r0)) M0 M 93 [(0, vR b 19), (1, vI v1), (2, vI v2), (3, vI v3)] [vI s1, vI s0] := by
  unfold x_Tokens_take_B93 at h
  refine r_icmp_ne (pc := 93) (tgt := 106) C h dX8_take_93 (by decide) (fun hc93 h => ?_) (fun hc93 h => ?_)
  · refine r_aload_n (pc := 106) C 0 rfl rfl dX8_take_106 ?_
    refine r_getI (pc := 107) C fl_RX8_25 x_s19 (by decide) x_kTokens_6 dX8_take_107 ?_
    refine r_if_ne (pc := 110) (tgt := 128) C h dX8_take_110 (by decide) (fun hc110 h => ?_) (fun hc110 h => ?_)
    · refine r_sub (lv' := [(0, vR b 19), (1, vI v1), (3, vI v3)]) [0, 1, 3] rfl ?_
      exact w_x_Tokens_take_B128 C hr h
    · refine r_aload_n (pc := 113) C 0 rfl rfl dX8_take_113 ?_
      refine r_iload_n (pc := 114) C 2 rfl rfl dX8_take_114 ?_
      obtain ⟨M_115, hM_115, h⟩ := lt_inv h
      refine r_putI (pc := 115) C fl_RX8_59 x_ft8 x_w8_5 x_s19 (by decide) x_kTokens_5 hM_115 dX8_take_115 ?_
      refine r_aload_n (pc := 118) C 0 rfl rfl dX8_take_118 ?_
      refine r_iload_n (pc := 119) C 3 rfl rfl dX8_take_119 ?_
      obtain ⟨hb120, h⟩ := chk_inv h
      obtain ⟨M_120, hM_120, h⟩ := lt_inv h
      refine r_putZ (pc := 120) C fl_RX8_52 x_ft8 x_w8_4 x_s19 (by decide) x_kTokens_4 hb120 hM_120 dX8_take_120 ?_
      refine r_aload_n (pc := 123) C 0 rfl rfl dX8_take_123 ?_
      refine r_iconst (pc := 124) C dX8_take_124 ?_
      obtain ⟨M_125, hM_125, h⟩ := lt_inv h
      refine r_putI (pc := 125) C fl_RX8_62 x_ft8 x_w8_7 x_s19 (by decide) x_kTokens_7 hM_125 dX8_take_125 ?_
      refine r_sub (lv' := [(0, vR b 19), (1, vI v1), (3, vI v3)]) [0, 1, 3] rfl ?_
      exact w_x_Tokens_take_B128 C hr h
  · refine r_aload_n (pc := 96) C 0 rfl rfl dX8_take_96 ?_
    refine r_iload_n (pc := 97) C 2 rfl rfl dX8_take_97 ?_
    refine r_aload_n (pc := 98) C 0 rfl rfl dX8_take_98 ?_
    refine r_getI (pc := 99) C fl_RX8_59 x_s19 (by decide) x_kTokens_5 dX8_take_99 ?_
    obtain ⟨r1, M1, hq1, h⟩ := bnd2_inv h
    refine r_callV (pc := 102) (rest := []) (st1 := [vB r1]) C (xExtOK σ b) [vI v2, vI (M 19 5)] (c_x_Tokens_bad l hq1) cl_RX8_56 x_s19 (by decide) rfl rfl rfl rfl ⟨Nat.le_of_ble_eq_true rfl, Nat.le_of_ble_eq_true rfl⟩ (Nat.le_of_ble_eq_true rfl) rfl rfl dX8_take_102 ?_
    have e := Option.some.inj h
    exact r_zret (pc := 105) C hr (b2i01 _) (congrArg (fun z => some (vB z)) (Prod.mk.inj e).1.symm) (Prod.mk.inj e).2.symm dX8_take_105
set_option maxHeartbeats 4000000 in
set_option maxRecDepth 20000 in
theorem w_x_Tokens_take_B79 (C : xCX σ p s m args meth c cX8_take 5 RX8 D E b) (hr : meth.sig.returnType = (some .boolean)) {r0 : Bool} {M0 : Mem} {M : Mem} {v1 : Int} {v2 : Int} {v3 : Int} (h : x_Tokens_take_B79 v1 v2 v3 M = some (r0, M0)) :
    xWX p l e 8 179 s m args below meth c 5 D E b (some (vB r0)) M0 M 79 [(0, vR b 19), (1, vI v1), (2, vI v2), (3, vI v3)] [] := by
  unfold x_Tokens_take_B79 at h
  refine r_aload_n (pc := 79) C 0 rfl rfl dX8_take_79 ?_
  refine r_getI (pc := 80) C fl_RX8_25 x_s19 (by decide) x_kTokens_6 dX8_take_80 ?_
  refine r_iload_n (pc := 83) C 3 rfl rfl dX8_take_83 ?_
  refine r_if_eq (pc := 84) (tgt := 92) C h dX8_take_84 (by decide) (fun hc84 h => ?_) (fun hc84 h => ?_)
  · refine r_iconst (pc := 92) C dX8_take_92 ?_
    refine r_sub (lv' := [(0, vR b 19), (1, vI v1), (2, vI v2), (3, vI v3)]) [0, 1, 2, 3] rfl ?_
    exact w_x_Tokens_take_B93 C hr h
  · refine r_bipush (pc := 87) (j := 6) C (by decide +kernel) dX8_take_87 ?_
    refine r_goto (pc := 89) (tgt := 93) C dX8_take_89 (by decide) ?_
    refine r_sub (lv' := [(0, vR b 19), (1, vI v1), (2, vI v2), (3, vI v3)]) [0, 1, 2, 3] rfl ?_
    exact w_x_Tokens_take_B93 C hr h
set_option maxHeartbeats 4000000 in
set_option maxRecDepth 20000 in
theorem w_x_Tokens_take_B53 (C : xCX σ p s m args meth c cX8_take 5 RX8 D E b) (hr : meth.sig.returnType = (some .boolean)) {r0 : Bool} {M0 : Mem} {M : Mem} {v1 : Int} {v2 : Int} {v3 : Int} (h : x_Tokens_take_B53 v1 v2 v3 M = some (r0, M0)) :
    xWX p l e 8 179 s m args below meth c 5 D E b (some (vB r0)) M0 M 53 [(0, vR b 19), (1, vI v1), (2, vI v2), (3, vI v3)] [] := by
  unfold x_Tokens_take_B53 at h
  refine r_aload_n (pc := 53) C 0 rfl rfl dX8_take_53 ?_
  refine r_getI (pc := 54) C fl_RX8_25 x_s19 (by decide) x_kTokens_6 dX8_take_54 ?_
  refine r_if_le (pc := 57) (tgt := 79) C h dX8_take_57 (by decide) (fun hc57 h => ?_) (fun hc57 h => ?_)
  · refine r_sub (lv' := [(0, vR b 19), (1, vI v1), (2, vI v2), (3, vI v3)]) [0, 1, 2, 3] rfl ?_
    exact w_x_Tokens_take_B79 C hr h
  · refine r_iload_n (pc := 60) C 3 rfl rfl dX8_take_60 ?_
    refine r_aload_n (pc := 61) C 0 rfl rfl dX8_take_61 ?_
    refine r_getZ (pc := 62) C fl_RX8_52 x_s19 (by decide) x_kTokens_4 dX8_take_62 ?_
    refine r_icmp_eq (pc := 65) (tgt := 79) C h dX8_take_65 (by decide) (fun hc65 h => ?_) (fun hc65 h => ?_)
    · refine r_sub (lv' := [(0, vR b 19), (1, vI v1), (2, vI v2), (3, vI v3)]) [0, 1, 2, 3] rfl ?_
      exact w_x_Tokens_take_B79 C hr h
    · refine r_aload_n (pc := 68) C 0 rfl rfl dX8_take_68 ?_
      obtain ⟨M2, hq2, h⟩ := bnd_inv h
      refine r_callV (pc := 69) (rest := []) (st1 := []) C (xExtOK σ b) [] (c_x_Tokens_finish l hq2) cl_RX8_40 x_s19 (by decide) rfl rfl rfl rfl ⟨Nat.le_of_ble_eq_true rfl, Nat.le_of_ble_eq_true rfl⟩ (Nat.le_of_ble_eq_true rfl) rfl rfl dX8_take_69 ?_
      refine r_aload_n (pc := 72) C 0 rfl rfl dX8_take_72 ?_
      refine r_iload_n (pc := 73) C 2 rfl rfl dX8_take_73 ?_
      refine r_iload_n (pc := 74) C 2 rfl rfl dX8_take_74 ?_
      obtain ⟨r3, M3, hq3, h⟩ := bnd2_inv h
      refine r_callV (pc := 75) (rest := []) (st1 := [vB r3]) C (xExtOK σ b) [vI v2, vI v2] (c_x_Tokens_bad l hq3) cl_RX8_56 x_s19 (by decide) rfl rfl rfl rfl ⟨Nat.le_of_ble_eq_true rfl, Nat.le_of_ble_eq_true rfl⟩ (Nat.le_of_ble_eq_true rfl) rfl rfl dX8_take_75 ?_
      have e := Option.some.inj h
      exact r_zret (pc := 78) C hr (b2i01 _) (congrArg (fun z => some (vB z)) (Prod.mk.inj e).1.symm) (Prod.mk.inj e).2.symm dX8_take_78
set_option maxHeartbeats 4000000 in
set_option maxRecDepth 20000 in
theorem w_x_Tokens_take_B35 (C : xCX σ p s m args meth c cX8_take 5 RX8 D E b) (hr : meth.sig.returnType = (some .boolean)) {r0 : Bool} {M0 : Mem} {M : Mem} {v1 : Int} {v2 : Int} {v3 : Int} {s0 : Int} (h : x_Tokens_take_B35 v1 v2 v3 s0 M = some (r0, M0)) :
    xWX p l e 8 179 s m args below meth c 5 D E b (some (vB r0)) M0 M 35 [(0, vR b 19), (1, vI v1), (2, vI v2), (3, vI v3)] [vI s0] := by
  unfold x_Tokens_take_B35 at h
  refine r_istore (pc := 35) (lv' := [(4, vI s0), (0, vR b 19), (1, vI v1), (2, vI v2), (3, vI v3)]) C dX8_take_35 (by decide) rfl ?_
  refine r_iload_n (pc := 37) C 4 rfl rfl dX8_take_37 ?_
  refine r_if_ne (pc := 38) (tgt := 53) C h dX8_take_38 (by decide) (fun hc38 h => ?_) (fun hc38 h => ?_)
  · refine r_sub (lv' := [(0, vR b 19), (1, vI v1), (2, vI v2), (3, vI v3)]) [1, 2, 3, 4] rfl ?_
    exact w_x_Tokens_take_B53 C hr h
  · refine r_iload (pc := 41) C 0 rfl dX8_take_41 ?_
    refine r_if_ne (pc := 43) (tgt := 53) C h dX8_take_43 (by decide) (fun hc43 h => ?_) (fun hc43 h => ?_)
    · refine r_sub (lv' := [(0, vR b 19), (1, vI v1), (2, vI v2), (3, vI v3)]) [1, 2, 3, 4] rfl ?_
      exact w_x_Tokens_take_B53 C hr h
    · refine r_aload_n (pc := 46) C 1 rfl rfl dX8_take_46 ?_
      refine r_iload_n (pc := 47) C 2 rfl rfl dX8_take_47 ?_
      refine r_iload_n (pc := 48) C 3 rfl rfl dX8_take_48 ?_
      obtain ⟨r4, M4, hq4, h⟩ := bnd2_inv h
      refine r_callV (pc := 49) (rest := []) (st1 := [vB r4]) C (xExtOK σ b) [vI v1, vI v2] (c_x_Tokens_takeSign l hq4) cl_RX8_49 x_s19 (by decide) rfl rfl rfl rfl ⟨Nat.le_of_ble_eq_true rfl, Nat.le_of_ble_eq_true rfl⟩ (Nat.le_of_ble_eq_true rfl) rfl rfl dX8_take_49 ?_
      have e := Option.some.inj h
      exact r_zret (pc := 52) C hr (b2i01 _) (congrArg (fun z => some (vB z)) (Prod.mk.inj e).1.symm) (Prod.mk.inj e).2.symm dX8_take_52
set_option maxHeartbeats 4000000 in
set_option maxRecDepth 20000 in
theorem w_x_Tokens_take_B34 (C : xCX σ p s m args meth c cX8_take 5 RX8 D E b) (hr : meth.sig.returnType = (some .boolean)) {r0 : Bool} {M0 : Mem} {M : Mem} {v1 : Int} {v2 : Int} {v3 : Int} (h : x_Tokens_take_B34 v1 v2 v3 M = some (r0, M0)) :
    xWX p l e 8 179 s m args below meth c 5 D E b (some (vB r0)) M0 M 34 [(0, vR b 19), (1, vI v1), (2, vI v2), (3, vI v3)] [] := by
  unfold x_Tokens_take_B34 at h
  refine r_iconst (pc := 34) C dX8_take_34 ?_
  refine r_sub (lv' := [(0, vR b 19), (1, vI v1), (2, vI v2), (3, vI v3)]) [0, 1, 2, 3] rfl ?_
  exact w_x_Tokens_take_B35 C hr h
set_option maxHeartbeats 4000000 in
set_option maxRecDepth 20000 in
theorem w_x_Tokens_take_B17 (C : xCX σ p s m args meth c cX8_take 5 RX8 D E b) (hr : meth.sig.returnType = (some .boolean)) {r0 : Bool} {M0 : Mem} {M : Mem} {v1 : Int} {v2 : Int} {s0 : Int} (h : x_Tokens_take_B17 v1 v2 s0 M = some (r0, M0)) :
    xWX p l e 8 179 s m args below meth c 5 D E b (some (vB r0)) M0 M 17 [(0, vR b 19), (1, vI v1), (2, vI v2)] [vI s0] := by
  unfold x_Tokens_take_B17 at h
  refine r_istore_n (pc := 17) (lv' := [(3, vI s0), (0, vR b 19), (1, vI v1), (2, vI v2)]) C rfl dX8_take_17 (by decide) rfl ?_
  refine r_iload_n (pc := 18) C 2 rfl rfl dX8_take_18 ?_
  refine r_bipush (pc := 19) (j := 48) C (by decide +kernel) dX8_take_19 ?_
  refine r_icmp_lt (pc := 21) (tgt := 34) C h dX8_take_21 (by decide) (fun hc21 h => ?_) (fun hc21 h => ?_)
  · refine r_sub (lv' := [(0, vR b 19), (1, vI v1), (2, vI v2), (3, vI s0)]) [1, 2, 3, 0] rfl ?_
    exact w_x_Tokens_take_B34 C hr h
  · refine r_iload_n (pc := 24) C 2 rfl rfl dX8_take_24 ?_
    refine r_bipush (pc := 25) (j := 57) C (by decide +kernel) dX8_take_25 ?_
    refine r_icmp_gt (pc := 27) (tgt := 34) C h dX8_take_27 (by decide) (fun hc27 h => ?_) (fun hc27 h => ?_)
    · refine r_sub (lv' := [(0, vR b 19), (1, vI v1), (2, vI v2), (3, vI s0)]) [1, 2, 3, 0] rfl ?_
      exact w_x_Tokens_take_B34 C hr h
    · refine r_iconst (pc := 30) C dX8_take_30 ?_
      refine r_goto (pc := 31) (tgt := 35) C dX8_take_31 (by decide) ?_
      refine r_sub (lv' := [(0, vR b 19), (1, vI v1), (2, vI v2), (3, vI s0)]) [1, 2, 3, 0] rfl ?_
      exact w_x_Tokens_take_B35 C hr h
set_option maxHeartbeats 4000000 in
set_option maxRecDepth 20000 in
theorem w_x_Tokens_take_B16 (C : xCX σ p s m args meth c cX8_take 5 RX8 D E b) (hr : meth.sig.returnType = (some .boolean)) {r0 : Bool} {M0 : Mem} {M : Mem} {v1 : Int} {v2 : Int} (h : x_Tokens_take_B16 v1 v2 M = some (r0, M0)) :
    xWX p l e 8 179 s m args below meth c 5 D E b (some (vB r0)) M0 M 16 [(0, vR b 19), (1, vI v1), (2, vI v2)] [] := by
  unfold x_Tokens_take_B16 at h
  refine r_iconst (pc := 16) C dX8_take_16 ?_
  refine r_sub (lv' := [(0, vR b 19), (1, vI v1), (2, vI v2)]) [0, 1, 2] rfl ?_
  exact w_x_Tokens_take_B17 C hr h
set_option maxHeartbeats 4000000 in
set_option maxRecDepth 20000 in
theorem c_x_Tokens_take (l : Launch) {x1 : Int} {x2 : Int} {M : Mem} {r0 : Bool} {M0 : Mem} (h : x_Tokens_take x1 x2 M = some (r0, M0)) : Ct l yX8_take cX8_take 5 (some .boolean) 8 179 vwCl xSh xN xRf (xExt σ) (fun b => [vR b 19, vI x1, vI x2]) M (fun b => (some (vB r0))) M0 := by
  refine Ct_of (xExtOK σ) (by decide) (fun b => Nat.le_of_ble_eq_true rfl) ?_
  intro p e s m args below meth c D E b C hr
  unfold x_Tokens_take at h
  refine (show xWX p l e 8 179 s m args below meth c 5 D E b (some (vB r0)) M0 M 0 [(0, vR b 19), (1, vI x1), (2, vI x2)] [] from ?_)
  refine r_iload_n (pc := 0) C 1 rfl rfl dX8_take_0 ?_
  refine r_bipush (pc := 1) (j := 97) C (by decide +kernel) dX8_take_1 ?_
  refine r_icmp_lt (pc := 3) (tgt := 16) C h dX8_take_3 (by decide) (fun hc3 h => ?_) (fun hc3 h => ?_)
  · refine r_sub (lv' := [(0, vR b 19), (1, vI x1), (2, vI x2)]) [0, 1, 2] rfl ?_
    exact w_x_Tokens_take_B16 C hr h
  · refine r_iload_n (pc := 6) C 1 rfl rfl dX8_take_6 ?_
    refine r_bipush (pc := 7) (j := 122) C (by decide +kernel) dX8_take_7 ?_
    refine r_icmp_gt (pc := 9) (tgt := 16) C h dX8_take_9 (by decide) (fun hc9 h => ?_) (fun hc9 h => ?_)
    · refine r_sub (lv' := [(0, vR b 19), (1, vI x1), (2, vI x2)]) [0, 1, 2] rfl ?_
      exact w_x_Tokens_take_B16 C hr h
    · refine r_iconst (pc := 12) C dX8_take_12 ?_
      refine r_goto (pc := 13) (tgt := 17) C dX8_take_13 (by decide) ?_
      refine r_sub (lv' := [(0, vR b 19), (1, vI x1), (2, vI x2)]) [0, 1, 2] rfl ?_
      exact w_x_Tokens_take_B17 C hr h
set_option maxHeartbeats 4000000 in
set_option maxRecDepth 20000 in
theorem w_x_Tokens_split_L14_s (C : xCX σ p s m args meth c cX8_split 4 RX8 D E b) (hr : meth.sig.returnType = none) {M0 : Mem} {v2 : Int} {v3 : Int} {M : Mem} {q : Int × Int × Mem} {rec : Int → Int → Mem → Option (Int × Int × Mem)} (hrec : ∀ (v2 : Int) (v3 : Int) (M : Mem), rec v2 v3 M = some q → xWX p l e 9 203 s m args below meth c 4 D E b none M0 M 14 [(0, vR b 19), (1, vR b 1), (2, vI v2), (3, vI v3)] []) (hfol : ∀ (v2 : Int) (v3 : Int) (M : Mem), q = (v2, v3, M) → xWX p l e 9 203 s m args below meth c 4 D E b none M0 M 53 [(0, vR b 19), (1, vR b 1), (2, vI v2)] []) (h : x_Tokens_split_L14 rec v2 v3 M = some q) :
    xWX p l e 9 203 s m args below meth c 4 D E b none M0 M 14 [(0, vR b 19), (1, vR b 1), (2, vI v2), (3, vI v3)] [] := by
  unfold x_Tokens_split_L14 at h
  refine r_iload_n (pc := 14) C 3 rfl rfl dX8_split_14 ?_
  refine r_aload_n (pc := 15) C 1 rfl rfl dX8_split_15 ?_
  refine r_getI (pc := 16) C fl_RX8_28 x_s1 (by decide) x_kTape_1 dX8_split_16 ?_
  refine r_icmp_ge (pc := 19) (tgt := 53) C h dX8_split_19 (by decide) (fun hc19 h => ?_) (fun hc19 h => ?_)
  · refine r_sub (lv' := [(0, vR b 19), (1, vR b 1), (2, vI v2)]) [0, 1, 2] rfl ?_
    exact hfol _ _ _ (Option.some.inj h).symm
  · refine r_iload_n (pc := 22) C 3 rfl rfl dX8_split_22 ?_
    refine r_aload_n (pc := 23) C 1 rfl rfl dX8_split_23 ?_
    refine r_getR (pc := 24) C fl_RX8_33 x_s1 (by decide) x_kTape_0 x_r1_0 dX8_split_24 ?_
    refine r_alen (pc := 27) C x_s2 (by decide) dX8_split_27 ?_
    refine r_icmp_ge (pc := 28) (tgt := 53) C h dX8_split_28 (by decide) (fun hc28 h => ?_) (fun hc28 h => ?_)
    · refine r_sub (lv' := [(0, vR b 19), (1, vR b 1), (2, vI v2)]) [0, 1, 2] rfl ?_
      exact hfol _ _ _ (Option.some.inj h).symm
    · refine r_iload_n (pc := 31) C 2 rfl rfl dX8_split_31 ?_
      refine r_if_eq (pc := 32) (tgt := 53) C h dX8_split_32 (by decide) (fun hc32 h => ?_) (fun hc32 h => ?_)
      · refine r_sub (lv' := [(0, vR b 19), (1, vR b 1), (2, vI v2)]) [0, 1, 2] rfl ?_
        exact hfol _ _ _ (Option.some.inj h).symm
      · refine r_aload_n (pc := 35) C 0 rfl rfl dX8_split_35 ?_
        refine r_aload_n (pc := 36) C 1 rfl rfl dX8_split_36 ?_
        refine r_getR (pc := 37) C fl_RX8_33 x_s1 (by decide) x_kTape_0 x_r1_0 dX8_split_37 ?_
        refine r_iload_n (pc := 40) C 3 rfl rfl dX8_split_40 ?_
        obtain ⟨hi41, h⟩ := chk_inv h
        refine r_iald (pc := 41) C x_s2 (by decide) (by decide) hi41 rfl dX8_split_41 ?_
        refine r_iload_n (pc := 42) C 3 rfl rfl dX8_split_42 ?_
        obtain ⟨r1, M1, hq1, h⟩ := bnd2_inv h
        refine r_callV (pc := 43) (rest := []) (st1 := [vB r1]) C (xExtOK σ b) [vI (M 2 v3.toNat), vI v3] (c_x_Tokens_take l hq1) cl_RX8_36 x_s19 (by decide) rfl rfl rfl rfl ⟨Nat.le_of_ble_eq_true rfl, Nat.le_of_ble_eq_true rfl⟩ (Nat.le_of_ble_eq_true rfl) rfl rfl dX8_split_43 ?_
        obtain ⟨v2_46, hv2_46, h⟩ := lt_inv h
        refine r_topI hv2_46 ?_
        refine r_istore_n (pc := 46) (lv' := [(2, vI v2_46), (0, vR b 19), (1, vR b 1), (3, vI v3)]) C rfl dX8_split_46 (by decide) rfl ?_
        obtain ⟨v3_47, hv3_47, h⟩ := lt_inv h
        refine r_iincN (pc := 47) (y := v3_47) (lv' := [(3, vI v3_47), (2, vI v2_46), (0, vR b 19), (1, vR b 1)]) C 3 rfl hv3_47 dX8_split_47 (by decide) rfl ?_
        refine r_goto (pc := 50) (tgt := 14) C dX8_split_50 (by decide) ?_
        refine r_sub (lv' := [(0, vR b 19), (1, vR b 1), (2, vI v2_46), (3, vI v3_47)]) [2, 3, 1, 0] rfl ?_
        exact hrec _ _ _ h
set_option maxHeartbeats 4000000 in
theorem w_x_Tokens_split_L14 (C : xCX σ p s m args meth c cX8_split 4 RX8 D E b) (hr : meth.sig.returnType = none) {M0 : Mem} {q : Int × Int × Mem} (hfol : ∀ (v2 : Int) (v3 : Int) (M : Mem), q = (v2, v3, M) → xWX p l e 9 203 s m args below meth c 4 D E b none M0 M 53 [(0, vR b 19), (1, vR b 1), (2, vI v2)] []) : ∀ (n : Nat) (v2 : Int) (v3 : Int) (M : Mem), itr3 (x_Tokens_split_L14) n v2 v3 M = some q →
    xWX p l e 9 203 s m args below meth c 4 D E b none M0 M 14 [(0, vR b 19), (1, vR b 1), (2, vI v2), (3, vI v3)] [] := by
  intro n
  induction n with
  | zero => exact fun _ _ _ h => itr_z h
  | succ n ih => exact fun _ _ _ h => w_x_Tokens_split_L14_s C hr ih hfol h
set_option maxHeartbeats 4000000 in
set_option maxRecDepth 20000 in
theorem c_x_Tokens_split (l : Launch) {M : Mem} {M0 : Mem} (h : x_Tokens_split M = some M0) : Ct l yX8_split cX8_split 4 none 9 203 vwCl xSh xN xRf (xExt σ) (fun b => [vR b 19, vR b 1]) M (fun b => none) M0 := by
  refine Ct_of (xExtOK σ) (by decide) (fun b => Nat.le_of_ble_eq_true rfl) ?_
  intro p e s m args below meth c D E b C hr
  unfold x_Tokens_split at h
  refine (show xWX p l e 9 203 s m args below meth c 4 D E b none M0 M 0 [(0, vR b 19), (1, vR b 1)] [] from ?_)
  refine r_aload_n (pc := 0) C 0 rfl rfl dX8_split_0 ?_
  refine r_iconst (pc := 1) C dX8_split_1 ?_
  obtain ⟨M_2, hM_2, h⟩ := lt_inv h
  refine r_putI (pc := 2) C fl_RX8_21 x_ft8 x_w8_3 x_s19 (by decide) x_kTokens_3 hM_2 dX8_split_2 ?_
  refine r_aload_n (pc := 5) C 0 rfl rfl dX8_split_5 ?_
  refine r_iconst (pc := 6) C dX8_split_6 ?_
  obtain ⟨M_7, hM_7, h⟩ := lt_inv h
  refine r_putI (pc := 7) C fl_RX8_25 x_ft8 x_w8_6 x_s19 (by decide) x_kTokens_6 hM_7 dX8_split_7 ?_
  refine r_iconst (pc := 10) C dX8_split_10 ?_
  refine r_istore_n (pc := 11) (lv' := [(2, vI 1), (0, vR b 19), (1, vR b 1)]) C rfl dX8_split_11 (by decide) rfl ?_
  refine r_iconst (pc := 12) C dX8_split_12 ?_
  refine r_istore_n (pc := 13) (lv' := [(3, vI 0), (2, vI 1), (0, vR b 19), (1, vR b 1)]) C rfl dX8_split_13 (by decide) rfl ?_
  refine r_sub (lv' := [(0, vR b 19), (1, vR b 1), (2, vI 1), (3, vI 0)]) [2, 3, 1, 0] rfl ?_
  obtain ⟨q2, hl2, h⟩ := bnd_inv h
  refine w_x_Tokens_split_L14 C hr (fun v2_2 v3_2 M_2 hq => ?_) FUEL _ _ _ hl2
  have hq := hq.symm
  subst hq
  refine r_iload_n (pc := 53) C 2 rfl rfl dX8_split_53 ?_
  refine r_if_eq (pc := 54) (tgt := 72) C h dX8_split_54 (by decide) (fun hc54 h => ?_) (fun hc54 h => ?_)
  · have e := Option.some.inj h
    exact r_vret (pc := 72) C hr rfl e.symm dX8_split_72
  · refine r_aload_n (pc := 57) C 0 rfl rfl dX8_split_57 ?_
    obtain ⟨M3, hq3, h⟩ := bnd_inv h
    refine r_callV (pc := 58) (rest := []) (st1 := []) C (xExtOK σ b) [] (c_x_Tokens_finish l hq3) cl_RX8_40 x_s19 (by decide) rfl rfl rfl rfl ⟨Nat.le_of_ble_eq_true rfl, Nat.le_of_ble_eq_true rfl⟩ (Nat.le_of_ble_eq_true rfl) rfl rfl dX8_split_58 ?_
    refine r_aload_n (pc := 61) C 0 rfl rfl dX8_split_61 ?_
    refine r_bipush (pc := 62) (j := 25) C (by decide +kernel) dX8_split_62 ?_
    refine r_aload_n (pc := 64) C 1 rfl rfl dX8_split_64 ?_
    refine r_getI (pc := 65) C fl_RX8_28 x_s1 (by decide) x_kTape_1 dX8_split_65 ?_
    refine r_iconst (pc := 68) C dX8_split_68 ?_
    obtain ⟨M4, hq4, h⟩ := bnd_inv h
    refine r_callV (pc := 69) (rest := []) (st1 := []) C (xExtOK σ b) [vI 25, vI (M3 1 1), vI 0] (c_x_Tokens_add l hq4) cl_RX8_45 x_s19 (by decide) rfl rfl rfl rfl ⟨Nat.le_of_ble_eq_true rfl, Nat.le_of_ble_eq_true rfl⟩ (Nat.le_of_ble_eq_true rfl) rfl rfl dX8_split_69 ?_
    have e := Option.some.inj h
    exact r_vret (pc := 72) C hr rfl e.symm dX8_split_72
set_option maxHeartbeats 4000000 in
set_option maxRecDepth 20000 in
theorem w_j_Arrays_fill_53178_L5_s (C : xCX σ p s m args meth c cJ7_fill_53178 4 RJ7 D E b) (hr : meth.sig.returnType = none) {M0 : Mem} (a0 : Nat) (La0 : Nat) (ha0 : xSh a0 = (0, [La0])) (na0 : a0 < xN) (la0 : La0 ≤ 2147483647) {v1 : Int} {v3 : Int} {v2 : Int} {M : Mem} {q : Int × Mem} {rec : Int → Mem → Option (Int × Mem)} (hrec : ∀ (v2 : Int) (M : Mem), rec v2 M = some q → xWX p l e 1 12 s m args below meth c 4 D E b none M0 M 5 [(0, vR b a0), (1, vI v1), (2, vI v2), (3, vI v3)] []) (hfol : ∀ (v2 : Int) (M : Mem), q = (v2, M) → xWX p l e 1 12 s m args below meth c 4 D E b none M0 M 20 [] []) (h : j_Arrays_fill_53178_L5 a0 La0 v1 v3 rec v2 M = some q) :
    xWX p l e 1 12 s m args below meth c 4 D E b none M0 M 5 [(0, vR b a0), (1, vI v1), (2, vI v2), (3, vI v3)] [] := by
  unfold j_Arrays_fill_53178_L5 at h
  refine r_iload_n (pc := 5) C 2 rfl rfl dJ7_fill_53178_5 ?_
  refine r_iload_n (pc := 6) C 3 rfl rfl dJ7_fill_53178_6 ?_
  refine r_icmp_ge (pc := 7) (tgt := 20) C h dJ7_fill_53178_7 (by decide) (fun hc7 h => ?_) (fun hc7 h => ?_)
  · refine r_sub (lv' := []) [] rfl ?_
    exact hfol _ _ (Option.some.inj h).symm
  · refine r_aload_n (pc := 10) C 0 rfl rfl dJ7_fill_53178_10 ?_
    refine r_iload_n (pc := 11) C 2 rfl rfl dJ7_fill_53178_11 ?_
    refine r_iload_n (pc := 12) C 1 rfl rfl dJ7_fill_53178_12 ?_
    obtain ⟨hi13, h⟩ := chk_inv h
    obtain ⟨M_13, hM_13, h⟩ := lt_inv h
    refine r_iast (pc := 13) C ha0 na0 la0 hi13 rfl hM_13 dJ7_fill_53178_13 ?_
    obtain ⟨v2_14, hv2_14, h⟩ := lt_inv h
    refine r_iincN (pc := 14) (y := v2_14) (lv' := [(2, vI v2_14), (0, vR b a0), (1, vI v1), (3, vI v3)]) C 2 rfl hv2_14 dJ7_fill_53178_14 (by decide) rfl ?_
    refine r_goto (pc := 17) (tgt := 5) C dJ7_fill_53178_17 (by decide) ?_
    refine r_sub (lv' := [(0, vR b a0), (1, vI v1), (2, vI v2_14), (3, vI v3)]) [1, 2, 0, 3] rfl ?_
    exact hrec _ _ h
set_option maxHeartbeats 4000000 in
theorem w_j_Arrays_fill_53178_L5 (C : xCX σ p s m args meth c cJ7_fill_53178 4 RJ7 D E b) (hr : meth.sig.returnType = none) {M0 : Mem} (a0 : Nat) (La0 : Nat) (ha0 : xSh a0 = (0, [La0])) (na0 : a0 < xN) (la0 : La0 ≤ 2147483647) {v1 : Int} {v3 : Int} {q : Int × Mem} (hfol : ∀ (v2 : Int) (M : Mem), q = (v2, M) → xWX p l e 1 12 s m args below meth c 4 D E b none M0 M 20 [] []) : ∀ (n : Nat) (v2 : Int) (M : Mem), itr2 (j_Arrays_fill_53178_L5 a0 La0 v1 v3) n v2 M = some q →
    xWX p l e 1 12 s m args below meth c 4 D E b none M0 M 5 [(0, vR b a0), (1, vI v1), (2, vI v2), (3, vI v3)] [] := by
  intro n
  induction n with
  | zero => exact fun _ _ h => itr_z h
  | succ n ih => exact fun _ _ h => w_j_Arrays_fill_53178_L5_s C hr a0 La0 ha0 na0 la0 ih hfol h
set_option maxHeartbeats 4000000 in
set_option maxRecDepth 20000 in
theorem c_j_Arrays_fill_53178 (l : Launch) (a0 : Nat) (La0 : Nat) (ha0 : xSh a0 = (0, [La0])) (na0 : a0 < xN) (la0 : La0 ≤ 2147483647) {x1 : Int} {M : Mem} {M0 : Mem} (h : j_Arrays_fill_53178 a0 La0 x1 M = some M0) : Ct l yJ7_fill_53178 cJ7_fill_53178 4 none 1 12 vwCl xSh xN xRf (xExt σ) (fun b => [vR b a0, vI x1]) M (fun b => none) M0 := by
  refine Ct_of (xExtOK σ) (by decide) (fun b => Nat.le_of_ble_eq_true rfl) ?_
  intro p e s m args below meth c D E b C hr
  unfold j_Arrays_fill_53178 at h
  refine (show xWX p l e 1 12 s m args below meth c 4 D E b none M0 M 0 [(0, vR b a0), (1, vI x1)] [] from ?_)
  refine r_iconst (pc := 0) C dJ7_fill_53178_0 ?_
  refine r_istore_n (pc := 1) (lv' := [(2, vI 0), (0, vR b a0), (1, vI x1)]) C rfl dJ7_fill_53178_1 (by decide) rfl ?_
  refine r_aload_n (pc := 2) C 1 rfl rfl dJ7_fill_53178_2 ?_
  refine r_alen (pc := 3) C ha0 na0 dJ7_fill_53178_3 ?_
  obtain ⟨v3_4, hv3_4, h⟩ := lt_inv h
  refine r_topI hv3_4 ?_
  refine r_istore_n (pc := 4) (lv' := [(3, vI v3_4), (2, vI 0), (0, vR b a0), (1, vI x1)]) C rfl dJ7_fill_53178_4 (by decide) rfl ?_
  refine r_sub (lv' := [(0, vR b a0), (1, vI x1), (2, vI 0), (3, vI v3_4)]) [2, 3, 1, 0] rfl ?_
  obtain ⟨q1, hl1, h⟩ := bnd_inv h
  refine w_j_Arrays_fill_53178_L5 C hr a0 La0 ha0 na0 la0 (fun v2_1 M_1 hq => ?_) FUEL _ _ hl1
  have hq := hq.symm
  subst hq
  have e := Option.some.inj h
  exact r_vret (pc := 20) C hr rfl e.symm dJ7_fill_53178_20
set_option maxHeartbeats 4000000 in
set_option maxRecDepth 20000 in
theorem c_x_Rules_clear (l : Launch) (th : Nat) (hth : th ∈ xI_Rules) {M : Mem} {M0 : Mem} (h : x_Rules_clear th M = some M0) : Ct l yX5_clear cX5_clear 1 none 2 35 vwCl xSh xN xRf (xExt σ) (fun b => [vR b th]) M (fun b => none) M0 := by
  refine Ct_of (xExtOK σ) (by decide) (fun b => Nat.le_of_ble_eq_true rfl) ?_
  intro p e s m args below meth c D E b C hr
  unfold x_Rules_clear at h
  refine (show xWX p l e 2 35 s m args below meth c 1 D E b none M0 M 0 [(0, vR b th)] [] from ?_)
  refine r_aload_n (pc := 0) C 0 rfl rfl dX5_clear_0 ?_
  refine r_iconst (pc := 1) C dX5_clear_1 ?_
  obtain ⟨M_2, hM_2, h⟩ := lt_inv h
  refine r_putI (pc := 2) C fl_RX5_29 x_ft5 x_w5_5 (x_sI_Rules hth) (x_nI_Rules hth) x_kRules_5 hM_2 dX5_clear_2 ?_
  refine r_aload_n (pc := 5) C 0 rfl rfl dX5_clear_5 ?_
  refine r_getR (pc := 6) C fl_RX5_20 (x_sI_Rules hth) (x_nI_Rules hth) x_kRules_2 (x_rI_Rules_2 hth) dX5_clear_6 ?_
  refine r_iconst (pc := 9) C dX5_clear_9 ?_
  obtain ⟨M1, hq1, h⟩ := bnd_inv h
  refine r_callS (pc := 10) (rest := []) (st1 := []) C (xExtOK σ b) [vR b (th + 3), vI 0] (c_j_Arrays_fill_53178 l (th + 3) 3 (x_aI_Rules_2 hth) (x_bI_Rules_2 hth) (by decide) hq1) cl_RX5_33 rfl rfl ⟨Nat.le_of_ble_eq_true rfl, Nat.le_of_ble_eq_true rfl⟩ (Nat.le_of_ble_eq_true rfl) rfl rfl dX5_clear_10 ?_
  refine r_aload_n (pc := 13) C 0 rfl rfl dX5_clear_13 ?_
  refine r_getR (pc := 14) C fl_RX5_23 (x_sI_Rules hth) (x_nI_Rules hth) x_kRules_3 (x_rI_Rules_3 hth) dX5_clear_14 ?_
  refine r_iconst (pc := 17) C dX5_clear_17 ?_
  obtain ⟨M2, hq2, h⟩ := bnd_inv h
  refine r_callS (pc := 18) (rest := []) (st1 := []) C (xExtOK σ b) [vR b (th + 4), vI 0] (c_j_Arrays_fill_53178 l (th + 4) 3 (x_aI_Rules_3 hth) (x_bI_Rules_3 hth) (by decide) hq2) cl_RX5_33 rfl rfl ⟨Nat.le_of_ble_eq_true rfl, Nat.le_of_ble_eq_true rfl⟩ (Nat.le_of_ble_eq_true rfl) rfl rfl dX5_clear_18 ?_
  have e := Option.some.inj h
  exact r_vret (pc := 21) C hr rfl e.symm dX5_clear_21
set_option maxHeartbeats 4000000 in
set_option maxRecDepth 20000 in
theorem c_x_Town_clear (l : Launch) (th : Nat) (hth : th ∈ xI_Town) {M : Mem} {M0 : Mem} (h : x_Town_clear th M = some M0) : Ct l yX9_clear cX9_clear 1 none 3 55 vwCl xSh xN xRf (xExt σ) (fun b => [vR b th]) M (fun b => none) M0 := by
  refine Ct_of (xExtOK σ) (by decide) (fun b => Nat.le_of_ble_eq_true rfl) ?_
  intro p e s m args below meth c D E b C hr
  unfold x_Town_clear at h
  refine (show xWX p l e 3 55 s m args below meth c 1 D E b none M0 M 0 [(0, vR b th)] [] from ?_)
  refine r_aload_n (pc := 0) C 0 rfl rfl dX9_clear_0 ?_
  refine r_iconst (pc := 1) C dX9_clear_1 ?_
  obtain ⟨M_2, hM_2, h⟩ := lt_inv h
  refine r_putI (pc := 2) C fl_RX9_43 x_ft9 x_w9_0 (x_sI_Town hth) (x_nI_Town hth) x_kTown_0 hM_2 dX9_clear_2 ?_
  refine r_aload_n (pc := 5) C 0 rfl rfl dX9_clear_5 ?_
  refine r_iconst (pc := 6) C dX9_clear_6 ?_
  obtain ⟨M_7, hM_7, h⟩ := lt_inv h
  refine r_putI (pc := 7) C fl_RX9_47 x_ft9 x_w9_1 (x_sI_Town hth) (x_nI_Town hth) x_kTown_1 hM_7 dX9_clear_7 ?_
  refine r_aload_n (pc := 10) C 0 rfl rfl dX9_clear_10 ?_
  refine r_iconst (pc := 11) C dX9_clear_11 ?_
  obtain ⟨M_12, hM_12, h⟩ := lt_inv h
  refine r_putI (pc := 12) C fl_RX9_50 x_ft9 x_w9_2 (x_sI_Town hth) (x_nI_Town hth) x_kTown_2 hM_12 dX9_clear_12 ?_
  refine r_aload_n (pc := 15) C 0 rfl rfl dX9_clear_15 ?_
  refine r_iconst (pc := 16) C dX9_clear_16 ?_
  obtain ⟨M_17, hM_17, h⟩ := lt_inv h
  refine r_putI (pc := 17) C fl_RX9_53 x_ft9 x_w9_3 (x_sI_Town hth) (x_nI_Town hth) x_kTown_3 hM_17 dX9_clear_17 ?_
  refine r_aload_n (pc := 20) C 0 rfl rfl dX9_clear_20 ?_
  refine r_getR (pc := 21) C fl_RX9_39 (x_sI_Town hth) (x_nI_Town hth) x_kTown_12 (x_rI_Town_12 hth) dX9_clear_21 ?_
  obtain ⟨M1, hq1, h⟩ := bnd_inv h
  refine r_callV (pc := 24) (rest := []) (st1 := []) C (xExtOK σ b) [] (c_x_Rules_clear l (th + 9) (x_oI_Town_12 hth) hq1) cl_RX9_56 (x_sI_Rules (x_oI_Town_12 hth)) (x_nI_Rules (x_oI_Town_12 hth)) rfl rfl rfl rfl ⟨Nat.le_of_ble_eq_true rfl, Nat.le_of_ble_eq_true rfl⟩ (Nat.le_of_ble_eq_true rfl) rfl rfl dX9_clear_24 ?_
  have e := Option.some.inj h
  exact r_vret (pc := 27) C hr rfl e.symm dX9_clear_27
set_option maxHeartbeats 4000000 in
set_option maxRecDepth 20000 in
theorem c_x_State_reset (l : Launch) (th : Nat) (hth : th ∈ xI_State) {M : Mem} {M0 : Mem} (h : x_State_reset th M = some M0) : Ct l yX6_reset cX6_reset 1 none 2 84 vwCl xSh xN xRf (xExt σ) (fun b => [vR b th]) M (fun b => none) M0 := by
  refine Ct_of (xExtOK σ) (by decide) (fun b => Nat.le_of_ble_eq_true rfl) ?_
  intro p e s m args below meth c D E b C hr
  unfold x_State_reset at h
  refine (show xWX p l e 2 84 s m args below meth c 1 D E b none M0 M 0 [(0, vR b th)] [] from ?_)
  refine r_aload_n (pc := 0) C 0 rfl rfl dX6_reset_0 ?_
  refine r_getR (pc := 1) C fl_RX6_48 (x_sI_State hth) (x_nI_State hth) x_kState_14 (x_rI_State_14 hth) dX6_reset_1 ?_
  refine r_getR (pc := 4) C fl_RX6_52 x_s23 (by decide) x_kTown_5 x_r23_5 dX6_reset_4 ?_
  refine r_iconst (pc := 7) C dX6_reset_7 ?_
  refine r_aload_n (pc := 8) C 0 rfl rfl dX6_reset_8 ?_
  refine r_getR (pc := 9) C fl_RX6_9 (x_sI_State hth) (x_nI_State hth) x_kState_0 (x_rI_State_0 hth) dX6_reset_9 ?_
  refine r_iconst (pc := 12) C dX6_reset_12 ?_
  refine r_bipush (pc := 13) (j := 7) C (by decide +kernel) dX6_reset_13 ?_
  obtain ⟨M1, hM1, h⟩ := lt_inv h
  refine r_copy (pc := 15) (nn := 7) C ca_RX6_57 x_s25 (by decide) (by decide) (x_aI_State_0 hth) (x_bI_State_0 hth) (by decide) rfl (by decide) (by decide) hM1 (by decide) (by decide) dX6_reset_15 ?_
  refine r_aload_n (pc := 18) C 0 rfl rfl dX6_reset_18 ?_
  refine r_getR (pc := 19) C fl_RX6_15 (x_sI_State hth) (x_nI_State hth) x_kState_1 (x_rI_State_1 hth) dX6_reset_19 ?_
  refine r_iconst (pc := 22) C dX6_reset_22 ?_
  obtain ⟨M2, hq2, h⟩ := bnd_inv h
  refine r_callS (pc := 23) (rest := []) (st1 := []) C (xExtOK σ b) [vR b (th + 2), vI 0] (c_j_Arrays_fill_53178 l (th + 2) 7 (x_aI_State_1 hth) (x_bI_State_1 hth) (by decide) hq2) cl_RX6_63 rfl rfl ⟨Nat.le_of_ble_eq_true rfl, Nat.le_of_ble_eq_true rfl⟩ (Nat.le_of_ble_eq_true rfl) rfl rfl dX6_reset_23 ?_
  refine r_aload_n (pc := 26) C 0 rfl rfl dX6_reset_26 ?_
  refine r_getR (pc := 27) C fl_RX6_18 (x_sI_State hth) (x_nI_State hth) x_kState_2 (x_rI_State_2 hth) dX6_reset_27 ?_
  refine r_iconst (pc := 30) C dX6_reset_30 ?_
  obtain ⟨M3, hq3, h⟩ := bnd_inv h
  refine r_callS (pc := 31) (rest := []) (st1 := []) C (xExtOK σ b) [vR b (th + 3), vI 0] (c_j_Arrays_fill_53178 l (th + 3) 7 (x_aI_State_2 hth) (x_bI_State_2 hth) (by decide) hq3) cl_RX6_63 rfl rfl ⟨Nat.le_of_ble_eq_true rfl, Nat.le_of_ble_eq_true rfl⟩ (Nat.le_of_ble_eq_true rfl) rfl rfl dX6_reset_31 ?_
  refine r_aload_n (pc := 34) C 0 rfl rfl dX6_reset_34 ?_
  refine r_getR (pc := 35) C fl_RX6_21 (x_sI_State hth) (x_nI_State hth) x_kState_3 (x_rI_State_3 hth) dX6_reset_35 ?_
  refine r_iconst (pc := 38) C dX6_reset_38 ?_
  obtain ⟨M4, hq4, h⟩ := bnd_inv h
  refine r_callS (pc := 39) (rest := []) (st1 := []) C (xExtOK σ b) [vR b (th + 4), vI 0] (c_j_Arrays_fill_53178 l (th + 4) 12 (x_aI_State_3 hth) (x_bI_State_3 hth) (by decide) hq4) cl_RX6_63 rfl rfl ⟨Nat.le_of_ble_eq_true rfl, Nat.le_of_ble_eq_true rfl⟩ (Nat.le_of_ble_eq_true rfl) rfl rfl dX6_reset_39 ?_
  refine r_aload_n (pc := 42) C 0 rfl rfl dX6_reset_42 ?_
  refine r_getR (pc := 43) C fl_RX6_48 (x_sI_State hth) (x_nI_State hth) x_kState_14 (x_rI_State_14 hth) dX6_reset_43 ?_
  refine r_getR (pc := 46) C fl_RX6_69 x_s23 (by decide) x_kTown_10 x_r23_10 dX6_reset_46 ?_
  refine r_iconst (pc := 49) C dX6_reset_49 ?_
  refine r_aload_n (pc := 50) C 0 rfl rfl dX6_reset_50 ?_
  refine r_getR (pc := 51) C fl_RX6_24 (x_sI_State hth) (x_nI_State hth) x_kState_4 (x_rI_State_4 hth) dX6_reset_51 ?_
  refine r_iconst (pc := 54) C dX6_reset_54 ?_
  refine r_bipush (pc := 55) (j := 12) C (by decide +kernel) dX6_reset_55 ?_
  obtain ⟨M5, hM5, h⟩ := lt_inv h
  refine r_copy (pc := 57) (nn := 12) C ca_RX6_57 x_s30 (by decide) (by decide) (x_aI_State_4 hth) (x_bI_State_4 hth) (by decide) rfl (by decide) (by decide) hM5 (by decide) (by decide) dX6_reset_57 ?_
  refine r_aload_n (pc := 60) C 0 rfl rfl dX6_reset_60 ?_
  refine r_getR (pc := 61) C fl_RX6_27 (x_sI_State hth) (x_nI_State hth) x_kState_5 (x_rI_State_5 hth) dX6_reset_61 ?_
  refine r_iconst (pc := 64) C dX6_reset_64 ?_
  obtain ⟨M6, hq6, h⟩ := bnd_inv h
  refine r_callS (pc := 65) (rest := []) (st1 := []) C (xExtOK σ b) [vR b (th + 6), vI 0] (c_j_Arrays_fill_53178 l (th + 6) 12 (x_aI_State_5 hth) (x_bI_State_5 hth) (by decide) hq6) cl_RX6_63 rfl rfl ⟨Nat.le_of_ble_eq_true rfl, Nat.le_of_ble_eq_true rfl⟩ (Nat.le_of_ble_eq_true rfl) rfl rfl dX6_reset_65 ?_
  refine r_aload_n (pc := 68) C 0 rfl rfl dX6_reset_68 ?_
  refine r_getR (pc := 69) C fl_RX6_30 (x_sI_State hth) (x_nI_State hth) x_kState_6 (x_rI_State_6 hth) dX6_reset_69 ?_
  refine r_iconst (pc := 72) C dX6_reset_72 ?_
  obtain ⟨M7, hq7, h⟩ := bnd_inv h
  refine r_callS (pc := 73) (rest := []) (st1 := []) C (xExtOK σ b) [vR b (th + 7), vI (-1)] (c_j_Arrays_fill_53178 l (th + 7) 12 (x_aI_State_6 hth) (x_bI_State_6 hth) (by decide) hq7) cl_RX6_63 rfl rfl ⟨Nat.le_of_ble_eq_true rfl, Nat.le_of_ble_eq_true rfl⟩ (Nat.le_of_ble_eq_true rfl) rfl rfl dX6_reset_73 ?_
  refine r_aload_n (pc := 76) C 0 rfl rfl dX6_reset_76 ?_
  refine r_getR (pc := 77) C fl_RX6_33 (x_sI_State hth) (x_nI_State hth) x_kState_7 (x_rI_State_7 hth) dX6_reset_77 ?_
  refine r_iconst (pc := 80) C dX6_reset_80 ?_
  obtain ⟨M8, hq8, h⟩ := bnd_inv h
  refine r_callS (pc := 81) (rest := []) (st1 := []) C (xExtOK σ b) [vR b (th + 8), vI 0] (c_j_Arrays_fill_53178 l (th + 8) 12 (x_aI_State_7 hth) (x_bI_State_7 hth) (by decide) hq8) cl_RX6_63 rfl rfl ⟨Nat.le_of_ble_eq_true rfl, Nat.le_of_ble_eq_true rfl⟩ (Nat.le_of_ble_eq_true rfl) rfl rfl dX6_reset_81 ?_
  refine r_aload_n (pc := 84) C 0 rfl rfl dX6_reset_84 ?_
  refine r_getR (pc := 85) C fl_RX6_36 (x_sI_State hth) (x_nI_State hth) x_kState_8 (x_rI_State_8 hth) dX6_reset_85 ?_
  refine r_iconst (pc := 88) C dX6_reset_88 ?_
  obtain ⟨M9, hq9, h⟩ := bnd_inv h
  refine r_callS (pc := 89) (rest := []) (st1 := []) C (xExtOK σ b) [vR b (th + 9), vI 0] (c_j_Arrays_fill_53178 l (th + 9) 12 (x_aI_State_8 hth) (x_bI_State_8 hth) (by decide) hq9) cl_RX6_63 rfl rfl ⟨Nat.le_of_ble_eq_true rfl, Nat.le_of_ble_eq_true rfl⟩ (Nat.le_of_ble_eq_true rfl) rfl rfl dX6_reset_89 ?_
  refine r_aload_n (pc := 92) C 0 rfl rfl dX6_reset_92 ?_
  refine r_iconst (pc := 93) C dX6_reset_93 ?_
  obtain ⟨M_94, hM_94, h⟩ := lt_inv h
  refine r_putI (pc := 94) C fl_RX6_72 x_ft6 x_w6_12 (x_sI_State hth) (x_nI_State hth) x_kState_12 hM_94 dX6_reset_94 ?_
  refine r_aload_n (pc := 97) C 0 rfl rfl dX6_reset_97 ?_
  refine r_iconst (pc := 98) C dX6_reset_98 ?_
  obtain ⟨M_99, hM_99, h⟩ := lt_inv h
  refine r_putI (pc := 99) C fl_RX6_76 x_ft6 x_w6_13 (x_sI_State hth) (x_nI_State hth) x_kState_13 hM_99 dX6_reset_99 ?_
  have e := Option.some.inj h
  exact r_vret (pc := 102) C hr rfl e.symm dX6_reset_102
end
