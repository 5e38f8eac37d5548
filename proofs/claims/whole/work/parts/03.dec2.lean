theorem dX7_init_0 : decode cX7_init 0 = .ok (.aload_n 0, 1) := by decide +kernel
theorem dX7_init_1 : decode cX7_init 1 = .ok (.invokespecial 1, 3) := by decide +kernel
theorem dX7_init_4 : decode cX7_init 4 = .ok (.aload_n 0, 1) := by decide +kernel
theorem dX7_init_5 : decode cX7_init 5 = .ok (.new 7, 3) := by decide +kernel
theorem dX7_init_8 : decode cX7_init 8 = .ok (.dup, 1) := by decide +kernel
theorem dX7_init_9 : decode cX7_init 9 = .ok (.sipush 4000, 3) := by decide +kernel
theorem dX7_init_12 : decode cX7_init 12 = .ok (.invokespecial 11, 3) := by decide +kernel
theorem dX7_init_15 : decode cX7_init 15 = .ok (.putfield 14, 3) := by decide +kernel
theorem dX7_init_18 : decode cX7_init 18 = .ok (.aload_n 0, 1) := by decide +kernel
theorem dX7_init_19 : decode cX7_init 19 = .ok (.new 7, 3) := by decide +kernel
theorem dX7_init_22 : decode cX7_init 22 = .ok (.dup, 1) := by decide +kernel
theorem dX7_init_23 : decode cX7_init 23 = .ok (.sipush 1568, 3) := by decide +kernel
theorem dX7_init_26 : decode cX7_init 26 = .ok (.invokespecial 11, 3) := by decide +kernel
theorem dX7_init_29 : decode cX7_init 29 = .ok (.putfield 18, 3) := by decide +kernel
theorem dX7_init_32 : decode cX7_init 32 = .ok (.aload_n 0, 1) := by decide +kernel
theorem dX7_init_33 : decode cX7_init 33 = .ok (.new 7, 3) := by decide +kernel
theorem dX7_init_36 : decode cX7_init 36 = .ok (.dup, 1) := by decide +kernel
theorem dX7_init_37 : decode cX7_init 37 = .ok (.sipush 3168, 3) := by decide +kernel
theorem dX7_init_40 : decode cX7_init 40 = .ok (.invokespecial 11, 3) := by decide +kernel
theorem dX7_init_43 : decode cX7_init 43 = .ok (.putfield 21, 3) := by decide +kernel
theorem dX7_init_46 : decode cX7_init 46 = .ok (.aload_n 0, 1) := by decide +kernel
theorem dX7_init_47 : decode cX7_init 47 = .ok (.new 7, 3) := by decide +kernel
theorem dX7_init_50 : decode cX7_init 50 = .ok (.dup, 1) := by decide +kernel
theorem dX7_init_51 : decode cX7_init 51 = .ok (.sipush 1568, 3) := by decide +kernel
theorem dX7_init_54 : decode cX7_init 54 = .ok (.invokespecial 11, 3) := by decide +kernel
theorem dX7_init_57 : decode cX7_init 57 = .ok (.putfield 24, 3) := by decide +kernel
theorem dX7_init_60 : decode cX7_init 60 = .ok (.aload_n 0, 1) := by decide +kernel
theorem dX7_init_61 : decode cX7_init 61 = .ok (.new 7, 3) := by decide +kernel
theorem dX7_init_64 : decode cX7_init 64 = .ok (.dup, 1) := by decide +kernel
theorem dX7_init_65 : decode cX7_init 65 = .ok (.bipush 32, 2) := by decide +kernel
theorem dX7_init_67 : decode cX7_init 67 = .ok (.invokespecial 11, 3) := by decide +kernel
theorem dX7_init_70 : decode cX7_init 70 = .ok (.putfield 27, 3) := by decide +kernel
theorem dX7_init_73 : decode cX7_init 73 = .ok (.aload_n 0, 1) := by decide +kernel
theorem dX7_init_74 : decode cX7_init 74 = .ok (.new 7, 3) := by decide +kernel
theorem dX7_init_77 : decode cX7_init 77 = .ok (.dup, 1) := by decide +kernel
theorem dX7_init_78 : decode cX7_init 78 = .ok (.sipush 1000, 3) := by decide +kernel
theorem dX7_init_81 : decode cX7_init 81 = .ok (.invokespecial 11, 3) := by decide +kernel
theorem dX7_init_84 : decode cX7_init 84 = .ok (.putfield 30, 3) := by decide +kernel
theorem dX7_init_87 : decode cX7_init 87 = .ok (.aload_n 0, 1) := by decide +kernel
theorem dX7_init_88 : decode cX7_init 88 = .ok (.iconst 4, 1) := by decide +kernel
theorem dX7_init_89 : decode cX7_init 89 = .ok (.sipush 256, 3) := by decide +kernel
theorem dX7_init_92 : decode cX7_init 92 = .ok (.multianewarray 33 2, 4) := by decide +kernel
theorem dX7_init_96 : decode cX7_init 96 = .ok (.putfield 35, 3) := by decide +kernel
theorem dX7_init_99 : decode cX7_init 99 = .ok (.aload_n 0, 1) := by decide +kernel
theorem dX7_init_100 : decode cX7_init 100 = .ok (.new 38, 3) := by decide +kernel
theorem dX7_init_103 : decode cX7_init 103 = .ok (.dup, 1) := by decide +kernel
theorem dX7_init_104 : decode cX7_init 104 = .ok (.invokespecial 40, 3) := by decide +kernel
theorem dX7_init_107 : decode cX7_init 107 = .ok (.putfield 41, 3) := by decide +kernel
theorem dX7_init_110 : decode cX7_init 110 = .ok (.aload_n 0, 1) := by decide +kernel
theorem dX7_init_111 : decode cX7_init 111 = .ok (.new 45, 3) := by decide +kernel
theorem dX7_init_114 : decode cX7_init 114 = .ok (.dup, 1) := by decide +kernel
theorem dX7_init_115 : decode cX7_init 115 = .ok (.aload_n 0, 1) := by decide +kernel
theorem dX7_init_116 : decode cX7_init 116 = .ok (.getfield 41, 3) := by decide +kernel
theorem dX7_init_119 : decode cX7_init 119 = .ok (.invokespecial 47, 3) := by decide +kernel
theorem dX7_init_122 : decode cX7_init 122 = .ok (.putfield 50, 3) := by decide +kernel
theorem dX7_init_125 : decode cX7_init 125 = .ok (.aload_n 0, 1) := by decide +kernel
theorem dX7_init_126 : decode cX7_init 126 = .ok (.new 54, 3) := by decide +kernel
theorem dX7_init_129 : decode cX7_init 129 = .ok (.dup, 1) := by decide +kernel
theorem dX7_init_130 : decode cX7_init 130 = .ok (.aload_n 0, 1) := by decide +kernel
theorem dX7_init_131 : decode cX7_init 131 = .ok (.getfield 41, 3) := by decide +kernel
theorem dX7_init_134 : decode cX7_init 134 = .ok (.aload_n 0, 1) := by decide +kernel
theorem dX7_init_135 : decode cX7_init 135 = .ok (.getfield 50, 3) := by decide +kernel
theorem dX7_init_138 : decode cX7_init 138 = .ok (.invokespecial 56, 3) := by decide +kernel
theorem dX7_init_141 : decode cX7_init 141 = .ok (.putfield 59, 3) := by decide +kernel
theorem dX7_init_144 : decode cX7_init 144 = .ok (.aload_n 0, 1) := by decide +kernel
theorem dX7_init_145 : decode cX7_init 145 = .ok (.sipush 256, 3) := by decide +kernel
theorem dX7_init_148 : decode cX7_init 148 = .ok (.newarray .int, 2) := by decide +kernel
theorem dX7_init_150 : decode cX7_init 150 = .ok (.putfield 63, 3) := by decide +kernel
theorem dX7_init_153 : decode cX7_init 153 = .ok (.aload_n 0, 1) := by decide +kernel
theorem dX7_init_154 : decode cX7_init 154 = .ok (.getstatic 67, 3) := by decide +kernel
theorem dX7_init_157 : decode cX7_init 157 = .ok (.putfield 73, 3) := by decide +kernel
theorem dX7_init_160 : decode cX7_init 160 = .ok (.aload_n 0, 1) := by decide +kernel
theorem dX7_init_161 : decode cX7_init 161 = .ok (.sipush 280, 3) := by decide +kernel
theorem dX7_init_164 : decode cX7_init 164 = .ok (.putfield 76, 3) := by decide +kernel
theorem dX7_init_167 : decode cX7_init 167 = .ok (.return_, 1) := by decide +kernel
theorem dX7_feed_0 : decode cX7_feed 0 = .ok (.aload_n 0, 1) := by decide +kernel
theorem dX7_feed_1 : decode cX7_feed 1 = .ok (.getfield 14, 3) := by decide +kernel
theorem dX7_feed_4 : decode cX7_feed 4 = .ok (.invokevirtual 80, 3) := by decide +kernel
theorem dX7_feed_7 : decode cX7_feed 7 = .ok (.bipush 20, 2) := by decide +kernel
theorem dX7_feed_9 : decode cX7_feed 9 = .ok (.iadd, 1) := by decide +kernel
theorem dX7_feed_10 : decode cX7_feed 10 = .ok (.sipush 4000, 3) := by decide +kernel
theorem dX7_feed_13 : decode cX7_feed 13 = .ok (.if_icmp .le 5, 3) := by decide +kernel
theorem dX7_feed_16 : decode cX7_feed 16 = .ok (.iconst (-1), 1) := by decide +kernel
theorem dX7_feed_17 : decode cX7_feed 17 = .ok (.ireturn, 1) := by decide +kernel
theorem dX7_feed_18 : decode cX7_feed 18 = .ok (.aload_n 0, 1) := by decide +kernel
theorem dX7_feed_19 : decode cX7_feed 19 = .ok (.getfield 14, 3) := by decide +kernel
theorem dX7_feed_22 : decode cX7_feed 22 = .ok (.iload_n 1, 1) := by decide +kernel
theorem dX7_feed_23 : decode cX7_feed 23 = .ok (.invokevirtual 84, 3) := by decide +kernel
theorem dX7_feed_26 : decode cX7_feed 26 = .ok (.aload_n 0, 1) := by decide +kernel
theorem dX7_feed_27 : decode cX7_feed 27 = .ok (.getfield 14, 3) := by decide +kernel
theorem dX7_feed_30 : decode cX7_feed 30 = .ok (.iload_n 2, 1) := by decide +kernel
theorem dX7_feed_31 : decode cX7_feed 31 = .ok (.invokevirtual 84, 3) := by decide +kernel
theorem dX7_feed_34 : decode cX7_feed 34 = .ok (.aload_n 0, 1) := by decide +kernel
theorem dX7_feed_35 : decode cX7_feed 35 = .ok (.getfield 14, 3) := by decide +kernel
theorem dX7_feed_38 : decode cX7_feed 38 = .ok (.iload_n 3, 1) := by decide +kernel
theorem dX7_feed_39 : decode cX7_feed 39 = .ok (.invokevirtual 84, 3) := by decide +kernel
theorem dX7_feed_42 : decode cX7_feed 42 = .ok (.aload_n 0, 1) := by decide +kernel
theorem dX7_feed_43 : decode cX7_feed 43 = .ok (.getfield 14, 3) := by decide +kernel
theorem dX7_feed_46 : decode cX7_feed 46 = .ok (.iload 4, 2) := by decide +kernel
theorem dX7_feed_48 : decode cX7_feed 48 = .ok (.invokevirtual 84, 3) := by decide +kernel
theorem dX7_feed_51 : decode cX7_feed 51 = .ok (.aload_n 0, 1) := by decide +kernel
theorem dX7_feed_52 : decode cX7_feed 52 = .ok (.getfield 14, 3) := by decide +kernel
theorem dX7_feed_55 : decode cX7_feed 55 = .ok (.iload 5, 2) := by decide +kernel
theorem dX7_feed_57 : decode cX7_feed 57 = .ok (.invokevirtual 84, 3) := by decide +kernel
theorem dX7_feed_60 : decode cX7_feed 60 = .ok (.aload_n 0, 1) := by decide +kernel
theorem dX7_feed_61 : decode cX7_feed 61 = .ok (.getfield 14, 3) := by decide +kernel
theorem dX7_feed_64 : decode cX7_feed 64 = .ok (.invokevirtual 80, 3) := by decide +kernel
theorem dX7_feed_67 : decode cX7_feed 67 = .ok (.ireturn, 1) := by decide +kernel
theorem dX7_end_0 : decode cX7_end 0 = .ok (.iload_n 1, 1) := by decide +kernel
theorem dX7_end_1 : decode cX7_end 1 = .ok (.ifCond .lt 14, 3) := by decide +kernel
theorem dX7_end_4 : decode cX7_end 4 = .ok (.iload_n 1, 1) := by decide +kernel
theorem dX7_end_5 : decode cX7_end 5 = .ok (.aload_n 0, 1) := by decide +kernel
theorem dX7_end_6 : decode cX7_end 6 = .ok (.getfield 14, 3) := by decide +kernel
theorem dX7_end_9 : decode cX7_end 9 = .ok (.invokevirtual 80, 3) := by decide +kernel
theorem dX7_end_12 : decode cX7_end 12 = .ok (.if_icmp .le 5, 3) := by decide +kernel
theorem dX7_end_15 : decode cX7_end 15 = .ok (.iconst (-1), 1) := by decide +kernel
theorem dX7_end_16 : decode cX7_end 16 = .ok (.ireturn, 1) := by decide +kernel
theorem dX7_end_17 : decode cX7_end 17 = .ok (.aload_n 0, 1) := by decide +kernel
theorem dX7_end_18 : decode cX7_end 18 = .ok (.getfield 14, 3) := by decide +kernel
theorem dX7_end_21 : decode cX7_end 21 = .ok (.iload_n 1, 1) := by decide +kernel
theorem dX7_end_22 : decode cX7_end 22 = .ok (.invokevirtual 87, 3) := by decide +kernel
theorem dX7_end_25 : decode cX7_end 25 = .ok (.iload_n 1, 1) := by decide +kernel
theorem dX7_end_26 : decode cX7_end 26 = .ok (.ireturn, 1) := by decide +kernel
theorem dX7_take_0 : decode cX7_take 0 = .ok (.iload_n 1, 1) := by decide +kernel
theorem dX7_take_1 : decode cX7_take 1 = .ok (.iconst 5, 1) := by decide +kernel
theorem dX7_take_2 : decode cX7_take 2 = .ok (.if_icmp .ne 7, 3) := by decide +kernel
theorem dX7_take_5 : decode cX7_take 5 = .ok (.aconst_null, 1) := by decide +kernel
theorem dX7_take_6 : decode cX7_take 6 = .ok (.goto 8, 3) := by decide +kernel
theorem dX7_take_9 : decode cX7_take 9 = .ok (.aload_n 0, 1) := by decide +kernel
theorem dX7_take_10 : decode cX7_take 10 = .ok (.iload_n 1, 1) := by decide +kernel
theorem dX7_take_11 : decode cX7_take 11 = .ok (.invokevirtual 90, 3) := by decide +kernel
theorem dX7_take_14 : decode cX7_take 14 = .ok (.astore_n 2, 1) := by decide +kernel
theorem dX7_take_15 : decode cX7_take 15 = .ok (.aload_n 2, 1) := by decide +kernel
theorem dX7_take_16 : decode cX7_take 16 = .ok (.ifnonnull 5, 3) := by decide +kernel
theorem dX7_take_19 : decode cX7_take 19 = .ok (.iconst (-1), 1) := by decide +kernel
theorem dX7_take_20 : decode cX7_take 20 = .ok (.ireturn, 1) := by decide +kernel
theorem dX7_take_21 : decode cX7_take 21 = .ok (.aload_n 0, 1) := by decide +kernel
theorem dX7_take_22 : decode cX7_take 22 = .ok (.getfield 14, 3) := by decide +kernel
theorem dX7_take_25 : decode cX7_take 25 = .ok (.aload_n 2, 1) := by decide +kernel
theorem dX7_take_26 : decode cX7_take 26 = .ok (.invokevirtual 94, 3) := by decide +kernel
theorem dX7_take_29 : decode cX7_take 29 = .ok (.aload_n 0, 1) := by decide +kernel
theorem dX7_take_30 : decode cX7_take 30 = .ok (.getfield 14, 3) := by decide +kernel
theorem dX7_take_33 : decode cX7_take 33 = .ok (.invokevirtual 80, 3) := by decide +kernel
theorem dX7_take_36 : decode cX7_take 36 = .ok (.ireturn, 1) := by decide +kernel
theorem dX7_alter_0 : decode cX7_alter 0 = .ok (.aload_n 0, 1) := by decide +kernel
theorem dX7_alter_1 : decode cX7_alter 1 = .ok (.getfield 14, 3) := by decide +kernel
theorem dX7_alter_4 : decode cX7_alter 4 = .ok (.iload_n 1, 1) := by decide +kernel
theorem dX7_alter_5 : decode cX7_alter 5 = .ok (.iload_n 2, 1) := by decide +kernel
theorem dX7_alter_6 : decode cX7_alter 6 = .ok (.invokevirtual 98, 3) := by decide +kernel
theorem dX7_alter_9 : decode cX7_alter 9 = .ok (.ireturn, 1) := by decide +kernel
theorem dX7_choose_0 : decode cX7_choose 0 = .ok (.iload_n 1, 1) := by decide +kernel
theorem dX7_choose_1 : decode cX7_choose 1 = .ok (.invokestatic 102, 3) := by decide +kernel
theorem dX7_choose_4 : decode cX7_choose 4 = .ok (.astore_n 2, 1) := by decide +kernel
theorem dX7_choose_5 : decode cX7_choose 5 = .ok (.aload_n 2, 1) := by decide +kernel
theorem dX7_choose_6 : decode cX7_choose 6 = .ok (.ifnonnull 5, 3) := by decide +kernel
theorem dX7_choose_9 : decode cX7_choose 9 = .ok (.iconst (-1), 1) := by decide +kernel
theorem dX7_choose_10 : decode cX7_choose 10 = .ok (.ireturn, 1) := by decide +kernel
theorem dX7_choose_11 : decode cX7_choose 11 = .ok (.aload_n 0, 1) := by decide +kernel
theorem dX7_choose_12 : decode cX7_choose 12 = .ok (.aload_n 2, 1) := by decide +kernel
theorem dX7_choose_13 : decode cX7_choose 13 = .ok (.putfield 73, 3) := by decide +kernel
theorem dX7_choose_16 : decode cX7_choose 16 = .ok (.aload_n 0, 1) := by decide +kernel
theorem dX7_choose_17 : decode cX7_choose 17 = .ok (.getfield 18, 3) := by decide +kernel
theorem dX7_choose_20 : decode cX7_choose 20 = .ok (.invokevirtual 106, 3) := by decide +kernel
theorem dX7_choose_23 : decode cX7_choose 23 = .ok (.aload_n 0, 1) := by decide +kernel
theorem dX7_choose_24 : decode cX7_choose 24 = .ok (.getfield 21, 3) := by decide +kernel
theorem dX7_choose_27 : decode cX7_choose 27 = .ok (.invokevirtual 106, 3) := by decide +kernel
theorem dX7_choose_30 : decode cX7_choose 30 = .ok (.aload_n 0, 1) := by decide +kernel
theorem dX7_choose_31 : decode cX7_choose 31 = .ok (.getfield 24, 3) := by decide +kernel
theorem dX7_choose_34 : decode cX7_choose 34 = .ok (.invokevirtual 106, 3) := by decide +kernel
theorem dX7_choose_37 : decode cX7_choose 37 = .ok (.aload_n 0, 1) := by decide +kernel
theorem dX7_choose_38 : decode cX7_choose 38 = .ok (.getfield 27, 3) := by decide +kernel
theorem dX7_choose_41 : decode cX7_choose 41 = .ok (.invokevirtual 106, 3) := by decide +kernel
theorem dX7_choose_44 : decode cX7_choose 44 = .ok (.aload_n 0, 1) := by decide +kernel
theorem dX7_choose_45 : decode cX7_choose 45 = .ok (.getfield 73, 3) := by decide +kernel
theorem dX7_choose_48 : decode cX7_choose 48 = .ok (.invokevirtual 109, 3) := by decide +kernel
theorem dX7_choose_51 : decode cX7_choose 51 = .ok (.ireturn, 1) := by decide +kernel
theorem dX7_bound_0 : decode cX7_bound 0 = .ok (.iload_n 1, 1) := by decide +kernel
theorem dX7_bound_1 : decode cX7_bound 1 = .ok (.iconst 1, 1) := by decide +kernel
theorem dX7_bound_2 : decode cX7_bound 2 = .ok (.if_icmp .lt 10, 3) := by decide +kernel
theorem dX7_bound_5 : decode cX7_bound 5 = .ok (.iload_n 1, 1) := by decide +kernel
theorem dX7_bound_6 : decode cX7_bound 6 = .ok (.sipush 280, 3) := by decide +kernel
theorem dX7_bound_9 : decode cX7_bound 9 = .ok (.if_icmp .le 5, 3) := by decide +kernel
theorem dX7_bound_12 : decode cX7_bound 12 = .ok (.iconst (-1), 1) := by decide +kernel
theorem dX7_bound_13 : decode cX7_bound 13 = .ok (.ireturn, 1) := by decide +kernel
theorem dX7_bound_14 : decode cX7_bound 14 = .ok (.aload_n 0, 1) := by decide +kernel
theorem dX7_bound_15 : decode cX7_bound 15 = .ok (.iload_n 1, 1) := by decide +kernel
theorem dX7_bound_16 : decode cX7_bound 16 = .ok (.putfield 76, 3) := by decide +kernel
theorem dX7_bound_19 : decode cX7_bound 19 = .ok (.iload_n 1, 1) := by decide +kernel
theorem dX7_bound_20 : decode cX7_bound 20 = .ok (.ireturn, 1) := by decide +kernel
theorem dX7_length_0 : decode cX7_length 0 = .ok (.aload_n 0, 1) := by decide +kernel
theorem dX7_length_1 : decode cX7_length 1 = .ok (.iload_n 1, 1) := by decide +kernel
theorem dX7_length_2 : decode cX7_length 2 = .ok (.invokevirtual 90, 3) := by decide +kernel
theorem dX7_length_5 : decode cX7_length 5 = .ok (.astore_n 2, 1) := by decide +kernel
theorem dX7_length_6 : decode cX7_length 6 = .ok (.aload_n 2, 1) := by decide +kernel
theorem dX7_length_7 : decode cX7_length 7 = .ok (.ifnonnull 7, 3) := by decide +kernel
theorem dX7_length_10 : decode cX7_length 10 = .ok (.iconst (-1), 1) := by decide +kernel
theorem dX7_length_11 : decode cX7_length 11 = .ok (.goto 7, 3) := by decide +kernel
theorem dX7_length_14 : decode cX7_length 14 = .ok (.aload_n 2, 1) := by decide +kernel
theorem dX7_length_15 : decode cX7_length 15 = .ok (.invokevirtual 80, 3) := by decide +kernel
theorem dX7_length_18 : decode cX7_length 18 = .ok (.ireturn, 1) := by decide +kernel
theorem dX7_at_0 : decode cX7_at 0 = .ok (.aload_n 0, 1) := by decide +kernel
theorem dX7_at_1 : decode cX7_at 1 = .ok (.iload_n 1, 1) := by decide +kernel
theorem dX7_at_2 : decode cX7_at 2 = .ok (.invokevirtual 90, 3) := by decide +kernel
theorem dX7_at_5 : decode cX7_at 5 = .ok (.astore_n 3, 1) := by decide +kernel
theorem dX7_at_6 : decode cX7_at 6 = .ok (.aload_n 3, 1) := by decide +kernel
theorem dX7_at_7 : decode cX7_at 7 = .ok (.ifnonnull 7, 3) := by decide +kernel
theorem dX7_at_10 : decode cX7_at 10 = .ok (.iconst (-1), 1) := by decide +kernel
theorem dX7_at_11 : decode cX7_at 11 = .ok (.goto 8, 3) := by decide +kernel
theorem dX7_at_14 : decode cX7_at 14 = .ok (.aload_n 3, 1) := by decide +kernel
theorem dX7_at_15 : decode cX7_at 15 = .ok (.iload_n 2, 1) := by decide +kernel
theorem dX7_at_16 : decode cX7_at 16 = .ok (.invokevirtual 112, 3) := by decide +kernel
theorem dX7_at_19 : decode cX7_at 19 = .ok (.ireturn, 1) := by decide +kernel
theorem dX7_make_0 : decode cX7_make 0 = .ok (.aload_n 0, 1) := by decide +kernel
theorem dX7_make_1 : decode cX7_make 1 = .ok (.getfield 14, 3) := by decide +kernel
theorem dX7_make_4 : decode cX7_make 4 = .ok (.invokevirtual 80, 3) := by decide +kernel
theorem dX7_make_7 : decode cX7_make 7 = .ok (.bipush 64, 2) := by decide +kernel
theorem dX7_make_9 : decode cX7_make 9 = .ok (.if_icmp .ne 7, 3) := by decide +kernel
theorem dX7_make_12 : decode cX7_make 12 = .ok (.iconst 1, 1) := by decide +kernel
theorem dX7_make_13 : decode cX7_make 13 = .ok (.goto 4, 3) := by decide +kernel
theorem dX7_make_16 : decode cX7_make 16 = .ok (.iconst 0, 1) := by decide +kernel
theorem dX7_make_17 : decode cX7_make 17 = .ok (.istore_n 1, 1) := by decide +kernel
theorem dX7_make_18 : decode cX7_make 18 = .ok (.iload_n 1, 1) := by decide +kernel
theorem dX7_make_19 : decode cX7_make 19 = .ok (.ifCond .eq 29, 3) := by decide +kernel
theorem dX7_make_22 : decode cX7_make 22 = .ok (.aload_n 0, 1) := by decide +kernel
theorem dX7_make_23 : decode cX7_make 23 = .ok (.getfield 59, 3) := by decide +kernel
theorem dX7_make_26 : decode cX7_make 26 = .ok (.aload_n 0, 1) := by decide +kernel
theorem dX7_make_27 : decode cX7_make 27 = .ok (.getfield 73, 3) := by decide +kernel
theorem dX7_make_30 : decode cX7_make 30 = .ok (.aload_n 0, 1) := by decide +kernel
theorem dX7_make_31 : decode cX7_make 31 = .ok (.getfield 14, 3) := by decide +kernel
theorem dX7_make_34 : decode cX7_make 34 = .ok (.aload_n 0, 1) := by decide +kernel
theorem dX7_make_35 : decode cX7_make 35 = .ok (.getfield 76, 3) := by decide +kernel
theorem dX7_make_38 : decode cX7_make 38 = .ok (.invokevirtual 116, 3) := by decide +kernel
theorem dX7_make_41 : decode cX7_make 41 = .ok (.ifCond .eq 7, 3) := by decide +kernel
theorem dX7_make_44 : decode cX7_make 44 = .ok (.iconst 1, 1) := by decide +kernel
theorem dX7_make_45 : decode cX7_make 45 = .ok (.goto 4, 3) := by decide +kernel
theorem dX7_make_48 : decode cX7_make 48 = .ok (.iconst 0, 1) := by decide +kernel
theorem dX7_make_49 : decode cX7_make 49 = .ok (.istore_n 2, 1) := by decide +kernel
theorem dX7_make_50 : decode cX7_make 50 = .ok (.aload_n 0, 1) := by decide +kernel
theorem dX7_make_51 : decode cX7_make 51 = .ok (.getfield 14, 3) := by decide +kernel
theorem dX7_make_54 : decode cX7_make 54 = .ok (.invokevirtual 106, 3) := by decide +kernel
theorem dX7_make_57 : decode cX7_make 57 = .ok (.iload_n 1, 1) := by decide +kernel
theorem dX7_make_58 : decode cX7_make 58 = .ok (.ifCond .ne 5, 3) := by decide +kernel
theorem dX7_make_61 : decode cX7_make 61 = .ok (.iconst (-1), 1) := by decide +kernel
theorem dX7_make_62 : decode cX7_make 62 = .ok (.ireturn, 1) := by decide +kernel
theorem dX7_make_63 : decode cX7_make 63 = .ok (.iload_n 2, 1) := by decide +kernel
theorem dX7_make_64 : decode cX7_make 64 = .ok (.ifCond .ne 6, 3) := by decide +kernel
theorem dX7_make_67 : decode cX7_make 67 = .ok (.bipush (-2), 2) := by decide +kernel
theorem dX7_make_69 : decode cX7_make 69 = .ok (.ireturn, 1) := by decide +kernel
theorem dX7_make_70 : decode cX7_make 70 = .ok (.aload_n 0, 1) := by decide +kernel
theorem dX7_make_71 : decode cX7_make 71 = .ok (.getfield 21, 3) := by decide +kernel
theorem dX7_make_74 : decode cX7_make 74 = .ok (.aload_n 0, 1) := by decide +kernel
theorem dX7_make_75 : decode cX7_make 75 = .ok (.getfield 59, 3) := by decide +kernel
theorem dX7_make_78 : decode cX7_make 78 = .ok (.invokevirtual 120, 3) := by decide +kernel
theorem dX7_make_81 : decode cX7_make 81 = .ok (.invokevirtual 94, 3) := by decide +kernel
theorem dX7_make_84 : decode cX7_make 84 = .ok (.aload_n 0, 1) := by decide +kernel
theorem dX7_make_85 : decode cX7_make 85 = .ok (.getfield 18, 3) := by decide +kernel
theorem dX7_make_88 : decode cX7_make 88 = .ok (.invokevirtual 106, 3) := by decide +kernel
theorem dX7_make_91 : decode cX7_make 91 = .ok (.aload_n 0, 1) := by decide +kernel
theorem dX7_make_92 : decode cX7_make 92 = .ok (.getfield 18, 3) := by decide +kernel
theorem dX7_make_95 : decode cX7_make 95 = .ok (.aload_n 0, 1) := by decide +kernel
theorem dX7_make_96 : decode cX7_make 96 = .ok (.getfield 21, 3) := by decide +kernel
theorem dX7_make_99 : decode cX7_make 99 = .ok (.aload_n 0, 1) := by decide +kernel
theorem dX7_make_100 : decode cX7_make 100 = .ok (.getfield 73, 3) := by decide +kernel
theorem dX7_make_103 : decode cX7_make 103 = .ok (.invokevirtual 123, 3) := by decide +kernel
theorem dX7_make_106 : decode cX7_make 106 = .ok (.aload_n 0, 1) := by decide +kernel
theorem dX7_make_107 : decode cX7_make 107 = .ok (.getfield 73, 3) := by decide +kernel
theorem dX7_make_110 : decode cX7_make 110 = .ok (.invokevirtual 109, 3) := by decide +kernel
theorem dX7_make_113 : decode cX7_make 113 = .ok (.invokevirtual 126, 3) := by decide +kernel
theorem dX7_make_116 : decode cX7_make 116 = .ok (.aload_n 0, 1) := by decide +kernel
theorem dX7_make_117 : decode cX7_make 117 = .ok (.getfield 24, 3) := by decide +kernel
theorem dX7_make_120 : decode cX7_make 120 = .ok (.invokevirtual 106, 3) := by decide +kernel
theorem dX7_make_123 : decode cX7_make 123 = .ok (.aload_n 0, 1) := by decide +kernel
theorem dX7_make_124 : decode cX7_make 124 = .ok (.getfield 27, 3) := by decide +kernel
theorem dX7_make_127 : decode cX7_make 127 = .ok (.invokevirtual 106, 3) := by decide +kernel
theorem dX7_make_130 : decode cX7_make 130 = .ok (.aload_n 0, 1) := by decide +kernel
theorem dX7_make_131 : decode cX7_make 131 = .ok (.getfield 18, 3) := by decide +kernel
theorem dX7_make_134 : decode cX7_make 134 = .ok (.invokevirtual 80, 3) := by decide +kernel
theorem dX7_make_137 : decode cX7_make 137 = .ok (.ireturn, 1) := by decide +kernel
theorem dX7_load_0 : decode cX7_load 0 = .ok (.iload_n 1, 1) := by decide +kernel
theorem dX7_load_1 : decode cX7_load 1 = .ok (.ifCond .eq 15, 3) := by decide +kernel
theorem dX7_load_4 : decode cX7_load 4 = .ok (.iload_n 1, 1) := by decide +kernel
theorem dX7_load_5 : decode cX7_load 5 = .ok (.iconst 1, 1) := by decide +kernel
theorem dX7_load_6 : decode cX7_load 6 = .ok (.if_icmp .eq 10, 3) := by decide +kernel
theorem dX7_load_9 : decode cX7_load 9 = .ok (.iload_n 1, 1) := by decide +kernel
theorem dX7_load_10 : decode cX7_load 10 = .ok (.iconst 2, 1) := by decide +kernel
theorem dX7_load_11 : decode cX7_load 11 = .ok (.if_icmp .eq 5, 3) := by decide +kernel
theorem dX7_load_14 : decode cX7_load 14 = .ok (.iconst (-1), 1) := by decide +kernel
theorem dX7_load_15 : decode cX7_load 15 = .ok (.ireturn, 1) := by decide +kernel
theorem dX7_load_16 : decode cX7_load 16 = .ok (.aload_n 0, 1) := by decide +kernel
theorem dX7_load_17 : decode cX7_load 17 = .ok (.iload_n 1, 1) := by decide +kernel
theorem dX7_load_18 : decode cX7_load 18 = .ok (.invokevirtual 130, 3) := by decide +kernel
theorem dX7_load_21 : decode cX7_load 21 = .ok (.istore_n 2, 1) := by decide +kernel
theorem dX7_load_22 : decode cX7_load 22 = .ok (.aload_n 0, 1) := by decide +kernel
theorem dX7_load_23 : decode cX7_load 23 = .ok (.iload_n 1, 1) := by decide +kernel
theorem dX7_load_24 : decode cX7_load 24 = .ok (.invokevirtual 90, 3) := by decide +kernel
theorem dX7_load_27 : decode cX7_load 27 = .ok (.astore_n 3, 1) := by decide +kernel
theorem dX7_load_28 : decode cX7_load 28 = .ok (.iload_n 2, 1) := by decide +kernel
theorem dX7_load_29 : decode cX7_load 29 = .ok (.ifCond .lt 15, 3) := by decide +kernel
theorem dX7_load_32 : decode cX7_load 32 = .ok (.aload_n 3, 1) := by decide +kernel
theorem dX7_load_33 : decode cX7_load 33 = .ok (.ifnull 11, 3) := by decide +kernel
theorem dX7_load_36 : decode cX7_load 36 = .ok (.aload_n 3, 1) := by decide +kernel
theorem dX7_load_37 : decode cX7_load 37 = .ok (.aload_n 0, 1) := by decide +kernel
theorem dX7_load_38 : decode cX7_load 38 = .ok (.getfield 14, 3) := by decide +kernel
theorem dX7_load_41 : decode cX7_load 41 = .ok (.invokevirtual 94, 3) := by decide +kernel
theorem dX7_load_44 : decode cX7_load 44 = .ok (.aload_n 0, 1) := by decide +kernel
theorem dX7_load_45 : decode cX7_load 45 = .ok (.getfield 14, 3) := by decide +kernel
theorem dX7_load_48 : decode cX7_load 48 = .ok (.invokevirtual 106, 3) := by decide +kernel
theorem dX7_load_51 : decode cX7_load 51 = .ok (.iload_n 2, 1) := by decide +kernel
theorem dX7_load_52 : decode cX7_load 52 = .ok (.ireturn, 1) := by decide +kernel
theorem dX7_wrap_0 : decode cX7_wrap 0 = .ok (.aload_n 0, 1) := by decide +kernel
theorem dX7_wrap_1 : decode cX7_wrap 1 = .ok (.getfield 14, 3) := by decide +kernel
theorem dX7_wrap_4 : decode cX7_wrap 4 = .ok (.invokevirtual 80, 3) := by decide +kernel
theorem dX7_wrap_7 : decode cX7_wrap 7 = .ok (.bipush 32, 2) := by decide +kernel
theorem dX7_wrap_9 : decode cX7_wrap 9 = .ok (.if_icmp .ne 17, 3) := by decide +kernel
theorem dX7_wrap_12 : decode cX7_wrap 12 = .ok (.aload_n 0, 1) := by decide +kernel
theorem dX7_wrap_13 : decode cX7_wrap 13 = .ok (.getfield 18, 3) := by decide +kernel
theorem dX7_wrap_16 : decode cX7_wrap 16 = .ok (.invokevirtual 80, 3) := by decide +kernel
theorem dX7_wrap_19 : decode cX7_wrap 19 = .ok (.ifCond .le 7, 3) := by decide +kernel
theorem dX7_wrap_22 : decode cX7_wrap 22 = .ok (.iconst 1, 1) := by decide +kernel
theorem dX7_wrap_23 : decode cX7_wrap 23 = .ok (.goto 4, 3) := by decide +kernel
theorem dX7_wrap_26 : decode cX7_wrap 26 = .ok (.iconst 0, 1) := by decide +kernel
theorem dX7_wrap_27 : decode cX7_wrap 27 = .ok (.istore_n 1, 1) := by decide +kernel
theorem dX7_wrap_28 : decode cX7_wrap 28 = .ok (.iconst 0, 1) := by decide +kernel
theorem dX7_wrap_29 : decode cX7_wrap 29 = .ok (.istore_n 2, 1) := by decide +kernel
theorem dX7_wrap_30 : decode cX7_wrap 30 = .ok (.iload_n 1, 1) := by decide +kernel
theorem dX7_wrap_31 : decode cX7_wrap 31 = .ok (.ifCond .eq 43, 3) := by decide +kernel
theorem dX7_wrap_34 : decode cX7_wrap 34 = .ok (.aload_n 0, 1) := by decide +kernel
theorem dX7_wrap_35 : decode cX7_wrap 35 = .ok (.getfield 59, 3) := by decide +kernel
theorem dX7_wrap_38 : decode cX7_wrap 38 = .ok (.aload_n 0, 1) := by decide +kernel
theorem dX7_wrap_39 : decode cX7_wrap 39 = .ok (.getfield 73, 3) := by decide +kernel
theorem dX7_wrap_42 : decode cX7_wrap 42 = .ok (.aload_n 0, 1) := by decide +kernel
theorem dX7_wrap_43 : decode cX7_wrap 43 = .ok (.getfield 18, 3) := by decide +kernel
theorem dX7_wrap_46 : decode cX7_wrap 46 = .ok (.aload_n 0, 1) := by decide +kernel
theorem dX7_wrap_47 : decode cX7_wrap 47 = .ok (.getfield 14, 3) := by decide +kernel
theorem dX7_wrap_50 : decode cX7_wrap 50 = .ok (.invokevirtual 133, 3) := by decide +kernel
theorem dX7_wrap_53 : decode cX7_wrap 53 = .ok (.aload_n 0, 1) := by decide +kernel
theorem dX7_wrap_54 : decode cX7_wrap 54 = .ok (.getfield 59, 3) := by decide +kernel
theorem dX7_wrap_57 : decode cX7_wrap 57 = .ok (.aload_n 0, 1) := by decide +kernel
theorem dX7_wrap_58 : decode cX7_wrap 58 = .ok (.getfield 73, 3) := by decide +kernel
theorem dX7_wrap_61 : decode cX7_wrap 61 = .ok (.aload_n 0, 1) := by decide +kernel
theorem dX7_wrap_62 : decode cX7_wrap 62 = .ok (.getfield 18, 3) := by decide +kernel
theorem dX7_wrap_65 : decode cX7_wrap 65 = .ok (.iconst 0, 1) := by decide +kernel
theorem dX7_wrap_66 : decode cX7_wrap 66 = .ok (.aload_n 0, 1) := by decide +kernel
theorem dX7_wrap_67 : decode cX7_wrap 67 = .ok (.getfield 76, 3) := by decide +kernel
theorem dX7_wrap_70 : decode cX7_wrap 70 = .ok (.invokevirtual 137, 3) := by decide +kernel
theorem dX7_wrap_73 : decode cX7_wrap 73 = .ok (.istore_n 2, 1) := by decide +kernel
theorem dX7_wrap_74 : decode cX7_wrap 74 = .ok (.aload_n 0, 1) := by decide +kernel
theorem dX7_wrap_75 : decode cX7_wrap 75 = .ok (.getfield 14, 3) := by decide +kernel
theorem dX7_wrap_78 : decode cX7_wrap 78 = .ok (.invokevirtual 106, 3) := by decide +kernel
theorem dX7_wrap_81 : decode cX7_wrap 81 = .ok (.iload_n 1, 1) := by decide +kernel
theorem dX7_wrap_82 : decode cX7_wrap 82 = .ok (.ifCond .ne 5, 3) := by decide +kernel
theorem dX7_wrap_85 : decode cX7_wrap 85 = .ok (.iconst (-1), 1) := by decide +kernel
theorem dX7_wrap_86 : decode cX7_wrap 86 = .ok (.ireturn, 1) := by decide +kernel
theorem dX7_wrap_87 : decode cX7_wrap 87 = .ok (.iload_n 2, 1) := by decide +kernel
theorem dX7_wrap_88 : decode cX7_wrap 88 = .ok (.ifCond .ne 6, 3) := by decide +kernel
theorem dX7_wrap_91 : decode cX7_wrap 91 = .ok (.bipush (-2), 2) := by decide +kernel
theorem dX7_wrap_93 : decode cX7_wrap 93 = .ok (.ireturn, 1) := by decide +kernel
theorem dX7_wrap_94 : decode cX7_wrap 94 = .ok (.aload_n 0, 1) := by decide +kernel
theorem dX7_wrap_95 : decode cX7_wrap 95 = .ok (.getfield 24, 3) := by decide +kernel
theorem dX7_wrap_98 : decode cX7_wrap 98 = .ok (.aload_n 0, 1) := by decide +kernel
theorem dX7_wrap_99 : decode cX7_wrap 99 = .ok (.getfield 59, 3) := by decide +kernel
theorem dX7_wrap_102 : decode cX7_wrap 102 = .ok (.invokevirtual 120, 3) := by decide +kernel
theorem dX7_wrap_105 : decode cX7_wrap 105 = .ok (.invokevirtual 94, 3) := by decide +kernel
theorem dX7_wrap_108 : decode cX7_wrap 108 = .ok (.aload_n 0, 1) := by decide +kernel
theorem dX7_wrap_109 : decode cX7_wrap 109 = .ok (.getfield 27, 3) := by decide +kernel
theorem dX7_wrap_112 : decode cX7_wrap 112 = .ok (.invokevirtual 106, 3) := by decide +kernel
theorem dX7_wrap_115 : decode cX7_wrap 115 = .ok (.aload_n 0, 1) := by decide +kernel
theorem dX7_wrap_116 : decode cX7_wrap 116 = .ok (.getfield 27, 3) := by decide +kernel
theorem dX7_wrap_119 : decode cX7_wrap 119 = .ok (.aload_n 0, 1) := by decide +kernel
theorem dX7_wrap_120 : decode cX7_wrap 120 = .ok (.getfield 59, 3) := by decide +kernel
theorem dX7_wrap_123 : decode cX7_wrap 123 = .ok (.invokevirtual 141, 3) := by decide +kernel
theorem dX7_wrap_126 : decode cX7_wrap 126 = .ok (.iconst 0, 1) := by decide +kernel
theorem dX7_wrap_127 : decode cX7_wrap 127 = .ok (.bipush 32, 2) := by decide +kernel
theorem dX7_wrap_129 : decode cX7_wrap 129 = .ok (.invokevirtual 126, 3) := by decide +kernel
theorem dX7_wrap_132 : decode cX7_wrap 132 = .ok (.aload_n 0, 1) := by decide +kernel
theorem dX7_wrap_133 : decode cX7_wrap 133 = .ok (.getfield 24, 3) := by decide +kernel
theorem dX7_wrap_136 : decode cX7_wrap 136 = .ok (.invokevirtual 80, 3) := by decide +kernel
theorem dX7_wrap_139 : decode cX7_wrap 139 = .ok (.ireturn, 1) := by decide +kernel
theorem dX7_unwrap_0 : decode cX7_unwrap 0 = .ok (.aload_n 0, 1) := by decide +kernel
theorem dX7_unwrap_1 : decode cX7_unwrap 1 = .ok (.getfield 21, 3) := by decide +kernel
theorem dX7_unwrap_4 : decode cX7_unwrap 4 = .ok (.invokevirtual 80, 3) := by decide +kernel
theorem dX7_unwrap_7 : decode cX7_unwrap 7 = .ok (.ifCond .eq 13, 3) := by decide +kernel
theorem dX7_unwrap_10 : decode cX7_unwrap 10 = .ok (.aload_n 0, 1) := by decide +kernel
theorem dX7_unwrap_11 : decode cX7_unwrap 11 = .ok (.getfield 24, 3) := by decide +kernel
theorem dX7_unwrap_14 : decode cX7_unwrap 14 = .ok (.invokevirtual 80, 3) := by decide +kernel
theorem dX7_unwrap_17 : decode cX7_unwrap 17 = .ok (.ifCond .ne 5, 3) := by decide +kernel
theorem dX7_unwrap_20 : decode cX7_unwrap 20 = .ok (.iconst (-1), 1) := by decide +kernel
theorem dX7_unwrap_21 : decode cX7_unwrap 21 = .ok (.ireturn, 1) := by decide +kernel
theorem dX7_unwrap_22 : decode cX7_unwrap 22 = .ok (.aload_n 0, 1) := by decide +kernel
theorem dX7_unwrap_23 : decode cX7_unwrap 23 = .ok (.getfield 59, 3) := by decide +kernel
theorem dX7_unwrap_26 : decode cX7_unwrap 26 = .ok (.aload_n 0, 1) := by decide +kernel
theorem dX7_unwrap_27 : decode cX7_unwrap 27 = .ok (.getfield 73, 3) := by decide +kernel
theorem dX7_unwrap_30 : decode cX7_unwrap 30 = .ok (.aload_n 0, 1) := by decide +kernel
theorem dX7_unwrap_31 : decode cX7_unwrap 31 = .ok (.getfield 21, 3) := by decide +kernel
theorem dX7_unwrap_34 : decode cX7_unwrap 34 = .ok (.aload_n 0, 1) := by decide +kernel
theorem dX7_unwrap_35 : decode cX7_unwrap 35 = .ok (.getfield 24, 3) := by decide +kernel
theorem dX7_unwrap_38 : decode cX7_unwrap 38 = .ok (.invokevirtual 144, 3) := by decide +kernel
theorem dX7_unwrap_41 : decode cX7_unwrap 41 = .ok (.aload_n 0, 1) := by decide +kernel
theorem dX7_unwrap_42 : decode cX7_unwrap 42 = .ok (.getfield 59, 3) := by decide +kernel
theorem dX7_unwrap_45 : decode cX7_unwrap 45 = .ok (.aload_n 0, 1) := by decide +kernel
theorem dX7_unwrap_46 : decode cX7_unwrap 46 = .ok (.getfield 73, 3) := by decide +kernel
theorem dX7_unwrap_49 : decode cX7_unwrap 49 = .ok (.aload_n 0, 1) := by decide +kernel
theorem dX7_unwrap_50 : decode cX7_unwrap 50 = .ok (.getfield 21, 3) := by decide +kernel
theorem dX7_unwrap_53 : decode cX7_unwrap 53 = .ok (.aload_n 0, 1) := by decide +kernel
theorem dX7_unwrap_54 : decode cX7_unwrap 54 = .ok (.getfield 73, 3) := by decide +kernel
theorem dX7_unwrap_57 : decode cX7_unwrap 57 = .ok (.invokevirtual 123, 3) := by decide +kernel
theorem dX7_unwrap_60 : decode cX7_unwrap 60 = .ok (.aload_n 0, 1) := by decide +kernel
theorem dX7_unwrap_61 : decode cX7_unwrap 61 = .ok (.getfield 76, 3) := by decide +kernel
theorem dX7_unwrap_64 : decode cX7_unwrap 64 = .ok (.invokevirtual 137, 3) := by decide +kernel
theorem dX7_unwrap_67 : decode cX7_unwrap 67 = .ok (.ifCond .ne 6, 3) := by decide +kernel
theorem dX7_unwrap_70 : decode cX7_unwrap 70 = .ok (.bipush (-2), 2) := by decide +kernel
theorem dX7_unwrap_72 : decode cX7_unwrap 72 = .ok (.ireturn, 1) := by decide +kernel
theorem dX7_unwrap_73 : decode cX7_unwrap 73 = .ok (.aload_n 0, 1) := by decide +kernel
theorem dX7_unwrap_74 : decode cX7_unwrap 74 = .ok (.getfield 27, 3) := by decide +kernel
theorem dX7_unwrap_77 : decode cX7_unwrap 77 = .ok (.invokevirtual 106, 3) := by decide +kernel
theorem dX7_unwrap_80 : decode cX7_unwrap 80 = .ok (.aload_n 0, 1) := by decide +kernel
theorem dX7_unwrap_81 : decode cX7_unwrap 81 = .ok (.getfield 59, 3) := by decide +kernel
theorem dX7_unwrap_84 : decode cX7_unwrap 84 = .ok (.invokevirtual 120, 3) := by decide +kernel
theorem dX7_unwrap_87 : decode cX7_unwrap 87 = .ok (.aload_n 0, 1) := by decide +kernel
theorem dX7_unwrap_88 : decode cX7_unwrap 88 = .ok (.getfield 24, 3) := by decide +kernel
theorem dX7_unwrap_91 : decode cX7_unwrap 91 = .ok (.invokevirtual 147, 3) := by decide +kernel
theorem dX7_unwrap_94 : decode cX7_unwrap 94 = .ok (.ifCond .eq 22, 3) := by decide +kernel
theorem dX7_unwrap_97 : decode cX7_unwrap 97 = .ok (.aload_n 0, 1) := by decide +kernel
theorem dX7_unwrap_98 : decode cX7_unwrap 98 = .ok (.getfield 27, 3) := by decide +kernel
theorem dX7_unwrap_101 : decode cX7_unwrap 101 = .ok (.aload_n 0, 1) := by decide +kernel
theorem dX7_unwrap_102 : decode cX7_unwrap 102 = .ok (.getfield 59, 3) := by decide +kernel
theorem dX7_unwrap_105 : decode cX7_unwrap 105 = .ok (.invokevirtual 141, 3) := by decide +kernel
theorem dX7_unwrap_108 : decode cX7_unwrap 108 = .ok (.iconst 0, 1) := by decide +kernel
theorem dX7_unwrap_109 : decode cX7_unwrap 109 = .ok (.bipush 32, 2) := by decide +kernel
theorem dX7_unwrap_111 : decode cX7_unwrap 111 = .ok (.invokevirtual 126, 3) := by decide +kernel
theorem dX7_unwrap_114 : decode cX7_unwrap 114 = .ok (.iconst 1, 1) := by decide +kernel
theorem dX7_unwrap_115 : decode cX7_unwrap 115 = .ok (.ireturn, 1) := by decide +kernel
theorem dX7_unwrap_116 : decode cX7_unwrap 116 = .ok (.aload_n 0, 1) := by decide +kernel
theorem dX7_unwrap_117 : decode cX7_unwrap 117 = .ok (.getfield 59, 3) := by decide +kernel
theorem dX7_unwrap_120 : decode cX7_unwrap 120 = .ok (.aload_n 0, 1) := by decide +kernel
theorem dX7_unwrap_121 : decode cX7_unwrap 121 = .ok (.getfield 73, 3) := by decide +kernel
theorem dX7_unwrap_124 : decode cX7_unwrap 124 = .ok (.aload_n 0, 1) := by decide +kernel
theorem dX7_unwrap_125 : decode cX7_unwrap 125 = .ok (.getfield 21, 3) := by decide +kernel
theorem dX7_unwrap_128 : decode cX7_unwrap 128 = .ok (.aload_n 0, 1) := by decide +kernel
theorem dX7_unwrap_129 : decode cX7_unwrap 129 = .ok (.getfield 24, 3) := by decide +kernel
theorem dX7_unwrap_132 : decode cX7_unwrap 132 = .ok (.aload_n 0, 1) := by decide +kernel
theorem dX7_unwrap_133 : decode cX7_unwrap 133 = .ok (.getfield 27, 3) := by decide +kernel
theorem dX7_unwrap_136 : decode cX7_unwrap 136 = .ok (.invokevirtual 151, 3) := by decide +kernel
theorem dX7_unwrap_139 : decode cX7_unwrap 139 = .ok (.iconst 0, 1) := by decide +kernel
theorem dX7_unwrap_140 : decode cX7_unwrap 140 = .ok (.ireturn, 1) := by decide +kernel
theorem dX7_hash_0 : decode cX7_hash 0 = .ok (.iload_n 1, 1) := by decide +kernel
theorem dX7_hash_1 : decode cX7_hash 1 = .ok (.iload_n 2, 1) := by decide +kernel
theorem dX7_hash_2 : decode cX7_hash 2 = .ok (.invokestatic 155, 3) := by decide +kernel
theorem dX7_hash_5 : decode cX7_hash 5 = .ok (.istore_n 3, 1) := by decide +kernel
theorem dX7_hash_6 : decode cX7_hash 6 = .ok (.iload_n 3, 1) := by decide +kernel
theorem dX7_hash_7 : decode cX7_hash 7 = .ok (.iconst (-1), 1) := by decide +kernel
theorem dX7_hash_8 : decode cX7_hash 8 = .ok (.if_icmp .ne 5, 3) := by decide +kernel
theorem dX7_hash_11 : decode cX7_hash 11 = .ok (.iconst (-1), 1) := by decide +kernel
theorem dX7_hash_12 : decode cX7_hash 12 = .ok (.ireturn, 1) := by decide +kernel
theorem dX7_hash_13 : decode cX7_hash 13 = .ok (.aload_n 0, 1) := by decide +kernel
theorem dX7_hash_14 : decode cX7_hash 14 = .ok (.getfield 41, 3) := by decide +kernel
theorem dX7_hash_17 : decode cX7_hash 17 = .ok (.iload_n 1, 1) := by decide +kernel
theorem dX7_hash_18 : decode cX7_hash 18 = .ok (.invokevirtual 159, 3) := by decide +kernel
theorem dX7_hash_21 : decode cX7_hash 21 = .ok (.aload_n 0, 1) := by decide +kernel
theorem dX7_hash_22 : decode cX7_hash 22 = .ok (.getfield 41, 3) := by decide +kernel
theorem dX7_hash_25 : decode cX7_hash 25 = .ok (.aload_n 0, 1) := by decide +kernel
theorem dX7_hash_26 : decode cX7_hash 26 = .ok (.getfield 14, 3) := by decide +kernel
theorem dX7_hash_29 : decode cX7_hash 29 = .ok (.iconst 0, 1) := by decide +kernel
theorem dX7_hash_30 : decode cX7_hash 30 = .ok (.aload_n 0, 1) := by decide +kernel
theorem dX7_hash_31 : decode cX7_hash 31 = .ok (.getfield 14, 3) := by decide +kernel
theorem dX7_hash_34 : decode cX7_hash 34 = .ok (.invokevirtual 80, 3) := by decide +kernel
theorem dX7_hash_37 : decode cX7_hash 37 = .ok (.invokevirtual 162, 3) := by decide +kernel
theorem dX7_hash_40 : decode cX7_hash 40 = .ok (.aload_n 0, 1) := by decide +kernel
theorem dX7_hash_41 : decode cX7_hash 41 = .ok (.getfield 41, 3) := by decide +kernel
theorem dX7_hash_44 : decode cX7_hash 44 = .ok (.invokevirtual 165, 3) := by decide +kernel
theorem dX7_hash_47 : decode cX7_hash 47 = .ok (.aload_n 0, 1) := by decide +kernel
theorem dX7_hash_48 : decode cX7_hash 48 = .ok (.getfield 30, 3) := by decide +kernel
theorem dX7_hash_51 : decode cX7_hash 51 = .ok (.invokevirtual 106, 3) := by decide +kernel
theorem dX7_hash_54 : decode cX7_hash 54 = .ok (.aload_n 0, 1) := by decide +kernel
theorem dX7_hash_55 : decode cX7_hash 55 = .ok (.getfield 41, 3) := by decide +kernel
theorem dX7_hash_58 : decode cX7_hash 58 = .ok (.aload_n 0, 1) := by decide +kernel
theorem dX7_hash_59 : decode cX7_hash 59 = .ok (.getfield 30, 3) := by decide +kernel
theorem dX7_hash_62 : decode cX7_hash 62 = .ok (.iload_n 3, 1) := by decide +kernel
theorem dX7_hash_63 : decode cX7_hash 63 = .ok (.invokevirtual 168, 3) := by decide +kernel
theorem dX7_hash_66 : decode cX7_hash 66 = .ok (.aload_n 0, 1) := by decide +kernel
theorem dX7_hash_67 : decode cX7_hash 67 = .ok (.getfield 14, 3) := by decide +kernel
theorem dX7_hash_70 : decode cX7_hash 70 = .ok (.invokevirtual 106, 3) := by decide +kernel
theorem dX7_hash_73 : decode cX7_hash 73 = .ok (.iload_n 3, 1) := by decide +kernel
theorem dX7_hash_74 : decode cX7_hash 74 = .ok (.ireturn, 1) := by decide +kernel
theorem dX7_put_0 : decode cX7_put 0 = .ok (.iload_n 1, 1) := by decide +kernel
theorem dX7_put_1 : decode cX7_put 1 = .ok (.invokestatic 172, 3) := by decide +kernel
theorem dX7_put_4 : decode cX7_put 4 = .ok (.ifCond .eq 14, 3) := by decide +kernel
theorem dX7_put_7 : decode cX7_put 7 = .ok (.iload_n 2, 1) := by decide +kernel
theorem dX7_put_8 : decode cX7_put 8 = .ok (.ifCond .lt 10, 3) := by decide +kernel
theorem dX7_put_11 : decode cX7_put 11 = .ok (.iload_n 2, 1) := by decide +kernel
theorem dX7_put_12 : decode cX7_put 12 = .ok (.sipush 256, 3) := by decide +kernel
theorem dX7_put_15 : decode cX7_put 15 = .ok (.if_icmp .lt 5, 3) := by decide +kernel
theorem dX7_put_18 : decode cX7_put 18 = .ok (.iconst (-1), 1) := by decide +kernel
theorem dX7_put_19 : decode cX7_put 19 = .ok (.ireturn, 1) := by decide +kernel
theorem dX7_put_20 : decode cX7_put 20 = .ok (.aload_n 0, 1) := by decide +kernel
theorem dX7_put_21 : decode cX7_put 21 = .ok (.getfield 35, 3) := by decide +kernel
theorem dX7_put_24 : decode cX7_put 24 = .ok (.iload_n 1, 1) := by decide +kernel
theorem dX7_put_25 : decode cX7_put 25 = .ok (.aaload, 1) := by decide +kernel
theorem dX7_put_26 : decode cX7_put 26 = .ok (.iload_n 2, 1) := by decide +kernel
theorem dX7_put_27 : decode cX7_put 27 = .ok (.iload_n 3, 1) := by decide +kernel
theorem dX7_put_28 : decode cX7_put 28 = .ok (.sipush 3329, 3) := by decide +kernel
theorem dX7_put_31 : decode cX7_put 31 = .ok (.invokestatic 176, 3) := by decide +kernel
theorem dX7_put_34 : decode cX7_put 34 = .ok (.iastore, 1) := by decide +kernel
theorem dX7_put_35 : decode cX7_put 35 = .ok (.aload_n 0, 1) := by decide +kernel
theorem dX7_put_36 : decode cX7_put 36 = .ok (.getfield 35, 3) := by decide +kernel
theorem dX7_put_39 : decode cX7_put 39 = .ok (.iload_n 1, 1) := by decide +kernel
theorem dX7_put_40 : decode cX7_put 40 = .ok (.aaload, 1) := by decide +kernel
theorem dX7_put_41 : decode cX7_put 41 = .ok (.iload_n 2, 1) := by decide +kernel
theorem dX7_put_42 : decode cX7_put 42 = .ok (.iaload, 1) := by decide +kernel
theorem dX7_put_43 : decode cX7_put 43 = .ok (.ireturn, 1) := by decide +kernel
theorem dX7_number_0 : decode cX7_number 0 = .ok (.iload_n 1, 1) := by decide +kernel
theorem dX7_number_1 : decode cX7_number 1 = .ok (.invokestatic 172, 3) := by decide +kernel
theorem dX7_number_4 : decode cX7_number 4 = .ok (.ifCond .eq 14, 3) := by decide +kernel
theorem dX7_number_7 : decode cX7_number 7 = .ok (.iload_n 2, 1) := by decide +kernel
theorem dX7_number_8 : decode cX7_number 8 = .ok (.ifCond .lt 10, 3) := by decide +kernel
theorem dX7_number_11 : decode cX7_number 11 = .ok (.iload_n 2, 1) := by decide +kernel
theorem dX7_number_12 : decode cX7_number 12 = .ok (.sipush 256, 3) := by decide +kernel
theorem dX7_number_15 : decode cX7_number 15 = .ok (.if_icmp .lt 5, 3) := by decide +kernel
theorem dX7_number_18 : decode cX7_number 18 = .ok (.iconst (-1), 1) := by decide +kernel
theorem dX7_number_19 : decode cX7_number 19 = .ok (.ireturn, 1) := by decide +kernel
theorem dX7_number_20 : decode cX7_number 20 = .ok (.aload_n 0, 1) := by decide +kernel
theorem dX7_number_21 : decode cX7_number 21 = .ok (.getfield 35, 3) := by decide +kernel
theorem dX7_number_24 : decode cX7_number 24 = .ok (.iload_n 1, 1) := by decide +kernel
theorem dX7_number_25 : decode cX7_number 25 = .ok (.aaload, 1) := by decide +kernel
theorem dX7_number_26 : decode cX7_number 26 = .ok (.iload_n 2, 1) := by decide +kernel
theorem dX7_number_27 : decode cX7_number 27 = .ok (.iaload, 1) := by decide +kernel
theorem dX7_number_28 : decode cX7_number 28 = .ok (.ireturn, 1) := by decide +kernel
theorem dX7_forward_0 : decode cX7_forward 0 = .ok (.iload_n 1, 1) := by decide +kernel
theorem dX7_forward_1 : decode cX7_forward 1 = .ok (.invokestatic 172, 3) := by decide +kernel
theorem dX7_forward_4 : decode cX7_forward 4 = .ok (.ifCond .ne 5, 3) := by decide +kernel
theorem dX7_forward_7 : decode cX7_forward 7 = .ok (.iconst 0, 1) := by decide +kernel
theorem dX7_forward_8 : decode cX7_forward 8 = .ok (.ireturn, 1) := by decide +kernel
theorem dX7_forward_9 : decode cX7_forward 9 = .ok (.aload_n 0, 1) := by decide +kernel
theorem dX7_forward_10 : decode cX7_forward 10 = .ok (.getfield 35, 3) := by decide +kernel
theorem dX7_forward_13 : decode cX7_forward 13 = .ok (.iload_n 1, 1) := by decide +kernel
theorem dX7_forward_14 : decode cX7_forward 14 = .ok (.aaload, 1) := by decide +kernel
theorem dX7_forward_15 : decode cX7_forward 15 = .ok (.invokestatic 181, 3) := by decide +kernel
theorem dX7_forward_18 : decode cX7_forward 18 = .ok (.iconst 1, 1) := by decide +kernel
theorem dX7_forward_19 : decode cX7_forward 19 = .ok (.ireturn, 1) := by decide +kernel
theorem dX7_back_0 : decode cX7_back 0 = .ok (.iload_n 1, 1) := by decide +kernel
theorem dX7_back_1 : decode cX7_back 1 = .ok (.invokestatic 172, 3) := by decide +kernel
theorem dX7_back_4 : decode cX7_back 4 = .ok (.ifCond .ne 5, 3) := by decide +kernel
theorem dX7_back_7 : decode cX7_back 7 = .ok (.iconst 0, 1) := by decide +kernel
theorem dX7_back_8 : decode cX7_back 8 = .ok (.ireturn, 1) := by decide +kernel
theorem dX7_back_9 : decode cX7_back 9 = .ok (.aload_n 0, 1) := by decide +kernel
theorem dX7_back_10 : decode cX7_back 10 = .ok (.getfield 35, 3) := by decide +kernel
theorem dX7_back_13 : decode cX7_back 13 = .ok (.iload_n 1, 1) := by decide +kernel
theorem dX7_back_14 : decode cX7_back 14 = .ok (.aaload, 1) := by decide +kernel
theorem dX7_back_15 : decode cX7_back 15 = .ok (.invokestatic 187, 3) := by decide +kernel
theorem dX7_back_18 : decode cX7_back 18 = .ok (.iconst 1, 1) := by decide +kernel
theorem dX7_back_19 : decode cX7_back 19 = .ok (.ireturn, 1) := by decide +kernel
theorem dX7_pairs_0 : decode cX7_pairs 0 = .ok (.iload_n 1, 1) := by decide +kernel
theorem dX7_pairs_1 : decode cX7_pairs 1 = .ok (.invokestatic 172, 3) := by decide +kernel
theorem dX7_pairs_4 : decode cX7_pairs 4 = .ok (.ifCond .eq 17, 3) := by decide +kernel
theorem dX7_pairs_7 : decode cX7_pairs 7 = .ok (.iload_n 2, 1) := by decide +kernel
theorem dX7_pairs_8 : decode cX7_pairs 8 = .ok (.invokestatic 172, 3) := by decide +kernel
theorem dX7_pairs_11 : decode cX7_pairs 11 = .ok (.ifCond .eq 10, 3) := by decide +kernel
theorem dX7_pairs_14 : decode cX7_pairs 14 = .ok (.iload_n 3, 1) := by decide +kernel
theorem dX7_pairs_15 : decode cX7_pairs 15 = .ok (.invokestatic 172, 3) := by decide +kernel
theorem dX7_pairs_18 : decode cX7_pairs 18 = .ok (.ifCond .ne 5, 3) := by decide +kernel
theorem dX7_pairs_21 : decode cX7_pairs 21 = .ok (.iconst 0, 1) := by decide +kernel
theorem dX7_pairs_22 : decode cX7_pairs 22 = .ok (.ireturn, 1) := by decide +kernel
theorem dX7_pairs_23 : decode cX7_pairs 23 = .ok (.aload_n 0, 1) := by decide +kernel
theorem dX7_pairs_24 : decode cX7_pairs 24 = .ok (.getfield 35, 3) := by decide +kernel
theorem dX7_pairs_27 : decode cX7_pairs 27 = .ok (.iload_n 1, 1) := by decide +kernel
theorem dX7_pairs_28 : decode cX7_pairs 28 = .ok (.aaload, 1) := by decide +kernel
theorem dX7_pairs_29 : decode cX7_pairs 29 = .ok (.aload_n 0, 1) := by decide +kernel
theorem dX7_pairs_30 : decode cX7_pairs 30 = .ok (.getfield 35, 3) := by decide +kernel
theorem dX7_pairs_33 : decode cX7_pairs 33 = .ok (.iload_n 2, 1) := by decide +kernel
theorem dX7_pairs_34 : decode cX7_pairs 34 = .ok (.aaload, 1) := by decide +kernel
theorem dX7_pairs_35 : decode cX7_pairs 35 = .ok (.aload_n 0, 1) := by decide +kernel
theorem dX7_pairs_36 : decode cX7_pairs 36 = .ok (.getfield 35, 3) := by decide +kernel
theorem dX7_pairs_39 : decode cX7_pairs 39 = .ok (.iload_n 3, 1) := by decide +kernel
theorem dX7_pairs_40 : decode cX7_pairs 40 = .ok (.aaload, 1) := by decide +kernel
theorem dX7_pairs_41 : decode cX7_pairs 41 = .ok (.invokestatic 190, 3) := by decide +kernel
theorem dX7_pairs_44 : decode cX7_pairs 44 = .ok (.iconst 1, 1) := by decide +kernel
theorem dX7_pairs_45 : decode cX7_pairs 45 = .ok (.ireturn, 1) := by decide +kernel
theorem dX7_add_0 : decode cX7_add 0 = .ok (.iload_n 1, 1) := by decide +kernel
theorem dX7_add_1 : decode cX7_add 1 = .ok (.invokestatic 172, 3) := by decide +kernel
theorem dX7_add_4 : decode cX7_add 4 = .ok (.ifCond .eq 20, 3) := by decide +kernel
theorem dX7_add_7 : decode cX7_add 7 = .ok (.iload_n 2, 1) := by decide +kernel
theorem dX7_add_8 : decode cX7_add 8 = .ok (.invokestatic 172, 3) := by decide +kernel
theorem dX7_add_11 : decode cX7_add 11 = .ok (.ifCond .eq 13, 3) := by decide +kernel
theorem dX7_add_14 : decode cX7_add 14 = .ok (.iload_n 3, 1) := by decide +kernel
theorem dX7_add_15 : decode cX7_add 15 = .ok (.iconst 1, 1) := by decide +kernel
theorem dX7_add_16 : decode cX7_add 16 = .ok (.if_icmp .eq 10, 3) := by decide +kernel
theorem dX7_add_19 : decode cX7_add 19 = .ok (.iload_n 3, 1) := by decide +kernel
theorem dX7_add_20 : decode cX7_add 20 = .ok (.iconst (-1), 1) := by decide +kernel
theorem dX7_add_21 : decode cX7_add 21 = .ok (.if_icmp .eq 5, 3) := by decide +kernel
theorem dX7_add_24 : decode cX7_add 24 = .ok (.iconst 0, 1) := by decide +kernel
theorem dX7_add_25 : decode cX7_add 25 = .ok (.ireturn, 1) := by decide +kernel
theorem dX7_add_26 : decode cX7_add 26 = .ok (.aload_n 0, 1) := by decide +kernel
theorem dX7_add_27 : decode cX7_add 27 = .ok (.getfield 35, 3) := by decide +kernel
theorem dX7_add_30 : decode cX7_add 30 = .ok (.iload_n 1, 1) := by decide +kernel
theorem dX7_add_31 : decode cX7_add 31 = .ok (.aaload, 1) := by decide +kernel
theorem dX7_add_32 : decode cX7_add 32 = .ok (.aload_n 0, 1) := by decide +kernel
theorem dX7_add_33 : decode cX7_add 33 = .ok (.getfield 35, 3) := by decide +kernel
theorem dX7_add_36 : decode cX7_add 36 = .ok (.iload_n 2, 1) := by decide +kernel
theorem dX7_add_37 : decode cX7_add 37 = .ok (.aaload, 1) := by decide +kernel
theorem dX7_add_38 : decode cX7_add 38 = .ok (.iload_n 3, 1) := by decide +kernel
theorem dX7_add_39 : decode cX7_add 39 = .ok (.invokestatic 194, 3) := by decide +kernel
theorem dX7_add_42 : decode cX7_add 42 = .ok (.iconst 1, 1) := by decide +kernel
theorem dX7_add_43 : decode cX7_add 43 = .ok (.ireturn, 1) := by decide +kernel
theorem dX7_press_0 : decode cX7_press 0 = .ok (.iload_n 1, 1) := by decide +kernel
theorem dX7_press_1 : decode cX7_press 1 = .ok (.invokestatic 172, 3) := by decide +kernel
theorem dX7_press_4 : decode cX7_press 4 = .ok (.ifCond .eq 14, 3) := by decide +kernel
theorem dX7_press_7 : decode cX7_press 7 = .ok (.iload_n 2, 1) := by decide +kernel
theorem dX7_press_8 : decode cX7_press 8 = .ok (.iconst 1, 1) := by decide +kernel
theorem dX7_press_9 : decode cX7_press 9 = .ok (.if_icmp .lt 9, 3) := by decide +kernel
theorem dX7_press_12 : decode cX7_press 12 = .ok (.iload_n 2, 1) := by decide +kernel
theorem dX7_press_13 : decode cX7_press 13 = .ok (.bipush 11, 2) := by decide +kernel
theorem dX7_press_15 : decode cX7_press 15 = .ok (.if_icmp .le 5, 3) := by decide +kernel
theorem dX7_press_18 : decode cX7_press 18 = .ok (.iconst 0, 1) := by decide +kernel
theorem dX7_press_19 : decode cX7_press 19 = .ok (.ireturn, 1) := by decide +kernel
theorem dX7_press_20 : decode cX7_press 20 = .ok (.aload_n 0, 1) := by decide +kernel
theorem dX7_press_21 : decode cX7_press 21 = .ok (.getfield 35, 3) := by decide +kernel
theorem dX7_press_24 : decode cX7_press 24 = .ok (.iload_n 1, 1) := by decide +kernel
theorem dX7_press_25 : decode cX7_press 25 = .ok (.aaload, 1) := by decide +kernel
theorem dX7_press_26 : decode cX7_press 26 = .ok (.iload_n 2, 1) := by decide +kernel
theorem dX7_press_27 : decode cX7_press 27 = .ok (.invokestatic 198, 3) := by decide +kernel
theorem dX7_press_30 : decode cX7_press 30 = .ok (.iconst 1, 1) := by decide +kernel
theorem dX7_press_31 : decode cX7_press 31 = .ok (.ireturn, 1) := by decide +kernel
theorem dX7_stretch_0 : decode cX7_stretch 0 = .ok (.iload_n 1, 1) := by decide +kernel
theorem dX7_stretch_1 : decode cX7_stretch 1 = .ok (.invokestatic 172, 3) := by decide +kernel
theorem dX7_stretch_4 : decode cX7_stretch 4 = .ok (.ifCond .eq 14, 3) := by decide +kernel
theorem dX7_stretch_7 : decode cX7_stretch 7 = .ok (.iload_n 2, 1) := by decide +kernel
theorem dX7_stretch_8 : decode cX7_stretch 8 = .ok (.iconst 1, 1) := by decide +kernel
theorem dX7_stretch_9 : decode cX7_stretch 9 = .ok (.if_icmp .lt 9, 3) := by decide +kernel
theorem dX7_stretch_12 : decode cX7_stretch 12 = .ok (.iload_n 2, 1) := by decide +kernel
theorem dX7_stretch_13 : decode cX7_stretch 13 = .ok (.bipush 11, 2) := by decide +kernel
theorem dX7_stretch_15 : decode cX7_stretch 15 = .ok (.if_icmp .le 5, 3) := by decide +kernel
theorem dX7_stretch_18 : decode cX7_stretch 18 = .ok (.iconst 0, 1) := by decide +kernel
theorem dX7_stretch_19 : decode cX7_stretch 19 = .ok (.ireturn, 1) := by decide +kernel
theorem dX7_stretch_20 : decode cX7_stretch 20 = .ok (.aload_n 0, 1) := by decide +kernel
theorem dX7_stretch_21 : decode cX7_stretch 21 = .ok (.getfield 35, 3) := by decide +kernel
theorem dX7_stretch_24 : decode cX7_stretch 24 = .ok (.iload_n 1, 1) := by decide +kernel
theorem dX7_stretch_25 : decode cX7_stretch 25 = .ok (.aaload, 1) := by decide +kernel
theorem dX7_stretch_26 : decode cX7_stretch 26 = .ok (.iload_n 2, 1) := by decide +kernel
theorem dX7_stretch_27 : decode cX7_stretch 27 = .ok (.invokestatic 204, 3) := by decide +kernel
theorem dX7_stretch_30 : decode cX7_stretch 30 = .ok (.iconst 1, 1) := by decide +kernel
theorem dX7_stretch_31 : decode cX7_stretch 31 = .ok (.ireturn, 1) := by decide +kernel
theorem dX7_encode_0 : decode cX7_encode 0 = .ok (.iload_n 1, 1) := by decide +kernel
theorem dX7_encode_1 : decode cX7_encode 1 = .ok (.invokestatic 172, 3) := by decide +kernel
theorem dX7_encode_4 : decode cX7_encode 4 = .ok (.ifCond .eq 14, 3) := by decide +kernel
theorem dX7_encode_7 : decode cX7_encode 7 = .ok (.iload_n 2, 1) := by decide +kernel
theorem dX7_encode_8 : decode cX7_encode 8 = .ok (.iconst 1, 1) := by decide +kernel
theorem dX7_encode_9 : decode cX7_encode 9 = .ok (.if_icmp .lt 9, 3) := by decide +kernel
theorem dX7_encode_12 : decode cX7_encode 12 = .ok (.iload_n 2, 1) := by decide +kernel
theorem dX7_encode_13 : decode cX7_encode 13 = .ok (.bipush 12, 2) := by decide +kernel
theorem dX7_encode_15 : decode cX7_encode 15 = .ok (.if_icmp .le 5, 3) := by decide +kernel
theorem dX7_encode_18 : decode cX7_encode 18 = .ok (.iconst (-1), 1) := by decide +kernel
theorem dX7_encode_19 : decode cX7_encode 19 = .ok (.ireturn, 1) := by decide +kernel
theorem dX7_encode_20 : decode cX7_encode 20 = .ok (.aload_n 0, 1) := by decide +kernel
theorem dX7_encode_21 : decode cX7_encode 21 = .ok (.getfield 30, 3) := by decide +kernel
theorem dX7_encode_24 : decode cX7_encode 24 = .ok (.invokevirtual 106, 3) := by decide +kernel
theorem dX7_encode_27 : decode cX7_encode 27 = .ok (.aload_n 0, 1) := by decide +kernel
theorem dX7_encode_28 : decode cX7_encode 28 = .ok (.getfield 35, 3) := by decide +kernel
theorem dX7_encode_31 : decode cX7_encode 31 = .ok (.iload_n 1, 1) := by decide +kernel
theorem dX7_encode_32 : decode cX7_encode 32 = .ok (.aaload, 1) := by decide +kernel
theorem dX7_encode_33 : decode cX7_encode 33 = .ok (.iload_n 2, 1) := by decide +kernel
theorem dX7_encode_34 : decode cX7_encode 34 = .ok (.aload_n 0, 1) := by decide +kernel
theorem dX7_encode_35 : decode cX7_encode 35 = .ok (.getfield 30, 3) := by decide +kernel
theorem dX7_encode_38 : decode cX7_encode 38 = .ok (.invokestatic 207, 3) := by decide +kernel
theorem dX7_encode_41 : decode cX7_encode 41 = .ok (.aload_n 0, 1) := by decide +kernel
theorem dX7_encode_42 : decode cX7_encode 42 = .ok (.getfield 30, 3) := by decide +kernel
theorem dX7_encode_45 : decode cX7_encode 45 = .ok (.invokevirtual 80, 3) := by decide +kernel
theorem dX7_encode_48 : decode cX7_encode 48 = .ok (.ireturn, 1) := by decide +kernel
theorem dX7_decode_0 : decode cX7_decode 0 = .ok (.iload_n 1, 1) := by decide +kernel
theorem dX7_decode_1 : decode cX7_decode 1 = .ok (.invokestatic 172, 3) := by decide +kernel
theorem dX7_decode_4 : decode cX7_decode 4 = .ok (.ifCond .eq 14, 3) := by decide +kernel
theorem dX7_decode_7 : decode cX7_decode 7 = .ok (.iload_n 2, 1) := by decide +kernel
theorem dX7_decode_8 : decode cX7_decode 8 = .ok (.iconst 1, 1) := by decide +kernel
theorem dX7_decode_9 : decode cX7_decode 9 = .ok (.if_icmp .lt 9, 3) := by decide +kernel
theorem dX7_decode_12 : decode cX7_decode 12 = .ok (.iload_n 2, 1) := by decide +kernel
theorem dX7_decode_13 : decode cX7_decode 13 = .ok (.bipush 12, 2) := by decide +kernel
theorem dX7_decode_15 : decode cX7_decode 15 = .ok (.if_icmp .le 5, 3) := by decide +kernel
theorem dX7_decode_18 : decode cX7_decode 18 = .ok (.iconst (-1), 1) := by decide +kernel
theorem dX7_decode_19 : decode cX7_decode 19 = .ok (.ireturn, 1) := by decide +kernel
theorem dX7_decode_20 : decode cX7_decode 20 = .ok (.aload_n 0, 1) := by decide +kernel
theorem dX7_decode_21 : decode cX7_decode 21 = .ok (.getfield 14, 3) := by decide +kernel
theorem dX7_decode_24 : decode cX7_decode 24 = .ok (.invokevirtual 80, 3) := by decide +kernel
theorem dX7_decode_27 : decode cX7_decode 27 = .ok (.bipush 32, 2) := by decide +kernel
theorem dX7_decode_29 : decode cX7_decode 29 = .ok (.iload_n 2, 1) := by decide +kernel
theorem dX7_decode_30 : decode cX7_decode 30 = .ok (.imul, 1) := by decide +kernel
theorem dX7_decode_31 : decode cX7_decode 31 = .ok (.if_icmp .ne 7, 3) := by decide +kernel
theorem dX7_decode_34 : decode cX7_decode 34 = .ok (.iconst 1, 1) := by decide +kernel
theorem dX7_decode_35 : decode cX7_decode 35 = .ok (.goto 4, 3) := by decide +kernel
theorem dX7_decode_38 : decode cX7_decode 38 = .ok (.iconst 0, 1) := by decide +kernel
theorem dX7_decode_39 : decode cX7_decode 39 = .ok (.istore_n 3, 1) := by decide +kernel
theorem dX7_decode_40 : decode cX7_decode 40 = .ok (.iload_n 3, 1) := by decide +kernel
theorem dX7_decode_41 : decode cX7_decode 41 = .ok (.ifCond .eq 18, 3) := by decide +kernel
theorem dX7_decode_44 : decode cX7_decode 44 = .ok (.aload_n 0, 1) := by decide +kernel
theorem dX7_decode_45 : decode cX7_decode 45 = .ok (.getfield 35, 3) := by decide +kernel
theorem dX7_decode_48 : decode cX7_decode 48 = .ok (.iload_n 1, 1) := by decide +kernel
theorem dX7_decode_49 : decode cX7_decode 49 = .ok (.aaload, 1) := by decide +kernel
theorem dX7_decode_50 : decode cX7_decode 50 = .ok (.iload_n 2, 1) := by decide +kernel
theorem dX7_decode_51 : decode cX7_decode 51 = .ok (.aload_n 0, 1) := by decide +kernel
theorem dX7_decode_52 : decode cX7_decode 52 = .ok (.getfield 14, 3) := by decide +kernel
theorem dX7_decode_55 : decode cX7_decode 55 = .ok (.iconst 0, 1) := by decide +kernel
theorem dX7_decode_56 : decode cX7_decode 56 = .ok (.invokestatic 211, 3) := by decide +kernel
theorem dX7_decode_59 : decode cX7_decode 59 = .ok (.aload_n 0, 1) := by decide +kernel
theorem dX7_decode_60 : decode cX7_decode 60 = .ok (.getfield 14, 3) := by decide +kernel
theorem dX7_decode_63 : decode cX7_decode 63 = .ok (.invokevirtual 106, 3) := by decide +kernel
theorem dX7_decode_66 : decode cX7_decode 66 = .ok (.iload_n 3, 1) := by decide +kernel
theorem dX7_decode_67 : decode cX7_decode 67 = .ok (.ifCond .eq 9, 3) := by decide +kernel
theorem dX7_decode_70 : decode cX7_decode 70 = .ok (.sipush 256, 3) := by decide +kernel
theorem dX7_decode_73 : decode cX7_decode 73 = .ok (.goto 4, 3) := by decide +kernel
theorem dX7_decode_76 : decode cX7_decode 76 = .ok (.iconst (-1), 1) := by decide +kernel
theorem dX7_decode_77 : decode cX7_decode 77 = .ok (.ireturn, 1) := by decide +kernel
theorem dX7_sample_0 : decode cX7_sample 0 = .ok (.iload_n 1, 1) := by decide +kernel
theorem dX7_sample_1 : decode cX7_sample 1 = .ok (.invokestatic 172, 3) := by decide +kernel
theorem dX7_sample_4 : decode cX7_sample 4 = .ok (.ifCond .ne 5, 3) := by decide +kernel
theorem dX7_sample_7 : decode cX7_sample 7 = .ok (.iconst (-1), 1) := by decide +kernel
theorem dX7_sample_8 : decode cX7_sample 8 = .ok (.ireturn, 1) := by decide +kernel
theorem dX7_sample_9 : decode cX7_sample 9 = .ok (.iconst (-1), 1) := by decide +kernel
theorem dX7_sample_10 : decode cX7_sample 10 = .ok (.istore 4, 2) := by decide +kernel
theorem dX7_sample_12 : decode cX7_sample 12 = .ok (.aload_n 0, 1) := by decide +kernel
theorem dX7_sample_13 : decode cX7_sample 13 = .ok (.getfield 14, 3) := by decide +kernel
theorem dX7_sample_16 : decode cX7_sample 16 = .ok (.invokevirtual 80, 3) := by decide +kernel
theorem dX7_sample_19 : decode cX7_sample 19 = .ok (.bipush 32, 2) := by decide +kernel
theorem dX7_sample_21 : decode cX7_sample 21 = .ok (.if_icmp .ne 27, 3) := by decide +kernel
theorem dX7_sample_24 : decode cX7_sample 24 = .ok (.aload_n 0, 1) := by decide +kernel
theorem dX7_sample_25 : decode cX7_sample 25 = .ok (.getfield 50, 3) := by decide +kernel
theorem dX7_sample_28 : decode cX7_sample 28 = .ok (.aload_n 0, 1) := by decide +kernel
theorem dX7_sample_29 : decode cX7_sample 29 = .ok (.getfield 63, 3) := by decide +kernel
theorem dX7_sample_32 : decode cX7_sample 32 = .ok (.aload_n 0, 1) := by decide +kernel
theorem dX7_sample_33 : decode cX7_sample 33 = .ok (.getfield 14, 3) := by decide +kernel
theorem dX7_sample_36 : decode cX7_sample 36 = .ok (.iconst 0, 1) := by decide +kernel
theorem dX7_sample_37 : decode cX7_sample 37 = .ok (.iload_n 3, 1) := by decide +kernel
theorem dX7_sample_38 : decode cX7_sample 38 = .ok (.iload_n 2, 1) := by decide +kernel
theorem dX7_sample_39 : decode cX7_sample 39 = .ok (.aload_n 0, 1) := by decide +kernel
theorem dX7_sample_40 : decode cX7_sample 40 = .ok (.getfield 76, 3) := by decide +kernel
theorem dX7_sample_43 : decode cX7_sample 43 = .ok (.invokevirtual 215, 3) := by decide +kernel
theorem dX7_sample_46 : decode cX7_sample 46 = .ok (.istore 4, 2) := by decide +kernel
theorem dX7_sample_48 : decode cX7_sample 48 = .ok (.aload_n 0, 1) := by decide +kernel
theorem dX7_sample_49 : decode cX7_sample 49 = .ok (.getfield 14, 3) := by decide +kernel
theorem dX7_sample_52 : decode cX7_sample 52 = .ok (.invokevirtual 106, 3) := by decide +kernel
theorem dX7_sample_55 : decode cX7_sample 55 = .ok (.iload 4, 2) := by decide +kernel
theorem dX7_sample_57 : decode cX7_sample 57 = .ok (.ifCond .le 21, 3) := by decide +kernel
theorem dX7_sample_60 : decode cX7_sample 60 = .ok (.aload_n 0, 1) := by decide +kernel
theorem dX7_sample_61 : decode cX7_sample 61 = .ok (.getfield 63, 3) := by decide +kernel
theorem dX7_sample_64 : decode cX7_sample 64 = .ok (.iconst 0, 1) := by decide +kernel
theorem dX7_sample_65 : decode cX7_sample 65 = .ok (.aload_n 0, 1) := by decide +kernel
theorem dX7_sample_66 : decode cX7_sample 66 = .ok (.getfield 35, 3) := by decide +kernel
theorem dX7_sample_69 : decode cX7_sample 69 = .ok (.iload_n 1, 1) := by decide +kernel
theorem dX7_sample_70 : decode cX7_sample 70 = .ok (.aaload, 1) := by decide +kernel
theorem dX7_sample_71 : decode cX7_sample 71 = .ok (.iconst 0, 1) := by decide +kernel
theorem dX7_sample_72 : decode cX7_sample 72 = .ok (.sipush 256, 3) := by decide +kernel
theorem dX7_sample_75 : decode cX7_sample 75 = .ok (.invokestatic 219, 3) := by decide +kernel
theorem dX7_sample_78 : decode cX7_sample 78 = .ok (.iload 4, 2) := by decide +kernel
theorem dX7_sample_80 : decode cX7_sample 80 = .ok (.ireturn, 1) := by decide +kernel
theorem dX7_noise_0 : decode cX7_noise 0 = .ok (.iload_n 1, 1) := by decide +kernel
theorem dX7_noise_1 : decode cX7_noise 1 = .ok (.invokestatic 172, 3) := by decide +kernel
theorem dX7_noise_4 : decode cX7_noise 4 = .ok (.ifCond .eq 13, 3) := by decide +kernel
theorem dX7_noise_7 : decode cX7_noise 7 = .ok (.iload_n 2, 1) := by decide +kernel
theorem dX7_noise_8 : decode cX7_noise 8 = .ok (.iconst 2, 1) := by decide +kernel
theorem dX7_noise_9 : decode cX7_noise 9 = .ok (.if_icmp .eq 10, 3) := by decide +kernel
theorem dX7_noise_12 : decode cX7_noise 12 = .ok (.iload_n 2, 1) := by decide +kernel
theorem dX7_noise_13 : decode cX7_noise 13 = .ok (.iconst 3, 1) := by decide +kernel
theorem dX7_noise_14 : decode cX7_noise 14 = .ok (.if_icmp .eq 5, 3) := by decide +kernel
theorem dX7_noise_17 : decode cX7_noise 17 = .ok (.iconst (-1), 1) := by decide +kernel
theorem dX7_noise_18 : decode cX7_noise 18 = .ok (.ireturn, 1) := by decide +kernel
theorem dX7_noise_19 : decode cX7_noise 19 = .ok (.aload_n 0, 1) := by decide +kernel
theorem dX7_noise_20 : decode cX7_noise 20 = .ok (.getfield 14, 3) := by decide +kernel
theorem dX7_noise_23 : decode cX7_noise 23 = .ok (.invokevirtual 80, 3) := by decide +kernel
theorem dX7_noise_26 : decode cX7_noise 26 = .ok (.bipush 32, 2) := by decide +kernel
theorem dX7_noise_28 : decode cX7_noise 28 = .ok (.if_icmp .ne 7, 3) := by decide +kernel
theorem dX7_noise_31 : decode cX7_noise 31 = .ok (.iconst 1, 1) := by decide +kernel
theorem dX7_noise_32 : decode cX7_noise 32 = .ok (.goto 4, 3) := by decide +kernel
theorem dX7_noise_35 : decode cX7_noise 35 = .ok (.iconst 0, 1) := by decide +kernel
theorem dX7_noise_36 : decode cX7_noise 36 = .ok (.istore 4, 2) := by decide +kernel
theorem dX7_noise_38 : decode cX7_noise 38 = .ok (.iload 4, 2) := by decide +kernel
theorem dX7_noise_40 : decode cX7_noise 40 = .ok (.ifCond .eq 23, 3) := by decide +kernel
theorem dX7_noise_43 : decode cX7_noise 43 = .ok (.aload_n 0, 1) := by decide +kernel
theorem dX7_noise_44 : decode cX7_noise 44 = .ok (.getfield 50, 3) := by decide +kernel
theorem dX7_noise_47 : decode cX7_noise 47 = .ok (.aload_n 0, 1) := by decide +kernel
theorem dX7_noise_48 : decode cX7_noise 48 = .ok (.getfield 35, 3) := by decide +kernel
theorem dX7_noise_51 : decode cX7_noise 51 = .ok (.iload_n 1, 1) := by decide +kernel
theorem dX7_noise_52 : decode cX7_noise 52 = .ok (.aaload, 1) := by decide +kernel
theorem dX7_noise_53 : decode cX7_noise 53 = .ok (.aload_n 0, 1) := by decide +kernel
theorem dX7_noise_54 : decode cX7_noise 54 = .ok (.getfield 14, 3) := by decide +kernel
theorem dX7_noise_57 : decode cX7_noise 57 = .ok (.iconst 0, 1) := by decide +kernel
theorem dX7_noise_58 : decode cX7_noise 58 = .ok (.iload_n 2, 1) := by decide +kernel
theorem dX7_noise_59 : decode cX7_noise 59 = .ok (.iload_n 3, 1) := by decide +kernel
theorem dX7_noise_60 : decode cX7_noise 60 = .ok (.invokevirtual 225, 3) := by decide +kernel
theorem dX7_noise_63 : decode cX7_noise 63 = .ok (.aload_n 0, 1) := by decide +kernel
theorem dX7_noise_64 : decode cX7_noise 64 = .ok (.getfield 14, 3) := by decide +kernel
theorem dX7_noise_67 : decode cX7_noise 67 = .ok (.invokevirtual 106, 3) := by decide +kernel
theorem dX7_noise_70 : decode cX7_noise 70 = .ok (.iload 4, 2) := by decide +kernel
theorem dX7_noise_72 : decode cX7_noise 72 = .ok (.ifCond .eq 9, 3) := by decide +kernel
theorem dX7_noise_75 : decode cX7_noise 75 = .ok (.sipush 256, 3) := by decide +kernel
theorem dX7_noise_78 : decode cX7_noise 78 = .ok (.goto 4, 3) := by decide +kernel
theorem dX7_noise_81 : decode cX7_noise 81 = .ok (.iconst (-1), 1) := by decide +kernel
theorem dX7_noise_82 : decode cX7_noise 82 = .ok (.ireturn, 1) := by decide +kernel
theorem dX7_isPolynomial_0 : decode cX7_isPolynomial 0 = .ok (.iload_n 0, 1) := by decide +kernel
theorem dX7_isPolynomial_1 : decode cX7_isPolynomial 1 = .ok (.ifCond .lt 12, 3) := by decide +kernel
theorem dX7_isPolynomial_4 : decode cX7_isPolynomial 4 = .ok (.iload_n 0, 1) := by decide +kernel
theorem dX7_isPolynomial_5 : decode cX7_isPolynomial 5 = .ok (.iconst 4, 1) := by decide +kernel
theorem dX7_isPolynomial_6 : decode cX7_isPolynomial 6 = .ok (.if_icmp .ge 7, 3) := by decide +kernel
theorem dX7_isPolynomial_9 : decode cX7_isPolynomial 9 = .ok (.iconst 1, 1) := by decide +kernel
theorem dX7_isPolynomial_10 : decode cX7_isPolynomial 10 = .ok (.goto 4, 3) := by decide +kernel
theorem dX7_isPolynomial_13 : decode cX7_isPolynomial 13 = .ok (.iconst 0, 1) := by decide +kernel
theorem dX7_isPolynomial_14 : decode cX7_isPolynomial 14 = .ok (.ireturn, 1) := by decide +kernel
theorem dX7_rowOf_0 : decode cX7_rowOf 0 = .ok (.iload_n 1, 1) := by decide +kernel
theorem dX7_rowOf_1 : decode cX7_rowOf 1 = .ok (.tableswitch 69 0 5 #[39, 44, 49, 54, 59, 64], 39) := by decide +kernel
theorem dX7_rowOf_40 : decode cX7_rowOf 40 = .ok (.aload_n 0, 1) := by decide +kernel
theorem dX7_rowOf_41 : decode cX7_rowOf 41 = .ok (.getfield 18, 3) := by decide +kernel
theorem dX7_rowOf_44 : decode cX7_rowOf 44 = .ok (.areturn, 1) := by decide +kernel
theorem dX7_rowOf_45 : decode cX7_rowOf 45 = .ok (.aload_n 0, 1) := by decide +kernel
theorem dX7_rowOf_46 : decode cX7_rowOf 46 = .ok (.getfield 21, 3) := by decide +kernel
theorem dX7_rowOf_49 : decode cX7_rowOf 49 = .ok (.areturn, 1) := by decide +kernel
theorem dX7_rowOf_50 : decode cX7_rowOf 50 = .ok (.aload_n 0, 1) := by decide +kernel
theorem dX7_rowOf_51 : decode cX7_rowOf 51 = .ok (.getfield 24, 3) := by decide +kernel
theorem dX7_rowOf_54 : decode cX7_rowOf 54 = .ok (.areturn, 1) := by decide +kernel
theorem dX7_rowOf_55 : decode cX7_rowOf 55 = .ok (.aload_n 0, 1) := by decide +kernel
theorem dX7_rowOf_56 : decode cX7_rowOf 56 = .ok (.getfield 27, 3) := by decide +kernel
theorem dX7_rowOf_59 : decode cX7_rowOf 59 = .ok (.areturn, 1) := by decide +kernel
theorem dX7_rowOf_60 : decode cX7_rowOf 60 = .ok (.aload_n 0, 1) := by decide +kernel
theorem dX7_rowOf_61 : decode cX7_rowOf 61 = .ok (.getfield 30, 3) := by decide +kernel
theorem dX7_rowOf_64 : decode cX7_rowOf 64 = .ok (.areturn, 1) := by decide +kernel
theorem dX7_rowOf_65 : decode cX7_rowOf 65 = .ok (.aload_n 0, 1) := by decide +kernel
theorem dX7_rowOf_66 : decode cX7_rowOf 66 = .ok (.getfield 14, 3) := by decide +kernel
theorem dX7_rowOf_69 : decode cX7_rowOf 69 = .ok (.areturn, 1) := by decide +kernel
theorem dX7_rowOf_70 : decode cX7_rowOf 70 = .ok (.aconst_null, 1) := by decide +kernel
theorem dX7_rowOf_71 : decode cX7_rowOf 71 = .ok (.areturn, 1) := by decide +kernel
theorem dX7_checkTapeAs_0 : decode cX7_checkTapeAs 0 = .ok (.iload_n 1, 1) := by decide +kernel
theorem dX7_checkTapeAs_1 : decode cX7_checkTapeAs 1 = .ok (.ifCond .ne 52, 3) := by decide +kernel
theorem dX7_checkTapeAs_4 : decode cX7_checkTapeAs 4 = .ok (.aload_n 0, 1) := by decide +kernel
theorem dX7_checkTapeAs_5 : decode cX7_checkTapeAs 5 = .ok (.getfield 14, 3) := by decide +kernel
theorem dX7_checkTapeAs_8 : decode cX7_checkTapeAs 8 = .ok (.invokevirtual 80, 3) := by decide +kernel
theorem dX7_checkTapeAs_11 : decode cX7_checkTapeAs 11 = .ok (.aload_n 0, 1) := by decide +kernel
theorem dX7_checkTapeAs_12 : decode cX7_checkTapeAs 12 = .ok (.getfield 73, 3) := by decide +kernel
theorem dX7_checkTapeAs_15 : decode cX7_checkTapeAs 15 = .ok (.invokevirtual 109, 3) := by decide +kernel
theorem dX7_checkTapeAs_18 : decode cX7_checkTapeAs 18 = .ok (.if_icmp .eq 5, 3) := by decide +kernel
theorem dX7_checkTapeAs_21 : decode cX7_checkTapeAs 21 = .ok (.iconst (-1), 1) := by decide +kernel
theorem dX7_checkTapeAs_22 : decode cX7_checkTapeAs 22 = .ok (.ireturn, 1) := by decide +kernel
theorem dX7_checkTapeAs_23 : decode cX7_checkTapeAs 23 = .ok (.aload_n 0, 1) := by decide +kernel
theorem dX7_checkTapeAs_24 : decode cX7_checkTapeAs 24 = .ok (.getfield 14, 3) := by decide +kernel
theorem dX7_checkTapeAs_27 : decode cX7_checkTapeAs 27 = .ok (.aload_n 0, 1) := by decide +kernel
theorem dX7_checkTapeAs_28 : decode cX7_checkTapeAs 28 = .ok (.getfield 73, 3) := by decide +kernel
theorem dX7_checkTapeAs_31 : decode cX7_checkTapeAs 31 = .ok (.invokevirtual 123, 3) := by decide +kernel
theorem dX7_checkTapeAs_34 : decode cX7_checkTapeAs 34 = .ok (.invokestatic 229, 3) := by decide +kernel
theorem dX7_checkTapeAs_37 : decode cX7_checkTapeAs 37 = .ok (.ifCond .eq 13, 3) := by decide +kernel
theorem dX7_checkTapeAs_40 : decode cX7_checkTapeAs 40 = .ok (.aload_n 0, 1) := by decide +kernel
theorem dX7_checkTapeAs_41 : decode cX7_checkTapeAs 41 = .ok (.getfield 14, 3) := by decide +kernel
theorem dX7_checkTapeAs_44 : decode cX7_checkTapeAs 44 = .ok (.invokevirtual 80, 3) := by decide +kernel
theorem dX7_checkTapeAs_47 : decode cX7_checkTapeAs 47 = .ok (.goto 5, 3) := by decide +kernel
theorem dX7_checkTapeAs_50 : decode cX7_checkTapeAs 50 = .ok (.bipush (-2), 2) := by decide +kernel
theorem dX7_checkTapeAs_52 : decode cX7_checkTapeAs 52 = .ok (.ireturn, 1) := by decide +kernel
theorem dX7_checkTapeAs_53 : decode cX7_checkTapeAs 53 = .ok (.iload_n 1, 1) := by decide +kernel
theorem dX7_checkTapeAs_54 : decode cX7_checkTapeAs 54 = .ok (.iconst 1, 1) := by decide +kernel
theorem dX7_checkTapeAs_55 : decode cX7_checkTapeAs 55 = .ok (.if_icmp .ne 53, 3) := by decide +kernel
theorem dX7_checkTapeAs_58 : decode cX7_checkTapeAs 58 = .ok (.aload_n 0, 1) := by decide +kernel
theorem dX7_checkTapeAs_59 : decode cX7_checkTapeAs 59 = .ok (.getfield 14, 3) := by decide +kernel
theorem dX7_checkTapeAs_62 : decode cX7_checkTapeAs 62 = .ok (.invokevirtual 80, 3) := by decide +kernel
theorem dX7_checkTapeAs_65 : decode cX7_checkTapeAs 65 = .ok (.aload_n 0, 1) := by decide +kernel
theorem dX7_checkTapeAs_66 : decode cX7_checkTapeAs 66 = .ok (.getfield 73, 3) := by decide +kernel
theorem dX7_checkTapeAs_69 : decode cX7_checkTapeAs 69 = .ok (.invokevirtual 233, 3) := by decide +kernel
theorem dX7_checkTapeAs_72 : decode cX7_checkTapeAs 72 = .ok (.if_icmp .eq 5, 3) := by decide +kernel
theorem dX7_checkTapeAs_75 : decode cX7_checkTapeAs 75 = .ok (.iconst (-1), 1) := by decide +kernel
theorem dX7_checkTapeAs_76 : decode cX7_checkTapeAs 76 = .ok (.ireturn, 1) := by decide +kernel
theorem dX7_checkTapeAs_77 : decode cX7_checkTapeAs 77 = .ok (.aload_n 0, 1) := by decide +kernel
theorem dX7_checkTapeAs_78 : decode cX7_checkTapeAs 78 = .ok (.getfield 59, 3) := by decide +kernel
theorem dX7_checkTapeAs_81 : decode cX7_checkTapeAs 81 = .ok (.aload_n 0, 1) := by decide +kernel
theorem dX7_checkTapeAs_82 : decode cX7_checkTapeAs 82 = .ok (.getfield 73, 3) := by decide +kernel
theorem dX7_checkTapeAs_85 : decode cX7_checkTapeAs 85 = .ok (.aload_n 0, 1) := by decide +kernel
theorem dX7_checkTapeAs_86 : decode cX7_checkTapeAs 86 = .ok (.getfield 14, 3) := by decide +kernel
theorem dX7_checkTapeAs_89 : decode cX7_checkTapeAs 89 = .ok (.invokevirtual 236, 3) := by decide +kernel
theorem dX7_checkTapeAs_92 : decode cX7_checkTapeAs 92 = .ok (.ifCond .eq 13, 3) := by decide +kernel
theorem dX7_checkTapeAs_95 : decode cX7_checkTapeAs 95 = .ok (.aload_n 0, 1) := by decide +kernel
theorem dX7_checkTapeAs_96 : decode cX7_checkTapeAs 96 = .ok (.getfield 14, 3) := by decide +kernel
theorem dX7_checkTapeAs_99 : decode cX7_checkTapeAs 99 = .ok (.invokevirtual 80, 3) := by decide +kernel
theorem dX7_checkTapeAs_102 : decode cX7_checkTapeAs 102 = .ok (.goto 5, 3) := by decide +kernel
theorem dX7_checkTapeAs_105 : decode cX7_checkTapeAs 105 = .ok (.bipush (-3), 2) := by decide +kernel
theorem dX7_checkTapeAs_107 : decode cX7_checkTapeAs 107 = .ok (.ireturn, 1) := by decide +kernel
theorem dX7_checkTapeAs_108 : decode cX7_checkTapeAs 108 = .ok (.aload_n 0, 1) := by decide +kernel
theorem dX7_checkTapeAs_109 : decode cX7_checkTapeAs 109 = .ok (.getfield 14, 3) := by decide +kernel
theorem dX7_checkTapeAs_112 : decode cX7_checkTapeAs 112 = .ok (.invokevirtual 80, 3) := by decide +kernel
theorem dX7_checkTapeAs_115 : decode cX7_checkTapeAs 115 = .ok (.aload_n 0, 1) := by decide +kernel
theorem dX7_checkTapeAs_116 : decode cX7_checkTapeAs 116 = .ok (.getfield 73, 3) := by decide +kernel
theorem dX7_checkTapeAs_119 : decode cX7_checkTapeAs 119 = .ok (.invokevirtual 240, 3) := by decide +kernel
theorem dX7_checkTapeAs_122 : decode cX7_checkTapeAs 122 = .ok (.if_icmp .ne 13, 3) := by decide +kernel
theorem dX7_checkTapeAs_125 : decode cX7_checkTapeAs 125 = .ok (.aload_n 0, 1) := by decide +kernel
theorem dX7_checkTapeAs_126 : decode cX7_checkTapeAs 126 = .ok (.getfield 14, 3) := by decide +kernel
theorem dX7_checkTapeAs_129 : decode cX7_checkTapeAs 129 = .ok (.invokevirtual 80, 3) := by decide +kernel
theorem dX7_checkTapeAs_132 : decode cX7_checkTapeAs 132 = .ok (.goto 4, 3) := by decide +kernel
theorem dX7_checkTapeAs_135 : decode cX7_checkTapeAs 135 = .ok (.iconst (-1), 1) := by decide +kernel
theorem dX7_checkTapeAs_136 : decode cX7_checkTapeAs 136 = .ok (.ireturn, 1) := by decide +kernel
theorem dX7_hashLength_0 : decode cX7_hashLength 0 = .ok (.iload_n 0, 1) := by decide +kernel
theorem dX7_hashLength_1 : decode cX7_hashLength 1 = .ok (.tableswitch 54 0 3 #[31, 34, 37, 37], 31) := by decide +kernel
theorem dX7_hashLength_32 : decode cX7_hashLength 32 = .ok (.bipush 32, 2) := by decide +kernel
theorem dX7_hashLength_34 : decode cX7_hashLength 34 = .ok (.ireturn, 1) := by decide +kernel
theorem dX7_hashLength_35 : decode cX7_hashLength 35 = .ok (.bipush 64, 2) := by decide +kernel
theorem dX7_hashLength_37 : decode cX7_hashLength 37 = .ok (.ireturn, 1) := by decide +kernel
theorem dX7_hashLength_38 : decode cX7_hashLength 38 = .ok (.iload_n 1, 1) := by decide +kernel
theorem dX7_hashLength_39 : decode cX7_hashLength 39 = .ok (.ifCond .lt 14, 3) := by decide +kernel
theorem dX7_hashLength_42 : decode cX7_hashLength 42 = .ok (.iload_n 1, 1) := by decide +kernel
theorem dX7_hashLength_43 : decode cX7_hashLength 43 = .ok (.sipush 1000, 3) := by decide +kernel
theorem dX7_hashLength_46 : decode cX7_hashLength 46 = .ok (.if_icmp .gt 7, 3) := by decide +kernel
theorem dX7_hashLength_49 : decode cX7_hashLength 49 = .ok (.iload_n 1, 1) := by decide +kernel
theorem dX7_hashLength_50 : decode cX7_hashLength 50 = .ok (.goto 4, 3) := by decide +kernel
theorem dX7_hashLength_53 : decode cX7_hashLength 53 = .ok (.iconst (-1), 1) := by decide +kernel
theorem dX7_hashLength_54 : decode cX7_hashLength 54 = .ok (.ireturn, 1) := by decide +kernel
theorem dX7_hashLength_55 : decode cX7_hashLength 55 = .ok (.iconst (-1), 1) := by decide +kernel
theorem dX7_hashLength_56 : decode cX7_hashLength 56 = .ok (.ireturn, 1) := by decide +kernel
