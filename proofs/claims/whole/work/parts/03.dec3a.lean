theorem dX8_init_0 : decode cX8_init 0 = .ok (.aload_n 0, 1) := by decide +kernel
theorem dX8_init_1 : decode cX8_init 1 = .ok (.invokespecial 1, 3) := by decide +kernel
theorem dX8_init_4 : decode cX8_init 4 = .ok (.aload_n 0, 1) := by decide +kernel
theorem dX8_init_5 : decode cX8_init 5 = .ok (.sipush 20000, 3) := by decide +kernel
theorem dX8_init_8 : decode cX8_init 8 = .ok (.newarray .byte, 2) := by decide +kernel
theorem dX8_init_10 : decode cX8_init 10 = .ok (.putfield 7, 3) := by decide +kernel
theorem dX8_init_13 : decode cX8_init 13 = .ok (.aload_n 0, 1) := by decide +kernel
theorem dX8_init_14 : decode cX8_init 14 = .ok (.iconst 3, 1) := by decide +kernel
theorem dX8_init_15 : decode cX8_init 15 = .ok (.putfield 13, 3) := by decide +kernel
theorem dX8_init_18 : decode cX8_init 18 = .ok (.aload_n 0, 1) := by decide +kernel
theorem dX8_init_19 : decode cX8_init 19 = .ok (.sipush 280, 3) := by decide +kernel
theorem dX8_init_22 : decode cX8_init 22 = .ok (.putfield 17, 3) := by decide +kernel
theorem dX8_init_25 : decode cX8_init 25 = .ok (.aload_n 0, 1) := by decide +kernel
theorem dX8_init_26 : decode cX8_init 26 = .ok (.sipush 1600, 3) := by decide +kernel
theorem dX8_init_29 : decode cX8_init 29 = .ok (.newarray .byte, 2) := by decide +kernel
theorem dX8_init_31 : decode cX8_init 31 = .ok (.putfield 20, 3) := by decide +kernel
theorem dX8_init_34 : decode cX8_init 34 = .ok (.aload_n 0, 1) := by decide +kernel
theorem dX8_init_35 : decode cX8_init 35 = .ok (.sipush 1600, 3) := by decide +kernel
theorem dX8_init_38 : decode cX8_init 38 = .ok (.newarray .byte, 2) := by decide +kernel
theorem dX8_init_40 : decode cX8_init 40 = .ok (.putfield 23, 3) := by decide +kernel
theorem dX8_init_43 : decode cX8_init 43 = .ok (.aload_n 0, 1) := by decide +kernel
theorem dX8_init_44 : decode cX8_init 44 = .ok (.sipush 320, 3) := by decide +kernel
theorem dX8_init_47 : decode cX8_init 47 = .ok (.newarray .byte, 2) := by decide +kernel
theorem dX8_init_49 : decode cX8_init 49 = .ok (.putfield 26, 3) := by decide +kernel
theorem dX8_init_52 : decode cX8_init 52 = .ok (.aload_n 0, 1) := by decide +kernel
theorem dX8_init_53 : decode cX8_init 53 = .ok (.sipush 1600, 3) := by decide +kernel
theorem dX8_init_56 : decode cX8_init 56 = .ok (.newarray .int, 2) := by decide +kernel
theorem dX8_init_58 : decode cX8_init 58 = .ok (.putfield 29, 3) := by decide +kernel
theorem dX8_init_61 : decode cX8_init 61 = .ok (.aload_n 0, 1) := by decide +kernel
theorem dX8_init_62 : decode cX8_init 62 = .ok (.sipush 168, 3) := by decide +kernel
theorem dX8_init_65 : decode cX8_init 65 = .ok (.newarray .byte, 2) := by decide +kernel
theorem dX8_init_67 : decode cX8_init 67 = .ok (.putfield 33, 3) := by decide +kernel
theorem dX8_init_70 : decode cX8_init 70 = .ok (.aload_n 0, 1) := by decide +kernel
theorem dX8_init_71 : decode cX8_init 71 = .ok (.sipush 5120, 3) := by decide +kernel
theorem dX8_init_74 : decode cX8_init 74 = .ok (.newarray .int, 2) := by decide +kernel
theorem dX8_init_76 : decode cX8_init 76 = .ok (.putfield 36, 3) := by decide +kernel
theorem dX8_init_79 : decode cX8_init 79 = .ok (.aload_n 0, 1) := by decide +kernel
theorem dX8_init_80 : decode cX8_init 80 = .ok (.sipush 256, 3) := by decide +kernel
theorem dX8_init_83 : decode cX8_init 83 = .ok (.newarray .int, 2) := by decide +kernel
theorem dX8_init_85 : decode cX8_init 85 = .ok (.putfield 39, 3) := by decide +kernel
theorem dX8_init_88 : decode cX8_init 88 = .ok (.aload_n 0, 1) := by decide +kernel
theorem dX8_init_89 : decode cX8_init 89 = .ok (.sipush 128, 3) := by decide +kernel
theorem dX8_init_92 : decode cX8_init 92 = .ok (.newarray .int, 2) := by decide +kernel
theorem dX8_init_94 : decode cX8_init 94 = .ok (.putfield 42, 3) := by decide +kernel
theorem dX8_init_97 : decode cX8_init 97 = .ok (.aload_n 0, 1) := by decide +kernel
theorem dX8_init_98 : decode cX8_init 98 = .ok (.invokevirtual 45, 3) := by decide +kernel
theorem dX8_init_101 : decode cX8_init 101 = .ok (.aload_n 0, 1) := by decide +kernel
theorem dX8_init_102 : decode cX8_init 102 = .ok (.invokevirtual 48, 3) := by decide +kernel
theorem dX8_init_105 : decode cX8_init 105 = .ok (.aload_n 0, 1) := by decide +kernel
theorem dX8_init_106 : decode cX8_init 106 = .ok (.invokevirtual 51, 3) := by decide +kernel
theorem dX8_init_109 : decode cX8_init 109 = .ok (.return_, 1) := by decide +kernel
theorem dX8_copy_0 : decode cX8_copy 0 = .ok (.iconst 0, 1) := by decide +kernel
theorem dX8_copy_1 : decode cX8_copy 1 = .ok (.istore 4, 2) := by decide +kernel
theorem dX8_copy_3 : decode cX8_copy 3 = .ok (.iload 4, 2) := by decide +kernel
theorem dX8_copy_5 : decode cX8_copy 5 = .ok (.iload_n 3, 1) := by decide +kernel
theorem dX8_copy_6 : decode cX8_copy 6 = .ok (.if_icmp .ge 27, 3) := by decide +kernel
theorem dX8_copy_9 : decode cX8_copy 9 = .ok (.aload_n 0, 1) := by decide +kernel
theorem dX8_copy_10 : decode cX8_copy 10 = .ok (.getfield 7, 3) := by decide +kernel
theorem dX8_copy_13 : decode cX8_copy 13 = .ok (.iload_n 2, 1) := by decide +kernel
theorem dX8_copy_14 : decode cX8_copy 14 = .ok (.iload 4, 2) := by decide +kernel
theorem dX8_copy_16 : decode cX8_copy 16 = .ok (.iadd, 1) := by decide +kernel
theorem dX8_copy_17 : decode cX8_copy 17 = .ok (.aload_n 0, 1) := by decide +kernel
theorem dX8_copy_18 : decode cX8_copy 18 = .ok (.getfield 7, 3) := by decide +kernel
theorem dX8_copy_21 : decode cX8_copy 21 = .ok (.iload_n 1, 1) := by decide +kernel
theorem dX8_copy_22 : decode cX8_copy 22 = .ok (.iload 4, 2) := by decide +kernel
theorem dX8_copy_24 : decode cX8_copy 24 = .ok (.iadd, 1) := by decide +kernel
theorem dX8_copy_25 : decode cX8_copy 25 = .ok (.baload, 1) := by decide +kernel
theorem dX8_copy_26 : decode cX8_copy 26 = .ok (.bastore, 1) := by decide +kernel
theorem dX8_copy_27 : decode cX8_copy 27 = .ok (.iinc 4 1, 3) := by decide +kernel
theorem dX8_copy_30 : decode cX8_copy 30 = .ok (.goto (-27), 3) := by decide +kernel
theorem dX8_copy_33 : decode cX8_copy 33 = .ok (.return_, 1) := by decide +kernel
theorem dX8_byteAt_0 : decode cX8_byteAt 0 = .ok (.aload_n 0, 1) := by decide +kernel
theorem dX8_byteAt_1 : decode cX8_byteAt 1 = .ok (.getfield 7, 3) := by decide +kernel
theorem dX8_byteAt_4 : decode cX8_byteAt 4 = .ok (.iload_n 1, 1) := by decide +kernel
theorem dX8_byteAt_5 : decode cX8_byteAt 5 = .ok (.baload, 1) := by decide +kernel
theorem dX8_byteAt_6 : decode cX8_byteAt 6 = .ok (.sipush 255, 3) := by decide +kernel
theorem dX8_byteAt_9 : decode cX8_byteAt 9 = .ok (.iand, 1) := by decide +kernel
theorem dX8_byteAt_10 : decode cX8_byteAt 10 = .ok (.ireturn, 1) := by decide +kernel
theorem dX8_bit_0 : decode cX8_bit 0 = .ok (.bipush 64, 2) := by decide +kernel
theorem dX8_bit_2 : decode cX8_bit 2 = .ok (.iconst 5, 1) := by decide +kernel
theorem dX8_bit_3 : decode cX8_bit 3 = .ok (.iload_n 1, 1) := by decide +kernel
theorem dX8_bit_4 : decode cX8_bit 4 = .ok (.imul, 1) := by decide +kernel
theorem dX8_bit_5 : decode cX8_bit 5 = .ok (.iload_n 0, 1) := by decide +kernel
theorem dX8_bit_6 : decode cX8_bit 6 = .ok (.iadd, 1) := by decide +kernel
theorem dX8_bit_7 : decode cX8_bit 7 = .ok (.imul, 1) := by decide +kernel
theorem dX8_bit_8 : decode cX8_bit 8 = .ok (.iload_n 2, 1) := by decide +kernel
theorem dX8_bit_9 : decode cX8_bit 9 = .ok (.iadd, 1) := by decide +kernel
theorem dX8_bit_10 : decode cX8_bit 10 = .ok (.ireturn, 1) := by decide +kernel
theorem dX8_turns_0 : decode cX8_turns 0 = .ok (.iconst 1, 1) := by decide +kernel
theorem dX8_turns_1 : decode cX8_turns 1 = .ok (.istore_n 1, 1) := by decide +kernel
theorem dX8_turns_2 : decode cX8_turns 2 = .ok (.iconst 0, 1) := by decide +kernel
theorem dX8_turns_3 : decode cX8_turns 3 = .ok (.istore_n 2, 1) := by decide +kernel
theorem dX8_turns_4 : decode cX8_turns 4 = .ok (.iconst 0, 1) := by decide +kernel
theorem dX8_turns_5 : decode cX8_turns 5 = .ok (.istore_n 3, 1) := by decide +kernel
theorem dX8_turns_6 : decode cX8_turns 6 = .ok (.iload_n 3, 1) := by decide +kernel
theorem dX8_turns_7 : decode cX8_turns 7 = .ok (.bipush 64, 2) := by decide +kernel
theorem dX8_turns_9 : decode cX8_turns 9 = .ok (.if_icmp .ge 26, 3) := by decide +kernel
theorem dX8_turns_12 : decode cX8_turns 12 = .ok (.aload_n 0, 1) := by decide +kernel
theorem dX8_turns_13 : decode cX8_turns 13 = .ok (.getfield 29, 3) := by decide +kernel
theorem dX8_turns_16 : decode cX8_turns 16 = .ok (.iconst 0, 1) := by decide +kernel
theorem dX8_turns_17 : decode cX8_turns 17 = .ok (.iconst 0, 1) := by decide +kernel
theorem dX8_turns_18 : decode cX8_turns 18 = .ok (.iload_n 3, 1) := by decide +kernel
theorem dX8_turns_19 : decode cX8_turns 19 = .ok (.invokestatic 54, 3) := by decide +kernel
theorem dX8_turns_22 : decode cX8_turns 22 = .ok (.iconst 0, 1) := by decide +kernel
theorem dX8_turns_23 : decode cX8_turns 23 = .ok (.iconst 0, 1) := by decide +kernel
theorem dX8_turns_24 : decode cX8_turns 24 = .ok (.iload_n 3, 1) := by decide +kernel
theorem dX8_turns_25 : decode cX8_turns 25 = .ok (.invokestatic 54, 3) := by decide +kernel
theorem dX8_turns_28 : decode cX8_turns 28 = .ok (.iastore, 1) := by decide +kernel
theorem dX8_turns_29 : decode cX8_turns 29 = .ok (.iinc 3 1, 3) := by decide +kernel
theorem dX8_turns_32 : decode cX8_turns 32 = .ok (.goto (-26), 3) := by decide +kernel
theorem dX8_turns_35 : decode cX8_turns 35 = .ok (.iconst 0, 1) := by decide +kernel
theorem dX8_turns_36 : decode cX8_turns 36 = .ok (.istore_n 3, 1) := by decide +kernel
theorem dX8_turns_37 : decode cX8_turns 37 = .ok (.iload_n 3, 1) := by decide +kernel
theorem dX8_turns_38 : decode cX8_turns 38 = .ok (.bipush 24, 2) := by decide +kernel
theorem dX8_turns_40 : decode cX8_turns 40 = .ok (.if_icmp .ge 91, 3) := by decide +kernel
theorem dX8_turns_43 : decode cX8_turns 43 = .ok (.iload_n 3, 1) := by decide +kernel
theorem dX8_turns_44 : decode cX8_turns 44 = .ok (.iconst 1, 1) := by decide +kernel
theorem dX8_turns_45 : decode cX8_turns 45 = .ok (.iadd, 1) := by decide +kernel
theorem dX8_turns_46 : decode cX8_turns 46 = .ok (.iload_n 3, 1) := by decide +kernel
theorem dX8_turns_47 : decode cX8_turns 47 = .ok (.iconst 2, 1) := by decide +kernel
theorem dX8_turns_48 : decode cX8_turns 48 = .ok (.iadd, 1) := by decide +kernel
theorem dX8_turns_49 : decode cX8_turns 49 = .ok (.imul, 1) := by decide +kernel
theorem dX8_turns_50 : decode cX8_turns 50 = .ok (.iconst 2, 1) := by decide +kernel
theorem dX8_turns_51 : decode cX8_turns 51 = .ok (.idiv, 1) := by decide +kernel
theorem dX8_turns_52 : decode cX8_turns 52 = .ok (.bipush 64, 2) := by decide +kernel
theorem dX8_turns_54 : decode cX8_turns 54 = .ok (.irem, 1) := by decide +kernel
theorem dX8_turns_55 : decode cX8_turns 55 = .ok (.istore 4, 2) := by decide +kernel
theorem dX8_turns_57 : decode cX8_turns 57 = .ok (.iconst 0, 1) := by decide +kernel
theorem dX8_turns_58 : decode cX8_turns 58 = .ok (.istore 5, 2) := by decide +kernel
theorem dX8_turns_60 : decode cX8_turns 60 = .ok (.iload 5, 2) := by decide +kernel
theorem dX8_turns_62 : decode cX8_turns 62 = .ok (.bipush 64, 2) := by decide +kernel
theorem dX8_turns_64 : decode cX8_turns 64 = .ok (.if_icmp .ge 45, 3) := by decide +kernel
theorem dX8_turns_67 : decode cX8_turns 67 = .ok (.aload_n 0, 1) := by decide +kernel
theorem dX8_turns_68 : decode cX8_turns 68 = .ok (.getfield 29, 3) := by decide +kernel
theorem dX8_turns_71 : decode cX8_turns 71 = .ok (.iload_n 2, 1) := by decide +kernel
theorem dX8_turns_72 : decode cX8_turns 72 = .ok (.iconst 2, 1) := by decide +kernel
theorem dX8_turns_73 : decode cX8_turns 73 = .ok (.iload_n 1, 1) := by decide +kernel
theorem dX8_turns_74 : decode cX8_turns 74 = .ok (.imul, 1) := by decide +kernel
theorem dX8_turns_75 : decode cX8_turns 75 = .ok (.iconst 3, 1) := by decide +kernel
theorem dX8_turns_76 : decode cX8_turns 76 = .ok (.iload_n 2, 1) := by decide +kernel
theorem dX8_turns_77 : decode cX8_turns 77 = .ok (.imul, 1) := by decide +kernel
theorem dX8_turns_78 : decode cX8_turns 78 = .ok (.iadd, 1) := by decide +kernel
theorem dX8_turns_79 : decode cX8_turns 79 = .ok (.iconst 5, 1) := by decide +kernel
theorem dX8_turns_80 : decode cX8_turns 80 = .ok (.irem, 1) := by decide +kernel
theorem dX8_turns_81 : decode cX8_turns 81 = .ok (.iload 5, 2) := by decide +kernel
theorem dX8_turns_83 : decode cX8_turns 83 = .ok (.invokestatic 54, 3) := by decide +kernel
theorem dX8_turns_86 : decode cX8_turns 86 = .ok (.iload_n 1, 1) := by decide +kernel
theorem dX8_turns_87 : decode cX8_turns 87 = .ok (.iload_n 2, 1) := by decide +kernel
theorem dX8_turns_88 : decode cX8_turns 88 = .ok (.iload 5, 2) := by decide +kernel
theorem dX8_turns_90 : decode cX8_turns 90 = .ok (.bipush 64, 2) := by decide +kernel
theorem dX8_turns_92 : decode cX8_turns 92 = .ok (.iadd, 1) := by decide +kernel
theorem dX8_turns_93 : decode cX8_turns 93 = .ok (.iload 4, 2) := by decide +kernel
theorem dX8_turns_95 : decode cX8_turns 95 = .ok (.isub, 1) := by decide +kernel
theorem dX8_turns_96 : decode cX8_turns 96 = .ok (.bipush 64, 2) := by decide +kernel
theorem dX8_turns_98 : decode cX8_turns 98 = .ok (.irem, 1) := by decide +kernel
theorem dX8_turns_99 : decode cX8_turns 99 = .ok (.invokestatic 54, 3) := by decide +kernel
theorem dX8_turns_102 : decode cX8_turns 102 = .ok (.iastore, 1) := by decide +kernel
theorem dX8_turns_103 : decode cX8_turns 103 = .ok (.iinc 5 1, 3) := by decide +kernel
theorem dX8_turns_106 : decode cX8_turns 106 = .ok (.goto (-46), 3) := by decide +kernel
theorem dX8_turns_109 : decode cX8_turns 109 = .ok (.iconst 2, 1) := by decide +kernel
theorem dX8_turns_110 : decode cX8_turns 110 = .ok (.iload_n 1, 1) := by decide +kernel
theorem dX8_turns_111 : decode cX8_turns 111 = .ok (.imul, 1) := by decide +kernel
theorem dX8_turns_112 : decode cX8_turns 112 = .ok (.iconst 3, 1) := by decide +kernel
theorem dX8_turns_113 : decode cX8_turns 113 = .ok (.iload_n 2, 1) := by decide +kernel
theorem dX8_turns_114 : decode cX8_turns 114 = .ok (.imul, 1) := by decide +kernel
theorem dX8_turns_115 : decode cX8_turns 115 = .ok (.iadd, 1) := by decide +kernel
theorem dX8_turns_116 : decode cX8_turns 116 = .ok (.iconst 5, 1) := by decide +kernel
theorem dX8_turns_117 : decode cX8_turns 117 = .ok (.irem, 1) := by decide +kernel
theorem dX8_turns_118 : decode cX8_turns 118 = .ok (.istore 5, 2) := by decide +kernel
theorem dX8_turns_120 : decode cX8_turns 120 = .ok (.iload_n 2, 1) := by decide +kernel
theorem dX8_turns_121 : decode cX8_turns 121 = .ok (.istore_n 1, 1) := by decide +kernel
theorem dX8_turns_122 : decode cX8_turns 122 = .ok (.iload 5, 2) := by decide +kernel
theorem dX8_turns_124 : decode cX8_turns 124 = .ok (.istore_n 2, 1) := by decide +kernel
theorem dX8_turns_125 : decode cX8_turns 125 = .ok (.iinc 3 1, 3) := by decide +kernel
theorem dX8_turns_128 : decode cX8_turns 128 = .ok (.goto (-91), 3) := by decide +kernel
theorem dX8_turns_131 : decode cX8_turns 131 = .ok (.return_, 1) := by decide +kernel
theorem dX8_constants_0 : decode cX8_constants 0 = .ok (.iconst 1, 1) := by decide +kernel
theorem dX8_constants_1 : decode cX8_constants 1 = .ok (.istore_n 1, 1) := by decide +kernel
theorem dX8_constants_2 : decode cX8_constants 2 = .ok (.iconst 0, 1) := by decide +kernel
theorem dX8_constants_3 : decode cX8_constants 3 = .ok (.istore_n 2, 1) := by decide +kernel
theorem dX8_constants_4 : decode cX8_constants 4 = .ok (.iload_n 2, 1) := by decide +kernel
theorem dX8_constants_5 : decode cX8_constants 5 = .ok (.sipush 168, 3) := by decide +kernel
theorem dX8_constants_8 : decode cX8_constants 8 = .ok (.if_icmp .ge 37, 3) := by decide +kernel
theorem dX8_constants_11 : decode cX8_constants 11 = .ok (.aload_n 0, 1) := by decide +kernel
theorem dX8_constants_12 : decode cX8_constants 12 = .ok (.getfield 33, 3) := by decide +kernel
theorem dX8_constants_15 : decode cX8_constants 15 = .ok (.iload_n 2, 1) := by decide +kernel
theorem dX8_constants_16 : decode cX8_constants 16 = .ok (.iload_n 1, 1) := by decide +kernel
theorem dX8_constants_17 : decode cX8_constants 17 = .ok (.iconst 1, 1) := by decide +kernel
theorem dX8_constants_18 : decode cX8_constants 18 = .ok (.iand, 1) := by decide +kernel
theorem dX8_constants_19 : decode cX8_constants 19 = .ok (.i2b, 1) := by decide +kernel
theorem dX8_constants_20 : decode cX8_constants 20 = .ok (.bastore, 1) := by decide +kernel
theorem dX8_constants_21 : decode cX8_constants 21 = .ok (.iload_n 1, 1) := by decide +kernel
theorem dX8_constants_22 : decode cX8_constants 22 = .ok (.iconst 1, 1) := by decide +kernel
theorem dX8_constants_23 : decode cX8_constants 23 = .ok (.ishl, 1) := by decide +kernel
theorem dX8_constants_24 : decode cX8_constants 24 = .ok (.istore_n 1, 1) := by decide +kernel
theorem dX8_constants_25 : decode cX8_constants 25 = .ok (.iload_n 1, 1) := by decide +kernel
theorem dX8_constants_26 : decode cX8_constants 26 = .ok (.sipush 256, 3) := by decide +kernel
theorem dX8_constants_29 : decode cX8_constants 29 = .ok (.iand, 1) := by decide +kernel
theorem dX8_constants_30 : decode cX8_constants 30 = .ok (.ifCond .eq 9, 3) := by decide +kernel
theorem dX8_constants_33 : decode cX8_constants 33 = .ok (.iload_n 1, 1) := by decide +kernel
theorem dX8_constants_34 : decode cX8_constants 34 = .ok (.sipush 369, 3) := by decide +kernel
theorem dX8_constants_37 : decode cX8_constants 37 = .ok (.ixor, 1) := by decide +kernel
theorem dX8_constants_38 : decode cX8_constants 38 = .ok (.istore_n 1, 1) := by decide +kernel
theorem dX8_constants_39 : decode cX8_constants 39 = .ok (.iinc 2 1, 3) := by decide +kernel
theorem dX8_constants_42 : decode cX8_constants 42 = .ok (.goto (-38), 3) := by decide +kernel
theorem dX8_constants_45 : decode cX8_constants 45 = .ok (.return_, 1) := by decide +kernel
theorem dX8_theta_0 : decode cX8_theta 0 = .ok (.iconst 0, 1) := by decide +kernel
theorem dX8_theta_1 : decode cX8_theta 1 = .ok (.istore_n 1, 1) := by decide +kernel
theorem dX8_theta_2 : decode cX8_theta 2 = .ok (.iload_n 1, 1) := by decide +kernel
theorem dX8_theta_3 : decode cX8_theta 3 = .ok (.sipush 320, 3) := by decide +kernel
theorem dX8_theta_6 : decode cX8_theta 6 = .ok (.if_icmp .ge 47, 3) := by decide +kernel
theorem dX8_theta_9 : decode cX8_theta 9 = .ok (.iconst 0, 1) := by decide +kernel
theorem dX8_theta_10 : decode cX8_theta 10 = .ok (.istore_n 2, 1) := by decide +kernel
theorem dX8_theta_11 : decode cX8_theta 11 = .ok (.iconst 0, 1) := by decide +kernel
theorem dX8_theta_12 : decode cX8_theta 12 = .ok (.istore_n 3, 1) := by decide +kernel
theorem dX8_theta_13 : decode cX8_theta 13 = .ok (.iload_n 3, 1) := by decide +kernel
theorem dX8_theta_14 : decode cX8_theta 14 = .ok (.iconst 5, 1) := by decide +kernel
theorem dX8_theta_15 : decode cX8_theta 15 = .ok (.if_icmp .ge 24, 3) := by decide +kernel
theorem dX8_theta_18 : decode cX8_theta 18 = .ok (.iload_n 2, 1) := by decide +kernel
theorem dX8_theta_19 : decode cX8_theta 19 = .ok (.aload_n 0, 1) := by decide +kernel
theorem dX8_theta_20 : decode cX8_theta 20 = .ok (.getfield 20, 3) := by decide +kernel
theorem dX8_theta_23 : decode cX8_theta 23 = .ok (.sipush 320, 3) := by decide +kernel
theorem dX8_theta_26 : decode cX8_theta 26 = .ok (.iload_n 3, 1) := by decide +kernel
theorem dX8_theta_27 : decode cX8_theta 27 = .ok (.imul, 1) := by decide +kernel
theorem dX8_theta_28 : decode cX8_theta 28 = .ok (.iload_n 1, 1) := by decide +kernel
theorem dX8_theta_29 : decode cX8_theta 29 = .ok (.iadd, 1) := by decide +kernel
theorem dX8_theta_30 : decode cX8_theta 30 = .ok (.baload, 1) := by decide +kernel
theorem dX8_theta_31 : decode cX8_theta 31 = .ok (.ixor, 1) := by decide +kernel
theorem dX8_theta_32 : decode cX8_theta 32 = .ok (.istore_n 2, 1) := by decide +kernel
theorem dX8_theta_33 : decode cX8_theta 33 = .ok (.iinc 3 1, 3) := by decide +kernel
theorem dX8_theta_36 : decode cX8_theta 36 = .ok (.goto (-23), 3) := by decide +kernel
theorem dX8_theta_39 : decode cX8_theta 39 = .ok (.aload_n 0, 1) := by decide +kernel
theorem dX8_theta_40 : decode cX8_theta 40 = .ok (.getfield 26, 3) := by decide +kernel
theorem dX8_theta_43 : decode cX8_theta 43 = .ok (.iload_n 1, 1) := by decide +kernel
theorem dX8_theta_44 : decode cX8_theta 44 = .ok (.iload_n 2, 1) := by decide +kernel
theorem dX8_theta_45 : decode cX8_theta 45 = .ok (.i2b, 1) := by decide +kernel
theorem dX8_theta_46 : decode cX8_theta 46 = .ok (.bastore, 1) := by decide +kernel
theorem dX8_theta_47 : decode cX8_theta 47 = .ok (.iinc 1 1, 3) := by decide +kernel
theorem dX8_theta_50 : decode cX8_theta 50 = .ok (.goto (-48), 3) := by decide +kernel
theorem dX8_theta_53 : decode cX8_theta 53 = .ok (.iconst 0, 1) := by decide +kernel
theorem dX8_theta_54 : decode cX8_theta 54 = .ok (.istore_n 1, 1) := by decide +kernel
theorem dX8_theta_55 : decode cX8_theta 55 = .ok (.iload_n 1, 1) := by decide +kernel
theorem dX8_theta_56 : decode cX8_theta 56 = .ok (.iconst 5, 1) := by decide +kernel
theorem dX8_theta_57 : decode cX8_theta 57 = .ok (.if_icmp .ge 93, 3) := by decide +kernel
theorem dX8_theta_60 : decode cX8_theta 60 = .ok (.iconst 0, 1) := by decide +kernel
theorem dX8_theta_61 : decode cX8_theta 61 = .ok (.istore_n 2, 1) := by decide +kernel
theorem dX8_theta_62 : decode cX8_theta 62 = .ok (.iload_n 2, 1) := by decide +kernel
theorem dX8_theta_63 : decode cX8_theta 63 = .ok (.iconst 5, 1) := by decide +kernel
theorem dX8_theta_64 : decode cX8_theta 64 = .ok (.if_icmp .ge 80, 3) := by decide +kernel
theorem dX8_theta_67 : decode cX8_theta 67 = .ok (.iconst 0, 1) := by decide +kernel
theorem dX8_theta_68 : decode cX8_theta 68 = .ok (.istore_n 3, 1) := by decide +kernel
theorem dX8_theta_69 : decode cX8_theta 69 = .ok (.iload_n 3, 1) := by decide +kernel
theorem dX8_theta_70 : decode cX8_theta 70 = .ok (.bipush 64, 2) := by decide +kernel
theorem dX8_theta_72 : decode cX8_theta 72 = .ok (.if_icmp .ge 66, 3) := by decide +kernel
theorem dX8_theta_75 : decode cX8_theta 75 = .ok (.aload_n 0, 1) := by decide +kernel
theorem dX8_theta_76 : decode cX8_theta 76 = .ok (.getfield 26, 3) := by decide +kernel
theorem dX8_theta_79 : decode cX8_theta 79 = .ok (.bipush 64, 2) := by decide +kernel
theorem dX8_theta_81 : decode cX8_theta 81 = .ok (.iload_n 2, 1) := by decide +kernel
theorem dX8_theta_82 : decode cX8_theta 82 = .ok (.iconst 4, 1) := by decide +kernel
theorem dX8_theta_83 : decode cX8_theta 83 = .ok (.iadd, 1) := by decide +kernel
theorem dX8_theta_84 : decode cX8_theta 84 = .ok (.iconst 5, 1) := by decide +kernel
theorem dX8_theta_85 : decode cX8_theta 85 = .ok (.irem, 1) := by decide +kernel
theorem dX8_theta_86 : decode cX8_theta 86 = .ok (.imul, 1) := by decide +kernel
theorem dX8_theta_87 : decode cX8_theta 87 = .ok (.iload_n 3, 1) := by decide +kernel
theorem dX8_theta_88 : decode cX8_theta 88 = .ok (.iadd, 1) := by decide +kernel
theorem dX8_theta_89 : decode cX8_theta 89 = .ok (.baload, 1) := by decide +kernel
theorem dX8_theta_90 : decode cX8_theta 90 = .ok (.aload_n 0, 1) := by decide +kernel
theorem dX8_theta_91 : decode cX8_theta 91 = .ok (.getfield 26, 3) := by decide +kernel
theorem dX8_theta_94 : decode cX8_theta 94 = .ok (.bipush 64, 2) := by decide +kernel
theorem dX8_theta_96 : decode cX8_theta 96 = .ok (.iload_n 2, 1) := by decide +kernel
theorem dX8_theta_97 : decode cX8_theta 97 = .ok (.iconst 1, 1) := by decide +kernel
theorem dX8_theta_98 : decode cX8_theta 98 = .ok (.iadd, 1) := by decide +kernel
theorem dX8_theta_99 : decode cX8_theta 99 = .ok (.iconst 5, 1) := by decide +kernel
theorem dX8_theta_100 : decode cX8_theta 100 = .ok (.irem, 1) := by decide +kernel
theorem dX8_theta_101 : decode cX8_theta 101 = .ok (.imul, 1) := by decide +kernel
theorem dX8_theta_102 : decode cX8_theta 102 = .ok (.iload_n 3, 1) := by decide +kernel
theorem dX8_theta_103 : decode cX8_theta 103 = .ok (.bipush 63, 2) := by decide +kernel
theorem dX8_theta_105 : decode cX8_theta 105 = .ok (.iadd, 1) := by decide +kernel
theorem dX8_theta_106 : decode cX8_theta 106 = .ok (.bipush 64, 2) := by decide +kernel
theorem dX8_theta_108 : decode cX8_theta 108 = .ok (.irem, 1) := by decide +kernel
theorem dX8_theta_109 : decode cX8_theta 109 = .ok (.iadd, 1) := by decide +kernel
theorem dX8_theta_110 : decode cX8_theta 110 = .ok (.baload, 1) := by decide +kernel
theorem dX8_theta_111 : decode cX8_theta 111 = .ok (.ixor, 1) := by decide +kernel
theorem dX8_theta_112 : decode cX8_theta 112 = .ok (.istore 4, 2) := by decide +kernel
theorem dX8_theta_114 : decode cX8_theta 114 = .ok (.aload_n 0, 1) := by decide +kernel
theorem dX8_theta_115 : decode cX8_theta 115 = .ok (.getfield 20, 3) := by decide +kernel
theorem dX8_theta_118 : decode cX8_theta 118 = .ok (.iload_n 2, 1) := by decide +kernel
theorem dX8_theta_119 : decode cX8_theta 119 = .ok (.iload_n 1, 1) := by decide +kernel
theorem dX8_theta_120 : decode cX8_theta 120 = .ok (.iload_n 3, 1) := by decide +kernel
theorem dX8_theta_121 : decode cX8_theta 121 = .ok (.invokestatic 54, 3) := by decide +kernel
theorem dX8_theta_124 : decode cX8_theta 124 = .ok (.dup2, 1) := by decide +kernel
theorem dX8_theta_125 : decode cX8_theta 125 = .ok (.baload, 1) := by decide +kernel
theorem dX8_theta_126 : decode cX8_theta 126 = .ok (.iload 4, 2) := by decide +kernel
theorem dX8_theta_128 : decode cX8_theta 128 = .ok (.i2b, 1) := by decide +kernel
theorem dX8_theta_129 : decode cX8_theta 129 = .ok (.ixor, 1) := by decide +kernel
theorem dX8_theta_130 : decode cX8_theta 130 = .ok (.i2b, 1) := by decide +kernel
theorem dX8_theta_131 : decode cX8_theta 131 = .ok (.bastore, 1) := by decide +kernel
theorem dX8_theta_132 : decode cX8_theta 132 = .ok (.iinc 3 1, 3) := by decide +kernel
theorem dX8_theta_135 : decode cX8_theta 135 = .ok (.goto (-66), 3) := by decide +kernel
theorem dX8_theta_138 : decode cX8_theta 138 = .ok (.iinc 2 1, 3) := by decide +kernel
theorem dX8_theta_141 : decode cX8_theta 141 = .ok (.goto (-79), 3) := by decide +kernel
theorem dX8_theta_144 : decode cX8_theta 144 = .ok (.iinc 1 1, 3) := by decide +kernel
theorem dX8_theta_147 : decode cX8_theta 147 = .ok (.goto (-92), 3) := by decide +kernel
theorem dX8_theta_150 : decode cX8_theta 150 = .ok (.return_, 1) := by decide +kernel
theorem dX8_round_0 : decode cX8_round 0 = .ok (.aload_n 0, 1) := by decide +kernel
theorem dX8_round_1 : decode cX8_round 1 = .ok (.invokevirtual 58, 3) := by decide +kernel
theorem dX8_round_4 : decode cX8_round 4 = .ok (.iconst 0, 1) := by decide +kernel
theorem dX8_round_5 : decode cX8_round 5 = .ok (.istore_n 2, 1) := by decide +kernel
theorem dX8_round_6 : decode cX8_round 6 = .ok (.iload_n 2, 1) := by decide +kernel
theorem dX8_round_7 : decode cX8_round 7 = .ok (.sipush 1600, 3) := by decide +kernel
theorem dX8_round_10 : decode cX8_round 10 = .ok (.if_icmp .ge 26, 3) := by decide +kernel
theorem dX8_round_13 : decode cX8_round 13 = .ok (.aload_n 0, 1) := by decide +kernel
theorem dX8_round_14 : decode cX8_round 14 = .ok (.getfield 23, 3) := by decide +kernel
theorem dX8_round_17 : decode cX8_round 17 = .ok (.iload_n 2, 1) := by decide +kernel
theorem dX8_round_18 : decode cX8_round 18 = .ok (.aload_n 0, 1) := by decide +kernel
theorem dX8_round_19 : decode cX8_round 19 = .ok (.getfield 20, 3) := by decide +kernel
theorem dX8_round_22 : decode cX8_round 22 = .ok (.aload_n 0, 1) := by decide +kernel
theorem dX8_round_23 : decode cX8_round 23 = .ok (.getfield 29, 3) := by decide +kernel
theorem dX8_round_26 : decode cX8_round 26 = .ok (.iload_n 2, 1) := by decide +kernel
theorem dX8_round_27 : decode cX8_round 27 = .ok (.iaload, 1) := by decide +kernel
theorem dX8_round_28 : decode cX8_round 28 = .ok (.baload, 1) := by decide +kernel
theorem dX8_round_29 : decode cX8_round 29 = .ok (.bastore, 1) := by decide +kernel
theorem dX8_round_30 : decode cX8_round 30 = .ok (.iinc 2 1, 3) := by decide +kernel
theorem dX8_round_33 : decode cX8_round 33 = .ok (.goto (-27), 3) := by decide +kernel
theorem dX8_round_36 : decode cX8_round 36 = .ok (.iconst 0, 1) := by decide +kernel
theorem dX8_round_37 : decode cX8_round 37 = .ok (.istore_n 2, 1) := by decide +kernel
theorem dX8_round_38 : decode cX8_round 38 = .ok (.iload_n 2, 1) := by decide +kernel
theorem dX8_round_39 : decode cX8_round 39 = .ok (.iconst 5, 1) := by decide +kernel
theorem dX8_round_40 : decode cX8_round 40 = .ok (.if_icmp .ge 103, 3) := by decide +kernel
theorem dX8_round_43 : decode cX8_round 43 = .ok (.iconst 0, 1) := by decide +kernel
theorem dX8_round_44 : decode cX8_round 44 = .ok (.istore_n 3, 1) := by decide +kernel
theorem dX8_round_45 : decode cX8_round 45 = .ok (.iload_n 3, 1) := by decide +kernel
theorem dX8_round_46 : decode cX8_round 46 = .ok (.iconst 5, 1) := by decide +kernel
theorem dX8_round_47 : decode cX8_round 47 = .ok (.if_icmp .ge 90, 3) := by decide +kernel
theorem dX8_round_50 : decode cX8_round 50 = .ok (.iconst 0, 1) := by decide +kernel
theorem dX8_round_51 : decode cX8_round 51 = .ok (.istore 4, 2) := by decide +kernel
theorem dX8_round_53 : decode cX8_round 53 = .ok (.iload 4, 2) := by decide +kernel
theorem dX8_round_55 : decode cX8_round 55 = .ok (.bipush 64, 2) := by decide +kernel
theorem dX8_round_57 : decode cX8_round 57 = .ok (.if_icmp .ge 74, 3) := by decide +kernel
theorem dX8_round_60 : decode cX8_round 60 = .ok (.aload_n 0, 1) := by decide +kernel
theorem dX8_round_61 : decode cX8_round 61 = .ok (.getfield 23, 3) := by decide +kernel
theorem dX8_round_64 : decode cX8_round 64 = .ok (.iload_n 3, 1) := by decide +kernel
theorem dX8_round_65 : decode cX8_round 65 = .ok (.iconst 1, 1) := by decide +kernel
theorem dX8_round_66 : decode cX8_round 66 = .ok (.iadd, 1) := by decide +kernel
theorem dX8_round_67 : decode cX8_round 67 = .ok (.iconst 5, 1) := by decide +kernel
theorem dX8_round_68 : decode cX8_round 68 = .ok (.irem, 1) := by decide +kernel
theorem dX8_round_69 : decode cX8_round 69 = .ok (.iload_n 2, 1) := by decide +kernel
theorem dX8_round_70 : decode cX8_round 70 = .ok (.iload 4, 2) := by decide +kernel
theorem dX8_round_72 : decode cX8_round 72 = .ok (.invokestatic 54, 3) := by decide +kernel
theorem dX8_round_75 : decode cX8_round 75 = .ok (.baload, 1) := by decide +kernel
theorem dX8_round_76 : decode cX8_round 76 = .ok (.iconst 1, 1) := by decide +kernel
theorem dX8_round_77 : decode cX8_round 77 = .ok (.ixor, 1) := by decide +kernel
theorem dX8_round_78 : decode cX8_round 78 = .ok (.istore 5, 2) := by decide +kernel
theorem dX8_round_80 : decode cX8_round 80 = .ok (.aload_n 0, 1) := by decide +kernel
theorem dX8_round_81 : decode cX8_round 81 = .ok (.getfield 20, 3) := by decide +kernel
theorem dX8_round_84 : decode cX8_round 84 = .ok (.iload_n 3, 1) := by decide +kernel
theorem dX8_round_85 : decode cX8_round 85 = .ok (.iload_n 2, 1) := by decide +kernel
theorem dX8_round_86 : decode cX8_round 86 = .ok (.iload 4, 2) := by decide +kernel
theorem dX8_round_88 : decode cX8_round 88 = .ok (.invokestatic 54, 3) := by decide +kernel
theorem dX8_round_91 : decode cX8_round 91 = .ok (.aload_n 0, 1) := by decide +kernel
theorem dX8_round_92 : decode cX8_round 92 = .ok (.getfield 23, 3) := by decide +kernel
theorem dX8_round_95 : decode cX8_round 95 = .ok (.iload_n 3, 1) := by decide +kernel
theorem dX8_round_96 : decode cX8_round 96 = .ok (.iload_n 2, 1) := by decide +kernel
theorem dX8_round_97 : decode cX8_round 97 = .ok (.iload 4, 2) := by decide +kernel
theorem dX8_round_99 : decode cX8_round 99 = .ok (.invokestatic 54, 3) := by decide +kernel
theorem dX8_round_102 : decode cX8_round 102 = .ok (.baload, 1) := by decide +kernel
theorem dX8_round_103 : decode cX8_round 103 = .ok (.iload 5, 2) := by decide +kernel
theorem dX8_round_105 : decode cX8_round 105 = .ok (.aload_n 0, 1) := by decide +kernel
theorem dX8_round_106 : decode cX8_round 106 = .ok (.getfield 23, 3) := by decide +kernel
theorem dX8_round_109 : decode cX8_round 109 = .ok (.iload_n 3, 1) := by decide +kernel
theorem dX8_round_110 : decode cX8_round 110 = .ok (.iconst 2, 1) := by decide +kernel
theorem dX8_round_111 : decode cX8_round 111 = .ok (.iadd, 1) := by decide +kernel
theorem dX8_round_112 : decode cX8_round 112 = .ok (.iconst 5, 1) := by decide +kernel
theorem dX8_round_113 : decode cX8_round 113 = .ok (.irem, 1) := by decide +kernel
theorem dX8_round_114 : decode cX8_round 114 = .ok (.iload_n 2, 1) := by decide +kernel
theorem dX8_round_115 : decode cX8_round 115 = .ok (.iload 4, 2) := by decide +kernel
theorem dX8_round_117 : decode cX8_round 117 = .ok (.invokestatic 54, 3) := by decide +kernel
theorem dX8_round_120 : decode cX8_round 120 = .ok (.baload, 1) := by decide +kernel
theorem dX8_round_121 : decode cX8_round 121 = .ok (.iand, 1) := by decide +kernel
theorem dX8_round_122 : decode cX8_round 122 = .ok (.ixor, 1) := by decide +kernel
theorem dX8_round_123 : decode cX8_round 123 = .ok (.i2b, 1) := by decide +kernel
theorem dX8_round_124 : decode cX8_round 124 = .ok (.bastore, 1) := by decide +kernel
theorem dX8_round_125 : decode cX8_round 125 = .ok (.iinc 4 1, 3) := by decide +kernel
theorem dX8_round_128 : decode cX8_round 128 = .ok (.goto (-75), 3) := by decide +kernel
theorem dX8_round_131 : decode cX8_round 131 = .ok (.iinc 3 1, 3) := by decide +kernel
theorem dX8_round_134 : decode cX8_round 134 = .ok (.goto (-89), 3) := by decide +kernel
theorem dX8_round_137 : decode cX8_round 137 = .ok (.iinc 2 1, 3) := by decide +kernel
theorem dX8_round_140 : decode cX8_round 140 = .ok (.goto (-102), 3) := by decide +kernel
theorem dX8_round_143 : decode cX8_round 143 = .ok (.iconst 0, 1) := by decide +kernel
theorem dX8_round_144 : decode cX8_round 144 = .ok (.istore_n 2, 1) := by decide +kernel
theorem dX8_round_145 : decode cX8_round 145 = .ok (.iload_n 2, 1) := by decide +kernel
theorem dX8_round_146 : decode cX8_round 146 = .ok (.bipush 7, 2) := by decide +kernel
theorem dX8_round_148 : decode cX8_round 148 = .ok (.if_icmp .ge 34, 3) := by decide +kernel
theorem dX8_round_151 : decode cX8_round 151 = .ok (.aload_n 0, 1) := by decide +kernel
theorem dX8_round_152 : decode cX8_round 152 = .ok (.getfield 20, 3) := by decide +kernel
theorem dX8_round_155 : decode cX8_round 155 = .ok (.iconst 1, 1) := by decide +kernel
theorem dX8_round_156 : decode cX8_round 156 = .ok (.iload_n 2, 1) := by decide +kernel
theorem dX8_round_157 : decode cX8_round 157 = .ok (.ishl, 1) := by decide +kernel
theorem dX8_round_158 : decode cX8_round 158 = .ok (.iconst 1, 1) := by decide +kernel
theorem dX8_round_159 : decode cX8_round 159 = .ok (.isub, 1) := by decide +kernel
theorem dX8_round_160 : decode cX8_round 160 = .ok (.dup2, 1) := by decide +kernel
theorem dX8_round_161 : decode cX8_round 161 = .ok (.baload, 1) := by decide +kernel
theorem dX8_round_162 : decode cX8_round 162 = .ok (.aload_n 0, 1) := by decide +kernel
theorem dX8_round_163 : decode cX8_round 163 = .ok (.getfield 33, 3) := by decide +kernel
theorem dX8_round_166 : decode cX8_round 166 = .ok (.bipush 7, 2) := by decide +kernel
theorem dX8_round_168 : decode cX8_round 168 = .ok (.iload_n 1, 1) := by decide +kernel
theorem dX8_round_169 : decode cX8_round 169 = .ok (.imul, 1) := by decide +kernel
theorem dX8_round_170 : decode cX8_round 170 = .ok (.iload_n 2, 1) := by decide +kernel
theorem dX8_round_171 : decode cX8_round 171 = .ok (.iadd, 1) := by decide +kernel
theorem dX8_round_172 : decode cX8_round 172 = .ok (.baload, 1) := by decide +kernel
theorem dX8_round_173 : decode cX8_round 173 = .ok (.ixor, 1) := by decide +kernel
theorem dX8_round_174 : decode cX8_round 174 = .ok (.i2b, 1) := by decide +kernel
theorem dX8_round_175 : decode cX8_round 175 = .ok (.bastore, 1) := by decide +kernel
theorem dX8_round_176 : decode cX8_round 176 = .ok (.iinc 2 1, 3) := by decide +kernel
theorem dX8_round_179 : decode cX8_round 179 = .ok (.goto (-34), 3) := by decide +kernel
theorem dX8_round_182 : decode cX8_round 182 = .ok (.return_, 1) := by decide +kernel
theorem dX8_rounds_0 : decode cX8_rounds 0 = .ok (.iconst 0, 1) := by decide +kernel
theorem dX8_rounds_1 : decode cX8_rounds 1 = .ok (.istore_n 1, 1) := by decide +kernel
theorem dX8_rounds_2 : decode cX8_rounds 2 = .ok (.iload_n 1, 1) := by decide +kernel
theorem dX8_rounds_3 : decode cX8_rounds 3 = .ok (.bipush 24, 2) := by decide +kernel
theorem dX8_rounds_5 : decode cX8_rounds 5 = .ok (.if_icmp .ge 14, 3) := by decide +kernel
theorem dX8_rounds_8 : decode cX8_rounds 8 = .ok (.aload_n 0, 1) := by decide +kernel
theorem dX8_rounds_9 : decode cX8_rounds 9 = .ok (.iload_n 1, 1) := by decide +kernel
theorem dX8_rounds_10 : decode cX8_rounds 10 = .ok (.invokevirtual 61, 3) := by decide +kernel
theorem dX8_rounds_13 : decode cX8_rounds 13 = .ok (.iinc 1 1, 3) := by decide +kernel
theorem dX8_rounds_16 : decode cX8_rounds 16 = .ok (.goto (-14), 3) := by decide +kernel
theorem dX8_rounds_19 : decode cX8_rounds 19 = .ok (.return_, 1) := by decide +kernel
theorem dX8_takes_0 : decode cX8_takes 0 = .ok (.aload_n 0, 1) := by decide +kernel
theorem dX8_takes_1 : decode cX8_takes 1 = .ok (.getfield 20, 3) := by decide +kernel
theorem dX8_takes_4 : decode cX8_takes 4 = .ok (.aload_n 0, 1) := by decide +kernel
theorem dX8_takes_5 : decode cX8_takes 5 = .ok (.getfield 65, 3) := by decide +kernel
theorem dX8_takes_8 : decode cX8_takes 8 = .ok (.dup2, 1) := by decide +kernel
theorem dX8_takes_9 : decode cX8_takes 9 = .ok (.baload, 1) := by decide +kernel
theorem dX8_takes_10 : decode cX8_takes 10 = .ok (.iload_n 1, 1) := by decide +kernel
theorem dX8_takes_11 : decode cX8_takes 11 = .ok (.i2b, 1) := by decide +kernel
theorem dX8_takes_12 : decode cX8_takes 12 = .ok (.ixor, 1) := by decide +kernel
theorem dX8_takes_13 : decode cX8_takes 13 = .ok (.i2b, 1) := by decide +kernel
theorem dX8_takes_14 : decode cX8_takes 14 = .ok (.bastore, 1) := by decide +kernel
theorem dX8_takes_15 : decode cX8_takes 15 = .ok (.aload_n 0, 1) := by decide +kernel
theorem dX8_takes_16 : decode cX8_takes 16 = .ok (.dup, 1) := by decide +kernel
theorem dX8_takes_17 : decode cX8_takes 17 = .ok (.getfield 65, 3) := by decide +kernel
theorem dX8_takes_20 : decode cX8_takes 20 = .ok (.iconst 1, 1) := by decide +kernel
theorem dX8_takes_21 : decode cX8_takes 21 = .ok (.iadd, 1) := by decide +kernel
theorem dX8_takes_22 : decode cX8_takes 22 = .ok (.putfield 65, 3) := by decide +kernel
theorem dX8_takes_25 : decode cX8_takes 25 = .ok (.aload_n 0, 1) := by decide +kernel
theorem dX8_takes_26 : decode cX8_takes 26 = .ok (.getfield 65, 3) := by decide +kernel
theorem dX8_takes_29 : decode cX8_takes 29 = .ok (.aload_n 0, 1) := by decide +kernel
theorem dX8_takes_30 : decode cX8_takes 30 = .ok (.getfield 68, 3) := by decide +kernel
theorem dX8_takes_33 : decode cX8_takes 33 = .ok (.if_icmp .ne 12, 3) := by decide +kernel
theorem dX8_takes_36 : decode cX8_takes 36 = .ok (.aload_n 0, 1) := by decide +kernel
theorem dX8_takes_37 : decode cX8_takes 37 = .ok (.invokevirtual 71, 3) := by decide +kernel
theorem dX8_takes_40 : decode cX8_takes 40 = .ok (.aload_n 0, 1) := by decide +kernel
theorem dX8_takes_41 : decode cX8_takes 41 = .ok (.iconst 0, 1) := by decide +kernel
theorem dX8_takes_42 : decode cX8_takes 42 = .ok (.putfield 65, 3) := by decide +kernel
theorem dX8_takes_45 : decode cX8_takes 45 = .ok (.return_, 1) := by decide +kernel
theorem dX8_absorb_0 : decode cX8_absorb 0 = .ok (.aload_n 0, 1) := by decide +kernel
theorem dX8_absorb_1 : decode cX8_absorb 1 = .ok (.bipush 8, 2) := by decide +kernel
theorem dX8_absorb_3 : decode cX8_absorb 3 = .ok (.iload_n 1, 1) := by decide +kernel
theorem dX8_absorb_4 : decode cX8_absorb 4 = .ok (.imul, 1) := by decide +kernel
theorem dX8_absorb_5 : decode cX8_absorb 5 = .ok (.putfield 68, 3) := by decide +kernel
theorem dX8_absorb_8 : decode cX8_absorb 8 = .ok (.aload_n 0, 1) := by decide +kernel
theorem dX8_absorb_9 : decode cX8_absorb 9 = .ok (.iconst 0, 1) := by decide +kernel
theorem dX8_absorb_10 : decode cX8_absorb 10 = .ok (.putfield 65, 3) := by decide +kernel
theorem dX8_absorb_13 : decode cX8_absorb 13 = .ok (.iconst 0, 1) := by decide +kernel
theorem dX8_absorb_14 : decode cX8_absorb 14 = .ok (.istore 5, 2) := by decide +kernel
theorem dX8_absorb_16 : decode cX8_absorb 16 = .ok (.iload 5, 2) := by decide +kernel
theorem dX8_absorb_18 : decode cX8_absorb 18 = .ok (.sipush 1600, 3) := by decide +kernel
theorem dX8_absorb_21 : decode cX8_absorb 21 = .ok (.if_icmp .ge 17, 3) := by decide +kernel
theorem dX8_absorb_24 : decode cX8_absorb 24 = .ok (.aload_n 0, 1) := by decide +kernel
theorem dX8_absorb_25 : decode cX8_absorb 25 = .ok (.getfield 20, 3) := by decide +kernel
theorem dX8_absorb_28 : decode cX8_absorb 28 = .ok (.iload 5, 2) := by decide +kernel
theorem dX8_absorb_30 : decode cX8_absorb 30 = .ok (.iconst 0, 1) := by decide +kernel
theorem dX8_absorb_31 : decode cX8_absorb 31 = .ok (.bastore, 1) := by decide +kernel
theorem dX8_absorb_32 : decode cX8_absorb 32 = .ok (.iinc 5 1, 3) := by decide +kernel
theorem dX8_absorb_35 : decode cX8_absorb 35 = .ok (.goto (-19), 3) := by decide +kernel
theorem dX8_absorb_38 : decode cX8_absorb 38 = .ok (.iconst 0, 1) := by decide +kernel
theorem dX8_absorb_39 : decode cX8_absorb 39 = .ok (.istore 5, 2) := by decide +kernel
theorem dX8_absorb_41 : decode cX8_absorb 41 = .ok (.iload 5, 2) := by decide +kernel
theorem dX8_absorb_43 : decode cX8_absorb 43 = .ok (.iload_n 3, 1) := by decide +kernel
theorem dX8_absorb_44 : decode cX8_absorb 44 = .ok (.if_icmp .ge 42, 3) := by decide +kernel
theorem dX8_absorb_47 : decode cX8_absorb 47 = .ok (.iconst 0, 1) := by decide +kernel
theorem dX8_absorb_48 : decode cX8_absorb 48 = .ok (.istore 6, 2) := by decide +kernel
theorem dX8_absorb_50 : decode cX8_absorb 50 = .ok (.iload 6, 2) := by decide +kernel
theorem dX8_absorb_52 : decode cX8_absorb 52 = .ok (.bipush 8, 2) := by decide +kernel
theorem dX8_absorb_54 : decode cX8_absorb 54 = .ok (.if_icmp .ge 26, 3) := by decide +kernel
theorem dX8_absorb_57 : decode cX8_absorb 57 = .ok (.aload_n 0, 1) := by decide +kernel
theorem dX8_absorb_58 : decode cX8_absorb 58 = .ok (.aload_n 0, 1) := by decide +kernel
theorem dX8_absorb_59 : decode cX8_absorb 59 = .ok (.iload_n 2, 1) := by decide +kernel
theorem dX8_absorb_60 : decode cX8_absorb 60 = .ok (.iload 5, 2) := by decide +kernel
theorem dX8_absorb_62 : decode cX8_absorb 62 = .ok (.iadd, 1) := by decide +kernel
theorem dX8_absorb_63 : decode cX8_absorb 63 = .ok (.invokevirtual 74, 3) := by decide +kernel
theorem dX8_absorb_66 : decode cX8_absorb 66 = .ok (.iload 6, 2) := by decide +kernel
theorem dX8_absorb_68 : decode cX8_absorb 68 = .ok (.ishr, 1) := by decide +kernel
theorem dX8_absorb_69 : decode cX8_absorb 69 = .ok (.iconst 1, 1) := by decide +kernel
theorem dX8_absorb_70 : decode cX8_absorb 70 = .ok (.iand, 1) := by decide +kernel
theorem dX8_absorb_71 : decode cX8_absorb 71 = .ok (.invokevirtual 78, 3) := by decide +kernel
theorem dX8_absorb_74 : decode cX8_absorb 74 = .ok (.iinc 6 1, 3) := by decide +kernel
theorem dX8_absorb_77 : decode cX8_absorb 77 = .ok (.goto (-27), 3) := by decide +kernel
theorem dX8_absorb_80 : decode cX8_absorb 80 = .ok (.iinc 5 1, 3) := by decide +kernel
theorem dX8_absorb_83 : decode cX8_absorb 83 = .ok (.goto (-42), 3) := by decide +kernel
theorem dX8_absorb_86 : decode cX8_absorb 86 = .ok (.iload 4, 2) := by decide +kernel
theorem dX8_absorb_88 : decode cX8_absorb 88 = .ok (.ifCond .eq 16, 3) := by decide +kernel
theorem dX8_absorb_91 : decode cX8_absorb 91 = .ok (.aload_n 0, 1) := by decide +kernel
theorem dX8_absorb_92 : decode cX8_absorb 92 = .ok (.iconst 0, 1) := by decide +kernel
theorem dX8_absorb_93 : decode cX8_absorb 93 = .ok (.invokevirtual 78, 3) := by decide +kernel
theorem dX8_absorb_96 : decode cX8_absorb 96 = .ok (.aload_n 0, 1) := by decide +kernel
theorem dX8_absorb_97 : decode cX8_absorb 97 = .ok (.iconst 1, 1) := by decide +kernel
theorem dX8_absorb_98 : decode cX8_absorb 98 = .ok (.invokevirtual 78, 3) := by decide +kernel
theorem dX8_absorb_101 : decode cX8_absorb 101 = .ok (.goto 23, 3) := by decide +kernel
theorem dX8_absorb_104 : decode cX8_absorb 104 = .ok (.iconst 0, 1) := by decide +kernel
theorem dX8_absorb_105 : decode cX8_absorb 105 = .ok (.istore 5, 2) := by decide +kernel
theorem dX8_absorb_107 : decode cX8_absorb 107 = .ok (.iload 5, 2) := by decide +kernel
theorem dX8_absorb_109 : decode cX8_absorb 109 = .ok (.iconst 4, 1) := by decide +kernel
theorem dX8_absorb_110 : decode cX8_absorb 110 = .ok (.if_icmp .ge 14, 3) := by decide +kernel
theorem dX8_absorb_113 : decode cX8_absorb 113 = .ok (.aload_n 0, 1) := by decide +kernel
theorem dX8_absorb_114 : decode cX8_absorb 114 = .ok (.iconst 1, 1) := by decide +kernel
theorem dX8_absorb_115 : decode cX8_absorb 115 = .ok (.invokevirtual 78, 3) := by decide +kernel
theorem dX8_absorb_118 : decode cX8_absorb 118 = .ok (.iinc 5 1, 3) := by decide +kernel
theorem dX8_absorb_121 : decode cX8_absorb 121 = .ok (.goto (-14), 3) := by decide +kernel
theorem dX8_absorb_124 : decode cX8_absorb 124 = .ok (.aload_n 0, 1) := by decide +kernel
theorem dX8_absorb_125 : decode cX8_absorb 125 = .ok (.iconst 1, 1) := by decide +kernel
theorem dX8_absorb_126 : decode cX8_absorb 126 = .ok (.invokevirtual 78, 3) := by decide +kernel
theorem dX8_absorb_129 : decode cX8_absorb 129 = .ok (.aload_n 0, 1) := by decide +kernel
theorem dX8_absorb_130 : decode cX8_absorb 130 = .ok (.getfield 20, 3) := by decide +kernel
theorem dX8_absorb_133 : decode cX8_absorb 133 = .ok (.aload_n 0, 1) := by decide +kernel
theorem dX8_absorb_134 : decode cX8_absorb 134 = .ok (.getfield 68, 3) := by decide +kernel
theorem dX8_absorb_137 : decode cX8_absorb 137 = .ok (.iconst 1, 1) := by decide +kernel
theorem dX8_absorb_138 : decode cX8_absorb 138 = .ok (.isub, 1) := by decide +kernel
theorem dX8_absorb_139 : decode cX8_absorb 139 = .ok (.dup2, 1) := by decide +kernel
theorem dX8_absorb_140 : decode cX8_absorb 140 = .ok (.baload, 1) := by decide +kernel
theorem dX8_absorb_141 : decode cX8_absorb 141 = .ok (.iconst 1, 1) := by decide +kernel
theorem dX8_absorb_142 : decode cX8_absorb 142 = .ok (.ixor, 1) := by decide +kernel
theorem dX8_absorb_143 : decode cX8_absorb 143 = .ok (.i2b, 1) := by decide +kernel
theorem dX8_absorb_144 : decode cX8_absorb 144 = .ok (.bastore, 1) := by decide +kernel
theorem dX8_absorb_145 : decode cX8_absorb 145 = .ok (.aload_n 0, 1) := by decide +kernel
theorem dX8_absorb_146 : decode cX8_absorb 146 = .ok (.invokevirtual 71, 3) := by decide +kernel
theorem dX8_absorb_149 : decode cX8_absorb 149 = .ok (.aload_n 0, 1) := by decide +kernel
theorem dX8_absorb_150 : decode cX8_absorb 150 = .ok (.iconst 0, 1) := by decide +kernel
theorem dX8_absorb_151 : decode cX8_absorb 151 = .ok (.putfield 65, 3) := by decide +kernel
theorem dX8_absorb_154 : decode cX8_absorb 154 = .ok (.return_, 1) := by decide +kernel
theorem dX8_told_0 : decode cX8_told 0 = .ok (.aload_n 0, 1) := by decide +kernel
theorem dX8_told_1 : decode cX8_told 1 = .ok (.getfield 65, 3) := by decide +kernel
theorem dX8_told_4 : decode cX8_told 4 = .ok (.aload_n 0, 1) := by decide +kernel
theorem dX8_told_5 : decode cX8_told 5 = .ok (.getfield 68, 3) := by decide +kernel
theorem dX8_told_8 : decode cX8_told 8 = .ok (.if_icmp .ne 12, 3) := by decide +kernel
theorem dX8_told_11 : decode cX8_told 11 = .ok (.aload_n 0, 1) := by decide +kernel
theorem dX8_told_12 : decode cX8_told 12 = .ok (.invokevirtual 71, 3) := by decide +kernel
theorem dX8_told_15 : decode cX8_told 15 = .ok (.aload_n 0, 1) := by decide +kernel
theorem dX8_told_16 : decode cX8_told 16 = .ok (.iconst 0, 1) := by decide +kernel
theorem dX8_told_17 : decode cX8_told 17 = .ok (.putfield 65, 3) := by decide +kernel
theorem dX8_told_20 : decode cX8_told 20 = .ok (.iconst 0, 1) := by decide +kernel
theorem dX8_told_21 : decode cX8_told 21 = .ok (.istore_n 1, 1) := by decide +kernel
theorem dX8_told_22 : decode cX8_told 22 = .ok (.iconst 0, 1) := by decide +kernel
theorem dX8_told_23 : decode cX8_told 23 = .ok (.istore_n 2, 1) := by decide +kernel
theorem dX8_told_24 : decode cX8_told 24 = .ok (.iload_n 2, 1) := by decide +kernel
theorem dX8_told_25 : decode cX8_told 25 = .ok (.bipush 8, 2) := by decide +kernel
theorem dX8_told_27 : decode cX8_told 27 = .ok (.if_icmp .ge 25, 3) := by decide +kernel
theorem dX8_told_30 : decode cX8_told 30 = .ok (.iload_n 1, 1) := by decide +kernel
theorem dX8_told_31 : decode cX8_told 31 = .ok (.aload_n 0, 1) := by decide +kernel
theorem dX8_told_32 : decode cX8_told 32 = .ok (.getfield 20, 3) := by decide +kernel
theorem dX8_told_35 : decode cX8_told 35 = .ok (.aload_n 0, 1) := by decide +kernel
theorem dX8_told_36 : decode cX8_told 36 = .ok (.getfield 65, 3) := by decide +kernel
theorem dX8_told_39 : decode cX8_told 39 = .ok (.iload_n 2, 1) := by decide +kernel
theorem dX8_told_40 : decode cX8_told 40 = .ok (.iadd, 1) := by decide +kernel
theorem dX8_told_41 : decode cX8_told 41 = .ok (.baload, 1) := by decide +kernel
theorem dX8_told_42 : decode cX8_told 42 = .ok (.iload_n 2, 1) := by decide +kernel
theorem dX8_told_43 : decode cX8_told 43 = .ok (.ishl, 1) := by decide +kernel
theorem dX8_told_44 : decode cX8_told 44 = .ok (.ior, 1) := by decide +kernel
theorem dX8_told_45 : decode cX8_told 45 = .ok (.istore_n 1, 1) := by decide +kernel
theorem dX8_told_46 : decode cX8_told 46 = .ok (.iinc 2 1, 3) := by decide +kernel
theorem dX8_told_49 : decode cX8_told 49 = .ok (.goto (-25), 3) := by decide +kernel
theorem dX8_told_52 : decode cX8_told 52 = .ok (.aload_n 0, 1) := by decide +kernel
theorem dX8_told_53 : decode cX8_told 53 = .ok (.dup, 1) := by decide +kernel
theorem dX8_told_54 : decode cX8_told 54 = .ok (.getfield 65, 3) := by decide +kernel
theorem dX8_told_57 : decode cX8_told 57 = .ok (.bipush 8, 2) := by decide +kernel
theorem dX8_told_59 : decode cX8_told 59 = .ok (.iadd, 1) := by decide +kernel
theorem dX8_told_60 : decode cX8_told 60 = .ok (.putfield 65, 3) := by decide +kernel
theorem dX8_told_63 : decode cX8_told 63 = .ok (.iload_n 1, 1) := by decide +kernel
theorem dX8_told_64 : decode cX8_told 64 = .ok (.ireturn, 1) := by decide +kernel
theorem dX8_tells_0 : decode cX8_tells 0 = .ok (.iconst 0, 1) := by decide +kernel
theorem dX8_tells_1 : decode cX8_tells 1 = .ok (.istore_n 3, 1) := by decide +kernel
theorem dX8_tells_2 : decode cX8_tells 2 = .ok (.iload_n 3, 1) := by decide +kernel
theorem dX8_tells_3 : decode cX8_tells 3 = .ok (.iload_n 2, 1) := by decide +kernel
theorem dX8_tells_4 : decode cX8_tells 4 = .ok (.if_icmp .ge 22, 3) := by decide +kernel
theorem dX8_tells_7 : decode cX8_tells 7 = .ok (.aload_n 0, 1) := by decide +kernel
theorem dX8_tells_8 : decode cX8_tells 8 = .ok (.getfield 7, 3) := by decide +kernel
theorem dX8_tells_11 : decode cX8_tells 11 = .ok (.iload_n 1, 1) := by decide +kernel
theorem dX8_tells_12 : decode cX8_tells 12 = .ok (.iload_n 3, 1) := by decide +kernel
theorem dX8_tells_13 : decode cX8_tells 13 = .ok (.iadd, 1) := by decide +kernel
theorem dX8_tells_14 : decode cX8_tells 14 = .ok (.aload_n 0, 1) := by decide +kernel
theorem dX8_tells_15 : decode cX8_tells 15 = .ok (.invokevirtual 81, 3) := by decide +kernel
theorem dX8_tells_18 : decode cX8_tells 18 = .ok (.i2b, 1) := by decide +kernel
theorem dX8_tells_19 : decode cX8_tells 19 = .ok (.bastore, 1) := by decide +kernel
theorem dX8_tells_20 : decode cX8_tells 20 = .ok (.iinc 3 1, 3) := by decide +kernel
theorem dX8_tells_23 : decode cX8_tells 23 = .ok (.goto (-21), 3) := by decide +kernel
theorem dX8_tells_26 : decode cX8_tells 26 = .ok (.return_, 1) := by decide +kernel
theorem dX8_powers_0 : decode cX8_powers 0 = .ok (.aload_n 0, 1) := by decide +kernel
theorem dX8_powers_1 : decode cX8_powers 1 = .ok (.getfield 39, 3) := by decide +kernel
theorem dX8_powers_4 : decode cX8_powers 4 = .ok (.iconst 0, 1) := by decide +kernel
theorem dX8_powers_5 : decode cX8_powers 5 = .ok (.iconst 1, 1) := by decide +kernel
theorem dX8_powers_6 : decode cX8_powers 6 = .ok (.iastore, 1) := by decide +kernel
theorem dX8_powers_7 : decode cX8_powers 7 = .ok (.iconst 1, 1) := by decide +kernel
theorem dX8_powers_8 : decode cX8_powers 8 = .ok (.istore_n 1, 1) := by decide +kernel
theorem dX8_powers_9 : decode cX8_powers 9 = .ok (.iload_n 1, 1) := by decide +kernel
theorem dX8_powers_10 : decode cX8_powers 10 = .ok (.sipush 256, 3) := by decide +kernel
theorem dX8_powers_13 : decode cX8_powers 13 = .ok (.if_icmp .ge 30, 3) := by decide +kernel
theorem dX8_powers_16 : decode cX8_powers 16 = .ok (.aload_n 0, 1) := by decide +kernel
theorem dX8_powers_17 : decode cX8_powers 17 = .ok (.getfield 39, 3) := by decide +kernel
theorem dX8_powers_20 : decode cX8_powers 20 = .ok (.iload_n 1, 1) := by decide +kernel
theorem dX8_powers_21 : decode cX8_powers 21 = .ok (.bipush 17, 2) := by decide +kernel
theorem dX8_powers_23 : decode cX8_powers 23 = .ok (.aload_n 0, 1) := by decide +kernel
theorem dX8_powers_24 : decode cX8_powers 24 = .ok (.getfield 39, 3) := by decide +kernel
theorem dX8_powers_27 : decode cX8_powers 27 = .ok (.iload_n 1, 1) := by decide +kernel
theorem dX8_powers_28 : decode cX8_powers 28 = .ok (.iconst 1, 1) := by decide +kernel
theorem dX8_powers_29 : decode cX8_powers 29 = .ok (.isub, 1) := by decide +kernel
theorem dX8_powers_30 : decode cX8_powers 30 = .ok (.iaload, 1) := by decide +kernel
theorem dX8_powers_31 : decode cX8_powers 31 = .ok (.imul, 1) := by decide +kernel
theorem dX8_powers_32 : decode cX8_powers 32 = .ok (.sipush 3329, 3) := by decide +kernel
theorem dX8_powers_35 : decode cX8_powers 35 = .ok (.irem, 1) := by decide +kernel
theorem dX8_powers_36 : decode cX8_powers 36 = .ok (.iastore, 1) := by decide +kernel
theorem dX8_powers_37 : decode cX8_powers 37 = .ok (.iinc 1 1, 3) := by decide +kernel
theorem dX8_powers_40 : decode cX8_powers 40 = .ok (.goto (-31), 3) := by decide +kernel
theorem dX8_powers_43 : decode cX8_powers 43 = .ok (.iconst 0, 1) := by decide +kernel
theorem dX8_powers_44 : decode cX8_powers 44 = .ok (.istore_n 1, 1) := by decide +kernel
theorem dX8_powers_45 : decode cX8_powers 45 = .ok (.iload_n 1, 1) := by decide +kernel
theorem dX8_powers_46 : decode cX8_powers 46 = .ok (.sipush 128, 3) := by decide +kernel
theorem dX8_powers_49 : decode cX8_powers 49 = .ok (.if_icmp .ge 49, 3) := by decide +kernel
theorem dX8_powers_52 : decode cX8_powers 52 = .ok (.iconst 0, 1) := by decide +kernel
theorem dX8_powers_53 : decode cX8_powers 53 = .ok (.istore_n 2, 1) := by decide +kernel
theorem dX8_powers_54 : decode cX8_powers 54 = .ok (.iconst 0, 1) := by decide +kernel
theorem dX8_powers_55 : decode cX8_powers 55 = .ok (.istore_n 3, 1) := by decide +kernel
theorem dX8_powers_56 : decode cX8_powers 56 = .ok (.iload_n 3, 1) := by decide +kernel
theorem dX8_powers_57 : decode cX8_powers 57 = .ok (.bipush 7, 2) := by decide +kernel
theorem dX8_powers_59 : decode cX8_powers 59 = .ok (.if_icmp .ge 22, 3) := by decide +kernel
theorem dX8_powers_62 : decode cX8_powers 62 = .ok (.iload_n 2, 1) := by decide +kernel
theorem dX8_powers_63 : decode cX8_powers 63 = .ok (.iload_n 1, 1) := by decide +kernel
theorem dX8_powers_64 : decode cX8_powers 64 = .ok (.iload_n 3, 1) := by decide +kernel
theorem dX8_powers_65 : decode cX8_powers 65 = .ok (.ishr, 1) := by decide +kernel
theorem dX8_powers_66 : decode cX8_powers 66 = .ok (.iconst 1, 1) := by decide +kernel
theorem dX8_powers_67 : decode cX8_powers 67 = .ok (.iand, 1) := by decide +kernel
theorem dX8_powers_68 : decode cX8_powers 68 = .ok (.bipush 6, 2) := by decide +kernel
theorem dX8_powers_70 : decode cX8_powers 70 = .ok (.iload_n 3, 1) := by decide +kernel
theorem dX8_powers_71 : decode cX8_powers 71 = .ok (.isub, 1) := by decide +kernel
theorem dX8_powers_72 : decode cX8_powers 72 = .ok (.ishl, 1) := by decide +kernel
theorem dX8_powers_73 : decode cX8_powers 73 = .ok (.ior, 1) := by decide +kernel
theorem dX8_powers_74 : decode cX8_powers 74 = .ok (.istore_n 2, 1) := by decide +kernel
theorem dX8_powers_75 : decode cX8_powers 75 = .ok (.iinc 3 1, 3) := by decide +kernel
theorem dX8_powers_78 : decode cX8_powers 78 = .ok (.goto (-22), 3) := by decide +kernel
theorem dX8_powers_81 : decode cX8_powers 81 = .ok (.aload_n 0, 1) := by decide +kernel
theorem dX8_powers_82 : decode cX8_powers 82 = .ok (.getfield 42, 3) := by decide +kernel
theorem dX8_powers_85 : decode cX8_powers 85 = .ok (.iload_n 1, 1) := by decide +kernel
theorem dX8_powers_86 : decode cX8_powers 86 = .ok (.iconst 2, 1) := by decide +kernel
theorem dX8_powers_87 : decode cX8_powers 87 = .ok (.iload_n 2, 1) := by decide +kernel
theorem dX8_powers_88 : decode cX8_powers 88 = .ok (.imul, 1) := by decide +kernel
theorem dX8_powers_89 : decode cX8_powers 89 = .ok (.iconst 1, 1) := by decide +kernel
theorem dX8_powers_90 : decode cX8_powers 90 = .ok (.iadd, 1) := by decide +kernel
theorem dX8_powers_91 : decode cX8_powers 91 = .ok (.iastore, 1) := by decide +kernel
theorem dX8_powers_92 : decode cX8_powers 92 = .ok (.iinc 1 1, 3) := by decide +kernel
theorem dX8_powers_95 : decode cX8_powers 95 = .ok (.goto (-50), 3) := by decide +kernel
theorem dX8_powers_98 : decode cX8_powers 98 = .ok (.return_, 1) := by decide +kernel
theorem dX8_ring_0 : decode cX8_ring 0 = .ok (.lload_n 0, 1) := by decide +kernel
theorem dX8_ring_1 : decode cX8_ring 1 = .ok (.ldc2_w 85, 3) := by decide +kernel
theorem dX8_ring_4 : decode cX8_ring 4 = .ok (.lrem, 1) := by decide +kernel
theorem dX8_ring_5 : decode cX8_ring 5 = .ok (.l2i, 1) := by decide +kernel
theorem dX8_ring_6 : decode cX8_ring 6 = .ok (.istore_n 2, 1) := by decide +kernel
theorem dX8_ring_7 : decode cX8_ring 7 = .ok (.iload_n 2, 1) := by decide +kernel
theorem dX8_ring_8 : decode cX8_ring 8 = .ok (.ifCond .ge 11, 3) := by decide +kernel
theorem dX8_ring_11 : decode cX8_ring 11 = .ok (.iload_n 2, 1) := by decide +kernel
theorem dX8_ring_12 : decode cX8_ring 12 = .ok (.sipush 3329, 3) := by decide +kernel
theorem dX8_ring_15 : decode cX8_ring 15 = .ok (.iadd, 1) := by decide +kernel
theorem dX8_ring_16 : decode cX8_ring 16 = .ok (.goto 4, 3) := by decide +kernel
theorem dX8_ring_19 : decode cX8_ring 19 = .ok (.iload_n 2, 1) := by decide +kernel
theorem dX8_ring_20 : decode cX8_ring 20 = .ok (.ireturn, 1) := by decide +kernel
theorem dX8_copyPol_0 : decode cX8_copyPol 0 = .ok (.iconst 0, 1) := by decide +kernel
theorem dX8_copyPol_1 : decode cX8_copyPol 1 = .ok (.istore_n 3, 1) := by decide +kernel
theorem dX8_copyPol_2 : decode cX8_copyPol 2 = .ok (.iload_n 3, 1) := by decide +kernel
theorem dX8_copyPol_3 : decode cX8_copyPol 3 = .ok (.sipush 256, 3) := by decide +kernel
theorem dX8_copyPol_6 : decode cX8_copyPol 6 = .ok (.if_icmp .ge 33, 3) := by decide +kernel
theorem dX8_copyPol_9 : decode cX8_copyPol 9 = .ok (.aload_n 0, 1) := by decide +kernel
theorem dX8_copyPol_10 : decode cX8_copyPol 10 = .ok (.getfield 36, 3) := by decide +kernel
theorem dX8_copyPol_13 : decode cX8_copyPol 13 = .ok (.sipush 256, 3) := by decide +kernel
theorem dX8_copyPol_16 : decode cX8_copyPol 16 = .ok (.iload_n 2, 1) := by decide +kernel
theorem dX8_copyPol_17 : decode cX8_copyPol 17 = .ok (.imul, 1) := by decide +kernel
theorem dX8_copyPol_18 : decode cX8_copyPol 18 = .ok (.iload_n 3, 1) := by decide +kernel
theorem dX8_copyPol_19 : decode cX8_copyPol 19 = .ok (.iadd, 1) := by decide +kernel
theorem dX8_copyPol_20 : decode cX8_copyPol 20 = .ok (.aload_n 0, 1) := by decide +kernel
theorem dX8_copyPol_21 : decode cX8_copyPol 21 = .ok (.getfield 36, 3) := by decide +kernel
theorem dX8_copyPol_24 : decode cX8_copyPol 24 = .ok (.sipush 256, 3) := by decide +kernel
theorem dX8_copyPol_27 : decode cX8_copyPol 27 = .ok (.iload_n 1, 1) := by decide +kernel
theorem dX8_copyPol_28 : decode cX8_copyPol 28 = .ok (.imul, 1) := by decide +kernel
theorem dX8_copyPol_29 : decode cX8_copyPol 29 = .ok (.iload_n 3, 1) := by decide +kernel
theorem dX8_copyPol_30 : decode cX8_copyPol 30 = .ok (.iadd, 1) := by decide +kernel
theorem dX8_copyPol_31 : decode cX8_copyPol 31 = .ok (.iaload, 1) := by decide +kernel
theorem dX8_copyPol_32 : decode cX8_copyPol 32 = .ok (.iastore, 1) := by decide +kernel
theorem dX8_copyPol_33 : decode cX8_copyPol 33 = .ok (.iinc 3 1, 3) := by decide +kernel
theorem dX8_copyPol_36 : decode cX8_copyPol 36 = .ok (.goto (-34), 3) := by decide +kernel
theorem dX8_copyPol_39 : decode cX8_copyPol 39 = .ok (.return_, 1) := by decide +kernel
theorem dX8_zero_0 : decode cX8_zero 0 = .ok (.iconst 0, 1) := by decide +kernel
theorem dX8_zero_1 : decode cX8_zero 1 = .ok (.istore_n 2, 1) := by decide +kernel
theorem dX8_zero_2 : decode cX8_zero 2 = .ok (.iload_n 2, 1) := by decide +kernel
theorem dX8_zero_3 : decode cX8_zero 3 = .ok (.sipush 256, 3) := by decide +kernel
theorem dX8_zero_6 : decode cX8_zero 6 = .ok (.if_icmp .ge 22, 3) := by decide +kernel
theorem dX8_zero_9 : decode cX8_zero 9 = .ok (.aload_n 0, 1) := by decide +kernel
theorem dX8_zero_10 : decode cX8_zero 10 = .ok (.getfield 36, 3) := by decide +kernel
theorem dX8_zero_13 : decode cX8_zero 13 = .ok (.sipush 256, 3) := by decide +kernel
theorem dX8_zero_16 : decode cX8_zero 16 = .ok (.iload_n 1, 1) := by decide +kernel
theorem dX8_zero_17 : decode cX8_zero 17 = .ok (.imul, 1) := by decide +kernel
theorem dX8_zero_18 : decode cX8_zero 18 = .ok (.iload_n 2, 1) := by decide +kernel
theorem dX8_zero_19 : decode cX8_zero 19 = .ok (.iadd, 1) := by decide +kernel
theorem dX8_zero_20 : decode cX8_zero 20 = .ok (.iconst 0, 1) := by decide +kernel
theorem dX8_zero_21 : decode cX8_zero 21 = .ok (.iastore, 1) := by decide +kernel
theorem dX8_zero_22 : decode cX8_zero 22 = .ok (.iinc 2 1, 3) := by decide +kernel
theorem dX8_zero_25 : decode cX8_zero 25 = .ok (.goto (-23), 3) := by decide +kernel
theorem dX8_zero_28 : decode cX8_zero 28 = .ok (.return_, 1) := by decide +kernel
theorem dX8_bringForward_0 : decode cX8_bringForward 0 = .ok (.aload_n 0, 1) := by decide +kernel
theorem dX8_bringForward_1 : decode cX8_bringForward 1 = .ok (.iload_n 1, 1) := by decide +kernel
theorem dX8_bringForward_2 : decode cX8_bringForward 2 = .ok (.bipush 18, 2) := by decide +kernel
theorem dX8_bringForward_4 : decode cX8_bringForward 4 = .ok (.invokevirtual 87, 3) := by decide +kernel
theorem dX8_bringForward_7 : decode cX8_bringForward 7 = .ok (.iconst 0, 1) := by decide +kernel
theorem dX8_bringForward_8 : decode cX8_bringForward 8 = .ok (.istore_n 2, 1) := by decide +kernel
theorem dX8_bringForward_9 : decode cX8_bringForward 9 = .ok (.iload_n 2, 1) := by decide +kernel
theorem dX8_bringForward_10 : decode cX8_bringForward 10 = .ok (.sipush 128, 3) := by decide +kernel
theorem dX8_bringForward_13 : decode cX8_bringForward 13 = .ok (.if_icmp .ge 135, 3) := by decide +kernel
theorem dX8_bringForward_16 : decode cX8_bringForward 16 = .ok (.lconst 0, 1) := by decide +kernel
theorem dX8_bringForward_17 : decode cX8_bringForward 17 = .ok (.lstore_n 3, 1) := by decide +kernel
theorem dX8_bringForward_18 : decode cX8_bringForward 18 = .ok (.lconst 0, 1) := by decide +kernel
theorem dX8_bringForward_19 : decode cX8_bringForward 19 = .ok (.lstore 5, 2) := by decide +kernel
theorem dX8_bringForward_21 : decode cX8_bringForward 21 = .ok (.iconst 0, 1) := by decide +kernel
theorem dX8_bringForward_22 : decode cX8_bringForward 22 = .ok (.istore 7, 2) := by decide +kernel
theorem dX8_bringForward_24 : decode cX8_bringForward 24 = .ok (.iload 7, 2) := by decide +kernel
theorem dX8_bringForward_26 : decode cX8_bringForward 26 = .ok (.sipush 128, 3) := by decide +kernel
theorem dX8_bringForward_29 : decode cX8_bringForward 29 = .ok (.if_icmp .ge 74, 3) := by decide +kernel
theorem dX8_bringForward_32 : decode cX8_bringForward 32 = .ok (.aload_n 0, 1) := by decide +kernel
theorem dX8_bringForward_33 : decode cX8_bringForward 33 = .ok (.getfield 39, 3) := by decide +kernel
theorem dX8_bringForward_36 : decode cX8_bringForward 36 = .ok (.aload_n 0, 1) := by decide +kernel
theorem dX8_bringForward_37 : decode cX8_bringForward 37 = .ok (.getfield 42, 3) := by decide +kernel
theorem dX8_bringForward_40 : decode cX8_bringForward 40 = .ok (.iload_n 2, 1) := by decide +kernel
theorem dX8_bringForward_41 : decode cX8_bringForward 41 = .ok (.iaload, 1) := by decide +kernel
theorem dX8_bringForward_42 : decode cX8_bringForward 42 = .ok (.iload 7, 2) := by decide +kernel
theorem dX8_bringForward_44 : decode cX8_bringForward 44 = .ok (.imul, 1) := by decide +kernel
theorem dX8_bringForward_45 : decode cX8_bringForward 45 = .ok (.sipush 256, 3) := by decide +kernel
theorem dX8_bringForward_48 : decode cX8_bringForward 48 = .ok (.irem, 1) := by decide +kernel
theorem dX8_bringForward_49 : decode cX8_bringForward 49 = .ok (.iaload, 1) := by decide +kernel
theorem dX8_bringForward_50 : decode cX8_bringForward 50 = .ok (.i2l, 1) := by decide +kernel
theorem dX8_bringForward_51 : decode cX8_bringForward 51 = .ok (.lstore 8, 2) := by decide +kernel
theorem dX8_bringForward_53 : decode cX8_bringForward 53 = .ok (.lload_n 3, 1) := by decide +kernel
theorem dX8_bringForward_54 : decode cX8_bringForward 54 = .ok (.lload 8, 2) := by decide +kernel
theorem dX8_bringForward_56 : decode cX8_bringForward 56 = .ok (.aload_n 0, 1) := by decide +kernel
theorem dX8_bringForward_57 : decode cX8_bringForward 57 = .ok (.getfield 36, 3) := by decide +kernel
theorem dX8_bringForward_60 : decode cX8_bringForward 60 = .ok (.sipush 4608, 3) := by decide +kernel
theorem dX8_bringForward_63 : decode cX8_bringForward 63 = .ok (.iconst 2, 1) := by decide +kernel
theorem dX8_bringForward_64 : decode cX8_bringForward 64 = .ok (.iload 7, 2) := by decide +kernel
theorem dX8_bringForward_66 : decode cX8_bringForward 66 = .ok (.imul, 1) := by decide +kernel
theorem dX8_bringForward_67 : decode cX8_bringForward 67 = .ok (.iadd, 1) := by decide +kernel
theorem dX8_bringForward_68 : decode cX8_bringForward 68 = .ok (.iaload, 1) := by decide +kernel
theorem dX8_bringForward_69 : decode cX8_bringForward 69 = .ok (.i2l, 1) := by decide +kernel
theorem dX8_bringForward_70 : decode cX8_bringForward 70 = .ok (.lmul, 1) := by decide +kernel
theorem dX8_bringForward_71 : decode cX8_bringForward 71 = .ok (.ladd, 1) := by decide +kernel
theorem dX8_bringForward_72 : decode cX8_bringForward 72 = .ok (.lstore_n 3, 1) := by decide +kernel
theorem dX8_bringForward_73 : decode cX8_bringForward 73 = .ok (.lload 5, 2) := by decide +kernel
theorem dX8_bringForward_75 : decode cX8_bringForward 75 = .ok (.lload 8, 2) := by decide +kernel
theorem dX8_bringForward_77 : decode cX8_bringForward 77 = .ok (.aload_n 0, 1) := by decide +kernel
theorem dX8_bringForward_78 : decode cX8_bringForward 78 = .ok (.getfield 36, 3) := by decide +kernel
theorem dX8_bringForward_81 : decode cX8_bringForward 81 = .ok (.sipush 4608, 3) := by decide +kernel
theorem dX8_bringForward_84 : decode cX8_bringForward 84 = .ok (.iconst 2, 1) := by decide +kernel
theorem dX8_bringForward_85 : decode cX8_bringForward 85 = .ok (.iload 7, 2) := by decide +kernel
theorem dX8_bringForward_87 : decode cX8_bringForward 87 = .ok (.imul, 1) := by decide +kernel
theorem dX8_bringForward_88 : decode cX8_bringForward 88 = .ok (.iadd, 1) := by decide +kernel
theorem dX8_bringForward_89 : decode cX8_bringForward 89 = .ok (.iconst 1, 1) := by decide +kernel
theorem dX8_bringForward_90 : decode cX8_bringForward 90 = .ok (.iadd, 1) := by decide +kernel
theorem dX8_bringForward_91 : decode cX8_bringForward 91 = .ok (.iaload, 1) := by decide +kernel
theorem dX8_bringForward_92 : decode cX8_bringForward 92 = .ok (.i2l, 1) := by decide +kernel
theorem dX8_bringForward_93 : decode cX8_bringForward 93 = .ok (.lmul, 1) := by decide +kernel
theorem dX8_bringForward_94 : decode cX8_bringForward 94 = .ok (.ladd, 1) := by decide +kernel
theorem dX8_bringForward_95 : decode cX8_bringForward 95 = .ok (.lstore 5, 2) := by decide +kernel
theorem dX8_bringForward_97 : decode cX8_bringForward 97 = .ok (.iinc 7 1, 3) := by decide +kernel
theorem dX8_bringForward_100 : decode cX8_bringForward 100 = .ok (.goto (-76), 3) := by decide +kernel
theorem dX8_bringForward_103 : decode cX8_bringForward 103 = .ok (.aload_n 0, 1) := by decide +kernel
theorem dX8_bringForward_104 : decode cX8_bringForward 104 = .ok (.getfield 36, 3) := by decide +kernel
theorem dX8_bringForward_107 : decode cX8_bringForward 107 = .ok (.sipush 256, 3) := by decide +kernel
theorem dX8_bringForward_110 : decode cX8_bringForward 110 = .ok (.iload_n 1, 1) := by decide +kernel
theorem dX8_bringForward_111 : decode cX8_bringForward 111 = .ok (.imul, 1) := by decide +kernel
theorem dX8_bringForward_112 : decode cX8_bringForward 112 = .ok (.iconst 2, 1) := by decide +kernel
theorem dX8_bringForward_113 : decode cX8_bringForward 113 = .ok (.iload_n 2, 1) := by decide +kernel
theorem dX8_bringForward_114 : decode cX8_bringForward 114 = .ok (.imul, 1) := by decide +kernel
theorem dX8_bringForward_115 : decode cX8_bringForward 115 = .ok (.iadd, 1) := by decide +kernel
theorem dX8_bringForward_116 : decode cX8_bringForward 116 = .ok (.lload_n 3, 1) := by decide +kernel
theorem dX8_bringForward_117 : decode cX8_bringForward 117 = .ok (.invokestatic 91, 3) := by decide +kernel
theorem dX8_bringForward_120 : decode cX8_bringForward 120 = .ok (.iastore, 1) := by decide +kernel
theorem dX8_bringForward_121 : decode cX8_bringForward 121 = .ok (.aload_n 0, 1) := by decide +kernel
theorem dX8_bringForward_122 : decode cX8_bringForward 122 = .ok (.getfield 36, 3) := by decide +kernel
theorem dX8_bringForward_125 : decode cX8_bringForward 125 = .ok (.sipush 256, 3) := by decide +kernel
theorem dX8_bringForward_128 : decode cX8_bringForward 128 = .ok (.iload_n 1, 1) := by decide +kernel
theorem dX8_bringForward_129 : decode cX8_bringForward 129 = .ok (.imul, 1) := by decide +kernel
theorem dX8_bringForward_130 : decode cX8_bringForward 130 = .ok (.iconst 2, 1) := by decide +kernel
theorem dX8_bringForward_131 : decode cX8_bringForward 131 = .ok (.iload_n 2, 1) := by decide +kernel
theorem dX8_bringForward_132 : decode cX8_bringForward 132 = .ok (.imul, 1) := by decide +kernel
theorem dX8_bringForward_133 : decode cX8_bringForward 133 = .ok (.iadd, 1) := by decide +kernel
theorem dX8_bringForward_134 : decode cX8_bringForward 134 = .ok (.iconst 1, 1) := by decide +kernel
theorem dX8_bringForward_135 : decode cX8_bringForward 135 = .ok (.iadd, 1) := by decide +kernel
theorem dX8_bringForward_136 : decode cX8_bringForward 136 = .ok (.lload 5, 2) := by decide +kernel
theorem dX8_bringForward_138 : decode cX8_bringForward 138 = .ok (.invokestatic 91, 3) := by decide +kernel
theorem dX8_bringForward_141 : decode cX8_bringForward 141 = .ok (.iastore, 1) := by decide +kernel
theorem dX8_bringForward_142 : decode cX8_bringForward 142 = .ok (.iinc 2 1, 3) := by decide +kernel
theorem dX8_bringForward_145 : decode cX8_bringForward 145 = .ok (.goto (-136), 3) := by decide +kernel
theorem dX8_bringForward_148 : decode cX8_bringForward 148 = .ok (.return_, 1) := by decide +kernel
theorem dX8_bringBack_0 : decode cX8_bringBack 0 = .ok (.aload_n 0, 1) := by decide +kernel
theorem dX8_bringBack_1 : decode cX8_bringBack 1 = .ok (.iload_n 1, 1) := by decide +kernel
theorem dX8_bringBack_2 : decode cX8_bringBack 2 = .ok (.bipush 18, 2) := by decide +kernel
theorem dX8_bringBack_4 : decode cX8_bringBack 4 = .ok (.invokevirtual 87, 3) := by decide +kernel
theorem dX8_bringBack_7 : decode cX8_bringBack 7 = .ok (.iconst 0, 1) := by decide +kernel
theorem dX8_bringBack_8 : decode cX8_bringBack 8 = .ok (.istore_n 2, 1) := by decide +kernel
theorem dX8_bringBack_9 : decode cX8_bringBack 9 = .ok (.iload_n 2, 1) := by decide +kernel
theorem dX8_bringBack_10 : decode cX8_bringBack 10 = .ok (.sipush 128, 3) := by decide +kernel
theorem dX8_bringBack_13 : decode cX8_bringBack 13 = .ok (.if_icmp .ge 159, 3) := by decide +kernel
theorem dX8_bringBack_16 : decode cX8_bringBack 16 = .ok (.lconst 0, 1) := by decide +kernel
theorem dX8_bringBack_17 : decode cX8_bringBack 17 = .ok (.lstore_n 3, 1) := by decide +kernel
theorem dX8_bringBack_18 : decode cX8_bringBack 18 = .ok (.lconst 0, 1) := by decide +kernel
theorem dX8_bringBack_19 : decode cX8_bringBack 19 = .ok (.lstore 5, 2) := by decide +kernel
theorem dX8_bringBack_21 : decode cX8_bringBack 21 = .ok (.iconst 0, 1) := by decide +kernel
theorem dX8_bringBack_22 : decode cX8_bringBack 22 = .ok (.istore 7, 2) := by decide +kernel
theorem dX8_bringBack_24 : decode cX8_bringBack 24 = .ok (.iload 7, 2) := by decide +kernel
theorem dX8_bringBack_26 : decode cX8_bringBack 26 = .ok (.sipush 128, 3) := by decide +kernel
theorem dX8_bringBack_29 : decode cX8_bringBack 29 = .ok (.if_icmp .ge 82, 3) := by decide +kernel
theorem dX8_bringBack_32 : decode cX8_bringBack 32 = .ok (.aload_n 0, 1) := by decide +kernel
theorem dX8_bringBack_33 : decode cX8_bringBack 33 = .ok (.getfield 39, 3) := by decide +kernel
theorem dX8_bringBack_36 : decode cX8_bringBack 36 = .ok (.sipush 256, 3) := by decide +kernel
theorem dX8_bringBack_39 : decode cX8_bringBack 39 = .ok (.aload_n 0, 1) := by decide +kernel
theorem dX8_bringBack_40 : decode cX8_bringBack 40 = .ok (.getfield 42, 3) := by decide +kernel
theorem dX8_bringBack_43 : decode cX8_bringBack 43 = .ok (.iload 7, 2) := by decide +kernel
theorem dX8_bringBack_45 : decode cX8_bringBack 45 = .ok (.iaload, 1) := by decide +kernel
theorem dX8_bringBack_46 : decode cX8_bringBack 46 = .ok (.iload_n 2, 1) := by decide +kernel
theorem dX8_bringBack_47 : decode cX8_bringBack 47 = .ok (.imul, 1) := by decide +kernel
theorem dX8_bringBack_48 : decode cX8_bringBack 48 = .ok (.sipush 256, 3) := by decide +kernel
theorem dX8_bringBack_51 : decode cX8_bringBack 51 = .ok (.irem, 1) := by decide +kernel
theorem dX8_bringBack_52 : decode cX8_bringBack 52 = .ok (.isub, 1) := by decide +kernel
theorem dX8_bringBack_53 : decode cX8_bringBack 53 = .ok (.sipush 256, 3) := by decide +kernel
theorem dX8_bringBack_56 : decode cX8_bringBack 56 = .ok (.irem, 1) := by decide +kernel
theorem dX8_bringBack_57 : decode cX8_bringBack 57 = .ok (.iaload, 1) := by decide +kernel
theorem dX8_bringBack_58 : decode cX8_bringBack 58 = .ok (.i2l, 1) := by decide +kernel
theorem dX8_bringBack_59 : decode cX8_bringBack 59 = .ok (.lstore 8, 2) := by decide +kernel
theorem dX8_bringBack_61 : decode cX8_bringBack 61 = .ok (.lload_n 3, 1) := by decide +kernel
theorem dX8_bringBack_62 : decode cX8_bringBack 62 = .ok (.lload 8, 2) := by decide +kernel
theorem dX8_bringBack_64 : decode cX8_bringBack 64 = .ok (.aload_n 0, 1) := by decide +kernel
theorem dX8_bringBack_65 : decode cX8_bringBack 65 = .ok (.getfield 36, 3) := by decide +kernel
theorem dX8_bringBack_68 : decode cX8_bringBack 68 = .ok (.sipush 4608, 3) := by decide +kernel
theorem dX8_bringBack_71 : decode cX8_bringBack 71 = .ok (.iconst 2, 1) := by decide +kernel
theorem dX8_bringBack_72 : decode cX8_bringBack 72 = .ok (.iload 7, 2) := by decide +kernel
theorem dX8_bringBack_74 : decode cX8_bringBack 74 = .ok (.imul, 1) := by decide +kernel
theorem dX8_bringBack_75 : decode cX8_bringBack 75 = .ok (.iadd, 1) := by decide +kernel
theorem dX8_bringBack_76 : decode cX8_bringBack 76 = .ok (.iaload, 1) := by decide +kernel
theorem dX8_bringBack_77 : decode cX8_bringBack 77 = .ok (.i2l, 1) := by decide +kernel
theorem dX8_bringBack_78 : decode cX8_bringBack 78 = .ok (.lmul, 1) := by decide +kernel
theorem dX8_bringBack_79 : decode cX8_bringBack 79 = .ok (.ladd, 1) := by decide +kernel
theorem dX8_bringBack_80 : decode cX8_bringBack 80 = .ok (.lstore_n 3, 1) := by decide +kernel
theorem dX8_bringBack_81 : decode cX8_bringBack 81 = .ok (.lload 5, 2) := by decide +kernel
theorem dX8_bringBack_83 : decode cX8_bringBack 83 = .ok (.lload 8, 2) := by decide +kernel
theorem dX8_bringBack_85 : decode cX8_bringBack 85 = .ok (.aload_n 0, 1) := by decide +kernel
theorem dX8_bringBack_86 : decode cX8_bringBack 86 = .ok (.getfield 36, 3) := by decide +kernel
theorem dX8_bringBack_89 : decode cX8_bringBack 89 = .ok (.sipush 4608, 3) := by decide +kernel
theorem dX8_bringBack_92 : decode cX8_bringBack 92 = .ok (.iconst 2, 1) := by decide +kernel
theorem dX8_bringBack_93 : decode cX8_bringBack 93 = .ok (.iload 7, 2) := by decide +kernel
theorem dX8_bringBack_95 : decode cX8_bringBack 95 = .ok (.imul, 1) := by decide +kernel
theorem dX8_bringBack_96 : decode cX8_bringBack 96 = .ok (.iadd, 1) := by decide +kernel
theorem dX8_bringBack_97 : decode cX8_bringBack 97 = .ok (.iconst 1, 1) := by decide +kernel
theorem dX8_bringBack_98 : decode cX8_bringBack 98 = .ok (.iadd, 1) := by decide +kernel
theorem dX8_bringBack_99 : decode cX8_bringBack 99 = .ok (.iaload, 1) := by decide +kernel
theorem dX8_bringBack_100 : decode cX8_bringBack 100 = .ok (.i2l, 1) := by decide +kernel
theorem dX8_bringBack_101 : decode cX8_bringBack 101 = .ok (.lmul, 1) := by decide +kernel
theorem dX8_bringBack_102 : decode cX8_bringBack 102 = .ok (.ladd, 1) := by decide +kernel
theorem dX8_bringBack_103 : decode cX8_bringBack 103 = .ok (.lstore 5, 2) := by decide +kernel
theorem dX8_bringBack_105 : decode cX8_bringBack 105 = .ok (.iinc 7 1, 3) := by decide +kernel
theorem dX8_bringBack_108 : decode cX8_bringBack 108 = .ok (.goto (-84), 3) := by decide +kernel
theorem dX8_bringBack_111 : decode cX8_bringBack 111 = .ok (.aload_n 0, 1) := by decide +kernel
theorem dX8_bringBack_112 : decode cX8_bringBack 112 = .ok (.getfield 36, 3) := by decide +kernel
theorem dX8_bringBack_115 : decode cX8_bringBack 115 = .ok (.sipush 256, 3) := by decide +kernel
theorem dX8_bringBack_118 : decode cX8_bringBack 118 = .ok (.iload_n 1, 1) := by decide +kernel
theorem dX8_bringBack_119 : decode cX8_bringBack 119 = .ok (.imul, 1) := by decide +kernel
theorem dX8_bringBack_120 : decode cX8_bringBack 120 = .ok (.iconst 2, 1) := by decide +kernel
theorem dX8_bringBack_121 : decode cX8_bringBack 121 = .ok (.iload_n 2, 1) := by decide +kernel
theorem dX8_bringBack_122 : decode cX8_bringBack 122 = .ok (.imul, 1) := by decide +kernel
theorem dX8_bringBack_123 : decode cX8_bringBack 123 = .ok (.iadd, 1) := by decide +kernel
theorem dX8_bringBack_124 : decode cX8_bringBack 124 = .ok (.ldc2_w 95, 3) := by decide +kernel
theorem dX8_bringBack_127 : decode cX8_bringBack 127 = .ok (.lload_n 3, 1) := by decide +kernel
theorem dX8_bringBack_128 : decode cX8_bringBack 128 = .ok (.invokestatic 91, 3) := by decide +kernel
theorem dX8_bringBack_131 : decode cX8_bringBack 131 = .ok (.i2l, 1) := by decide +kernel
theorem dX8_bringBack_132 : decode cX8_bringBack 132 = .ok (.lmul, 1) := by decide +kernel
theorem dX8_bringBack_133 : decode cX8_bringBack 133 = .ok (.invokestatic 91, 3) := by decide +kernel
theorem dX8_bringBack_136 : decode cX8_bringBack 136 = .ok (.iastore, 1) := by decide +kernel
theorem dX8_bringBack_137 : decode cX8_bringBack 137 = .ok (.aload_n 0, 1) := by decide +kernel
theorem dX8_bringBack_138 : decode cX8_bringBack 138 = .ok (.getfield 36, 3) := by decide +kernel
theorem dX8_bringBack_141 : decode cX8_bringBack 141 = .ok (.sipush 256, 3) := by decide +kernel
theorem dX8_bringBack_144 : decode cX8_bringBack 144 = .ok (.iload_n 1, 1) := by decide +kernel
theorem dX8_bringBack_145 : decode cX8_bringBack 145 = .ok (.imul, 1) := by decide +kernel
theorem dX8_bringBack_146 : decode cX8_bringBack 146 = .ok (.iconst 2, 1) := by decide +kernel
theorem dX8_bringBack_147 : decode cX8_bringBack 147 = .ok (.iload_n 2, 1) := by decide +kernel
theorem dX8_bringBack_148 : decode cX8_bringBack 148 = .ok (.imul, 1) := by decide +kernel
theorem dX8_bringBack_149 : decode cX8_bringBack 149 = .ok (.iadd, 1) := by decide +kernel
theorem dX8_bringBack_150 : decode cX8_bringBack 150 = .ok (.iconst 1, 1) := by decide +kernel
theorem dX8_bringBack_151 : decode cX8_bringBack 151 = .ok (.iadd, 1) := by decide +kernel
theorem dX8_bringBack_152 : decode cX8_bringBack 152 = .ok (.ldc2_w 95, 3) := by decide +kernel
theorem dX8_bringBack_155 : decode cX8_bringBack 155 = .ok (.lload 5, 2) := by decide +kernel
theorem dX8_bringBack_157 : decode cX8_bringBack 157 = .ok (.invokestatic 91, 3) := by decide +kernel
theorem dX8_bringBack_160 : decode cX8_bringBack 160 = .ok (.i2l, 1) := by decide +kernel
theorem dX8_bringBack_161 : decode cX8_bringBack 161 = .ok (.lmul, 1) := by decide +kernel
theorem dX8_bringBack_162 : decode cX8_bringBack 162 = .ok (.invokestatic 91, 3) := by decide +kernel
theorem dX8_bringBack_165 : decode cX8_bringBack 165 = .ok (.iastore, 1) := by decide +kernel
theorem dX8_bringBack_166 : decode cX8_bringBack 166 = .ok (.iinc 2 1, 3) := by decide +kernel
theorem dX8_bringBack_169 : decode cX8_bringBack 169 = .ok (.goto (-160), 3) := by decide +kernel
theorem dX8_bringBack_172 : decode cX8_bringBack 172 = .ok (.return_, 1) := by decide +kernel
theorem dX8_product_0 : decode cX8_product 0 = .ok (.iconst 0, 1) := by decide +kernel
theorem dX8_product_1 : decode cX8_product 1 = .ok (.istore 5, 2) := by decide +kernel
theorem dX8_product_3 : decode cX8_product 3 = .ok (.iload 5, 2) := by decide +kernel
theorem dX8_product_5 : decode cX8_product 5 = .ok (.sipush 128, 3) := by decide +kernel
theorem dX8_product_8 : decode cX8_product 8 = .ok (.if_icmp .ge 229, 3) := by decide +kernel
theorem dX8_product_11 : decode cX8_product 11 = .ok (.aload_n 0, 1) := by decide +kernel
theorem dX8_product_12 : decode cX8_product 12 = .ok (.getfield 36, 3) := by decide +kernel
theorem dX8_product_15 : decode cX8_product 15 = .ok (.sipush 256, 3) := by decide +kernel
theorem dX8_product_18 : decode cX8_product 18 = .ok (.iload_n 1, 1) := by decide +kernel
theorem dX8_product_19 : decode cX8_product 19 = .ok (.imul, 1) := by decide +kernel
theorem dX8_product_20 : decode cX8_product 20 = .ok (.iconst 2, 1) := by decide +kernel
theorem dX8_product_21 : decode cX8_product 21 = .ok (.iload 5, 2) := by decide +kernel
theorem dX8_product_23 : decode cX8_product 23 = .ok (.imul, 1) := by decide +kernel
theorem dX8_product_24 : decode cX8_product 24 = .ok (.iadd, 1) := by decide +kernel
theorem dX8_product_25 : decode cX8_product 25 = .ok (.iaload, 1) := by decide +kernel
theorem dX8_product_26 : decode cX8_product 26 = .ok (.i2l, 1) := by decide +kernel
theorem dX8_product_27 : decode cX8_product 27 = .ok (.lstore 6, 2) := by decide +kernel
theorem dX8_product_29 : decode cX8_product 29 = .ok (.aload_n 0, 1) := by decide +kernel
theorem dX8_product_30 : decode cX8_product 30 = .ok (.getfield 36, 3) := by decide +kernel
theorem dX8_product_33 : decode cX8_product 33 = .ok (.sipush 256, 3) := by decide +kernel
theorem dX8_product_36 : decode cX8_product 36 = .ok (.iload_n 1, 1) := by decide +kernel
theorem dX8_product_37 : decode cX8_product 37 = .ok (.imul, 1) := by decide +kernel
theorem dX8_product_38 : decode cX8_product 38 = .ok (.iconst 2, 1) := by decide +kernel
theorem dX8_product_39 : decode cX8_product 39 = .ok (.iload 5, 2) := by decide +kernel
theorem dX8_product_41 : decode cX8_product 41 = .ok (.imul, 1) := by decide +kernel
theorem dX8_product_42 : decode cX8_product 42 = .ok (.iadd, 1) := by decide +kernel
theorem dX8_product_43 : decode cX8_product 43 = .ok (.iconst 1, 1) := by decide +kernel
theorem dX8_product_44 : decode cX8_product 44 = .ok (.iadd, 1) := by decide +kernel
theorem dX8_product_45 : decode cX8_product 45 = .ok (.iaload, 1) := by decide +kernel
theorem dX8_product_46 : decode cX8_product 46 = .ok (.i2l, 1) := by decide +kernel
theorem dX8_product_47 : decode cX8_product 47 = .ok (.lstore 8, 2) := by decide +kernel
theorem dX8_product_49 : decode cX8_product 49 = .ok (.aload_n 0, 1) := by decide +kernel
theorem dX8_product_50 : decode cX8_product 50 = .ok (.getfield 36, 3) := by decide +kernel
theorem dX8_product_53 : decode cX8_product 53 = .ok (.sipush 256, 3) := by decide +kernel
theorem dX8_product_56 : decode cX8_product 56 = .ok (.iload_n 2, 1) := by decide +kernel
theorem dX8_product_57 : decode cX8_product 57 = .ok (.imul, 1) := by decide +kernel
theorem dX8_product_58 : decode cX8_product 58 = .ok (.iconst 2, 1) := by decide +kernel
theorem dX8_product_59 : decode cX8_product 59 = .ok (.iload 5, 2) := by decide +kernel
theorem dX8_product_61 : decode cX8_product 61 = .ok (.imul, 1) := by decide +kernel
theorem dX8_product_62 : decode cX8_product 62 = .ok (.iadd, 1) := by decide +kernel
theorem dX8_product_63 : decode cX8_product 63 = .ok (.iaload, 1) := by decide +kernel
theorem dX8_product_64 : decode cX8_product 64 = .ok (.i2l, 1) := by decide +kernel
theorem dX8_product_65 : decode cX8_product 65 = .ok (.lstore 10, 2) := by decide +kernel
theorem dX8_product_67 : decode cX8_product 67 = .ok (.aload_n 0, 1) := by decide +kernel
theorem dX8_product_68 : decode cX8_product 68 = .ok (.getfield 36, 3) := by decide +kernel
theorem dX8_product_71 : decode cX8_product 71 = .ok (.sipush 256, 3) := by decide +kernel
theorem dX8_product_74 : decode cX8_product 74 = .ok (.iload_n 2, 1) := by decide +kernel
theorem dX8_product_75 : decode cX8_product 75 = .ok (.imul, 1) := by decide +kernel
theorem dX8_product_76 : decode cX8_product 76 = .ok (.iconst 2, 1) := by decide +kernel
theorem dX8_product_77 : decode cX8_product 77 = .ok (.iload 5, 2) := by decide +kernel
theorem dX8_product_79 : decode cX8_product 79 = .ok (.imul, 1) := by decide +kernel
theorem dX8_product_80 : decode cX8_product 80 = .ok (.iadd, 1) := by decide +kernel
theorem dX8_product_81 : decode cX8_product 81 = .ok (.iconst 1, 1) := by decide +kernel
theorem dX8_product_82 : decode cX8_product 82 = .ok (.iadd, 1) := by decide +kernel
theorem dX8_product_83 : decode cX8_product 83 = .ok (.iaload, 1) := by decide +kernel
theorem dX8_product_84 : decode cX8_product 84 = .ok (.i2l, 1) := by decide +kernel
theorem dX8_product_85 : decode cX8_product 85 = .ok (.lstore 12, 2) := by decide +kernel
theorem dX8_product_87 : decode cX8_product 87 = .ok (.lload 6, 2) := by decide +kernel
theorem dX8_product_89 : decode cX8_product 89 = .ok (.lload 10, 2) := by decide +kernel
theorem dX8_product_91 : decode cX8_product 91 = .ok (.lmul, 1) := by decide +kernel
theorem dX8_product_92 : decode cX8_product 92 = .ok (.lload 8, 2) := by decide +kernel
theorem dX8_product_94 : decode cX8_product 94 = .ok (.lload 12, 2) := by decide +kernel
theorem dX8_product_96 : decode cX8_product 96 = .ok (.lmul, 1) := by decide +kernel
theorem dX8_product_97 : decode cX8_product 97 = .ok (.ldc2_w 85, 3) := by decide +kernel
theorem dX8_product_100 : decode cX8_product 100 = .ok (.lrem, 1) := by decide +kernel
theorem dX8_product_101 : decode cX8_product 101 = .ok (.aload_n 0, 1) := by decide +kernel
theorem dX8_product_102 : decode cX8_product 102 = .ok (.getfield 39, 3) := by decide +kernel
theorem dX8_product_105 : decode cX8_product 105 = .ok (.aload_n 0, 1) := by decide +kernel
theorem dX8_product_106 : decode cX8_product 106 = .ok (.getfield 42, 3) := by decide +kernel
theorem dX8_product_109 : decode cX8_product 109 = .ok (.iload 5, 2) := by decide +kernel
theorem dX8_product_111 : decode cX8_product 111 = .ok (.iaload, 1) := by decide +kernel
theorem dX8_product_112 : decode cX8_product 112 = .ok (.sipush 256, 3) := by decide +kernel
theorem dX8_product_115 : decode cX8_product 115 = .ok (.irem, 1) := by decide +kernel
theorem dX8_product_116 : decode cX8_product 116 = .ok (.iaload, 1) := by decide +kernel
theorem dX8_product_117 : decode cX8_product 117 = .ok (.i2l, 1) := by decide +kernel
theorem dX8_product_118 : decode cX8_product 118 = .ok (.lmul, 1) := by decide +kernel
theorem dX8_product_119 : decode cX8_product 119 = .ok (.ladd, 1) := by decide +kernel
theorem dX8_product_120 : decode cX8_product 120 = .ok (.lstore 14, 2) := by decide +kernel
theorem dX8_product_122 : decode cX8_product 122 = .ok (.lload 6, 2) := by decide +kernel
theorem dX8_product_124 : decode cX8_product 124 = .ok (.lload 12, 2) := by decide +kernel
theorem dX8_product_126 : decode cX8_product 126 = .ok (.lmul, 1) := by decide +kernel
theorem dX8_product_127 : decode cX8_product 127 = .ok (.lload 8, 2) := by decide +kernel
theorem dX8_product_129 : decode cX8_product 129 = .ok (.lload 10, 2) := by decide +kernel
theorem dX8_product_131 : decode cX8_product 131 = .ok (.lmul, 1) := by decide +kernel
theorem dX8_product_132 : decode cX8_product 132 = .ok (.ladd, 1) := by decide +kernel
theorem dX8_product_133 : decode cX8_product 133 = .ok (.lstore 16, 2) := by decide +kernel
theorem dX8_product_135 : decode cX8_product 135 = .ok (.aload_n 0, 1) := by decide +kernel
theorem dX8_product_136 : decode cX8_product 136 = .ok (.getfield 36, 3) := by decide +kernel
theorem dX8_product_139 : decode cX8_product 139 = .ok (.sipush 256, 3) := by decide +kernel
theorem dX8_product_142 : decode cX8_product 142 = .ok (.iload_n 3, 1) := by decide +kernel
theorem dX8_product_143 : decode cX8_product 143 = .ok (.imul, 1) := by decide +kernel
theorem dX8_product_144 : decode cX8_product 144 = .ok (.iconst 2, 1) := by decide +kernel
theorem dX8_product_145 : decode cX8_product 145 = .ok (.iload 5, 2) := by decide +kernel
theorem dX8_product_147 : decode cX8_product 147 = .ok (.imul, 1) := by decide +kernel
theorem dX8_product_148 : decode cX8_product 148 = .ok (.iadd, 1) := by decide +kernel
theorem dX8_product_149 : decode cX8_product 149 = .ok (.lload 14, 2) := by decide +kernel
theorem dX8_product_151 : decode cX8_product 151 = .ok (.iload 4, 2) := by decide +kernel
theorem dX8_product_153 : decode cX8_product 153 = .ok (.ifCond .eq 21, 3) := by decide +kernel
theorem dX8_product_156 : decode cX8_product 156 = .ok (.aload_n 0, 1) := by decide +kernel
theorem dX8_product_157 : decode cX8_product 157 = .ok (.getfield 36, 3) := by decide +kernel
theorem dX8_product_160 : decode cX8_product 160 = .ok (.sipush 256, 3) := by decide +kernel
theorem dX8_product_163 : decode cX8_product 163 = .ok (.iload_n 3, 1) := by decide +kernel
theorem dX8_product_164 : decode cX8_product 164 = .ok (.imul, 1) := by decide +kernel
theorem dX8_product_165 : decode cX8_product 165 = .ok (.iconst 2, 1) := by decide +kernel
theorem dX8_product_166 : decode cX8_product 166 = .ok (.iload 5, 2) := by decide +kernel
theorem dX8_product_168 : decode cX8_product 168 = .ok (.imul, 1) := by decide +kernel
theorem dX8_product_169 : decode cX8_product 169 = .ok (.iadd, 1) := by decide +kernel
theorem dX8_product_170 : decode cX8_product 170 = .ok (.iaload, 1) := by decide +kernel
theorem dX8_product_171 : decode cX8_product 171 = .ok (.goto 4, 3) := by decide +kernel
theorem dX8_product_174 : decode cX8_product 174 = .ok (.iconst 0, 1) := by decide +kernel
theorem dX8_product_175 : decode cX8_product 175 = .ok (.i2l, 1) := by decide +kernel
theorem dX8_product_176 : decode cX8_product 176 = .ok (.ladd, 1) := by decide +kernel
theorem dX8_product_177 : decode cX8_product 177 = .ok (.invokestatic 91, 3) := by decide +kernel
theorem dX8_product_180 : decode cX8_product 180 = .ok (.iastore, 1) := by decide +kernel
theorem dX8_product_181 : decode cX8_product 181 = .ok (.aload_n 0, 1) := by decide +kernel
theorem dX8_product_182 : decode cX8_product 182 = .ok (.getfield 36, 3) := by decide +kernel
theorem dX8_product_185 : decode cX8_product 185 = .ok (.sipush 256, 3) := by decide +kernel
theorem dX8_product_188 : decode cX8_product 188 = .ok (.iload_n 3, 1) := by decide +kernel
theorem dX8_product_189 : decode cX8_product 189 = .ok (.imul, 1) := by decide +kernel
theorem dX8_product_190 : decode cX8_product 190 = .ok (.iconst 2, 1) := by decide +kernel
theorem dX8_product_191 : decode cX8_product 191 = .ok (.iload 5, 2) := by decide +kernel
theorem dX8_product_193 : decode cX8_product 193 = .ok (.imul, 1) := by decide +kernel
theorem dX8_product_194 : decode cX8_product 194 = .ok (.iadd, 1) := by decide +kernel
theorem dX8_product_195 : decode cX8_product 195 = .ok (.iconst 1, 1) := by decide +kernel
theorem dX8_product_196 : decode cX8_product 196 = .ok (.iadd, 1) := by decide +kernel
theorem dX8_product_197 : decode cX8_product 197 = .ok (.lload 16, 2) := by decide +kernel
theorem dX8_product_199 : decode cX8_product 199 = .ok (.iload 4, 2) := by decide +kernel
theorem dX8_product_201 : decode cX8_product 201 = .ok (.ifCond .eq 23, 3) := by decide +kernel
theorem dX8_product_204 : decode cX8_product 204 = .ok (.aload_n 0, 1) := by decide +kernel
theorem dX8_product_205 : decode cX8_product 205 = .ok (.getfield 36, 3) := by decide +kernel
theorem dX8_product_208 : decode cX8_product 208 = .ok (.sipush 256, 3) := by decide +kernel
theorem dX8_product_211 : decode cX8_product 211 = .ok (.iload_n 3, 1) := by decide +kernel
theorem dX8_product_212 : decode cX8_product 212 = .ok (.imul, 1) := by decide +kernel
theorem dX8_product_213 : decode cX8_product 213 = .ok (.iconst 2, 1) := by decide +kernel
theorem dX8_product_214 : decode cX8_product 214 = .ok (.iload 5, 2) := by decide +kernel
theorem dX8_product_216 : decode cX8_product 216 = .ok (.imul, 1) := by decide +kernel
theorem dX8_product_217 : decode cX8_product 217 = .ok (.iadd, 1) := by decide +kernel
theorem dX8_product_218 : decode cX8_product 218 = .ok (.iconst 1, 1) := by decide +kernel
theorem dX8_product_219 : decode cX8_product 219 = .ok (.iadd, 1) := by decide +kernel
theorem dX8_product_220 : decode cX8_product 220 = .ok (.iaload, 1) := by decide +kernel
theorem dX8_product_221 : decode cX8_product 221 = .ok (.goto 4, 3) := by decide +kernel
theorem dX8_product_224 : decode cX8_product 224 = .ok (.iconst 0, 1) := by decide +kernel
theorem dX8_product_225 : decode cX8_product 225 = .ok (.i2l, 1) := by decide +kernel
theorem dX8_product_226 : decode cX8_product 226 = .ok (.ladd, 1) := by decide +kernel
theorem dX8_product_227 : decode cX8_product 227 = .ok (.invokestatic 91, 3) := by decide +kernel
theorem dX8_product_230 : decode cX8_product 230 = .ok (.iastore, 1) := by decide +kernel
theorem dX8_product_231 : decode cX8_product 231 = .ok (.iinc 5 1, 3) := by decide +kernel
theorem dX8_product_234 : decode cX8_product 234 = .ok (.goto (-231), 3) := by decide +kernel
theorem dX8_product_237 : decode cX8_product 237 = .ok (.return_, 1) := by decide +kernel
theorem dX8_plus_0 : decode cX8_plus 0 = .ok (.iconst 0, 1) := by decide +kernel
theorem dX8_plus_1 : decode cX8_plus 1 = .ok (.istore 4, 2) := by decide +kernel
theorem dX8_plus_3 : decode cX8_plus 3 = .ok (.iload 4, 2) := by decide +kernel
theorem dX8_plus_5 : decode cX8_plus 5 = .ok (.sipush 256, 3) := by decide +kernel
theorem dX8_plus_8 : decode cX8_plus 8 = .ok (.if_icmp .ge 57, 3) := by decide +kernel
theorem dX8_plus_11 : decode cX8_plus 11 = .ok (.aload_n 0, 1) := by decide +kernel
theorem dX8_plus_12 : decode cX8_plus 12 = .ok (.getfield 36, 3) := by decide +kernel
theorem dX8_plus_15 : decode cX8_plus 15 = .ok (.sipush 256, 3) := by decide +kernel
theorem dX8_plus_18 : decode cX8_plus 18 = .ok (.iload_n 1, 1) := by decide +kernel
theorem dX8_plus_19 : decode cX8_plus 19 = .ok (.imul, 1) := by decide +kernel
theorem dX8_plus_20 : decode cX8_plus 20 = .ok (.iload 4, 2) := by decide +kernel
theorem dX8_plus_22 : decode cX8_plus 22 = .ok (.iadd, 1) := by decide +kernel
theorem dX8_plus_23 : decode cX8_plus 23 = .ok (.aload_n 0, 1) := by decide +kernel
theorem dX8_plus_24 : decode cX8_plus 24 = .ok (.getfield 36, 3) := by decide +kernel
theorem dX8_plus_27 : decode cX8_plus 27 = .ok (.sipush 256, 3) := by decide +kernel
theorem dX8_plus_30 : decode cX8_plus 30 = .ok (.iload_n 1, 1) := by decide +kernel
theorem dX8_plus_31 : decode cX8_plus 31 = .ok (.imul, 1) := by decide +kernel
theorem dX8_plus_32 : decode cX8_plus 32 = .ok (.iload 4, 2) := by decide +kernel
theorem dX8_plus_34 : decode cX8_plus 34 = .ok (.iadd, 1) := by decide +kernel
theorem dX8_plus_35 : decode cX8_plus 35 = .ok (.iaload, 1) := by decide +kernel
theorem dX8_plus_36 : decode cX8_plus 36 = .ok (.i2l, 1) := by decide +kernel
theorem dX8_plus_37 : decode cX8_plus 37 = .ok (.iload_n 3, 1) := by decide +kernel
theorem dX8_plus_38 : decode cX8_plus 38 = .ok (.i2l, 1) := by decide +kernel
theorem dX8_plus_39 : decode cX8_plus 39 = .ok (.aload_n 0, 1) := by decide +kernel
theorem dX8_plus_40 : decode cX8_plus 40 = .ok (.getfield 36, 3) := by decide +kernel
theorem dX8_plus_43 : decode cX8_plus 43 = .ok (.sipush 256, 3) := by decide +kernel
theorem dX8_plus_46 : decode cX8_plus 46 = .ok (.iload_n 2, 1) := by decide +kernel
theorem dX8_plus_47 : decode cX8_plus 47 = .ok (.imul, 1) := by decide +kernel
theorem dX8_plus_48 : decode cX8_plus 48 = .ok (.iload 4, 2) := by decide +kernel
theorem dX8_plus_50 : decode cX8_plus 50 = .ok (.iadd, 1) := by decide +kernel
theorem dX8_plus_51 : decode cX8_plus 51 = .ok (.iaload, 1) := by decide +kernel
theorem dX8_plus_52 : decode cX8_plus 52 = .ok (.i2l, 1) := by decide +kernel
theorem dX8_plus_53 : decode cX8_plus 53 = .ok (.lmul, 1) := by decide +kernel
theorem dX8_plus_54 : decode cX8_plus 54 = .ok (.ladd, 1) := by decide +kernel
theorem dX8_plus_55 : decode cX8_plus 55 = .ok (.invokestatic 91, 3) := by decide +kernel
theorem dX8_plus_58 : decode cX8_plus 58 = .ok (.iastore, 1) := by decide +kernel
theorem dX8_plus_59 : decode cX8_plus 59 = .ok (.iinc 4 1, 3) := by decide +kernel
theorem dX8_plus_62 : decode cX8_plus 62 = .ok (.goto (-59), 3) := by decide +kernel
theorem dX8_plus_65 : decode cX8_plus 65 = .ok (.return_, 1) := by decide +kernel
theorem dX8_pressed_0 : decode cX8_pressed 0 = .ok (.iconst 0, 1) := by decide +kernel
theorem dX8_pressed_1 : decode cX8_pressed 1 = .ok (.istore_n 3, 1) := by decide +kernel
theorem dX8_pressed_2 : decode cX8_pressed 2 = .ok (.iload_n 3, 1) := by decide +kernel
theorem dX8_pressed_3 : decode cX8_pressed 3 = .ok (.sipush 256, 3) := by decide +kernel
theorem dX8_pressed_6 : decode cX8_pressed 6 = .ok (.if_icmp .ge 59, 3) := by decide +kernel
theorem dX8_pressed_9 : decode cX8_pressed 9 = .ok (.ldc2_w 97, 3) := by decide +kernel
theorem dX8_pressed_12 : decode cX8_pressed 12 = .ok (.aload_n 0, 1) := by decide +kernel
theorem dX8_pressed_13 : decode cX8_pressed 13 = .ok (.getfield 36, 3) := by decide +kernel
theorem dX8_pressed_16 : decode cX8_pressed 16 = .ok (.sipush 256, 3) := by decide +kernel
theorem dX8_pressed_19 : decode cX8_pressed 19 = .ok (.iload_n 1, 1) := by decide +kernel
theorem dX8_pressed_20 : decode cX8_pressed 20 = .ok (.imul, 1) := by decide +kernel
theorem dX8_pressed_21 : decode cX8_pressed 21 = .ok (.iload_n 3, 1) := by decide +kernel
theorem dX8_pressed_22 : decode cX8_pressed 22 = .ok (.iadd, 1) := by decide +kernel
theorem dX8_pressed_23 : decode cX8_pressed 23 = .ok (.iaload, 1) := by decide +kernel
theorem dX8_pressed_24 : decode cX8_pressed 24 = .ok (.i2l, 1) := by decide +kernel
theorem dX8_pressed_25 : decode cX8_pressed 25 = .ok (.lmul, 1) := by decide +kernel
theorem dX8_pressed_26 : decode cX8_pressed 26 = .ok (.lconst 1, 1) := by decide +kernel
theorem dX8_pressed_27 : decode cX8_pressed 27 = .ok (.iload_n 2, 1) := by decide +kernel
theorem dX8_pressed_28 : decode cX8_pressed 28 = .ok (.lshl, 1) := by decide +kernel
theorem dX8_pressed_29 : decode cX8_pressed 29 = .ok (.lmul, 1) := by decide +kernel
theorem dX8_pressed_30 : decode cX8_pressed 30 = .ok (.ldc2_w 85, 3) := by decide +kernel
theorem dX8_pressed_33 : decode cX8_pressed 33 = .ok (.ladd, 1) := by decide +kernel
theorem dX8_pressed_34 : decode cX8_pressed 34 = .ok (.lstore 4, 2) := by decide +kernel
theorem dX8_pressed_36 : decode cX8_pressed 36 = .ok (.aload_n 0, 1) := by decide +kernel
theorem dX8_pressed_37 : decode cX8_pressed 37 = .ok (.getfield 36, 3) := by decide +kernel
theorem dX8_pressed_40 : decode cX8_pressed 40 = .ok (.sipush 256, 3) := by decide +kernel
theorem dX8_pressed_43 : decode cX8_pressed 43 = .ok (.iload_n 1, 1) := by decide +kernel
theorem dX8_pressed_44 : decode cX8_pressed 44 = .ok (.imul, 1) := by decide +kernel
theorem dX8_pressed_45 : decode cX8_pressed 45 = .ok (.iload_n 3, 1) := by decide +kernel
theorem dX8_pressed_46 : decode cX8_pressed 46 = .ok (.iadd, 1) := by decide +kernel
theorem dX8_pressed_47 : decode cX8_pressed 47 = .ok (.lload 4, 2) := by decide +kernel
theorem dX8_pressed_49 : decode cX8_pressed 49 = .ok (.ldc2_w 99, 3) := by decide +kernel
theorem dX8_pressed_52 : decode cX8_pressed 52 = .ok (.ldiv, 1) := by decide +kernel
theorem dX8_pressed_53 : decode cX8_pressed 53 = .ok (.lconst 1, 1) := by decide +kernel
theorem dX8_pressed_54 : decode cX8_pressed 54 = .ok (.iload_n 2, 1) := by decide +kernel
theorem dX8_pressed_55 : decode cX8_pressed 55 = .ok (.lshl, 1) := by decide +kernel
theorem dX8_pressed_56 : decode cX8_pressed 56 = .ok (.lrem, 1) := by decide +kernel
theorem dX8_pressed_57 : decode cX8_pressed 57 = .ok (.l2i, 1) := by decide +kernel
theorem dX8_pressed_58 : decode cX8_pressed 58 = .ok (.iastore, 1) := by decide +kernel
theorem dX8_pressed_59 : decode cX8_pressed 59 = .ok (.iinc 3 1, 3) := by decide +kernel
theorem dX8_pressed_62 : decode cX8_pressed 62 = .ok (.goto (-60), 3) := by decide +kernel
theorem dX8_pressed_65 : decode cX8_pressed 65 = .ok (.return_, 1) := by decide +kernel
theorem dX8_stretched_0 : decode cX8_stretched 0 = .ok (.iconst 0, 1) := by decide +kernel
theorem dX8_stretched_1 : decode cX8_stretched 1 = .ok (.istore_n 3, 1) := by decide +kernel
theorem dX8_stretched_2 : decode cX8_stretched 2 = .ok (.iload_n 3, 1) := by decide +kernel
theorem dX8_stretched_3 : decode cX8_stretched 3 = .ok (.sipush 256, 3) := by decide +kernel
theorem dX8_stretched_6 : decode cX8_stretched 6 = .ok (.if_icmp .ge 61, 3) := by decide +kernel
theorem dX8_stretched_9 : decode cX8_stretched 9 = .ok (.aload_n 0, 1) := by decide +kernel
theorem dX8_stretched_10 : decode cX8_stretched 10 = .ok (.getfield 36, 3) := by decide +kernel
theorem dX8_stretched_13 : decode cX8_stretched 13 = .ok (.sipush 256, 3) := by decide +kernel
theorem dX8_stretched_16 : decode cX8_stretched 16 = .ok (.iload_n 1, 1) := by decide +kernel
theorem dX8_stretched_17 : decode cX8_stretched 17 = .ok (.imul, 1) := by decide +kernel
theorem dX8_stretched_18 : decode cX8_stretched 18 = .ok (.iload_n 3, 1) := by decide +kernel
theorem dX8_stretched_19 : decode cX8_stretched 19 = .ok (.iadd, 1) := by decide +kernel
theorem dX8_stretched_20 : decode cX8_stretched 20 = .ok (.iaload, 1) := by decide +kernel
theorem dX8_stretched_21 : decode cX8_stretched 21 = .ok (.iconst 1, 1) := by decide +kernel
theorem dX8_stretched_22 : decode cX8_stretched 22 = .ok (.iload_n 2, 1) := by decide +kernel
theorem dX8_stretched_23 : decode cX8_stretched 23 = .ok (.ishl, 1) := by decide +kernel
theorem dX8_stretched_24 : decode cX8_stretched 24 = .ok (.irem, 1) := by decide +kernel
theorem dX8_stretched_25 : decode cX8_stretched 25 = .ok (.i2l, 1) := by decide +kernel
theorem dX8_stretched_26 : decode cX8_stretched 26 = .ok (.lstore 4, 2) := by decide +kernel
theorem dX8_stretched_28 : decode cX8_stretched 28 = .ok (.aload_n 0, 1) := by decide +kernel
theorem dX8_stretched_29 : decode cX8_stretched 29 = .ok (.getfield 36, 3) := by decide +kernel
theorem dX8_stretched_32 : decode cX8_stretched 32 = .ok (.sipush 256, 3) := by decide +kernel
theorem dX8_stretched_35 : decode cX8_stretched 35 = .ok (.iload_n 1, 1) := by decide +kernel
theorem dX8_stretched_36 : decode cX8_stretched 36 = .ok (.imul, 1) := by decide +kernel
theorem dX8_stretched_37 : decode cX8_stretched 37 = .ok (.iload_n 3, 1) := by decide +kernel
theorem dX8_stretched_38 : decode cX8_stretched 38 = .ok (.iadd, 1) := by decide +kernel
theorem dX8_stretched_39 : decode cX8_stretched 39 = .ok (.ldc2_w 97, 3) := by decide +kernel
theorem dX8_stretched_42 : decode cX8_stretched 42 = .ok (.lload 4, 2) := by decide +kernel
theorem dX8_stretched_44 : decode cX8_stretched 44 = .ok (.lmul, 1) := by decide +kernel
theorem dX8_stretched_45 : decode cX8_stretched 45 = .ok (.ldc2_w 85, 3) := by decide +kernel
theorem dX8_stretched_48 : decode cX8_stretched 48 = .ok (.lmul, 1) := by decide +kernel
theorem dX8_stretched_49 : decode cX8_stretched 49 = .ok (.lconst 1, 1) := by decide +kernel
theorem dX8_stretched_50 : decode cX8_stretched 50 = .ok (.iload_n 2, 1) := by decide +kernel
theorem dX8_stretched_51 : decode cX8_stretched 51 = .ok (.lshl, 1) := by decide +kernel
theorem dX8_stretched_52 : decode cX8_stretched 52 = .ok (.ladd, 1) := by decide +kernel
theorem dX8_stretched_53 : decode cX8_stretched 53 = .ok (.ldc2_w 97, 3) := by decide +kernel
theorem dX8_stretched_56 : decode cX8_stretched 56 = .ok (.iload_n 2, 1) := by decide +kernel
theorem dX8_stretched_57 : decode cX8_stretched 57 = .ok (.lshl, 1) := by decide +kernel
theorem dX8_stretched_58 : decode cX8_stretched 58 = .ok (.ldiv, 1) := by decide +kernel
theorem dX8_stretched_59 : decode cX8_stretched 59 = .ok (.l2i, 1) := by decide +kernel
theorem dX8_stretched_60 : decode cX8_stretched 60 = .ok (.iastore, 1) := by decide +kernel
theorem dX8_stretched_61 : decode cX8_stretched 61 = .ok (.iinc 3 1, 3) := by decide +kernel
theorem dX8_stretched_64 : decode cX8_stretched 64 = .ok (.goto (-62), 3) := by decide +kernel
theorem dX8_stretched_67 : decode cX8_stretched 67 = .ok (.return_, 1) := by decide +kernel
theorem dX8_written_0 : decode cX8_written 0 = .ok (.iconst 0, 1) := by decide +kernel
theorem dX8_written_1 : decode cX8_written 1 = .ok (.istore 4, 2) := by decide +kernel
theorem dX8_written_3 : decode cX8_written 3 = .ok (.iload 4, 2) := by decide +kernel
theorem dX8_written_5 : decode cX8_written 5 = .ok (.bipush 32, 2) := by decide +kernel
theorem dX8_written_7 : decode cX8_written 7 = .ok (.iload_n 2, 1) := by decide +kernel
theorem dX8_written_8 : decode cX8_written 8 = .ok (.imul, 1) := by decide +kernel
theorem dX8_written_9 : decode cX8_written 9 = .ok (.if_icmp .ge 19, 3) := by decide +kernel
theorem dX8_written_12 : decode cX8_written 12 = .ok (.aload_n 0, 1) := by decide +kernel
theorem dX8_written_13 : decode cX8_written 13 = .ok (.getfield 7, 3) := by decide +kernel
theorem dX8_written_16 : decode cX8_written 16 = .ok (.iload_n 3, 1) := by decide +kernel
theorem dX8_written_17 : decode cX8_written 17 = .ok (.iload 4, 2) := by decide +kernel
theorem dX8_written_19 : decode cX8_written 19 = .ok (.iadd, 1) := by decide +kernel
theorem dX8_written_20 : decode cX8_written 20 = .ok (.iconst 0, 1) := by decide +kernel
theorem dX8_written_21 : decode cX8_written 21 = .ok (.bastore, 1) := by decide +kernel
theorem dX8_written_22 : decode cX8_written 22 = .ok (.iinc 4 1, 3) := by decide +kernel
theorem dX8_written_25 : decode cX8_written 25 = .ok (.goto (-22), 3) := by decide +kernel
theorem dX8_written_28 : decode cX8_written 28 = .ok (.iconst 0, 1) := by decide +kernel
theorem dX8_written_29 : decode cX8_written 29 = .ok (.istore 4, 2) := by decide +kernel
theorem dX8_written_31 : decode cX8_written 31 = .ok (.iload 4, 2) := by decide +kernel
theorem dX8_written_33 : decode cX8_written 33 = .ok (.sipush 256, 3) := by decide +kernel
theorem dX8_written_36 : decode cX8_written 36 = .ok (.iload_n 2, 1) := by decide +kernel
theorem dX8_written_37 : decode cX8_written 37 = .ok (.imul, 1) := by decide +kernel
theorem dX8_written_38 : decode cX8_written 38 = .ok (.if_icmp .ge 58, 3) := by decide +kernel
theorem dX8_written_41 : decode cX8_written 41 = .ok (.aload_n 0, 1) := by decide +kernel
theorem dX8_written_42 : decode cX8_written 42 = .ok (.getfield 36, 3) := by decide +kernel
theorem dX8_written_45 : decode cX8_written 45 = .ok (.sipush 256, 3) := by decide +kernel
theorem dX8_written_48 : decode cX8_written 48 = .ok (.iload_n 1, 1) := by decide +kernel
theorem dX8_written_49 : decode cX8_written 49 = .ok (.imul, 1) := by decide +kernel
theorem dX8_written_50 : decode cX8_written 50 = .ok (.iload 4, 2) := by decide +kernel
theorem dX8_written_52 : decode cX8_written 52 = .ok (.iload_n 2, 1) := by decide +kernel
theorem dX8_written_53 : decode cX8_written 53 = .ok (.idiv, 1) := by decide +kernel
theorem dX8_written_54 : decode cX8_written 54 = .ok (.iadd, 1) := by decide +kernel
theorem dX8_written_55 : decode cX8_written 55 = .ok (.iaload, 1) := by decide +kernel
theorem dX8_written_56 : decode cX8_written 56 = .ok (.iload 4, 2) := by decide +kernel
theorem dX8_written_58 : decode cX8_written 58 = .ok (.iload_n 2, 1) := by decide +kernel
theorem dX8_written_59 : decode cX8_written 59 = .ok (.irem, 1) := by decide +kernel
theorem dX8_written_60 : decode cX8_written 60 = .ok (.ishr, 1) := by decide +kernel
theorem dX8_written_61 : decode cX8_written 61 = .ok (.iconst 1, 1) := by decide +kernel
theorem dX8_written_62 : decode cX8_written 62 = .ok (.iand, 1) := by decide +kernel
theorem dX8_written_63 : decode cX8_written 63 = .ok (.istore 5, 2) := by decide +kernel
theorem dX8_written_65 : decode cX8_written 65 = .ok (.aload_n 0, 1) := by decide +kernel
theorem dX8_written_66 : decode cX8_written 66 = .ok (.getfield 7, 3) := by decide +kernel
theorem dX8_written_69 : decode cX8_written 69 = .ok (.iload_n 3, 1) := by decide +kernel
theorem dX8_written_70 : decode cX8_written 70 = .ok (.iload 4, 2) := by decide +kernel
theorem dX8_written_72 : decode cX8_written 72 = .ok (.bipush 8, 2) := by decide +kernel
theorem dX8_written_74 : decode cX8_written 74 = .ok (.idiv, 1) := by decide +kernel
theorem dX8_written_75 : decode cX8_written 75 = .ok (.iadd, 1) := by decide +kernel
theorem dX8_written_76 : decode cX8_written 76 = .ok (.dup2, 1) := by decide +kernel
theorem dX8_written_77 : decode cX8_written 77 = .ok (.baload, 1) := by decide +kernel
theorem dX8_written_78 : decode cX8_written 78 = .ok (.iload 5, 2) := by decide +kernel
theorem dX8_written_80 : decode cX8_written 80 = .ok (.iload 4, 2) := by decide +kernel
theorem dX8_written_82 : decode cX8_written 82 = .ok (.bipush 8, 2) := by decide +kernel
theorem dX8_written_84 : decode cX8_written 84 = .ok (.irem, 1) := by decide +kernel
theorem dX8_written_85 : decode cX8_written 85 = .ok (.ishl, 1) := by decide +kernel
theorem dX8_written_86 : decode cX8_written 86 = .ok (.i2b, 1) := by decide +kernel
theorem dX8_written_87 : decode cX8_written 87 = .ok (.ior, 1) := by decide +kernel
theorem dX8_written_88 : decode cX8_written 88 = .ok (.i2b, 1) := by decide +kernel
theorem dX8_written_89 : decode cX8_written 89 = .ok (.bastore, 1) := by decide +kernel
theorem dX8_written_90 : decode cX8_written 90 = .ok (.iinc 4 1, 3) := by decide +kernel
theorem dX8_written_93 : decode cX8_written 93 = .ok (.goto (-62), 3) := by decide +kernel
theorem dX8_written_96 : decode cX8_written 96 = .ok (.return_, 1) := by decide +kernel
theorem dX8_group_0 : decode cX8_group 0 = .ok (.iconst 0, 1) := by decide +kernel
theorem dX8_group_1 : decode cX8_group 1 = .ok (.istore 4, 2) := by decide +kernel
theorem dX8_group_3 : decode cX8_group 3 = .ok (.iconst 0, 1) := by decide +kernel
theorem dX8_group_4 : decode cX8_group 4 = .ok (.istore 5, 2) := by decide +kernel
theorem dX8_group_6 : decode cX8_group 6 = .ok (.iload 5, 2) := by decide +kernel
theorem dX8_group_8 : decode cX8_group 8 = .ok (.iload_n 3, 1) := by decide +kernel
theorem dX8_group_9 : decode cX8_group 9 = .ok (.if_icmp .ge 44, 3) := by decide +kernel
theorem dX8_group_12 : decode cX8_group 12 = .ok (.iload_n 3, 1) := by decide +kernel
theorem dX8_group_13 : decode cX8_group 13 = .ok (.iload_n 2, 1) := by decide +kernel
theorem dX8_group_14 : decode cX8_group 14 = .ok (.imul, 1) := by decide +kernel
theorem dX8_group_15 : decode cX8_group 15 = .ok (.iload 5, 2) := by decide +kernel
theorem dX8_group_17 : decode cX8_group 17 = .ok (.iadd, 1) := by decide +kernel
theorem dX8_group_18 : decode cX8_group 18 = .ok (.istore 6, 2) := by decide +kernel
theorem dX8_group_20 : decode cX8_group 20 = .ok (.iload 4, 2) := by decide +kernel
theorem dX8_group_22 : decode cX8_group 22 = .ok (.aload_n 0, 1) := by decide +kernel
theorem dX8_group_23 : decode cX8_group 23 = .ok (.iload_n 1, 1) := by decide +kernel
theorem dX8_group_24 : decode cX8_group 24 = .ok (.iload 6, 2) := by decide +kernel
theorem dX8_group_26 : decode cX8_group 26 = .ok (.bipush 8, 2) := by decide +kernel
theorem dX8_group_28 : decode cX8_group 28 = .ok (.idiv, 1) := by decide +kernel
theorem dX8_group_29 : decode cX8_group 29 = .ok (.iadd, 1) := by decide +kernel
theorem dX8_group_30 : decode cX8_group 30 = .ok (.invokevirtual 74, 3) := by decide +kernel
theorem dX8_group_33 : decode cX8_group 33 = .ok (.iload 6, 2) := by decide +kernel
theorem dX8_group_35 : decode cX8_group 35 = .ok (.bipush 8, 2) := by decide +kernel
theorem dX8_group_37 : decode cX8_group 37 = .ok (.irem, 1) := by decide +kernel
theorem dX8_group_38 : decode cX8_group 38 = .ok (.ishr, 1) := by decide +kernel
theorem dX8_group_39 : decode cX8_group 39 = .ok (.iconst 1, 1) := by decide +kernel
theorem dX8_group_40 : decode cX8_group 40 = .ok (.iand, 1) := by decide +kernel
theorem dX8_group_41 : decode cX8_group 41 = .ok (.iload 5, 2) := by decide +kernel
theorem dX8_group_43 : decode cX8_group 43 = .ok (.ishl, 1) := by decide +kernel
theorem dX8_group_44 : decode cX8_group 44 = .ok (.ior, 1) := by decide +kernel
theorem dX8_group_45 : decode cX8_group 45 = .ok (.istore 4, 2) := by decide +kernel
theorem dX8_group_47 : decode cX8_group 47 = .ok (.iinc 5 1, 3) := by decide +kernel
theorem dX8_group_50 : decode cX8_group 50 = .ok (.goto (-44), 3) := by decide +kernel
theorem dX8_group_53 : decode cX8_group 53 = .ok (.iload 4, 2) := by decide +kernel
theorem dX8_group_55 : decode cX8_group 55 = .ok (.ireturn, 1) := by decide +kernel
theorem dX8_readPol_0 : decode cX8_readPol 0 = .ok (.iconst 0, 1) := by decide +kernel
theorem dX8_readPol_1 : decode cX8_readPol 1 = .ok (.istore 4, 2) := by decide +kernel
theorem dX8_readPol_3 : decode cX8_readPol 3 = .ok (.iload 4, 2) := by decide +kernel
theorem dX8_readPol_5 : decode cX8_readPol 5 = .ok (.sipush 256, 3) := by decide +kernel
theorem dX8_readPol_8 : decode cX8_readPol 8 = .ok (.if_icmp .ge 34, 3) := by decide +kernel
theorem dX8_readPol_11 : decode cX8_readPol 11 = .ok (.aload_n 0, 1) := by decide +kernel
theorem dX8_readPol_12 : decode cX8_readPol 12 = .ok (.getfield 36, 3) := by decide +kernel
theorem dX8_readPol_15 : decode cX8_readPol 15 = .ok (.sipush 256, 3) := by decide +kernel
theorem dX8_readPol_18 : decode cX8_readPol 18 = .ok (.iload_n 1, 1) := by decide +kernel
theorem dX8_readPol_19 : decode cX8_readPol 19 = .ok (.imul, 1) := by decide +kernel
theorem dX8_readPol_20 : decode cX8_readPol 20 = .ok (.iload 4, 2) := by decide +kernel
theorem dX8_readPol_22 : decode cX8_readPol 22 = .ok (.iadd, 1) := by decide +kernel
theorem dX8_readPol_23 : decode cX8_readPol 23 = .ok (.aload_n 0, 1) := by decide +kernel
theorem dX8_readPol_24 : decode cX8_readPol 24 = .ok (.iload_n 3, 1) := by decide +kernel
theorem dX8_readPol_25 : decode cX8_readPol 25 = .ok (.iload 4, 2) := by decide +kernel
theorem dX8_readPol_27 : decode cX8_readPol 27 = .ok (.iload_n 2, 1) := by decide +kernel
theorem dX8_readPol_28 : decode cX8_readPol 28 = .ok (.invokevirtual 101, 3) := by decide +kernel
theorem dX8_readPol_31 : decode cX8_readPol 31 = .ok (.sipush 3329, 3) := by decide +kernel
theorem dX8_readPol_34 : decode cX8_readPol 34 = .ok (.irem, 1) := by decide +kernel
theorem dX8_readPol_35 : decode cX8_readPol 35 = .ok (.iastore, 1) := by decide +kernel
theorem dX8_readPol_36 : decode cX8_readPol 36 = .ok (.iinc 4 1, 3) := by decide +kernel
theorem dX8_readPol_39 : decode cX8_readPol 39 = .ok (.goto (-36), 3) := by decide +kernel
theorem dX8_readPol_42 : decode cX8_readPol 42 = .ok (.return_, 1) := by decide +kernel
theorem dX8_sampled_0 : decode cX8_sampled 0 = .ok (.aload_n 0, 1) := by decide +kernel
theorem dX8_sampled_1 : decode cX8_sampled 1 = .ok (.sipush 168, 3) := by decide +kernel
theorem dX8_sampled_4 : decode cX8_sampled 4 = .ok (.sipush 11336, 3) := by decide +kernel
theorem dX8_sampled_7 : decode cX8_sampled 7 = .ok (.bipush 34, 2) := by decide +kernel
theorem dX8_sampled_9 : decode cX8_sampled 9 = .ok (.iconst 0, 1) := by decide +kernel
theorem dX8_sampled_10 : decode cX8_sampled 10 = .ok (.invokevirtual 104, 3) := by decide +kernel
theorem dX8_sampled_13 : decode cX8_sampled 13 = .ok (.iconst 0, 1) := by decide +kernel
theorem dX8_sampled_14 : decode cX8_sampled 14 = .ok (.istore_n 2, 1) := by decide +kernel
theorem dX8_sampled_15 : decode cX8_sampled 15 = .ok (.iconst 0, 1) := by decide +kernel
theorem dX8_sampled_16 : decode cX8_sampled 16 = .ok (.istore_n 3, 1) := by decide +kernel
theorem dX8_sampled_17 : decode cX8_sampled 17 = .ok (.iload_n 2, 1) := by decide +kernel
theorem dX8_sampled_18 : decode cX8_sampled 18 = .ok (.sipush 256, 3) := by decide +kernel
theorem dX8_sampled_21 : decode cX8_sampled 21 = .ok (.if_icmp .ge 115, 3) := by decide +kernel
theorem dX8_sampled_24 : decode cX8_sampled 24 = .ok (.iload_n 3, 1) := by decide +kernel
theorem dX8_sampled_25 : decode cX8_sampled 25 = .ok (.aload_n 0, 1) := by decide +kernel
theorem dX8_sampled_26 : decode cX8_sampled 26 = .ok (.getfield 17, 3) := by decide +kernel
theorem dX8_sampled_29 : decode cX8_sampled 29 = .ok (.if_icmp .ge 107, 3) := by decide +kernel
theorem dX8_sampled_32 : decode cX8_sampled 32 = .ok (.aload_n 0, 1) := by decide +kernel
theorem dX8_sampled_33 : decode cX8_sampled 33 = .ok (.invokevirtual 81, 3) := by decide +kernel
theorem dX8_sampled_36 : decode cX8_sampled 36 = .ok (.istore 4, 2) := by decide +kernel
theorem dX8_sampled_38 : decode cX8_sampled 38 = .ok (.aload_n 0, 1) := by decide +kernel
theorem dX8_sampled_39 : decode cX8_sampled 39 = .ok (.invokevirtual 81, 3) := by decide +kernel
theorem dX8_sampled_42 : decode cX8_sampled 42 = .ok (.istore 5, 2) := by decide +kernel
theorem dX8_sampled_44 : decode cX8_sampled 44 = .ok (.aload_n 0, 1) := by decide +kernel
theorem dX8_sampled_45 : decode cX8_sampled 45 = .ok (.invokevirtual 81, 3) := by decide +kernel
theorem dX8_sampled_48 : decode cX8_sampled 48 = .ok (.istore 6, 2) := by decide +kernel
theorem dX8_sampled_50 : decode cX8_sampled 50 = .ok (.iinc 3 1, 3) := by decide +kernel
theorem dX8_sampled_53 : decode cX8_sampled 53 = .ok (.iload 4, 2) := by decide +kernel
theorem dX8_sampled_55 : decode cX8_sampled 55 = .ok (.sipush 256, 3) := by decide +kernel
theorem dX8_sampled_58 : decode cX8_sampled 58 = .ok (.iload 5, 2) := by decide +kernel
theorem dX8_sampled_60 : decode cX8_sampled 60 = .ok (.bipush 16, 2) := by decide +kernel
theorem dX8_sampled_62 : decode cX8_sampled 62 = .ok (.irem, 1) := by decide +kernel
theorem dX8_sampled_63 : decode cX8_sampled 63 = .ok (.imul, 1) := by decide +kernel
theorem dX8_sampled_64 : decode cX8_sampled 64 = .ok (.iadd, 1) := by decide +kernel
theorem dX8_sampled_65 : decode cX8_sampled 65 = .ok (.istore 7, 2) := by decide +kernel
theorem dX8_sampled_67 : decode cX8_sampled 67 = .ok (.iload 5, 2) := by decide +kernel
theorem dX8_sampled_69 : decode cX8_sampled 69 = .ok (.bipush 16, 2) := by decide +kernel
theorem dX8_sampled_71 : decode cX8_sampled 71 = .ok (.idiv, 1) := by decide +kernel
theorem dX8_sampled_72 : decode cX8_sampled 72 = .ok (.bipush 16, 2) := by decide +kernel
theorem dX8_sampled_74 : decode cX8_sampled 74 = .ok (.iload 6, 2) := by decide +kernel
theorem dX8_sampled_76 : decode cX8_sampled 76 = .ok (.imul, 1) := by decide +kernel
theorem dX8_sampled_77 : decode cX8_sampled 77 = .ok (.iadd, 1) := by decide +kernel
theorem dX8_sampled_78 : decode cX8_sampled 78 = .ok (.istore 8, 2) := by decide +kernel
theorem dX8_sampled_80 : decode cX8_sampled 80 = .ok (.iload 7, 2) := by decide +kernel
theorem dX8_sampled_82 : decode cX8_sampled 82 = .ok (.sipush 3329, 3) := by decide +kernel
theorem dX8_sampled_85 : decode cX8_sampled 85 = .ok (.if_icmp .ge 18, 3) := by decide +kernel
theorem dX8_sampled_88 : decode cX8_sampled 88 = .ok (.aload_n 0, 1) := by decide +kernel
theorem dX8_sampled_89 : decode cX8_sampled 89 = .ok (.getfield 36, 3) := by decide +kernel
theorem dX8_sampled_92 : decode cX8_sampled 92 = .ok (.sipush 4608, 3) := by decide +kernel
theorem dX8_sampled_95 : decode cX8_sampled 95 = .ok (.iload_n 2, 1) := by decide +kernel
theorem dX8_sampled_96 : decode cX8_sampled 96 = .ok (.iadd, 1) := by decide +kernel
theorem dX8_sampled_97 : decode cX8_sampled 97 = .ok (.iload 7, 2) := by decide +kernel
theorem dX8_sampled_99 : decode cX8_sampled 99 = .ok (.iastore, 1) := by decide +kernel
theorem dX8_sampled_100 : decode cX8_sampled 100 = .ok (.iinc 2 1, 3) := by decide +kernel
theorem dX8_sampled_103 : decode cX8_sampled 103 = .ok (.iload 8, 2) := by decide +kernel
theorem dX8_sampled_105 : decode cX8_sampled 105 = .ok (.sipush 3329, 3) := by decide +kernel
theorem dX8_sampled_108 : decode cX8_sampled 108 = .ok (.if_icmp .ge 25, 3) := by decide +kernel
theorem dX8_sampled_111 : decode cX8_sampled 111 = .ok (.iload_n 2, 1) := by decide +kernel
theorem dX8_sampled_112 : decode cX8_sampled 112 = .ok (.sipush 256, 3) := by decide +kernel
theorem dX8_sampled_115 : decode cX8_sampled 115 = .ok (.if_icmp .ge 18, 3) := by decide +kernel
theorem dX8_sampled_118 : decode cX8_sampled 118 = .ok (.aload_n 0, 1) := by decide +kernel
theorem dX8_sampled_119 : decode cX8_sampled 119 = .ok (.getfield 36, 3) := by decide +kernel
theorem dX8_sampled_122 : decode cX8_sampled 122 = .ok (.sipush 4608, 3) := by decide +kernel
theorem dX8_sampled_125 : decode cX8_sampled 125 = .ok (.iload_n 2, 1) := by decide +kernel
theorem dX8_sampled_126 : decode cX8_sampled 126 = .ok (.iadd, 1) := by decide +kernel
theorem dX8_sampled_127 : decode cX8_sampled 127 = .ok (.iload 8, 2) := by decide +kernel
theorem dX8_sampled_129 : decode cX8_sampled 129 = .ok (.iastore, 1) := by decide +kernel
theorem dX8_sampled_130 : decode cX8_sampled 130 = .ok (.iinc 2 1, 3) := by decide +kernel
theorem dX8_sampled_133 : decode cX8_sampled 133 = .ok (.goto (-116), 3) := by decide +kernel
theorem dX8_sampled_136 : decode cX8_sampled 136 = .ok (.iload_n 2, 1) := by decide +kernel
theorem dX8_sampled_137 : decode cX8_sampled 137 = .ok (.sipush 256, 3) := by decide +kernel
theorem dX8_sampled_140 : decode cX8_sampled 140 = .ok (.if_icmp .ge 5, 3) := by decide +kernel
theorem dX8_sampled_143 : decode cX8_sampled 143 = .ok (.iconst (-1), 1) := by decide +kernel
theorem dX8_sampled_144 : decode cX8_sampled 144 = .ok (.ireturn, 1) := by decide +kernel
theorem dX8_sampled_145 : decode cX8_sampled 145 = .ok (.aload_n 0, 1) := by decide +kernel
theorem dX8_sampled_146 : decode cX8_sampled 146 = .ok (.bipush 18, 2) := by decide +kernel
theorem dX8_sampled_148 : decode cX8_sampled 148 = .ok (.iload_n 1, 1) := by decide +kernel
theorem dX8_sampled_149 : decode cX8_sampled 149 = .ok (.invokevirtual 87, 3) := by decide +kernel
theorem dX8_sampled_152 : decode cX8_sampled 152 = .ok (.iload_n 3, 1) := by decide +kernel
theorem dX8_sampled_153 : decode cX8_sampled 153 = .ok (.ireturn, 1) := by decide +kernel
theorem dX8_matrix_0 : decode cX8_matrix 0 = .ok (.aload_n 0, 1) := by decide +kernel
theorem dX8_matrix_1 : decode cX8_matrix 1 = .ok (.iload_n 1, 1) := by decide +kernel
theorem dX8_matrix_2 : decode cX8_matrix 2 = .ok (.sipush 11336, 3) := by decide +kernel
theorem dX8_matrix_5 : decode cX8_matrix 5 = .ok (.bipush 32, 2) := by decide +kernel
theorem dX8_matrix_7 : decode cX8_matrix 7 = .ok (.invokevirtual 108, 3) := by decide +kernel
theorem dX8_matrix_10 : decode cX8_matrix 10 = .ok (.aload_n 0, 1) := by decide +kernel
theorem dX8_matrix_11 : decode cX8_matrix 11 = .ok (.getfield 7, 3) := by decide +kernel
theorem dX8_matrix_14 : decode cX8_matrix 14 = .ok (.sipush 11368, 3) := by decide +kernel
theorem dX8_matrix_17 : decode cX8_matrix 17 = .ok (.iload_n 2, 1) := by decide +kernel
theorem dX8_matrix_18 : decode cX8_matrix 18 = .ok (.i2b, 1) := by decide +kernel
theorem dX8_matrix_19 : decode cX8_matrix 19 = .ok (.bastore, 1) := by decide +kernel
theorem dX8_matrix_20 : decode cX8_matrix 20 = .ok (.aload_n 0, 1) := by decide +kernel
theorem dX8_matrix_21 : decode cX8_matrix 21 = .ok (.getfield 7, 3) := by decide +kernel
theorem dX8_matrix_24 : decode cX8_matrix 24 = .ok (.sipush 11369, 3) := by decide +kernel
theorem dX8_matrix_27 : decode cX8_matrix 27 = .ok (.iload_n 3, 1) := by decide +kernel
theorem dX8_matrix_28 : decode cX8_matrix 28 = .ok (.i2b, 1) := by decide +kernel
theorem dX8_matrix_29 : decode cX8_matrix 29 = .ok (.bastore, 1) := by decide +kernel
theorem dX8_matrix_30 : decode cX8_matrix 30 = .ok (.aload_n 0, 1) := by decide +kernel
theorem dX8_matrix_31 : decode cX8_matrix 31 = .ok (.iload 4, 2) := by decide +kernel
theorem dX8_matrix_33 : decode cX8_matrix 33 = .ok (.invokevirtual 112, 3) := by decide +kernel
theorem dX8_matrix_36 : decode cX8_matrix 36 = .ok (.ireturn, 1) := by decide +kernel
theorem dX8_noised_0 : decode cX8_noised 0 = .ok (.aload_n 0, 1) := by decide +kernel
theorem dX8_noised_1 : decode cX8_noised 1 = .ok (.iload_n 1, 1) := by decide +kernel
theorem dX8_noised_2 : decode cX8_noised 2 = .ok (.sipush 11336, 3) := by decide +kernel
theorem dX8_noised_5 : decode cX8_noised 5 = .ok (.bipush 32, 2) := by decide +kernel
theorem dX8_noised_7 : decode cX8_noised 7 = .ok (.invokevirtual 108, 3) := by decide +kernel
theorem dX8_noised_10 : decode cX8_noised 10 = .ok (.aload_n 0, 1) := by decide +kernel
theorem dX8_noised_11 : decode cX8_noised 11 = .ok (.getfield 7, 3) := by decide +kernel
theorem dX8_noised_14 : decode cX8_noised 14 = .ok (.sipush 11368, 3) := by decide +kernel
theorem dX8_noised_17 : decode cX8_noised 17 = .ok (.iload_n 2, 1) := by decide +kernel
theorem dX8_noised_18 : decode cX8_noised 18 = .ok (.i2b, 1) := by decide +kernel
theorem dX8_noised_19 : decode cX8_noised 19 = .ok (.bastore, 1) := by decide +kernel
theorem dX8_noised_20 : decode cX8_noised 20 = .ok (.aload_n 0, 1) := by decide +kernel
theorem dX8_noised_21 : decode cX8_noised 21 = .ok (.sipush 136, 3) := by decide +kernel
theorem dX8_noised_24 : decode cX8_noised 24 = .ok (.sipush 11336, 3) := by decide +kernel
theorem dX8_noised_27 : decode cX8_noised 27 = .ok (.bipush 33, 2) := by decide +kernel
theorem dX8_noised_29 : decode cX8_noised 29 = .ok (.iconst 0, 1) := by decide +kernel
theorem dX8_noised_30 : decode cX8_noised 30 = .ok (.invokevirtual 104, 3) := by decide +kernel
theorem dX8_noised_33 : decode cX8_noised 33 = .ok (.aload_n 0, 1) := by decide +kernel
theorem dX8_noised_34 : decode cX8_noised 34 = .ok (.sipush 15436, 3) := by decide +kernel
theorem dX8_noised_37 : decode cX8_noised 37 = .ok (.bipush 64, 2) := by decide +kernel
theorem dX8_noised_39 : decode cX8_noised 39 = .ok (.iload_n 3, 1) := by decide +kernel
theorem dX8_noised_40 : decode cX8_noised 40 = .ok (.imul, 1) := by decide +kernel
theorem dX8_noised_41 : decode cX8_noised 41 = .ok (.invokevirtual 115, 3) := by decide +kernel
theorem dX8_noised_44 : decode cX8_noised 44 = .ok (.iconst 0, 1) := by decide +kernel
theorem dX8_noised_45 : decode cX8_noised 45 = .ok (.istore 5, 2) := by decide +kernel
theorem dX8_noised_47 : decode cX8_noised 47 = .ok (.iload 5, 2) := by decide +kernel
theorem dX8_noised_49 : decode cX8_noised 49 = .ok (.sipush 256, 3) := by decide +kernel
theorem dX8_noised_52 : decode cX8_noised 52 = .ok (.if_icmp .ge 102, 3) := by decide +kernel
theorem dX8_noised_55 : decode cX8_noised 55 = .ok (.iconst 0, 1) := by decide +kernel
theorem dX8_noised_56 : decode cX8_noised 56 = .ok (.istore 6, 2) := by decide +kernel
theorem dX8_noised_58 : decode cX8_noised 58 = .ok (.iconst 0, 1) := by decide +kernel
theorem dX8_noised_59 : decode cX8_noised 59 = .ok (.istore 7, 2) := by decide +kernel
theorem dX8_noised_61 : decode cX8_noised 61 = .ok (.iload 7, 2) := by decide +kernel
theorem dX8_noised_63 : decode cX8_noised 63 = .ok (.iconst 2, 1) := by decide +kernel
theorem dX8_noised_64 : decode cX8_noised 64 = .ok (.iload_n 3, 1) := by decide +kernel
theorem dX8_noised_65 : decode cX8_noised 65 = .ok (.imul, 1) := by decide +kernel
theorem dX8_noised_66 : decode cX8_noised 66 = .ok (.if_icmp .ge 62, 3) := by decide +kernel
theorem dX8_noised_69 : decode cX8_noised 69 = .ok (.iconst 2, 1) := by decide +kernel
theorem dX8_noised_70 : decode cX8_noised 70 = .ok (.iload_n 3, 1) := by decide +kernel
theorem dX8_noised_71 : decode cX8_noised 71 = .ok (.imul, 1) := by decide +kernel
theorem dX8_noised_72 : decode cX8_noised 72 = .ok (.iload 5, 2) := by decide +kernel
theorem dX8_noised_74 : decode cX8_noised 74 = .ok (.imul, 1) := by decide +kernel
theorem dX8_noised_75 : decode cX8_noised 75 = .ok (.iload 7, 2) := by decide +kernel
theorem dX8_noised_77 : decode cX8_noised 77 = .ok (.iadd, 1) := by decide +kernel
theorem dX8_noised_78 : decode cX8_noised 78 = .ok (.istore 8, 2) := by decide +kernel
theorem dX8_noised_80 : decode cX8_noised 80 = .ok (.aload_n 0, 1) := by decide +kernel
