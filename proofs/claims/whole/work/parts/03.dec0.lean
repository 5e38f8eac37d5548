theorem dX0_compress_0 : decode cX0_compress 0 = .ok (.iconst 1, 1) := by decide +kernel
theorem dX0_compress_1 : decode cX0_compress 1 = .ok (.iload_n 1, 1) := by decide +kernel
theorem dX0_compress_2 : decode cX0_compress 2 = .ok (.ishl, 1) := by decide +kernel
theorem dX0_compress_3 : decode cX0_compress 3 = .ok (.iconst 1, 1) := by decide +kernel
theorem dX0_compress_4 : decode cX0_compress 4 = .ok (.isub, 1) := by decide +kernel
theorem dX0_compress_5 : decode cX0_compress 5 = .ok (.istore_n 2, 1) := by decide +kernel
theorem dX0_compress_6 : decode cX0_compress 6 = .ok (.iconst 0, 1) := by decide +kernel
theorem dX0_compress_7 : decode cX0_compress 7 = .ok (.istore_n 3, 1) := by decide +kernel
theorem dX0_compress_8 : decode cX0_compress 8 = .ok (.iload_n 3, 1) := by decide +kernel
theorem dX0_compress_9 : decode cX0_compress 9 = .ok (.sipush 256, 3) := by decide +kernel
theorem dX0_compress_12 : decode cX0_compress 12 = .ok (.if_icmp .ge 29, 3) := by decide +kernel
theorem dX0_compress_15 : decode cX0_compress 15 = .ok (.aload_n 0, 1) := by decide +kernel
theorem dX0_compress_16 : decode cX0_compress 16 = .ok (.iload_n 3, 1) := by decide +kernel
theorem dX0_compress_17 : decode cX0_compress 17 = .ok (.aload_n 0, 1) := by decide +kernel
theorem dX0_compress_18 : decode cX0_compress 18 = .ok (.iload_n 3, 1) := by decide +kernel
theorem dX0_compress_19 : decode cX0_compress 19 = .ok (.iaload, 1) := by decide +kernel
theorem dX0_compress_20 : decode cX0_compress 20 = .ok (.iload_n 1, 1) := by decide +kernel
theorem dX0_compress_21 : decode cX0_compress 21 = .ok (.iconst 1, 1) := by decide +kernel
theorem dX0_compress_22 : decode cX0_compress 22 = .ok (.iadd, 1) := by decide +kernel
theorem dX0_compress_23 : decode cX0_compress 23 = .ok (.ishl, 1) := by decide +kernel
theorem dX0_compress_24 : decode cX0_compress 24 = .ok (.sipush 3329, 3) := by decide +kernel
theorem dX0_compress_27 : decode cX0_compress 27 = .ok (.iadd, 1) := by decide +kernel
theorem dX0_compress_28 : decode cX0_compress 28 = .ok (.sipush 6658, 3) := by decide +kernel
theorem dX0_compress_31 : decode cX0_compress 31 = .ok (.idiv, 1) := by decide +kernel
theorem dX0_compress_32 : decode cX0_compress 32 = .ok (.iload_n 2, 1) := by decide +kernel
theorem dX0_compress_33 : decode cX0_compress 33 = .ok (.iand, 1) := by decide +kernel
theorem dX0_compress_34 : decode cX0_compress 34 = .ok (.iastore, 1) := by decide +kernel
theorem dX0_compress_35 : decode cX0_compress 35 = .ok (.iinc 3 1, 3) := by decide +kernel
theorem dX0_compress_38 : decode cX0_compress 38 = .ok (.goto (-30), 3) := by decide +kernel
theorem dX0_compress_41 : decode cX0_compress 41 = .ok (.return_, 1) := by decide +kernel
theorem dX0_decompress_0 : decode cX0_decompress 0 = .ok (.iconst 1, 1) := by decide +kernel
theorem dX0_decompress_1 : decode cX0_decompress 1 = .ok (.iload_n 1, 1) := by decide +kernel
theorem dX0_decompress_2 : decode cX0_decompress 2 = .ok (.ishl, 1) := by decide +kernel
theorem dX0_decompress_3 : decode cX0_decompress 3 = .ok (.iconst 1, 1) := by decide +kernel
theorem dX0_decompress_4 : decode cX0_decompress 4 = .ok (.isub, 1) := by decide +kernel
theorem dX0_decompress_5 : decode cX0_decompress 5 = .ok (.istore_n 2, 1) := by decide +kernel
theorem dX0_decompress_6 : decode cX0_decompress 6 = .ok (.iconst 1, 1) := by decide +kernel
theorem dX0_decompress_7 : decode cX0_decompress 7 = .ok (.iload_n 1, 1) := by decide +kernel
theorem dX0_decompress_8 : decode cX0_decompress 8 = .ok (.iconst 1, 1) := by decide +kernel
theorem dX0_decompress_9 : decode cX0_decompress 9 = .ok (.isub, 1) := by decide +kernel
theorem dX0_decompress_10 : decode cX0_decompress 10 = .ok (.ishl, 1) := by decide +kernel
theorem dX0_decompress_11 : decode cX0_decompress 11 = .ok (.istore_n 3, 1) := by decide +kernel
theorem dX0_decompress_12 : decode cX0_decompress 12 = .ok (.iconst 0, 1) := by decide +kernel
theorem dX0_decompress_13 : decode cX0_decompress 13 = .ok (.istore 4, 2) := by decide +kernel
theorem dX0_decompress_15 : decode cX0_decompress 15 = .ok (.iload 4, 2) := by decide +kernel
theorem dX0_decompress_17 : decode cX0_decompress 17 = .ok (.sipush 256, 3) := by decide +kernel
theorem dX0_decompress_20 : decode cX0_decompress 20 = .ok (.if_icmp .ge 27, 3) := by decide +kernel
theorem dX0_decompress_23 : decode cX0_decompress 23 = .ok (.aload_n 0, 1) := by decide +kernel
theorem dX0_decompress_24 : decode cX0_decompress 24 = .ok (.iload 4, 2) := by decide +kernel
theorem dX0_decompress_26 : decode cX0_decompress 26 = .ok (.aload_n 0, 1) := by decide +kernel
theorem dX0_decompress_27 : decode cX0_decompress 27 = .ok (.iload 4, 2) := by decide +kernel
theorem dX0_decompress_29 : decode cX0_decompress 29 = .ok (.iaload, 1) := by decide +kernel
theorem dX0_decompress_30 : decode cX0_decompress 30 = .ok (.iload_n 2, 1) := by decide +kernel
theorem dX0_decompress_31 : decode cX0_decompress 31 = .ok (.iand, 1) := by decide +kernel
theorem dX0_decompress_32 : decode cX0_decompress 32 = .ok (.sipush 3329, 3) := by decide +kernel
theorem dX0_decompress_35 : decode cX0_decompress 35 = .ok (.imul, 1) := by decide +kernel
theorem dX0_decompress_36 : decode cX0_decompress 36 = .ok (.iload_n 3, 1) := by decide +kernel
theorem dX0_decompress_37 : decode cX0_decompress 37 = .ok (.iadd, 1) := by decide +kernel
theorem dX0_decompress_38 : decode cX0_decompress 38 = .ok (.iload_n 1, 1) := by decide +kernel
theorem dX0_decompress_39 : decode cX0_decompress 39 = .ok (.ishr, 1) := by decide +kernel
theorem dX0_decompress_40 : decode cX0_decompress 40 = .ok (.iastore, 1) := by decide +kernel
theorem dX0_decompress_41 : decode cX0_decompress 41 = .ok (.iinc 4 1, 3) := by decide +kernel
theorem dX0_decompress_44 : decode cX0_decompress 44 = .ok (.goto (-29), 3) := by decide +kernel
theorem dX0_decompress_47 : decode cX0_decompress 47 = .ok (.return_, 1) := by decide +kernel
theorem dX0_pack_0 : decode cX0_pack 0 = .ok (.iconst 1, 1) := by decide +kernel
theorem dX0_pack_1 : decode cX0_pack 1 = .ok (.iload_n 1, 1) := by decide +kernel
theorem dX0_pack_2 : decode cX0_pack 2 = .ok (.ishl, 1) := by decide +kernel
theorem dX0_pack_3 : decode cX0_pack 3 = .ok (.iconst 1, 1) := by decide +kernel
theorem dX0_pack_4 : decode cX0_pack 4 = .ok (.isub, 1) := by decide +kernel
theorem dX0_pack_5 : decode cX0_pack 5 = .ok (.istore_n 3, 1) := by decide +kernel
theorem dX0_pack_6 : decode cX0_pack 6 = .ok (.iconst 0, 1) := by decide +kernel
theorem dX0_pack_7 : decode cX0_pack 7 = .ok (.istore 4, 2) := by decide +kernel
theorem dX0_pack_9 : decode cX0_pack 9 = .ok (.iconst 0, 1) := by decide +kernel
theorem dX0_pack_10 : decode cX0_pack 10 = .ok (.istore 5, 2) := by decide +kernel
theorem dX0_pack_12 : decode cX0_pack 12 = .ok (.iconst 0, 1) := by decide +kernel
theorem dX0_pack_13 : decode cX0_pack 13 = .ok (.istore 6, 2) := by decide +kernel
theorem dX0_pack_15 : decode cX0_pack 15 = .ok (.iload 6, 2) := by decide +kernel
theorem dX0_pack_17 : decode cX0_pack 17 = .ok (.sipush 256, 3) := by decide +kernel
theorem dX0_pack_20 : decode cX0_pack 20 = .ok (.if_icmp .ge 55, 3) := by decide +kernel
theorem dX0_pack_23 : decode cX0_pack 23 = .ok (.iload 4, 2) := by decide +kernel
theorem dX0_pack_25 : decode cX0_pack 25 = .ok (.aload_n 0, 1) := by decide +kernel
theorem dX0_pack_26 : decode cX0_pack 26 = .ok (.iload 6, 2) := by decide +kernel
theorem dX0_pack_28 : decode cX0_pack 28 = .ok (.iaload, 1) := by decide +kernel
theorem dX0_pack_29 : decode cX0_pack 29 = .ok (.iload_n 3, 1) := by decide +kernel
theorem dX0_pack_30 : decode cX0_pack 30 = .ok (.iand, 1) := by decide +kernel
theorem dX0_pack_31 : decode cX0_pack 31 = .ok (.iload 5, 2) := by decide +kernel
theorem dX0_pack_33 : decode cX0_pack 33 = .ok (.ishl, 1) := by decide +kernel
theorem dX0_pack_34 : decode cX0_pack 34 = .ok (.ior, 1) := by decide +kernel
theorem dX0_pack_35 : decode cX0_pack 35 = .ok (.istore 4, 2) := by decide +kernel
theorem dX0_pack_37 : decode cX0_pack 37 = .ok (.iload 5, 2) := by decide +kernel
theorem dX0_pack_39 : decode cX0_pack 39 = .ok (.iload_n 1, 1) := by decide +kernel
theorem dX0_pack_40 : decode cX0_pack 40 = .ok (.iadd, 1) := by decide +kernel
theorem dX0_pack_41 : decode cX0_pack 41 = .ok (.istore 5, 2) := by decide +kernel
theorem dX0_pack_43 : decode cX0_pack 43 = .ok (.iload 5, 2) := by decide +kernel
theorem dX0_pack_45 : decode cX0_pack 45 = .ok (.bipush 8, 2) := by decide +kernel
theorem dX0_pack_47 : decode cX0_pack 47 = .ok (.if_icmp .lt 22, 3) := by decide +kernel
theorem dX0_pack_50 : decode cX0_pack 50 = .ok (.aload_n 2, 1) := by decide +kernel
theorem dX0_pack_51 : decode cX0_pack 51 = .ok (.iload 4, 2) := by decide +kernel
theorem dX0_pack_53 : decode cX0_pack 53 = .ok (.invokevirtual 9, 3) := by decide +kernel
theorem dX0_pack_56 : decode cX0_pack 56 = .ok (.iload 4, 2) := by decide +kernel
theorem dX0_pack_58 : decode cX0_pack 58 = .ok (.bipush 8, 2) := by decide +kernel
theorem dX0_pack_60 : decode cX0_pack 60 = .ok (.iushr, 1) := by decide +kernel
theorem dX0_pack_61 : decode cX0_pack 61 = .ok (.istore 4, 2) := by decide +kernel
theorem dX0_pack_63 : decode cX0_pack 63 = .ok (.iinc 5 (-8), 3) := by decide +kernel
theorem dX0_pack_66 : decode cX0_pack 66 = .ok (.goto (-23), 3) := by decide +kernel
theorem dX0_pack_69 : decode cX0_pack 69 = .ok (.iinc 6 1, 3) := by decide +kernel
theorem dX0_pack_72 : decode cX0_pack 72 = .ok (.goto (-57), 3) := by decide +kernel
theorem dX0_pack_75 : decode cX0_pack 75 = .ok (.return_, 1) := by decide +kernel
theorem dX0_unpack_0 : decode cX0_unpack 0 = .ok (.iconst 1, 1) := by decide +kernel
theorem dX0_unpack_1 : decode cX0_unpack 1 = .ok (.iload_n 1, 1) := by decide +kernel
theorem dX0_unpack_2 : decode cX0_unpack 2 = .ok (.ishl, 1) := by decide +kernel
theorem dX0_unpack_3 : decode cX0_unpack 3 = .ok (.iconst 1, 1) := by decide +kernel
theorem dX0_unpack_4 : decode cX0_unpack 4 = .ok (.isub, 1) := by decide +kernel
theorem dX0_unpack_5 : decode cX0_unpack 5 = .ok (.istore 4, 2) := by decide +kernel
theorem dX0_unpack_7 : decode cX0_unpack 7 = .ok (.iconst 0, 1) := by decide +kernel
theorem dX0_unpack_8 : decode cX0_unpack 8 = .ok (.istore 5, 2) := by decide +kernel
theorem dX0_unpack_10 : decode cX0_unpack 10 = .ok (.iconst 0, 1) := by decide +kernel
theorem dX0_unpack_11 : decode cX0_unpack 11 = .ok (.istore 6, 2) := by decide +kernel
theorem dX0_unpack_13 : decode cX0_unpack 13 = .ok (.iload_n 3, 1) := by decide +kernel
theorem dX0_unpack_14 : decode cX0_unpack 14 = .ok (.istore 7, 2) := by decide +kernel
theorem dX0_unpack_16 : decode cX0_unpack 16 = .ok (.iconst 0, 1) := by decide +kernel
theorem dX0_unpack_17 : decode cX0_unpack 17 = .ok (.istore 8, 2) := by decide +kernel
theorem dX0_unpack_19 : decode cX0_unpack 19 = .ok (.iload 8, 2) := by decide +kernel
theorem dX0_unpack_21 : decode cX0_unpack 21 = .ok (.sipush 256, 3) := by decide +kernel
theorem dX0_unpack_24 : decode cX0_unpack 24 = .ok (.if_icmp .ge 63, 3) := by decide +kernel
theorem dX0_unpack_27 : decode cX0_unpack 27 = .ok (.iload 6, 2) := by decide +kernel
theorem dX0_unpack_29 : decode cX0_unpack 29 = .ok (.iload_n 1, 1) := by decide +kernel
theorem dX0_unpack_30 : decode cX0_unpack 30 = .ok (.if_icmp .ge 26, 3) := by decide +kernel
theorem dX0_unpack_33 : decode cX0_unpack 33 = .ok (.iload 5, 2) := by decide +kernel
theorem dX0_unpack_35 : decode cX0_unpack 35 = .ok (.aload_n 2, 1) := by decide +kernel
theorem dX0_unpack_36 : decode cX0_unpack 36 = .ok (.iload 7, 2) := by decide +kernel
theorem dX0_unpack_38 : decode cX0_unpack 38 = .ok (.invokevirtual 15, 3) := by decide +kernel
theorem dX0_unpack_41 : decode cX0_unpack 41 = .ok (.iload 6, 2) := by decide +kernel
theorem dX0_unpack_43 : decode cX0_unpack 43 = .ok (.ishl, 1) := by decide +kernel
theorem dX0_unpack_44 : decode cX0_unpack 44 = .ok (.ior, 1) := by decide +kernel
theorem dX0_unpack_45 : decode cX0_unpack 45 = .ok (.istore 5, 2) := by decide +kernel
theorem dX0_unpack_47 : decode cX0_unpack 47 = .ok (.iinc 7 1, 3) := by decide +kernel
theorem dX0_unpack_50 : decode cX0_unpack 50 = .ok (.iinc 6 8, 3) := by decide +kernel
theorem dX0_unpack_53 : decode cX0_unpack 53 = .ok (.goto (-26), 3) := by decide +kernel
theorem dX0_unpack_56 : decode cX0_unpack 56 = .ok (.aload_n 0, 1) := by decide +kernel
theorem dX0_unpack_57 : decode cX0_unpack 57 = .ok (.iload 8, 2) := by decide +kernel
theorem dX0_unpack_59 : decode cX0_unpack 59 = .ok (.iload 5, 2) := by decide +kernel
theorem dX0_unpack_61 : decode cX0_unpack 61 = .ok (.iload 4, 2) := by decide +kernel
theorem dX0_unpack_63 : decode cX0_unpack 63 = .ok (.iand, 1) := by decide +kernel
theorem dX0_unpack_64 : decode cX0_unpack 64 = .ok (.sipush 3329, 3) := by decide +kernel
theorem dX0_unpack_67 : decode cX0_unpack 67 = .ok (.irem, 1) := by decide +kernel
theorem dX0_unpack_68 : decode cX0_unpack 68 = .ok (.iastore, 1) := by decide +kernel
theorem dX0_unpack_69 : decode cX0_unpack 69 = .ok (.iload 5, 2) := by decide +kernel
theorem dX0_unpack_71 : decode cX0_unpack 71 = .ok (.iload_n 1, 1) := by decide +kernel
theorem dX0_unpack_72 : decode cX0_unpack 72 = .ok (.iushr, 1) := by decide +kernel
theorem dX0_unpack_73 : decode cX0_unpack 73 = .ok (.istore 5, 2) := by decide +kernel
theorem dX0_unpack_75 : decode cX0_unpack 75 = .ok (.iload 6, 2) := by decide +kernel
theorem dX0_unpack_77 : decode cX0_unpack 77 = .ok (.iload_n 1, 1) := by decide +kernel
theorem dX0_unpack_78 : decode cX0_unpack 78 = .ok (.isub, 1) := by decide +kernel
theorem dX0_unpack_79 : decode cX0_unpack 79 = .ok (.istore 6, 2) := by decide +kernel
theorem dX0_unpack_81 : decode cX0_unpack 81 = .ok (.iinc 8 1, 3) := by decide +kernel
theorem dX0_unpack_84 : decode cX0_unpack 84 = .ok (.goto (-65), 3) := by decide +kernel
theorem dX0_unpack_87 : decode cX0_unpack 87 = .ok (.return_, 1) := by decide +kernel
theorem dX0_firstGroup_0 : decode cX0_firstGroup 0 = .ok (.iload_n 0, 1) := by decide +kernel
theorem dX0_firstGroup_1 : decode cX0_firstGroup 1 = .ok (.iload_n 1, 1) := by decide +kernel
theorem dX0_firstGroup_2 : decode cX0_firstGroup 2 = .ok (.bipush 15, 2) := by decide +kernel
theorem dX0_firstGroup_4 : decode cX0_firstGroup 4 = .ok (.iand, 1) := by decide +kernel
theorem dX0_firstGroup_5 : decode cX0_firstGroup 5 = .ok (.bipush 8, 2) := by decide +kernel
theorem dX0_firstGroup_7 : decode cX0_firstGroup 7 = .ok (.ishl, 1) := by decide +kernel
theorem dX0_firstGroup_8 : decode cX0_firstGroup 8 = .ok (.ior, 1) := by decide +kernel
theorem dX0_firstGroup_9 : decode cX0_firstGroup 9 = .ok (.ireturn, 1) := by decide +kernel
theorem dX0_secondGroup_0 : decode cX0_secondGroup 0 = .ok (.iload_n 0, 1) := by decide +kernel
theorem dX0_secondGroup_1 : decode cX0_secondGroup 1 = .ok (.iconst 4, 1) := by decide +kernel
theorem dX0_secondGroup_2 : decode cX0_secondGroup 2 = .ok (.ishr, 1) := by decide +kernel
theorem dX0_secondGroup_3 : decode cX0_secondGroup 3 = .ok (.iload_n 1, 1) := by decide +kernel
theorem dX0_secondGroup_4 : decode cX0_secondGroup 4 = .ok (.iconst 4, 1) := by decide +kernel
theorem dX0_secondGroup_5 : decode cX0_secondGroup 5 = .ok (.ishl, 1) := by decide +kernel
theorem dX0_secondGroup_6 : decode cX0_secondGroup 6 = .ok (.ior, 1) := by decide +kernel
theorem dX0_secondGroup_7 : decode cX0_secondGroup 7 = .ok (.ireturn, 1) := by decide +kernel
theorem dX0_groupsAreSmall_0 : decode cX0_groupsAreSmall 0 = .ok (.iconst 0, 1) := by decide +kernel
theorem dX0_groupsAreSmall_1 : decode cX0_groupsAreSmall 1 = .ok (.istore_n 2, 1) := by decide +kernel
theorem dX0_groupsAreSmall_2 : decode cX0_groupsAreSmall 2 = .ok (.iload_n 2, 1) := by decide +kernel
theorem dX0_groupsAreSmall_3 : decode cX0_groupsAreSmall 3 = .ok (.iconst 2, 1) := by decide +kernel
theorem dX0_groupsAreSmall_4 : decode cX0_groupsAreSmall 4 = .ok (.iadd, 1) := by decide +kernel
theorem dX0_groupsAreSmall_5 : decode cX0_groupsAreSmall 5 = .ok (.iload_n 1, 1) := by decide +kernel
theorem dX0_groupsAreSmall_6 : decode cX0_groupsAreSmall 6 = .ok (.if_icmp .ge 51, 3) := by decide +kernel
theorem dX0_groupsAreSmall_9 : decode cX0_groupsAreSmall 9 = .ok (.aload_n 0, 1) := by decide +kernel
theorem dX0_groupsAreSmall_10 : decode cX0_groupsAreSmall 10 = .ok (.iload_n 2, 1) := by decide +kernel
theorem dX0_groupsAreSmall_11 : decode cX0_groupsAreSmall 11 = .ok (.iconst 1, 1) := by decide +kernel
theorem dX0_groupsAreSmall_12 : decode cX0_groupsAreSmall 12 = .ok (.iadd, 1) := by decide +kernel
theorem dX0_groupsAreSmall_13 : decode cX0_groupsAreSmall 13 = .ok (.invokevirtual 15, 3) := by decide +kernel
theorem dX0_groupsAreSmall_16 : decode cX0_groupsAreSmall 16 = .ok (.istore_n 3, 1) := by decide +kernel
theorem dX0_groupsAreSmall_17 : decode cX0_groupsAreSmall 17 = .ok (.aload_n 0, 1) := by decide +kernel
theorem dX0_groupsAreSmall_18 : decode cX0_groupsAreSmall 18 = .ok (.iload_n 2, 1) := by decide +kernel
theorem dX0_groupsAreSmall_19 : decode cX0_groupsAreSmall 19 = .ok (.invokevirtual 15, 3) := by decide +kernel
theorem dX0_groupsAreSmall_22 : decode cX0_groupsAreSmall 22 = .ok (.iload_n 3, 1) := by decide +kernel
theorem dX0_groupsAreSmall_23 : decode cX0_groupsAreSmall 23 = .ok (.invokestatic 19, 3) := by decide +kernel
theorem dX0_groupsAreSmall_26 : decode cX0_groupsAreSmall 26 = .ok (.sipush 3329, 3) := by decide +kernel
theorem dX0_groupsAreSmall_29 : decode cX0_groupsAreSmall 29 = .ok (.if_icmp .ge 20, 3) := by decide +kernel
theorem dX0_groupsAreSmall_32 : decode cX0_groupsAreSmall 32 = .ok (.iload_n 3, 1) := by decide +kernel
theorem dX0_groupsAreSmall_33 : decode cX0_groupsAreSmall 33 = .ok (.aload_n 0, 1) := by decide +kernel
theorem dX0_groupsAreSmall_34 : decode cX0_groupsAreSmall 34 = .ok (.iload_n 2, 1) := by decide +kernel
theorem dX0_groupsAreSmall_35 : decode cX0_groupsAreSmall 35 = .ok (.iconst 2, 1) := by decide +kernel
theorem dX0_groupsAreSmall_36 : decode cX0_groupsAreSmall 36 = .ok (.iadd, 1) := by decide +kernel
theorem dX0_groupsAreSmall_37 : decode cX0_groupsAreSmall 37 = .ok (.invokevirtual 15, 3) := by decide +kernel
theorem dX0_groupsAreSmall_40 : decode cX0_groupsAreSmall 40 = .ok (.invokestatic 25, 3) := by decide +kernel
theorem dX0_groupsAreSmall_43 : decode cX0_groupsAreSmall 43 = .ok (.sipush 3329, 3) := by decide +kernel
theorem dX0_groupsAreSmall_46 : decode cX0_groupsAreSmall 46 = .ok (.if_icmp .lt 5, 3) := by decide +kernel
theorem dX0_groupsAreSmall_49 : decode cX0_groupsAreSmall 49 = .ok (.iconst 0, 1) := by decide +kernel
theorem dX0_groupsAreSmall_50 : decode cX0_groupsAreSmall 50 = .ok (.ireturn, 1) := by decide +kernel
theorem dX0_groupsAreSmall_51 : decode cX0_groupsAreSmall 51 = .ok (.iinc 2 3, 3) := by decide +kernel
theorem dX0_groupsAreSmall_54 : decode cX0_groupsAreSmall 54 = .ok (.goto (-52), 3) := by decide +kernel
theorem dX0_groupsAreSmall_57 : decode cX0_groupsAreSmall 57 = .ok (.iconst 1, 1) := by decide +kernel
theorem dX0_groupsAreSmall_58 : decode cX0_groupsAreSmall 58 = .ok (.ireturn, 1) := by decide +kernel
theorem dX2_ofRank_0 : decode cX2_ofRank 0 = .ok (.iload_n 0, 1) := by decide +kernel
theorem dX2_ofRank_1 : decode cX2_ofRank 1 = .ok (.tableswitch 39 2 4 #[27, 31, 35], 27) := by decide +kernel
theorem dX2_ofRank_28 : decode cX2_ofRank 28 = .ok (.getstatic 5, 3) := by decide +kernel
theorem dX2_ofRank_31 : decode cX2_ofRank 31 = .ok (.areturn, 1) := by decide +kernel
theorem dX2_ofRank_32 : decode cX2_ofRank 32 = .ok (.getstatic 9, 3) := by decide +kernel
theorem dX2_ofRank_35 : decode cX2_ofRank 35 = .ok (.areturn, 1) := by decide +kernel
theorem dX2_ofRank_36 : decode cX2_ofRank 36 = .ok (.getstatic 12, 3) := by decide +kernel
theorem dX2_ofRank_39 : decode cX2_ofRank 39 = .ok (.areturn, 1) := by decide +kernel
theorem dX2_ofRank_40 : decode cX2_ofRank 40 = .ok (.aconst_null, 1) := by decide +kernel
theorem dX2_ofRank_41 : decode cX2_ofRank 41 = .ok (.areturn, 1) := by decide +kernel
theorem dX2_innerLength_0 : decode cX2_innerLength 0 = .ok (.sipush 384, 3) := by decide +kernel
theorem dX2_innerLength_3 : decode cX2_innerLength 3 = .ok (.aload_n 0, 1) := by decide +kernel
theorem dX2_innerLength_4 : decode cX2_innerLength 4 = .ok (.getfield 34, 3) := by decide +kernel
theorem dX2_innerLength_7 : decode cX2_innerLength 7 = .ok (.imul, 1) := by decide +kernel
theorem dX2_innerLength_8 : decode cX2_innerLength 8 = .ok (.ireturn, 1) := by decide +kernel
theorem dX2_publicLength_0 : decode cX2_publicLength 0 = .ok (.sipush 384, 3) := by decide +kernel
theorem dX2_publicLength_3 : decode cX2_publicLength 3 = .ok (.aload_n 0, 1) := by decide +kernel
theorem dX2_publicLength_4 : decode cX2_publicLength 4 = .ok (.getfield 34, 3) := by decide +kernel
theorem dX2_publicLength_7 : decode cX2_publicLength 7 = .ok (.imul, 1) := by decide +kernel
theorem dX2_publicLength_8 : decode cX2_publicLength 8 = .ok (.bipush 32, 2) := by decide +kernel
theorem dX2_publicLength_10 : decode cX2_publicLength 10 = .ok (.iadd, 1) := by decide +kernel
theorem dX2_publicLength_11 : decode cX2_publicLength 11 = .ok (.ireturn, 1) := by decide +kernel
theorem dX2_privateLength_0 : decode cX2_privateLength 0 = .ok (.sipush 768, 3) := by decide +kernel
theorem dX2_privateLength_3 : decode cX2_privateLength 3 = .ok (.aload_n 0, 1) := by decide +kernel
theorem dX2_privateLength_4 : decode cX2_privateLength 4 = .ok (.getfield 34, 3) := by decide +kernel
theorem dX2_privateLength_7 : decode cX2_privateLength 7 = .ok (.imul, 1) := by decide +kernel
theorem dX2_privateLength_8 : decode cX2_privateLength 8 = .ok (.bipush 96, 2) := by decide +kernel
theorem dX2_privateLength_10 : decode cX2_privateLength 10 = .ok (.iadd, 1) := by decide +kernel
theorem dX2_privateLength_11 : decode cX2_privateLength 11 = .ok (.ireturn, 1) := by decide +kernel
theorem dX2_textLength_0 : decode cX2_textLength 0 = .ok (.bipush 32, 2) := by decide +kernel
theorem dX2_textLength_2 : decode cX2_textLength 2 = .ok (.aload_n 0, 1) := by decide +kernel
theorem dX2_textLength_3 : decode cX2_textLength 3 = .ok (.getfield 44, 3) := by decide +kernel
theorem dX2_textLength_6 : decode cX2_textLength 6 = .ok (.aload_n 0, 1) := by decide +kernel
theorem dX2_textLength_7 : decode cX2_textLength 7 = .ok (.getfield 34, 3) := by decide +kernel
theorem dX2_textLength_10 : decode cX2_textLength 10 = .ok (.imul, 1) := by decide +kernel
theorem dX2_textLength_11 : decode cX2_textLength 11 = .ok (.aload_n 0, 1) := by decide +kernel
theorem dX2_textLength_12 : decode cX2_textLength 12 = .ok (.getfield 47, 3) := by decide +kernel
theorem dX2_textLength_15 : decode cX2_textLength 15 = .ok (.iadd, 1) := by decide +kernel
theorem dX2_textLength_16 : decode cX2_textLength 16 = .ok (.imul, 1) := by decide +kernel
theorem dX2_textLength_17 : decode cX2_textLength 17 = .ok (.ireturn, 1) := by decide +kernel
theorem dX3_toPairs_0 : decode cX3_toPairs 0 = .ok (.iconst 1, 1) := by decide +kernel
theorem dX3_toPairs_1 : decode cX3_toPairs 1 = .ok (.istore_n 1, 1) := by decide +kernel
theorem dX3_toPairs_2 : decode cX3_toPairs 2 = .ok (.sipush 128, 3) := by decide +kernel
theorem dX3_toPairs_5 : decode cX3_toPairs 5 = .ok (.istore_n 2, 1) := by decide +kernel
theorem dX3_toPairs_6 : decode cX3_toPairs 6 = .ok (.iload_n 2, 1) := by decide +kernel
theorem dX3_toPairs_7 : decode cX3_toPairs 7 = .ok (.iconst 2, 1) := by decide +kernel
theorem dX3_toPairs_8 : decode cX3_toPairs 8 = .ok (.if_icmp .lt 42, 3) := by decide +kernel
theorem dX3_toPairs_11 : decode cX3_toPairs 11 = .ok (.iconst 0, 1) := by decide +kernel
theorem dX3_toPairs_12 : decode cX3_toPairs 12 = .ok (.istore_n 3, 1) := by decide +kernel
theorem dX3_toPairs_13 : decode cX3_toPairs 13 = .ok (.iload_n 3, 1) := by decide +kernel
theorem dX3_toPairs_14 : decode cX3_toPairs 14 = .ok (.sipush 256, 3) := by decide +kernel
theorem dX3_toPairs_17 : decode cX3_toPairs 17 = .ok (.if_icmp .ge 26, 3) := by decide +kernel
theorem dX3_toPairs_20 : decode cX3_toPairs 20 = .ok (.aload_n 0, 1) := by decide +kernel
theorem dX3_toPairs_21 : decode cX3_toPairs 21 = .ok (.iload_n 3, 1) := by decide +kernel
theorem dX3_toPairs_22 : decode cX3_toPairs 22 = .ok (.iload_n 2, 1) := by decide +kernel
theorem dX3_toPairs_23 : decode cX3_toPairs 23 = .ok (.getstatic 9, 3) := by decide +kernel
theorem dX3_toPairs_26 : decode cX3_toPairs 26 = .ok (.iload_n 1, 1) := by decide +kernel
theorem dX3_toPairs_27 : decode cX3_toPairs 27 = .ok (.iaload, 1) := by decide +kernel
theorem dX3_toPairs_28 : decode cX3_toPairs 28 = .ok (.invokestatic 15, 3) := by decide +kernel
theorem dX3_toPairs_31 : decode cX3_toPairs 31 = .ok (.iinc 1 1, 3) := by decide +kernel
theorem dX3_toPairs_34 : decode cX3_toPairs 34 = .ok (.iload_n 3, 1) := by decide +kernel
theorem dX3_toPairs_35 : decode cX3_toPairs 35 = .ok (.iconst 2, 1) := by decide +kernel
theorem dX3_toPairs_36 : decode cX3_toPairs 36 = .ok (.iload_n 2, 1) := by decide +kernel
theorem dX3_toPairs_37 : decode cX3_toPairs 37 = .ok (.imul, 1) := by decide +kernel
theorem dX3_toPairs_38 : decode cX3_toPairs 38 = .ok (.iadd, 1) := by decide +kernel
theorem dX3_toPairs_39 : decode cX3_toPairs 39 = .ok (.istore_n 3, 1) := by decide +kernel
theorem dX3_toPairs_40 : decode cX3_toPairs 40 = .ok (.goto (-27), 3) := by decide +kernel
theorem dX3_toPairs_43 : decode cX3_toPairs 43 = .ok (.iload_n 2, 1) := by decide +kernel
theorem dX3_toPairs_44 : decode cX3_toPairs 44 = .ok (.iconst 1, 1) := by decide +kernel
theorem dX3_toPairs_45 : decode cX3_toPairs 45 = .ok (.ishr, 1) := by decide +kernel
theorem dX3_toPairs_46 : decode cX3_toPairs 46 = .ok (.istore_n 2, 1) := by decide +kernel
theorem dX3_toPairs_47 : decode cX3_toPairs 47 = .ok (.goto (-41), 3) := by decide +kernel
theorem dX3_toPairs_50 : decode cX3_toPairs 50 = .ok (.return_, 1) := by decide +kernel
theorem dX3_fromPairs_0 : decode cX3_fromPairs 0 = .ok (.bipush 127, 2) := by decide +kernel
theorem dX3_fromPairs_2 : decode cX3_fromPairs 2 = .ok (.istore_n 1, 1) := by decide +kernel
theorem dX3_fromPairs_3 : decode cX3_fromPairs 3 = .ok (.iconst 2, 1) := by decide +kernel
theorem dX3_fromPairs_4 : decode cX3_fromPairs 4 = .ok (.istore_n 2, 1) := by decide +kernel
theorem dX3_fromPairs_5 : decode cX3_fromPairs 5 = .ok (.iload_n 2, 1) := by decide +kernel
theorem dX3_fromPairs_6 : decode cX3_fromPairs 6 = .ok (.sipush 128, 3) := by decide +kernel
theorem dX3_fromPairs_9 : decode cX3_fromPairs 9 = .ok (.if_icmp .gt 42, 3) := by decide +kernel
theorem dX3_fromPairs_12 : decode cX3_fromPairs 12 = .ok (.iconst 0, 1) := by decide +kernel
theorem dX3_fromPairs_13 : decode cX3_fromPairs 13 = .ok (.istore_n 3, 1) := by decide +kernel
theorem dX3_fromPairs_14 : decode cX3_fromPairs 14 = .ok (.iload_n 3, 1) := by decide +kernel
theorem dX3_fromPairs_15 : decode cX3_fromPairs 15 = .ok (.sipush 256, 3) := by decide +kernel
theorem dX3_fromPairs_18 : decode cX3_fromPairs 18 = .ok (.if_icmp .ge 26, 3) := by decide +kernel
theorem dX3_fromPairs_21 : decode cX3_fromPairs 21 = .ok (.aload_n 0, 1) := by decide +kernel
theorem dX3_fromPairs_22 : decode cX3_fromPairs 22 = .ok (.iload_n 3, 1) := by decide +kernel
theorem dX3_fromPairs_23 : decode cX3_fromPairs 23 = .ok (.iload_n 2, 1) := by decide +kernel
theorem dX3_fromPairs_24 : decode cX3_fromPairs 24 = .ok (.getstatic 9, 3) := by decide +kernel
theorem dX3_fromPairs_27 : decode cX3_fromPairs 27 = .ok (.iload_n 1, 1) := by decide +kernel
theorem dX3_fromPairs_28 : decode cX3_fromPairs 28 = .ok (.iaload, 1) := by decide +kernel
theorem dX3_fromPairs_29 : decode cX3_fromPairs 29 = .ok (.invokestatic 19, 3) := by decide +kernel
theorem dX3_fromPairs_32 : decode cX3_fromPairs 32 = .ok (.iinc 1 (-1), 3) := by decide +kernel
theorem dX3_fromPairs_35 : decode cX3_fromPairs 35 = .ok (.iload_n 3, 1) := by decide +kernel
theorem dX3_fromPairs_36 : decode cX3_fromPairs 36 = .ok (.iconst 2, 1) := by decide +kernel
theorem dX3_fromPairs_37 : decode cX3_fromPairs 37 = .ok (.iload_n 2, 1) := by decide +kernel
theorem dX3_fromPairs_38 : decode cX3_fromPairs 38 = .ok (.imul, 1) := by decide +kernel
theorem dX3_fromPairs_39 : decode cX3_fromPairs 39 = .ok (.iadd, 1) := by decide +kernel
theorem dX3_fromPairs_40 : decode cX3_fromPairs 40 = .ok (.istore_n 3, 1) := by decide +kernel
theorem dX3_fromPairs_41 : decode cX3_fromPairs 41 = .ok (.goto (-27), 3) := by decide +kernel
theorem dX3_fromPairs_44 : decode cX3_fromPairs 44 = .ok (.iload_n 2, 1) := by decide +kernel
theorem dX3_fromPairs_45 : decode cX3_fromPairs 45 = .ok (.iconst 1, 1) := by decide +kernel
theorem dX3_fromPairs_46 : decode cX3_fromPairs 46 = .ok (.ishl, 1) := by decide +kernel
theorem dX3_fromPairs_47 : decode cX3_fromPairs 47 = .ok (.istore_n 2, 1) := by decide +kernel
theorem dX3_fromPairs_48 : decode cX3_fromPairs 48 = .ok (.goto (-43), 3) := by decide +kernel
theorem dX3_fromPairs_51 : decode cX3_fromPairs 51 = .ok (.iconst 0, 1) := by decide +kernel
theorem dX3_fromPairs_52 : decode cX3_fromPairs 52 = .ok (.istore_n 2, 1) := by decide +kernel
theorem dX3_fromPairs_53 : decode cX3_fromPairs 53 = .ok (.iload_n 2, 1) := by decide +kernel
theorem dX3_fromPairs_54 : decode cX3_fromPairs 54 = .ok (.sipush 256, 3) := by decide +kernel
theorem dX3_fromPairs_57 : decode cX3_fromPairs 57 = .ok (.if_icmp .ge 23, 3) := by decide +kernel
theorem dX3_fromPairs_60 : decode cX3_fromPairs 60 = .ok (.aload_n 0, 1) := by decide +kernel
theorem dX3_fromPairs_61 : decode cX3_fromPairs 61 = .ok (.iload_n 2, 1) := by decide +kernel
theorem dX3_fromPairs_62 : decode cX3_fromPairs 62 = .ok (.aload_n 0, 1) := by decide +kernel
theorem dX3_fromPairs_63 : decode cX3_fromPairs 63 = .ok (.iload_n 2, 1) := by decide +kernel
theorem dX3_fromPairs_64 : decode cX3_fromPairs 64 = .ok (.iaload, 1) := by decide +kernel
theorem dX3_fromPairs_65 : decode cX3_fromPairs 65 = .ok (.sipush 3303, 3) := by decide +kernel
theorem dX3_fromPairs_68 : decode cX3_fromPairs 68 = .ok (.imul, 1) := by decide +kernel
theorem dX3_fromPairs_69 : decode cX3_fromPairs 69 = .ok (.sipush 3329, 3) := by decide +kernel
theorem dX3_fromPairs_72 : decode cX3_fromPairs 72 = .ok (.irem, 1) := by decide +kernel
theorem dX3_fromPairs_73 : decode cX3_fromPairs 73 = .ok (.iastore, 1) := by decide +kernel
theorem dX3_fromPairs_74 : decode cX3_fromPairs 74 = .ok (.iinc 2 1, 3) := by decide +kernel
theorem dX3_fromPairs_77 : decode cX3_fromPairs 77 = .ok (.goto (-24), 3) := by decide +kernel
theorem dX3_fromPairs_80 : decode cX3_fromPairs 80 = .ok (.return_, 1) := by decide +kernel
theorem dX3_splitBlock_0 : decode cX3_splitBlock 0 = .ok (.iload_n 1, 1) := by decide +kernel
theorem dX3_splitBlock_1 : decode cX3_splitBlock 1 = .ok (.istore 4, 2) := by decide +kernel
theorem dX3_splitBlock_3 : decode cX3_splitBlock 3 = .ok (.iload 4, 2) := by decide +kernel
theorem dX3_splitBlock_5 : decode cX3_splitBlock 5 = .ok (.iload_n 1, 1) := by decide +kernel
theorem dX3_splitBlock_6 : decode cX3_splitBlock 6 = .ok (.iload_n 2, 1) := by decide +kernel
theorem dX3_splitBlock_7 : decode cX3_splitBlock 7 = .ok (.iadd, 1) := by decide +kernel
theorem dX3_splitBlock_8 : decode cX3_splitBlock 8 = .ok (.if_icmp .ge 61, 3) := by decide +kernel
theorem dX3_splitBlock_11 : decode cX3_splitBlock 11 = .ok (.aload_n 0, 1) := by decide +kernel
theorem dX3_splitBlock_12 : decode cX3_splitBlock 12 = .ok (.iload 4, 2) := by decide +kernel
theorem dX3_splitBlock_14 : decode cX3_splitBlock 14 = .ok (.iaload, 1) := by decide +kernel
theorem dX3_splitBlock_15 : decode cX3_splitBlock 15 = .ok (.istore 5, 2) := by decide +kernel
theorem dX3_splitBlock_17 : decode cX3_splitBlock 17 = .ok (.aload_n 0, 1) := by decide +kernel
theorem dX3_splitBlock_18 : decode cX3_splitBlock 18 = .ok (.iload 4, 2) := by decide +kernel
theorem dX3_splitBlock_20 : decode cX3_splitBlock 20 = .ok (.iload_n 2, 1) := by decide +kernel
theorem dX3_splitBlock_21 : decode cX3_splitBlock 21 = .ok (.iadd, 1) := by decide +kernel
theorem dX3_splitBlock_22 : decode cX3_splitBlock 22 = .ok (.iaload, 1) := by decide +kernel
theorem dX3_splitBlock_23 : decode cX3_splitBlock 23 = .ok (.iload_n 3, 1) := by decide +kernel
theorem dX3_splitBlock_24 : decode cX3_splitBlock 24 = .ok (.imul, 1) := by decide +kernel
theorem dX3_splitBlock_25 : decode cX3_splitBlock 25 = .ok (.sipush 3329, 3) := by decide +kernel
theorem dX3_splitBlock_28 : decode cX3_splitBlock 28 = .ok (.irem, 1) := by decide +kernel
theorem dX3_splitBlock_29 : decode cX3_splitBlock 29 = .ok (.istore 6, 2) := by decide +kernel
theorem dX3_splitBlock_31 : decode cX3_splitBlock 31 = .ok (.aload_n 0, 1) := by decide +kernel
theorem dX3_splitBlock_32 : decode cX3_splitBlock 32 = .ok (.iload 4, 2) := by decide +kernel
theorem dX3_splitBlock_34 : decode cX3_splitBlock 34 = .ok (.iload 5, 2) := by decide +kernel
theorem dX3_splitBlock_36 : decode cX3_splitBlock 36 = .ok (.iload 6, 2) := by decide +kernel
theorem dX3_splitBlock_38 : decode cX3_splitBlock 38 = .ok (.iadd, 1) := by decide +kernel
theorem dX3_splitBlock_39 : decode cX3_splitBlock 39 = .ok (.sipush 3329, 3) := by decide +kernel
theorem dX3_splitBlock_42 : decode cX3_splitBlock 42 = .ok (.irem, 1) := by decide +kernel
theorem dX3_splitBlock_43 : decode cX3_splitBlock 43 = .ok (.iastore, 1) := by decide +kernel
theorem dX3_splitBlock_44 : decode cX3_splitBlock 44 = .ok (.aload_n 0, 1) := by decide +kernel
theorem dX3_splitBlock_45 : decode cX3_splitBlock 45 = .ok (.iload 4, 2) := by decide +kernel
theorem dX3_splitBlock_47 : decode cX3_splitBlock 47 = .ok (.iload_n 2, 1) := by decide +kernel
theorem dX3_splitBlock_48 : decode cX3_splitBlock 48 = .ok (.iadd, 1) := by decide +kernel
theorem dX3_splitBlock_49 : decode cX3_splitBlock 49 = .ok (.iload 5, 2) := by decide +kernel
theorem dX3_splitBlock_51 : decode cX3_splitBlock 51 = .ok (.iload 6, 2) := by decide +kernel
theorem dX3_splitBlock_53 : decode cX3_splitBlock 53 = .ok (.isub, 1) := by decide +kernel
theorem dX3_splitBlock_54 : decode cX3_splitBlock 54 = .ok (.sipush 3329, 3) := by decide +kernel
theorem dX3_splitBlock_57 : decode cX3_splitBlock 57 = .ok (.iadd, 1) := by decide +kernel
theorem dX3_splitBlock_58 : decode cX3_splitBlock 58 = .ok (.sipush 3329, 3) := by decide +kernel
theorem dX3_splitBlock_61 : decode cX3_splitBlock 61 = .ok (.irem, 1) := by decide +kernel
theorem dX3_splitBlock_62 : decode cX3_splitBlock 62 = .ok (.iastore, 1) := by decide +kernel
theorem dX3_splitBlock_63 : decode cX3_splitBlock 63 = .ok (.iinc 4 1, 3) := by decide +kernel
theorem dX3_splitBlock_66 : decode cX3_splitBlock 66 = .ok (.goto (-63), 3) := by decide +kernel
theorem dX3_splitBlock_69 : decode cX3_splitBlock 69 = .ok (.return_, 1) := by decide +kernel
theorem dX3_joinBlock_0 : decode cX3_joinBlock 0 = .ok (.iload_n 1, 1) := by decide +kernel
theorem dX3_joinBlock_1 : decode cX3_joinBlock 1 = .ok (.istore 4, 2) := by decide +kernel
theorem dX3_joinBlock_3 : decode cX3_joinBlock 3 = .ok (.iload 4, 2) := by decide +kernel
theorem dX3_joinBlock_5 : decode cX3_joinBlock 5 = .ok (.iload_n 1, 1) := by decide +kernel
theorem dX3_joinBlock_6 : decode cX3_joinBlock 6 = .ok (.iload_n 2, 1) := by decide +kernel
theorem dX3_joinBlock_7 : decode cX3_joinBlock 7 = .ok (.iadd, 1) := by decide +kernel
theorem dX3_joinBlock_8 : decode cX3_joinBlock 8 = .ok (.if_icmp .ge 57, 3) := by decide +kernel
theorem dX3_joinBlock_11 : decode cX3_joinBlock 11 = .ok (.aload_n 0, 1) := by decide +kernel
theorem dX3_joinBlock_12 : decode cX3_joinBlock 12 = .ok (.iload 4, 2) := by decide +kernel
theorem dX3_joinBlock_14 : decode cX3_joinBlock 14 = .ok (.iaload, 1) := by decide +kernel
theorem dX3_joinBlock_15 : decode cX3_joinBlock 15 = .ok (.istore 5, 2) := by decide +kernel
theorem dX3_joinBlock_17 : decode cX3_joinBlock 17 = .ok (.aload_n 0, 1) := by decide +kernel
theorem dX3_joinBlock_18 : decode cX3_joinBlock 18 = .ok (.iload 4, 2) := by decide +kernel
theorem dX3_joinBlock_20 : decode cX3_joinBlock 20 = .ok (.iload_n 2, 1) := by decide +kernel
theorem dX3_joinBlock_21 : decode cX3_joinBlock 21 = .ok (.iadd, 1) := by decide +kernel
theorem dX3_joinBlock_22 : decode cX3_joinBlock 22 = .ok (.iaload, 1) := by decide +kernel
theorem dX3_joinBlock_23 : decode cX3_joinBlock 23 = .ok (.istore 6, 2) := by decide +kernel
theorem dX3_joinBlock_25 : decode cX3_joinBlock 25 = .ok (.aload_n 0, 1) := by decide +kernel
theorem dX3_joinBlock_26 : decode cX3_joinBlock 26 = .ok (.iload 4, 2) := by decide +kernel
theorem dX3_joinBlock_28 : decode cX3_joinBlock 28 = .ok (.iload 5, 2) := by decide +kernel
theorem dX3_joinBlock_30 : decode cX3_joinBlock 30 = .ok (.iload 6, 2) := by decide +kernel
theorem dX3_joinBlock_32 : decode cX3_joinBlock 32 = .ok (.iadd, 1) := by decide +kernel
theorem dX3_joinBlock_33 : decode cX3_joinBlock 33 = .ok (.sipush 3329, 3) := by decide +kernel
theorem dX3_joinBlock_36 : decode cX3_joinBlock 36 = .ok (.irem, 1) := by decide +kernel
theorem dX3_joinBlock_37 : decode cX3_joinBlock 37 = .ok (.iastore, 1) := by decide +kernel
theorem dX3_joinBlock_38 : decode cX3_joinBlock 38 = .ok (.aload_n 0, 1) := by decide +kernel
theorem dX3_joinBlock_39 : decode cX3_joinBlock 39 = .ok (.iload 4, 2) := by decide +kernel
theorem dX3_joinBlock_41 : decode cX3_joinBlock 41 = .ok (.iload_n 2, 1) := by decide +kernel
theorem dX3_joinBlock_42 : decode cX3_joinBlock 42 = .ok (.iadd, 1) := by decide +kernel
theorem dX3_joinBlock_43 : decode cX3_joinBlock 43 = .ok (.iload 6, 2) := by decide +kernel
theorem dX3_joinBlock_45 : decode cX3_joinBlock 45 = .ok (.iload 5, 2) := by decide +kernel
theorem dX3_joinBlock_47 : decode cX3_joinBlock 47 = .ok (.isub, 1) := by decide +kernel
theorem dX3_joinBlock_48 : decode cX3_joinBlock 48 = .ok (.sipush 3329, 3) := by decide +kernel
theorem dX3_joinBlock_51 : decode cX3_joinBlock 51 = .ok (.iadd, 1) := by decide +kernel
theorem dX3_joinBlock_52 : decode cX3_joinBlock 52 = .ok (.iload_n 3, 1) := by decide +kernel
theorem dX3_joinBlock_53 : decode cX3_joinBlock 53 = .ok (.imul, 1) := by decide +kernel
theorem dX3_joinBlock_54 : decode cX3_joinBlock 54 = .ok (.sipush 3329, 3) := by decide +kernel
theorem dX3_joinBlock_57 : decode cX3_joinBlock 57 = .ok (.irem, 1) := by decide +kernel
theorem dX3_joinBlock_58 : decode cX3_joinBlock 58 = .ok (.iastore, 1) := by decide +kernel
theorem dX3_joinBlock_59 : decode cX3_joinBlock 59 = .ok (.iinc 4 1, 3) := by decide +kernel
theorem dX3_joinBlock_62 : decode cX3_joinBlock 62 = .ok (.goto (-59), 3) := by decide +kernel
theorem dX3_joinBlock_65 : decode cX3_joinBlock 65 = .ok (.return_, 1) := by decide +kernel
theorem dX3_multiplyPairs_0 : decode cX3_multiplyPairs 0 = .ok (.iconst 0, 1) := by decide +kernel
theorem dX3_multiplyPairs_1 : decode cX3_multiplyPairs 1 = .ok (.istore_n 3, 1) := by decide +kernel
theorem dX3_multiplyPairs_2 : decode cX3_multiplyPairs 2 = .ok (.iload_n 3, 1) := by decide +kernel
theorem dX3_multiplyPairs_3 : decode cX3_multiplyPairs 3 = .ok (.bipush 64, 2) := by decide +kernel
theorem dX3_multiplyPairs_5 : decode cX3_multiplyPairs 5 = .ok (.if_icmp .ge 47, 3) := by decide +kernel
theorem dX3_multiplyPairs_8 : decode cX3_multiplyPairs 8 = .ok (.getstatic 9, 3) := by decide +kernel
theorem dX3_multiplyPairs_11 : decode cX3_multiplyPairs 11 = .ok (.bipush 64, 2) := by decide +kernel
theorem dX3_multiplyPairs_13 : decode cX3_multiplyPairs 13 = .ok (.iload_n 3, 1) := by decide +kernel
theorem dX3_multiplyPairs_14 : decode cX3_multiplyPairs 14 = .ok (.iadd, 1) := by decide +kernel
theorem dX3_multiplyPairs_15 : decode cX3_multiplyPairs 15 = .ok (.iaload, 1) := by decide +kernel
theorem dX3_multiplyPairs_16 : decode cX3_multiplyPairs 16 = .ok (.istore 4, 2) := by decide +kernel
theorem dX3_multiplyPairs_18 : decode cX3_multiplyPairs 18 = .ok (.aload_n 0, 1) := by decide +kernel
theorem dX3_multiplyPairs_19 : decode cX3_multiplyPairs 19 = .ok (.aload_n 1, 1) := by decide +kernel
theorem dX3_multiplyPairs_20 : decode cX3_multiplyPairs 20 = .ok (.aload_n 2, 1) := by decide +kernel
theorem dX3_multiplyPairs_21 : decode cX3_multiplyPairs 21 = .ok (.iconst 4, 1) := by decide +kernel
theorem dX3_multiplyPairs_22 : decode cX3_multiplyPairs 22 = .ok (.iload_n 3, 1) := by decide +kernel
theorem dX3_multiplyPairs_23 : decode cX3_multiplyPairs 23 = .ok (.imul, 1) := by decide +kernel
theorem dX3_multiplyPairs_24 : decode cX3_multiplyPairs 24 = .ok (.iload 4, 2) := by decide +kernel
theorem dX3_multiplyPairs_26 : decode cX3_multiplyPairs 26 = .ok (.invokestatic 22, 3) := by decide +kernel
theorem dX3_multiplyPairs_29 : decode cX3_multiplyPairs 29 = .ok (.aload_n 0, 1) := by decide +kernel
theorem dX3_multiplyPairs_30 : decode cX3_multiplyPairs 30 = .ok (.aload_n 1, 1) := by decide +kernel
theorem dX3_multiplyPairs_31 : decode cX3_multiplyPairs 31 = .ok (.aload_n 2, 1) := by decide +kernel
theorem dX3_multiplyPairs_32 : decode cX3_multiplyPairs 32 = .ok (.iconst 4, 1) := by decide +kernel
theorem dX3_multiplyPairs_33 : decode cX3_multiplyPairs 33 = .ok (.iload_n 3, 1) := by decide +kernel
theorem dX3_multiplyPairs_34 : decode cX3_multiplyPairs 34 = .ok (.imul, 1) := by decide +kernel
theorem dX3_multiplyPairs_35 : decode cX3_multiplyPairs 35 = .ok (.iconst 2, 1) := by decide +kernel
theorem dX3_multiplyPairs_36 : decode cX3_multiplyPairs 36 = .ok (.iadd, 1) := by decide +kernel
theorem dX3_multiplyPairs_37 : decode cX3_multiplyPairs 37 = .ok (.sipush 3329, 3) := by decide +kernel
theorem dX3_multiplyPairs_40 : decode cX3_multiplyPairs 40 = .ok (.iload 4, 2) := by decide +kernel
theorem dX3_multiplyPairs_42 : decode cX3_multiplyPairs 42 = .ok (.isub, 1) := by decide +kernel
theorem dX3_multiplyPairs_43 : decode cX3_multiplyPairs 43 = .ok (.invokestatic 22, 3) := by decide +kernel
theorem dX3_multiplyPairs_46 : decode cX3_multiplyPairs 46 = .ok (.iinc 3 1, 3) := by decide +kernel
theorem dX3_multiplyPairs_49 : decode cX3_multiplyPairs 49 = .ok (.goto (-47), 3) := by decide +kernel
theorem dX3_multiplyPairs_52 : decode cX3_multiplyPairs 52 = .ok (.return_, 1) := by decide +kernel
theorem dX3_multiplyPair_0 : decode cX3_multiplyPair 0 = .ok (.aload_n 0, 1) := by decide +kernel
theorem dX3_multiplyPair_1 : decode cX3_multiplyPair 1 = .ok (.iload_n 3, 1) := by decide +kernel
theorem dX3_multiplyPair_2 : decode cX3_multiplyPair 2 = .ok (.iaload, 1) := by decide +kernel
theorem dX3_multiplyPair_3 : decode cX3_multiplyPair 3 = .ok (.aload_n 1, 1) := by decide +kernel
theorem dX3_multiplyPair_4 : decode cX3_multiplyPair 4 = .ok (.iload_n 3, 1) := by decide +kernel
theorem dX3_multiplyPair_5 : decode cX3_multiplyPair 5 = .ok (.iaload, 1) := by decide +kernel
theorem dX3_multiplyPair_6 : decode cX3_multiplyPair 6 = .ok (.imul, 1) := by decide +kernel
theorem dX3_multiplyPair_7 : decode cX3_multiplyPair 7 = .ok (.aload_n 0, 1) := by decide +kernel
theorem dX3_multiplyPair_8 : decode cX3_multiplyPair 8 = .ok (.iload_n 3, 1) := by decide +kernel
theorem dX3_multiplyPair_9 : decode cX3_multiplyPair 9 = .ok (.iconst 1, 1) := by decide +kernel
theorem dX3_multiplyPair_10 : decode cX3_multiplyPair 10 = .ok (.iadd, 1) := by decide +kernel
theorem dX3_multiplyPair_11 : decode cX3_multiplyPair 11 = .ok (.iaload, 1) := by decide +kernel
theorem dX3_multiplyPair_12 : decode cX3_multiplyPair 12 = .ok (.aload_n 1, 1) := by decide +kernel
theorem dX3_multiplyPair_13 : decode cX3_multiplyPair 13 = .ok (.iload_n 3, 1) := by decide +kernel
theorem dX3_multiplyPair_14 : decode cX3_multiplyPair 14 = .ok (.iconst 1, 1) := by decide +kernel
theorem dX3_multiplyPair_15 : decode cX3_multiplyPair 15 = .ok (.iadd, 1) := by decide +kernel
theorem dX3_multiplyPair_16 : decode cX3_multiplyPair 16 = .ok (.iaload, 1) := by decide +kernel
theorem dX3_multiplyPair_17 : decode cX3_multiplyPair 17 = .ok (.imul, 1) := by decide +kernel
theorem dX3_multiplyPair_18 : decode cX3_multiplyPair 18 = .ok (.sipush 3329, 3) := by decide +kernel
theorem dX3_multiplyPair_21 : decode cX3_multiplyPair 21 = .ok (.irem, 1) := by decide +kernel
theorem dX3_multiplyPair_22 : decode cX3_multiplyPair 22 = .ok (.iload 4, 2) := by decide +kernel
theorem dX3_multiplyPair_24 : decode cX3_multiplyPair 24 = .ok (.imul, 1) := by decide +kernel
theorem dX3_multiplyPair_25 : decode cX3_multiplyPair 25 = .ok (.iadd, 1) := by decide +kernel
theorem dX3_multiplyPair_26 : decode cX3_multiplyPair 26 = .ok (.istore 5, 2) := by decide +kernel
theorem dX3_multiplyPair_28 : decode cX3_multiplyPair 28 = .ok (.aload_n 0, 1) := by decide +kernel
theorem dX3_multiplyPair_29 : decode cX3_multiplyPair 29 = .ok (.iload_n 3, 1) := by decide +kernel
theorem dX3_multiplyPair_30 : decode cX3_multiplyPair 30 = .ok (.iaload, 1) := by decide +kernel
theorem dX3_multiplyPair_31 : decode cX3_multiplyPair 31 = .ok (.aload_n 1, 1) := by decide +kernel
theorem dX3_multiplyPair_32 : decode cX3_multiplyPair 32 = .ok (.iload_n 3, 1) := by decide +kernel
theorem dX3_multiplyPair_33 : decode cX3_multiplyPair 33 = .ok (.iconst 1, 1) := by decide +kernel
theorem dX3_multiplyPair_34 : decode cX3_multiplyPair 34 = .ok (.iadd, 1) := by decide +kernel
theorem dX3_multiplyPair_35 : decode cX3_multiplyPair 35 = .ok (.iaload, 1) := by decide +kernel
theorem dX3_multiplyPair_36 : decode cX3_multiplyPair 36 = .ok (.imul, 1) := by decide +kernel
theorem dX3_multiplyPair_37 : decode cX3_multiplyPair 37 = .ok (.aload_n 0, 1) := by decide +kernel
theorem dX3_multiplyPair_38 : decode cX3_multiplyPair 38 = .ok (.iload_n 3, 1) := by decide +kernel
theorem dX3_multiplyPair_39 : decode cX3_multiplyPair 39 = .ok (.iconst 1, 1) := by decide +kernel
theorem dX3_multiplyPair_40 : decode cX3_multiplyPair 40 = .ok (.iadd, 1) := by decide +kernel
theorem dX3_multiplyPair_41 : decode cX3_multiplyPair 41 = .ok (.iaload, 1) := by decide +kernel
theorem dX3_multiplyPair_42 : decode cX3_multiplyPair 42 = .ok (.aload_n 1, 1) := by decide +kernel
theorem dX3_multiplyPair_43 : decode cX3_multiplyPair 43 = .ok (.iload_n 3, 1) := by decide +kernel
theorem dX3_multiplyPair_44 : decode cX3_multiplyPair 44 = .ok (.iaload, 1) := by decide +kernel
theorem dX3_multiplyPair_45 : decode cX3_multiplyPair 45 = .ok (.imul, 1) := by decide +kernel
theorem dX3_multiplyPair_46 : decode cX3_multiplyPair 46 = .ok (.iadd, 1) := by decide +kernel
theorem dX3_multiplyPair_47 : decode cX3_multiplyPair 47 = .ok (.istore 6, 2) := by decide +kernel
theorem dX3_multiplyPair_49 : decode cX3_multiplyPair 49 = .ok (.aload_n 2, 1) := by decide +kernel
theorem dX3_multiplyPair_50 : decode cX3_multiplyPair 50 = .ok (.iload_n 3, 1) := by decide +kernel
theorem dX3_multiplyPair_51 : decode cX3_multiplyPair 51 = .ok (.iload 5, 2) := by decide +kernel
theorem dX3_multiplyPair_53 : decode cX3_multiplyPair 53 = .ok (.sipush 3329, 3) := by decide +kernel
theorem dX3_multiplyPair_56 : decode cX3_multiplyPair 56 = .ok (.irem, 1) := by decide +kernel
theorem dX3_multiplyPair_57 : decode cX3_multiplyPair 57 = .ok (.iastore, 1) := by decide +kernel
theorem dX3_multiplyPair_58 : decode cX3_multiplyPair 58 = .ok (.aload_n 2, 1) := by decide +kernel
theorem dX3_multiplyPair_59 : decode cX3_multiplyPair 59 = .ok (.iload_n 3, 1) := by decide +kernel
theorem dX3_multiplyPair_60 : decode cX3_multiplyPair 60 = .ok (.iconst 1, 1) := by decide +kernel
theorem dX3_multiplyPair_61 : decode cX3_multiplyPair 61 = .ok (.iadd, 1) := by decide +kernel
theorem dX3_multiplyPair_62 : decode cX3_multiplyPair 62 = .ok (.iload 6, 2) := by decide +kernel
theorem dX3_multiplyPair_64 : decode cX3_multiplyPair 64 = .ok (.sipush 3329, 3) := by decide +kernel
theorem dX3_multiplyPair_67 : decode cX3_multiplyPair 67 = .ok (.irem, 1) := by decide +kernel
theorem dX3_multiplyPair_68 : decode cX3_multiplyPair 68 = .ok (.iastore, 1) := by decide +kernel
theorem dX3_multiplyPair_69 : decode cX3_multiplyPair 69 = .ok (.return_, 1) := by decide +kernel
theorem dX3_addTimes_0 : decode cX3_addTimes 0 = .ok (.iconst 0, 1) := by decide +kernel
theorem dX3_addTimes_1 : decode cX3_addTimes 1 = .ok (.istore_n 3, 1) := by decide +kernel
theorem dX3_addTimes_2 : decode cX3_addTimes 2 = .ok (.iload_n 3, 1) := by decide +kernel
theorem dX3_addTimes_3 : decode cX3_addTimes 3 = .ok (.sipush 256, 3) := by decide +kernel
theorem dX3_addTimes_6 : decode cX3_addTimes 6 = .ok (.if_icmp .ge 29, 3) := by decide +kernel
theorem dX3_addTimes_9 : decode cX3_addTimes 9 = .ok (.aload_n 0, 1) := by decide +kernel
theorem dX3_addTimes_10 : decode cX3_addTimes 10 = .ok (.iload_n 3, 1) := by decide +kernel
theorem dX3_addTimes_11 : decode cX3_addTimes 11 = .ok (.aload_n 0, 1) := by decide +kernel
theorem dX3_addTimes_12 : decode cX3_addTimes 12 = .ok (.iload_n 3, 1) := by decide +kernel
theorem dX3_addTimes_13 : decode cX3_addTimes 13 = .ok (.iaload, 1) := by decide +kernel
theorem dX3_addTimes_14 : decode cX3_addTimes 14 = .ok (.iload_n 2, 1) := by decide +kernel
theorem dX3_addTimes_15 : decode cX3_addTimes 15 = .ok (.aload_n 1, 1) := by decide +kernel
theorem dX3_addTimes_16 : decode cX3_addTimes 16 = .ok (.iload_n 3, 1) := by decide +kernel
theorem dX3_addTimes_17 : decode cX3_addTimes 17 = .ok (.iaload, 1) := by decide +kernel
theorem dX3_addTimes_18 : decode cX3_addTimes 18 = .ok (.imul, 1) := by decide +kernel
theorem dX3_addTimes_19 : decode cX3_addTimes 19 = .ok (.iadd, 1) := by decide +kernel
theorem dX3_addTimes_20 : decode cX3_addTimes 20 = .ok (.sipush 3329, 3) := by decide +kernel
theorem dX3_addTimes_23 : decode cX3_addTimes 23 = .ok (.iadd, 1) := by decide +kernel
theorem dX3_addTimes_24 : decode cX3_addTimes 24 = .ok (.sipush 3329, 3) := by decide +kernel
theorem dX3_addTimes_27 : decode cX3_addTimes 27 = .ok (.irem, 1) := by decide +kernel
theorem dX3_addTimes_28 : decode cX3_addTimes 28 = .ok (.iastore, 1) := by decide +kernel
theorem dX3_addTimes_29 : decode cX3_addTimes 29 = .ok (.iinc 3 1, 3) := by decide +kernel
theorem dX3_addTimes_32 : decode cX3_addTimes 32 = .ok (.goto (-30), 3) := by decide +kernel
theorem dX3_addTimes_35 : decode cX3_addTimes 35 = .ok (.return_, 1) := by decide +kernel
theorem dX4_init_0 : decode cX4_init 0 = .ok (.aload_n 0, 1) := by decide +kernel
theorem dX4_init_1 : decode cX4_init 1 = .ok (.invokespecial 3, 3) := by decide +kernel
theorem dX4_init_4 : decode cX4_init 4 = .ok (.aload_n 0, 1) := by decide +kernel
theorem dX4_init_5 : decode cX4_init 5 = .ok (.iload_n 1, 1) := by decide +kernel
theorem dX4_init_6 : decode cX4_init 6 = .ok (.iconst 0, 1) := by decide +kernel
theorem dX4_init_7 : decode cX4_init 7 = .ok (.invokestatic 9, 3) := by decide +kernel
theorem dX4_init_10 : decode cX4_init 10 = .ok (.putfield 15, 3) := by decide +kernel
theorem dX4_init_13 : decode cX4_init 13 = .ok (.aload_n 0, 1) := by decide +kernel
theorem dX4_init_14 : decode cX4_init 14 = .ok (.aload_n 0, 1) := by decide +kernel
theorem dX4_init_15 : decode cX4_init 15 = .ok (.getfield 15, 3) := by decide +kernel
theorem dX4_init_18 : decode cX4_init 18 = .ok (.iconst 3, 1) := by decide +kernel
theorem dX4_init_19 : decode cX4_init 19 = .ok (.iadd, 1) := by decide +kernel
theorem dX4_init_20 : decode cX4_init 20 = .ok (.iconst 4, 1) := by decide +kernel
theorem dX4_init_21 : decode cX4_init 21 = .ok (.idiv, 1) := by decide +kernel
theorem dX4_init_22 : decode cX4_init 22 = .ok (.newarray .int, 2) := by decide +kernel
theorem dX4_init_24 : decode cX4_init 24 = .ok (.putfield 21, 3) := by decide +kernel
theorem dX4_init_27 : decode cX4_init 27 = .ok (.return_, 1) := by decide +kernel
theorem dX4_size_0 : decode cX4_size 0 = .ok (.aload_n 0, 1) := by decide +kernel
theorem dX4_size_1 : decode cX4_size 1 = .ok (.getfield 25, 3) := by decide +kernel
theorem dX4_size_4 : decode cX4_size 4 = .ok (.ireturn, 1) := by decide +kernel
theorem dX4_clear_0 : decode cX4_clear 0 = .ok (.aload_n 0, 1) := by decide +kernel
theorem dX4_clear_1 : decode cX4_clear 1 = .ok (.iconst 0, 1) := by decide +kernel
theorem dX4_clear_2 : decode cX4_clear 2 = .ok (.putfield 25, 3) := by decide +kernel
theorem dX4_clear_5 : decode cX4_clear 5 = .ok (.return_, 1) := by decide +kernel
theorem dX4_cutTo_0 : decode cX4_cutTo 0 = .ok (.iload_n 1, 1) := by decide +kernel
theorem dX4_cutTo_1 : decode cX4_cutTo 1 = .ok (.ifCond .lt 16, 3) := by decide +kernel
theorem dX4_cutTo_4 : decode cX4_cutTo 4 = .ok (.iload_n 1, 1) := by decide +kernel
theorem dX4_cutTo_5 : decode cX4_cutTo 5 = .ok (.aload_n 0, 1) := by decide +kernel
theorem dX4_cutTo_6 : decode cX4_cutTo 6 = .ok (.getfield 25, 3) := by decide +kernel
theorem dX4_cutTo_9 : decode cX4_cutTo 9 = .ok (.if_icmp .ge 8, 3) := by decide +kernel
theorem dX4_cutTo_12 : decode cX4_cutTo 12 = .ok (.aload_n 0, 1) := by decide +kernel
theorem dX4_cutTo_13 : decode cX4_cutTo 13 = .ok (.iload_n 1, 1) := by decide +kernel
theorem dX4_cutTo_14 : decode cX4_cutTo 14 = .ok (.putfield 25, 3) := by decide +kernel
theorem dX4_cutTo_17 : decode cX4_cutTo 17 = .ok (.return_, 1) := by decide +kernel
theorem dX4_byteAt_0 : decode cX4_byteAt 0 = .ok (.iload_n 1, 1) := by decide +kernel
theorem dX4_byteAt_1 : decode cX4_byteAt 1 = .ok (.ifCond .lt 11, 3) := by decide +kernel
theorem dX4_byteAt_4 : decode cX4_byteAt 4 = .ok (.iload_n 1, 1) := by decide +kernel
theorem dX4_byteAt_5 : decode cX4_byteAt 5 = .ok (.aload_n 0, 1) := by decide +kernel
theorem dX4_byteAt_6 : decode cX4_byteAt 6 = .ok (.getfield 25, 3) := by decide +kernel
theorem dX4_byteAt_9 : decode cX4_byteAt 9 = .ok (.if_icmp .lt 5, 3) := by decide +kernel
theorem dX4_byteAt_12 : decode cX4_byteAt 12 = .ok (.iconst (-1), 1) := by decide +kernel
theorem dX4_byteAt_13 : decode cX4_byteAt 13 = .ok (.ireturn, 1) := by decide +kernel
theorem dX4_byteAt_14 : decode cX4_byteAt 14 = .ok (.aload_n 0, 1) := by decide +kernel
theorem dX4_byteAt_15 : decode cX4_byteAt 15 = .ok (.getfield 21, 3) := by decide +kernel
theorem dX4_byteAt_18 : decode cX4_byteAt 18 = .ok (.iload_n 1, 1) := by decide +kernel
theorem dX4_byteAt_19 : decode cX4_byteAt 19 = .ok (.iconst 2, 1) := by decide +kernel
theorem dX4_byteAt_20 : decode cX4_byteAt 20 = .ok (.ishr, 1) := by decide +kernel
theorem dX4_byteAt_21 : decode cX4_byteAt 21 = .ok (.iaload, 1) := by decide +kernel
theorem dX4_byteAt_22 : decode cX4_byteAt 22 = .ok (.iload_n 1, 1) := by decide +kernel
theorem dX4_byteAt_23 : decode cX4_byteAt 23 = .ok (.iconst 3, 1) := by decide +kernel
theorem dX4_byteAt_24 : decode cX4_byteAt 24 = .ok (.iand, 1) := by decide +kernel
theorem dX4_byteAt_25 : decode cX4_byteAt 25 = .ok (.iconst 3, 1) := by decide +kernel
theorem dX4_byteAt_26 : decode cX4_byteAt 26 = .ok (.ishl, 1) := by decide +kernel
theorem dX4_byteAt_27 : decode cX4_byteAt 27 = .ok (.iushr, 1) := by decide +kernel
theorem dX4_byteAt_28 : decode cX4_byteAt 28 = .ok (.sipush 255, 3) := by decide +kernel
theorem dX4_byteAt_31 : decode cX4_byteAt 31 = .ok (.iand, 1) := by decide +kernel
theorem dX4_byteAt_32 : decode cX4_byteAt 32 = .ok (.ireturn, 1) := by decide +kernel
theorem dX4_replace_0 : decode cX4_replace 0 = .ok (.iload_n 1, 1) := by decide +kernel
theorem dX4_replace_1 : decode cX4_replace 1 = .ok (.ifCond .lt 11, 3) := by decide +kernel
theorem dX4_replace_4 : decode cX4_replace 4 = .ok (.iload_n 1, 1) := by decide +kernel
theorem dX4_replace_5 : decode cX4_replace 5 = .ok (.aload_n 0, 1) := by decide +kernel
theorem dX4_replace_6 : decode cX4_replace 6 = .ok (.getfield 25, 3) := by decide +kernel
theorem dX4_replace_9 : decode cX4_replace 9 = .ok (.if_icmp .lt 5, 3) := by decide +kernel
theorem dX4_replace_12 : decode cX4_replace 12 = .ok (.iconst 0, 1) := by decide +kernel
theorem dX4_replace_13 : decode cX4_replace 13 = .ok (.ireturn, 1) := by decide +kernel
theorem dX4_replace_14 : decode cX4_replace 14 = .ok (.iload_n 1, 1) := by decide +kernel
theorem dX4_replace_15 : decode cX4_replace 15 = .ok (.iconst 3, 1) := by decide +kernel
theorem dX4_replace_16 : decode cX4_replace 16 = .ok (.iand, 1) := by decide +kernel
theorem dX4_replace_17 : decode cX4_replace 17 = .ok (.iconst 3, 1) := by decide +kernel
theorem dX4_replace_18 : decode cX4_replace 18 = .ok (.ishl, 1) := by decide +kernel
theorem dX4_replace_19 : decode cX4_replace 19 = .ok (.istore_n 3, 1) := by decide +kernel
theorem dX4_replace_20 : decode cX4_replace 20 = .ok (.aload_n 0, 1) := by decide +kernel
theorem dX4_replace_21 : decode cX4_replace 21 = .ok (.getfield 21, 3) := by decide +kernel
theorem dX4_replace_24 : decode cX4_replace 24 = .ok (.iload_n 1, 1) := by decide +kernel
theorem dX4_replace_25 : decode cX4_replace 25 = .ok (.iconst 2, 1) := by decide +kernel
theorem dX4_replace_26 : decode cX4_replace 26 = .ok (.ishr, 1) := by decide +kernel
theorem dX4_replace_27 : decode cX4_replace 27 = .ok (.aload_n 0, 1) := by decide +kernel
theorem dX4_replace_28 : decode cX4_replace 28 = .ok (.getfield 21, 3) := by decide +kernel
theorem dX4_replace_31 : decode cX4_replace 31 = .ok (.iload_n 1, 1) := by decide +kernel
theorem dX4_replace_32 : decode cX4_replace 32 = .ok (.iconst 2, 1) := by decide +kernel
theorem dX4_replace_33 : decode cX4_replace 33 = .ok (.ishr, 1) := by decide +kernel
theorem dX4_replace_34 : decode cX4_replace 34 = .ok (.iaload, 1) := by decide +kernel
theorem dX4_replace_35 : decode cX4_replace 35 = .ok (.sipush 255, 3) := by decide +kernel
theorem dX4_replace_38 : decode cX4_replace 38 = .ok (.iload_n 3, 1) := by decide +kernel
theorem dX4_replace_39 : decode cX4_replace 39 = .ok (.ishl, 1) := by decide +kernel
theorem dX4_replace_40 : decode cX4_replace 40 = .ok (.iconst (-1), 1) := by decide +kernel
theorem dX4_replace_41 : decode cX4_replace 41 = .ok (.ixor, 1) := by decide +kernel
theorem dX4_replace_42 : decode cX4_replace 42 = .ok (.iand, 1) := by decide +kernel
theorem dX4_replace_43 : decode cX4_replace 43 = .ok (.iload_n 2, 1) := by decide +kernel
theorem dX4_replace_44 : decode cX4_replace 44 = .ok (.sipush 255, 3) := by decide +kernel
theorem dX4_replace_47 : decode cX4_replace 47 = .ok (.iand, 1) := by decide +kernel
theorem dX4_replace_48 : decode cX4_replace 48 = .ok (.iload_n 3, 1) := by decide +kernel
theorem dX4_replace_49 : decode cX4_replace 49 = .ok (.ishl, 1) := by decide +kernel
theorem dX4_replace_50 : decode cX4_replace 50 = .ok (.ior, 1) := by decide +kernel
theorem dX4_replace_51 : decode cX4_replace 51 = .ok (.iastore, 1) := by decide +kernel
theorem dX4_replace_52 : decode cX4_replace 52 = .ok (.iconst 1, 1) := by decide +kernel
theorem dX4_replace_53 : decode cX4_replace 53 = .ok (.ireturn, 1) := by decide +kernel
theorem dX4_append_0 : decode cX4_append 0 = .ok (.aload_n 0, 1) := by decide +kernel
theorem dX4_append_1 : decode cX4_append 1 = .ok (.getfield 25, 3) := by decide +kernel
theorem dX4_append_4 : decode cX4_append 4 = .ok (.aload_n 0, 1) := by decide +kernel
theorem dX4_append_5 : decode cX4_append 5 = .ok (.getfield 15, 3) := by decide +kernel
theorem dX4_append_8 : decode cX4_append 8 = .ok (.if_icmp .ge 25, 3) := by decide +kernel
theorem dX4_append_11 : decode cX4_append 11 = .ok (.aload_n 0, 1) := by decide +kernel
theorem dX4_append_12 : decode cX4_append 12 = .ok (.dup, 1) := by decide +kernel
theorem dX4_append_13 : decode cX4_append 13 = .ok (.getfield 25, 3) := by decide +kernel
theorem dX4_append_16 : decode cX4_append 16 = .ok (.iconst 1, 1) := by decide +kernel
theorem dX4_append_17 : decode cX4_append 17 = .ok (.iadd, 1) := by decide +kernel
theorem dX4_append_18 : decode cX4_append 18 = .ok (.putfield 25, 3) := by decide +kernel
theorem dX4_append_21 : decode cX4_append 21 = .ok (.aload_n 0, 1) := by decide +kernel
theorem dX4_append_22 : decode cX4_append 22 = .ok (.aload_n 0, 1) := by decide +kernel
theorem dX4_append_23 : decode cX4_append 23 = .ok (.getfield 25, 3) := by decide +kernel
theorem dX4_append_26 : decode cX4_append 26 = .ok (.iconst 1, 1) := by decide +kernel
theorem dX4_append_27 : decode cX4_append 27 = .ok (.isub, 1) := by decide +kernel
theorem dX4_append_28 : decode cX4_append 28 = .ok (.iload_n 1, 1) := by decide +kernel
theorem dX4_append_29 : decode cX4_append 29 = .ok (.invokevirtual 28, 3) := by decide +kernel
theorem dX4_append_32 : decode cX4_append 32 = .ok (.pop, 1) := by decide +kernel
theorem dX4_append_33 : decode cX4_append 33 = .ok (.return_, 1) := by decide +kernel
theorem dX4_appendWord_0 : decode cX4_appendWord 0 = .ok (.aload_n 0, 1) := by decide +kernel
theorem dX4_appendWord_1 : decode cX4_appendWord 1 = .ok (.iload_n 1, 1) := by decide +kernel
theorem dX4_appendWord_2 : decode cX4_appendWord 2 = .ok (.bipush 24, 2) := by decide +kernel
theorem dX4_appendWord_4 : decode cX4_appendWord 4 = .ok (.iushr, 1) := by decide +kernel
theorem dX4_appendWord_5 : decode cX4_appendWord 5 = .ok (.invokevirtual 32, 3) := by decide +kernel
theorem dX4_appendWord_8 : decode cX4_appendWord 8 = .ok (.aload_n 0, 1) := by decide +kernel
theorem dX4_appendWord_9 : decode cX4_appendWord 9 = .ok (.iload_n 1, 1) := by decide +kernel
theorem dX4_appendWord_10 : decode cX4_appendWord 10 = .ok (.bipush 16, 2) := by decide +kernel
theorem dX4_appendWord_12 : decode cX4_appendWord 12 = .ok (.iushr, 1) := by decide +kernel
theorem dX4_appendWord_13 : decode cX4_appendWord 13 = .ok (.invokevirtual 32, 3) := by decide +kernel
theorem dX4_appendWord_16 : decode cX4_appendWord 16 = .ok (.aload_n 0, 1) := by decide +kernel
theorem dX4_appendWord_17 : decode cX4_appendWord 17 = .ok (.iload_n 1, 1) := by decide +kernel
theorem dX4_appendWord_18 : decode cX4_appendWord 18 = .ok (.bipush 8, 2) := by decide +kernel
theorem dX4_appendWord_20 : decode cX4_appendWord 20 = .ok (.iushr, 1) := by decide +kernel
theorem dX4_appendWord_21 : decode cX4_appendWord 21 = .ok (.invokevirtual 32, 3) := by decide +kernel
theorem dX4_appendWord_24 : decode cX4_appendWord 24 = .ok (.aload_n 0, 1) := by decide +kernel
theorem dX4_appendWord_25 : decode cX4_appendWord 25 = .ok (.iload_n 1, 1) := by decide +kernel
theorem dX4_appendWord_26 : decode cX4_appendWord 26 = .ok (.invokevirtual 32, 3) := by decide +kernel
theorem dX4_appendWord_29 : decode cX4_appendWord 29 = .ok (.return_, 1) := by decide +kernel
theorem dX4_appendPart_0 : decode cX4_appendPart 0 = .ok (.iconst 0, 1) := by decide +kernel
theorem dX4_appendPart_1 : decode cX4_appendPart 1 = .ok (.istore 4, 2) := by decide +kernel
theorem dX4_appendPart_3 : decode cX4_appendPart 3 = .ok (.iload 4, 2) := by decide +kernel
theorem dX4_appendPart_5 : decode cX4_appendPart 5 = .ok (.iload_n 3, 1) := by decide +kernel
theorem dX4_appendPart_6 : decode cX4_appendPart 6 = .ok (.if_icmp .ge 21, 3) := by decide +kernel
theorem dX4_appendPart_9 : decode cX4_appendPart 9 = .ok (.aload_n 0, 1) := by decide +kernel
theorem dX4_appendPart_10 : decode cX4_appendPart 10 = .ok (.aload_n 1, 1) := by decide +kernel
theorem dX4_appendPart_11 : decode cX4_appendPart 11 = .ok (.iload_n 2, 1) := by decide +kernel
theorem dX4_appendPart_12 : decode cX4_appendPart 12 = .ok (.iload 4, 2) := by decide +kernel
theorem dX4_appendPart_14 : decode cX4_appendPart 14 = .ok (.iadd, 1) := by decide +kernel
theorem dX4_appendPart_15 : decode cX4_appendPart 15 = .ok (.invokevirtual 36, 3) := by decide +kernel
theorem dX4_appendPart_18 : decode cX4_appendPart 18 = .ok (.invokevirtual 32, 3) := by decide +kernel
theorem dX4_appendPart_21 : decode cX4_appendPart 21 = .ok (.iinc 4 1, 3) := by decide +kernel
theorem dX4_appendPart_24 : decode cX4_appendPart 24 = .ok (.goto (-21), 3) := by decide +kernel
theorem dX4_appendPart_27 : decode cX4_appendPart 27 = .ok (.return_, 1) := by decide +kernel
theorem dX4_become_0 : decode cX4_become 0 = .ok (.aload_n 1, 1) := by decide +kernel
theorem dX4_become_1 : decode cX4_become 1 = .ok (.getfield 25, 3) := by decide +kernel
theorem dX4_become_4 : decode cX4_become 4 = .ok (.aload_n 0, 1) := by decide +kernel
theorem dX4_become_5 : decode cX4_become 5 = .ok (.getfield 15, 3) := by decide +kernel
theorem dX4_become_8 : decode cX4_become 8 = .ok (.if_icmp .le 4, 3) := by decide +kernel
theorem dX4_become_11 : decode cX4_become 11 = .ok (.return_, 1) := by decide +kernel
theorem dX4_become_12 : decode cX4_become 12 = .ok (.aload_n 1, 1) := by decide +kernel
theorem dX4_become_13 : decode cX4_become 13 = .ok (.getfield 21, 3) := by decide +kernel
theorem dX4_become_16 : decode cX4_become 16 = .ok (.iconst 0, 1) := by decide +kernel
theorem dX4_become_17 : decode cX4_become 17 = .ok (.aload_n 0, 1) := by decide +kernel
theorem dX4_become_18 : decode cX4_become 18 = .ok (.getfield 21, 3) := by decide +kernel
theorem dX4_become_21 : decode cX4_become 21 = .ok (.iconst 0, 1) := by decide +kernel
theorem dX4_become_22 : decode cX4_become 22 = .ok (.aload_n 1, 1) := by decide +kernel
theorem dX4_become_23 : decode cX4_become 23 = .ok (.getfield 25, 3) := by decide +kernel
theorem dX4_become_26 : decode cX4_become 26 = .ok (.iconst 3, 1) := by decide +kernel
theorem dX4_become_27 : decode cX4_become 27 = .ok (.iadd, 1) := by decide +kernel
theorem dX4_become_28 : decode cX4_become 28 = .ok (.iconst 4, 1) := by decide +kernel
theorem dX4_become_29 : decode cX4_become 29 = .ok (.idiv, 1) := by decide +kernel
theorem dX4_become_30 : decode cX4_become 30 = .ok (.invokestatic 40, 3) := by decide +kernel
theorem dX4_become_33 : decode cX4_become 33 = .ok (.aload_n 0, 1) := by decide +kernel
theorem dX4_become_34 : decode cX4_become 34 = .ok (.aload_n 1, 1) := by decide +kernel
theorem dX4_become_35 : decode cX4_become 35 = .ok (.getfield 25, 3) := by decide +kernel
theorem dX4_become_38 : decode cX4_become 38 = .ok (.putfield 25, 3) := by decide +kernel
theorem dX4_become_41 : decode cX4_become 41 = .ok (.return_, 1) := by decide +kernel
theorem dX4_sameAs_0 : decode cX4_sameAs 0 = .ok (.aload_n 0, 1) := by decide +kernel
theorem dX4_sameAs_1 : decode cX4_sameAs 1 = .ok (.getfield 25, 3) := by decide +kernel
theorem dX4_sameAs_4 : decode cX4_sameAs 4 = .ok (.aload_n 1, 1) := by decide +kernel
theorem dX4_sameAs_5 : decode cX4_sameAs 5 = .ok (.getfield 25, 3) := by decide +kernel
theorem dX4_sameAs_8 : decode cX4_sameAs 8 = .ok (.if_icmp .ne 21, 3) := by decide +kernel
theorem dX4_sameAs_11 : decode cX4_sameAs 11 = .ok (.aload_n 0, 1) := by decide +kernel
theorem dX4_sameAs_12 : decode cX4_sameAs 12 = .ok (.iconst 0, 1) := by decide +kernel
theorem dX4_sameAs_13 : decode cX4_sameAs 13 = .ok (.aload_n 1, 1) := by decide +kernel
theorem dX4_sameAs_14 : decode cX4_sameAs 14 = .ok (.iconst 0, 1) := by decide +kernel
theorem dX4_sameAs_15 : decode cX4_sameAs 15 = .ok (.aload_n 0, 1) := by decide +kernel
theorem dX4_sameAs_16 : decode cX4_sameAs 16 = .ok (.getfield 25, 3) := by decide +kernel
theorem dX4_sameAs_19 : decode cX4_sameAs 19 = .ok (.invokevirtual 46, 3) := by decide +kernel
theorem dX4_sameAs_22 : decode cX4_sameAs 22 = .ok (.ifCond .eq 7, 3) := by decide +kernel
theorem dX4_sameAs_25 : decode cX4_sameAs 25 = .ok (.iconst 1, 1) := by decide +kernel
theorem dX4_sameAs_26 : decode cX4_sameAs 26 = .ok (.goto 4, 3) := by decide +kernel
theorem dX4_sameAs_29 : decode cX4_sameAs 29 = .ok (.iconst 0, 1) := by decide +kernel
theorem dX4_sameAs_30 : decode cX4_sameAs 30 = .ok (.ireturn, 1) := by decide +kernel
theorem dX4_partIsSame_0 : decode cX4_partIsSame 0 = .ok (.iconst 0, 1) := by decide +kernel
theorem dX4_partIsSame_1 : decode cX4_partIsSame 1 = .ok (.istore 5, 2) := by decide +kernel
theorem dX4_partIsSame_3 : decode cX4_partIsSame 3 = .ok (.iload 5, 2) := by decide +kernel
theorem dX4_partIsSame_5 : decode cX4_partIsSame 5 = .ok (.iload 4, 2) := by decide +kernel
theorem dX4_partIsSame_7 : decode cX4_partIsSame 7 = .ok (.if_icmp .ge 30, 3) := by decide +kernel
theorem dX4_partIsSame_10 : decode cX4_partIsSame 10 = .ok (.aload_n 0, 1) := by decide +kernel
theorem dX4_partIsSame_11 : decode cX4_partIsSame 11 = .ok (.iload_n 1, 1) := by decide +kernel
theorem dX4_partIsSame_12 : decode cX4_partIsSame 12 = .ok (.iload 5, 2) := by decide +kernel
theorem dX4_partIsSame_14 : decode cX4_partIsSame 14 = .ok (.iadd, 1) := by decide +kernel
theorem dX4_partIsSame_15 : decode cX4_partIsSame 15 = .ok (.invokevirtual 36, 3) := by decide +kernel
theorem dX4_partIsSame_18 : decode cX4_partIsSame 18 = .ok (.aload_n 2, 1) := by decide +kernel
theorem dX4_partIsSame_19 : decode cX4_partIsSame 19 = .ok (.iload_n 3, 1) := by decide +kernel
theorem dX4_partIsSame_20 : decode cX4_partIsSame 20 = .ok (.iload 5, 2) := by decide +kernel
theorem dX4_partIsSame_22 : decode cX4_partIsSame 22 = .ok (.iadd, 1) := by decide +kernel
theorem dX4_partIsSame_23 : decode cX4_partIsSame 23 = .ok (.invokevirtual 36, 3) := by decide +kernel
theorem dX4_partIsSame_26 : decode cX4_partIsSame 26 = .ok (.if_icmp .eq 5, 3) := by decide +kernel
theorem dX4_partIsSame_29 : decode cX4_partIsSame 29 = .ok (.iconst 0, 1) := by decide +kernel
theorem dX4_partIsSame_30 : decode cX4_partIsSame 30 = .ok (.ireturn, 1) := by decide +kernel
theorem dX4_partIsSame_31 : decode cX4_partIsSame 31 = .ok (.iinc 5 1, 3) := by decide +kernel
theorem dX4_partIsSame_34 : decode cX4_partIsSame 34 = .ok (.goto (-31), 3) := by decide +kernel
theorem dX4_partIsSame_37 : decode cX4_partIsSame 37 = .ok (.iconst 1, 1) := by decide +kernel
theorem dX4_partIsSame_38 : decode cX4_partIsSame 38 = .ok (.ireturn, 1) := by decide +kernel
theorem dX5_init_0 : decode cX5_init 0 = .ok (.aload_n 0, 1) := by decide +kernel
theorem dX5_init_1 : decode cX5_init 1 = .ok (.invokespecial 3, 3) := by decide +kernel
theorem dX5_init_4 : decode cX5_init 4 = .ok (.aload_n 0, 1) := by decide +kernel
theorem dX5_init_5 : decode cX5_init 5 = .ok (.aload_n 1, 1) := by decide +kernel
theorem dX5_init_6 : decode cX5_init 6 = .ok (.putfield 9, 3) := by decide +kernel
theorem dX5_init_9 : decode cX5_init 9 = .ok (.return_, 1) := by decide +kernel
theorem dX5_drawUniform_0 : decode cX5_drawUniform 0 = .ok (.aload_n 0, 1) := by decide +kernel
theorem dX5_drawUniform_1 : decode cX5_drawUniform 1 = .ok (.getfield 9, 3) := by decide +kernel
theorem dX5_drawUniform_4 : decode cX5_drawUniform 4 = .ok (.iconst 2, 1) := by decide +kernel
theorem dX5_drawUniform_5 : decode cX5_drawUniform 5 = .ok (.invokevirtual 15, 3) := by decide +kernel
theorem dX5_drawUniform_8 : decode cX5_drawUniform 8 = .ok (.aload_n 0, 1) := by decide +kernel
theorem dX5_drawUniform_9 : decode cX5_drawUniform 9 = .ok (.getfield 9, 3) := by decide +kernel
theorem dX5_drawUniform_12 : decode cX5_drawUniform 12 = .ok (.aload_n 2, 1) := by decide +kernel
theorem dX5_drawUniform_13 : decode cX5_drawUniform 13 = .ok (.iload_n 3, 1) := by decide +kernel
theorem dX5_drawUniform_14 : decode cX5_drawUniform 14 = .ok (.bipush 32, 2) := by decide +kernel
theorem dX5_drawUniform_16 : decode cX5_drawUniform 16 = .ok (.invokevirtual 21, 3) := by decide +kernel
theorem dX5_drawUniform_19 : decode cX5_drawUniform 19 = .ok (.aload_n 0, 1) := by decide +kernel
theorem dX5_drawUniform_20 : decode cX5_drawUniform 20 = .ok (.getfield 9, 3) := by decide +kernel
theorem dX5_drawUniform_23 : decode cX5_drawUniform 23 = .ok (.iload 4, 2) := by decide +kernel
theorem dX5_drawUniform_25 : decode cX5_drawUniform 25 = .ok (.invokevirtual 25, 3) := by decide +kernel
theorem dX5_drawUniform_28 : decode cX5_drawUniform 28 = .ok (.aload_n 0, 1) := by decide +kernel
theorem dX5_drawUniform_29 : decode cX5_drawUniform 29 = .ok (.getfield 9, 3) := by decide +kernel
theorem dX5_drawUniform_32 : decode cX5_drawUniform 32 = .ok (.iload 5, 2) := by decide +kernel
theorem dX5_drawUniform_34 : decode cX5_drawUniform 34 = .ok (.invokevirtual 25, 3) := by decide +kernel
theorem dX5_drawUniform_37 : decode cX5_drawUniform 37 = .ok (.aload_n 0, 1) := by decide +kernel
theorem dX5_drawUniform_38 : decode cX5_drawUniform 38 = .ok (.getfield 9, 3) := by decide +kernel
theorem dX5_drawUniform_41 : decode cX5_drawUniform 41 = .ok (.invokevirtual 28, 3) := by decide +kernel
theorem dX5_drawUniform_44 : decode cX5_drawUniform 44 = .ok (.iconst 0, 1) := by decide +kernel
theorem dX5_drawUniform_45 : decode cX5_drawUniform 45 = .ok (.istore 7, 2) := by decide +kernel
theorem dX5_drawUniform_47 : decode cX5_drawUniform 47 = .ok (.iconst 1, 1) := by decide +kernel
theorem dX5_drawUniform_48 : decode cX5_drawUniform 48 = .ok (.istore 8, 2) := by decide +kernel
theorem dX5_drawUniform_50 : decode cX5_drawUniform 50 = .ok (.iload 8, 2) := by decide +kernel
theorem dX5_drawUniform_52 : decode cX5_drawUniform 52 = .ok (.iload 6, 2) := by decide +kernel
theorem dX5_drawUniform_54 : decode cX5_drawUniform 54 = .ok (.if_icmp .gt 77, 3) := by decide +kernel
theorem dX5_drawUniform_57 : decode cX5_drawUniform 57 = .ok (.aload_n 0, 1) := by decide +kernel
theorem dX5_drawUniform_58 : decode cX5_drawUniform 58 = .ok (.getfield 9, 3) := by decide +kernel
theorem dX5_drawUniform_61 : decode cX5_drawUniform 61 = .ok (.invokevirtual 31, 3) := by decide +kernel
theorem dX5_drawUniform_64 : decode cX5_drawUniform 64 = .ok (.istore 9, 2) := by decide +kernel
theorem dX5_drawUniform_66 : decode cX5_drawUniform 66 = .ok (.aload_n 0, 1) := by decide +kernel
theorem dX5_drawUniform_67 : decode cX5_drawUniform 67 = .ok (.getfield 9, 3) := by decide +kernel
theorem dX5_drawUniform_70 : decode cX5_drawUniform 70 = .ok (.invokevirtual 31, 3) := by decide +kernel
theorem dX5_drawUniform_73 : decode cX5_drawUniform 73 = .ok (.istore 10, 2) := by decide +kernel
theorem dX5_drawUniform_75 : decode cX5_drawUniform 75 = .ok (.aload_n 0, 1) := by decide +kernel
theorem dX5_drawUniform_76 : decode cX5_drawUniform 76 = .ok (.getfield 9, 3) := by decide +kernel
theorem dX5_drawUniform_79 : decode cX5_drawUniform 79 = .ok (.invokevirtual 31, 3) := by decide +kernel
theorem dX5_drawUniform_82 : decode cX5_drawUniform 82 = .ok (.istore 11, 2) := by decide +kernel
theorem dX5_drawUniform_84 : decode cX5_drawUniform 84 = .ok (.aload_n 1, 1) := by decide +kernel
theorem dX5_drawUniform_85 : decode cX5_drawUniform 85 = .ok (.iload 7, 2) := by decide +kernel
theorem dX5_drawUniform_87 : decode cX5_drawUniform 87 = .ok (.iload 9, 2) := by decide +kernel
theorem dX5_drawUniform_89 : decode cX5_drawUniform 89 = .ok (.iload 10, 2) := by decide +kernel
theorem dX5_drawUniform_91 : decode cX5_drawUniform 91 = .ok (.invokestatic 35, 3) := by decide +kernel
theorem dX5_drawUniform_94 : decode cX5_drawUniform 94 = .ok (.invokestatic 41, 3) := by decide +kernel
theorem dX5_drawUniform_97 : decode cX5_drawUniform 97 = .ok (.istore 7, 2) := by decide +kernel
theorem dX5_drawUniform_99 : decode cX5_drawUniform 99 = .ok (.aload_n 1, 1) := by decide +kernel
theorem dX5_drawUniform_100 : decode cX5_drawUniform 100 = .ok (.iload 7, 2) := by decide +kernel
theorem dX5_drawUniform_102 : decode cX5_drawUniform 102 = .ok (.iload 10, 2) := by decide +kernel
theorem dX5_drawUniform_104 : decode cX5_drawUniform 104 = .ok (.iload 11, 2) := by decide +kernel
theorem dX5_drawUniform_106 : decode cX5_drawUniform 106 = .ok (.invokestatic 45, 3) := by decide +kernel
theorem dX5_drawUniform_109 : decode cX5_drawUniform 109 = .ok (.invokestatic 41, 3) := by decide +kernel
theorem dX5_drawUniform_112 : decode cX5_drawUniform 112 = .ok (.istore 7, 2) := by decide +kernel
theorem dX5_drawUniform_114 : decode cX5_drawUniform 114 = .ok (.iload 7, 2) := by decide +kernel
theorem dX5_drawUniform_116 : decode cX5_drawUniform 116 = .ok (.sipush 256, 3) := by decide +kernel
theorem dX5_drawUniform_119 : decode cX5_drawUniform 119 = .ok (.if_icmp .ne 6, 3) := by decide +kernel
theorem dX5_drawUniform_122 : decode cX5_drawUniform 122 = .ok (.iload 8, 2) := by decide +kernel
theorem dX5_drawUniform_124 : decode cX5_drawUniform 124 = .ok (.ireturn, 1) := by decide +kernel
theorem dX5_drawUniform_125 : decode cX5_drawUniform 125 = .ok (.iinc 8 1, 3) := by decide +kernel
theorem dX5_drawUniform_128 : decode cX5_drawUniform 128 = .ok (.goto (-78), 3) := by decide +kernel
theorem dX5_drawUniform_131 : decode cX5_drawUniform 131 = .ok (.bipush (-2), 2) := by decide +kernel
theorem dX5_drawUniform_133 : decode cX5_drawUniform 133 = .ok (.ireturn, 1) := by decide +kernel
theorem dX5_keepIfSmall_0 : decode cX5_keepIfSmall 0 = .ok (.iload_n 2, 1) := by decide +kernel
theorem dX5_keepIfSmall_1 : decode cX5_keepIfSmall 1 = .ok (.sipush 3329, 3) := by decide +kernel
theorem dX5_keepIfSmall_4 : decode cX5_keepIfSmall 4 = .ok (.if_icmp .ge 10, 3) := by decide +kernel
theorem dX5_keepIfSmall_7 : decode cX5_keepIfSmall 7 = .ok (.iload_n 1, 1) := by decide +kernel
theorem dX5_keepIfSmall_8 : decode cX5_keepIfSmall 8 = .ok (.sipush 256, 3) := by decide +kernel
theorem dX5_keepIfSmall_11 : decode cX5_keepIfSmall 11 = .ok (.if_icmp .lt 5, 3) := by decide +kernel
theorem dX5_keepIfSmall_14 : decode cX5_keepIfSmall 14 = .ok (.iload_n 1, 1) := by decide +kernel
theorem dX5_keepIfSmall_15 : decode cX5_keepIfSmall 15 = .ok (.ireturn, 1) := by decide +kernel
theorem dX5_keepIfSmall_16 : decode cX5_keepIfSmall 16 = .ok (.aload_n 0, 1) := by decide +kernel
theorem dX5_keepIfSmall_17 : decode cX5_keepIfSmall 17 = .ok (.iload_n 1, 1) := by decide +kernel
theorem dX5_keepIfSmall_18 : decode cX5_keepIfSmall 18 = .ok (.iload_n 2, 1) := by decide +kernel
theorem dX5_keepIfSmall_19 : decode cX5_keepIfSmall 19 = .ok (.iastore, 1) := by decide +kernel
theorem dX5_keepIfSmall_20 : decode cX5_keepIfSmall 20 = .ok (.iload_n 1, 1) := by decide +kernel
theorem dX5_keepIfSmall_21 : decode cX5_keepIfSmall 21 = .ok (.iconst 1, 1) := by decide +kernel
theorem dX5_keepIfSmall_22 : decode cX5_keepIfSmall 22 = .ok (.iadd, 1) := by decide +kernel
theorem dX5_keepIfSmall_23 : decode cX5_keepIfSmall 23 = .ok (.ireturn, 1) := by decide +kernel
theorem dX5_drawNoise_0 : decode cX5_drawNoise 0 = .ok (.aload_n 0, 1) := by decide +kernel
theorem dX5_drawNoise_1 : decode cX5_drawNoise 1 = .ok (.getfield 9, 3) := by decide +kernel
theorem dX5_drawNoise_4 : decode cX5_drawNoise 4 = .ok (.iconst 3, 1) := by decide +kernel
theorem dX5_drawNoise_5 : decode cX5_drawNoise 5 = .ok (.invokevirtual 15, 3) := by decide +kernel
theorem dX5_drawNoise_8 : decode cX5_drawNoise 8 = .ok (.aload_n 0, 1) := by decide +kernel
theorem dX5_drawNoise_9 : decode cX5_drawNoise 9 = .ok (.getfield 9, 3) := by decide +kernel
theorem dX5_drawNoise_12 : decode cX5_drawNoise 12 = .ok (.aload_n 2, 1) := by decide +kernel
theorem dX5_drawNoise_13 : decode cX5_drawNoise 13 = .ok (.iload_n 3, 1) := by decide +kernel
theorem dX5_drawNoise_14 : decode cX5_drawNoise 14 = .ok (.bipush 32, 2) := by decide +kernel
theorem dX5_drawNoise_16 : decode cX5_drawNoise 16 = .ok (.invokevirtual 21, 3) := by decide +kernel
theorem dX5_drawNoise_19 : decode cX5_drawNoise 19 = .ok (.aload_n 0, 1) := by decide +kernel
theorem dX5_drawNoise_20 : decode cX5_drawNoise 20 = .ok (.getfield 9, 3) := by decide +kernel
theorem dX5_drawNoise_23 : decode cX5_drawNoise 23 = .ok (.iload 5, 2) := by decide +kernel
theorem dX5_drawNoise_25 : decode cX5_drawNoise 25 = .ok (.invokevirtual 25, 3) := by decide +kernel
theorem dX5_drawNoise_28 : decode cX5_drawNoise 28 = .ok (.aload_n 0, 1) := by decide +kernel
theorem dX5_drawNoise_29 : decode cX5_drawNoise 29 = .ok (.getfield 9, 3) := by decide +kernel
theorem dX5_drawNoise_32 : decode cX5_drawNoise 32 = .ok (.invokevirtual 28, 3) := by decide +kernel
theorem dX5_drawNoise_35 : decode cX5_drawNoise 35 = .ok (.iconst 1, 1) := by decide +kernel
theorem dX5_drawNoise_36 : decode cX5_drawNoise 36 = .ok (.iload 4, 2) := by decide +kernel
theorem dX5_drawNoise_38 : decode cX5_drawNoise 38 = .ok (.ishl, 1) := by decide +kernel
theorem dX5_drawNoise_39 : decode cX5_drawNoise 39 = .ok (.iconst 1, 1) := by decide +kernel
theorem dX5_drawNoise_40 : decode cX5_drawNoise 40 = .ok (.isub, 1) := by decide +kernel
theorem dX5_drawNoise_41 : decode cX5_drawNoise 41 = .ok (.istore 6, 2) := by decide +kernel
theorem dX5_drawNoise_43 : decode cX5_drawNoise 43 = .ok (.iconst 0, 1) := by decide +kernel
theorem dX5_drawNoise_44 : decode cX5_drawNoise 44 = .ok (.istore 7, 2) := by decide +kernel
theorem dX5_drawNoise_46 : decode cX5_drawNoise 46 = .ok (.iconst 0, 1) := by decide +kernel
theorem dX5_drawNoise_47 : decode cX5_drawNoise 47 = .ok (.istore 8, 2) := by decide +kernel
theorem dX5_drawNoise_49 : decode cX5_drawNoise 49 = .ok (.iconst 0, 1) := by decide +kernel
theorem dX5_drawNoise_50 : decode cX5_drawNoise 50 = .ok (.istore 9, 2) := by decide +kernel
theorem dX5_drawNoise_52 : decode cX5_drawNoise 52 = .ok (.iload 9, 2) := by decide +kernel
theorem dX5_drawNoise_54 : decode cX5_drawNoise 54 = .ok (.sipush 256, 3) := by decide +kernel
theorem dX5_drawNoise_57 : decode cX5_drawNoise 57 = .ok (.if_icmp .ge 97, 3) := by decide +kernel
theorem dX5_drawNoise_60 : decode cX5_drawNoise 60 = .ok (.iload 8, 2) := by decide +kernel
theorem dX5_drawNoise_62 : decode cX5_drawNoise 62 = .ok (.iconst 2, 1) := by decide +kernel
theorem dX5_drawNoise_63 : decode cX5_drawNoise 63 = .ok (.iload 4, 2) := by decide +kernel
theorem dX5_drawNoise_65 : decode cX5_drawNoise 65 = .ok (.imul, 1) := by decide +kernel
theorem dX5_drawNoise_66 : decode cX5_drawNoise 66 = .ok (.if_icmp .ge 24, 3) := by decide +kernel
theorem dX5_drawNoise_69 : decode cX5_drawNoise 69 = .ok (.iload 7, 2) := by decide +kernel
theorem dX5_drawNoise_71 : decode cX5_drawNoise 71 = .ok (.aload_n 0, 1) := by decide +kernel
theorem dX5_drawNoise_72 : decode cX5_drawNoise 72 = .ok (.getfield 9, 3) := by decide +kernel
theorem dX5_drawNoise_75 : decode cX5_drawNoise 75 = .ok (.invokevirtual 31, 3) := by decide +kernel
theorem dX5_drawNoise_78 : decode cX5_drawNoise 78 = .ok (.iload 8, 2) := by decide +kernel
theorem dX5_drawNoise_80 : decode cX5_drawNoise 80 = .ok (.ishl, 1) := by decide +kernel
theorem dX5_drawNoise_81 : decode cX5_drawNoise 81 = .ok (.ior, 1) := by decide +kernel
theorem dX5_drawNoise_82 : decode cX5_drawNoise 82 = .ok (.istore 7, 2) := by decide +kernel
theorem dX5_drawNoise_84 : decode cX5_drawNoise 84 = .ok (.iinc 8 8, 3) := by decide +kernel
theorem dX5_drawNoise_87 : decode cX5_drawNoise 87 = .ok (.goto (-27), 3) := by decide +kernel
theorem dX5_drawNoise_90 : decode cX5_drawNoise 90 = .ok (.iload 7, 2) := by decide +kernel
theorem dX5_drawNoise_92 : decode cX5_drawNoise 92 = .ok (.iload 6, 2) := by decide +kernel
theorem dX5_drawNoise_94 : decode cX5_drawNoise 94 = .ok (.iand, 1) := by decide +kernel
theorem dX5_drawNoise_95 : decode cX5_drawNoise 95 = .ok (.invokestatic 48, 3) := by decide +kernel
theorem dX5_drawNoise_98 : decode cX5_drawNoise 98 = .ok (.istore 10, 2) := by decide +kernel
theorem dX5_drawNoise_100 : decode cX5_drawNoise 100 = .ok (.iload 7, 2) := by decide +kernel
theorem dX5_drawNoise_102 : decode cX5_drawNoise 102 = .ok (.iload 4, 2) := by decide +kernel
theorem dX5_drawNoise_104 : decode cX5_drawNoise 104 = .ok (.ishr, 1) := by decide +kernel
theorem dX5_drawNoise_105 : decode cX5_drawNoise 105 = .ok (.iload 6, 2) := by decide +kernel
theorem dX5_drawNoise_107 : decode cX5_drawNoise 107 = .ok (.iand, 1) := by decide +kernel
theorem dX5_drawNoise_108 : decode cX5_drawNoise 108 = .ok (.invokestatic 48, 3) := by decide +kernel
theorem dX5_drawNoise_111 : decode cX5_drawNoise 111 = .ok (.istore 11, 2) := by decide +kernel
theorem dX5_drawNoise_113 : decode cX5_drawNoise 113 = .ok (.aload_n 1, 1) := by decide +kernel
theorem dX5_drawNoise_114 : decode cX5_drawNoise 114 = .ok (.iload 9, 2) := by decide +kernel
theorem dX5_drawNoise_116 : decode cX5_drawNoise 116 = .ok (.iload 10, 2) := by decide +kernel
theorem dX5_drawNoise_118 : decode cX5_drawNoise 118 = .ok (.iload 11, 2) := by decide +kernel
theorem dX5_drawNoise_120 : decode cX5_drawNoise 120 = .ok (.isub, 1) := by decide +kernel
theorem dX5_drawNoise_121 : decode cX5_drawNoise 121 = .ok (.sipush 3329, 3) := by decide +kernel
theorem dX5_drawNoise_124 : decode cX5_drawNoise 124 = .ok (.iadd, 1) := by decide +kernel
theorem dX5_drawNoise_125 : decode cX5_drawNoise 125 = .ok (.sipush 3329, 3) := by decide +kernel
theorem dX5_drawNoise_128 : decode cX5_drawNoise 128 = .ok (.irem, 1) := by decide +kernel
theorem dX5_drawNoise_129 : decode cX5_drawNoise 129 = .ok (.iastore, 1) := by decide +kernel
theorem dX5_drawNoise_130 : decode cX5_drawNoise 130 = .ok (.iload 7, 2) := by decide +kernel
theorem dX5_drawNoise_132 : decode cX5_drawNoise 132 = .ok (.iconst 2, 1) := by decide +kernel
theorem dX5_drawNoise_133 : decode cX5_drawNoise 133 = .ok (.iload 4, 2) := by decide +kernel
theorem dX5_drawNoise_135 : decode cX5_drawNoise 135 = .ok (.imul, 1) := by decide +kernel
theorem dX5_drawNoise_136 : decode cX5_drawNoise 136 = .ok (.iushr, 1) := by decide +kernel
theorem dX5_drawNoise_137 : decode cX5_drawNoise 137 = .ok (.istore 7, 2) := by decide +kernel
theorem dX5_drawNoise_139 : decode cX5_drawNoise 139 = .ok (.iload 8, 2) := by decide +kernel
theorem dX5_drawNoise_141 : decode cX5_drawNoise 141 = .ok (.iconst 2, 1) := by decide +kernel
theorem dX5_drawNoise_142 : decode cX5_drawNoise 142 = .ok (.iload 4, 2) := by decide +kernel
theorem dX5_drawNoise_144 : decode cX5_drawNoise 144 = .ok (.imul, 1) := by decide +kernel
theorem dX5_drawNoise_145 : decode cX5_drawNoise 145 = .ok (.isub, 1) := by decide +kernel
theorem dX5_drawNoise_146 : decode cX5_drawNoise 146 = .ok (.istore 8, 2) := by decide +kernel
theorem dX5_drawNoise_148 : decode cX5_drawNoise 148 = .ok (.iinc 9 1, 3) := by decide +kernel
theorem dX5_drawNoise_151 : decode cX5_drawNoise 151 = .ok (.goto (-99), 3) := by decide +kernel
theorem dX5_drawNoise_154 : decode cX5_drawNoise 154 = .ok (.return_, 1) := by decide +kernel
