theorem dX8_noised_81 : decode cX8_noised 81 = .ok (.sipush 15436, 3) := by decide +kernel
theorem dX8_noised_84 : decode cX8_noised 84 = .ok (.iload 8, 2) := by decide +kernel
theorem dX8_noised_86 : decode cX8_noised 86 = .ok (.bipush 8, 2) := by decide +kernel
theorem dX8_noised_88 : decode cX8_noised 88 = .ok (.idiv, 1) := by decide +kernel
theorem dX8_noised_89 : decode cX8_noised 89 = .ok (.iadd, 1) := by decide +kernel
theorem dX8_noised_90 : decode cX8_noised 90 = .ok (.invokevirtual 74, 3) := by decide +kernel
theorem dX8_noised_93 : decode cX8_noised 93 = .ok (.iload 8, 2) := by decide +kernel
theorem dX8_noised_95 : decode cX8_noised 95 = .ok (.bipush 8, 2) := by decide +kernel
theorem dX8_noised_97 : decode cX8_noised 97 = .ok (.irem, 1) := by decide +kernel
theorem dX8_noised_98 : decode cX8_noised 98 = .ok (.ishr, 1) := by decide +kernel
theorem dX8_noised_99 : decode cX8_noised 99 = .ok (.iconst 1, 1) := by decide +kernel
theorem dX8_noised_100 : decode cX8_noised 100 = .ok (.iand, 1) := by decide +kernel
theorem dX8_noised_101 : decode cX8_noised 101 = .ok (.istore 9, 2) := by decide +kernel
theorem dX8_noised_103 : decode cX8_noised 103 = .ok (.iload 6, 2) := by decide +kernel
theorem dX8_noised_105 : decode cX8_noised 105 = .ok (.iload 7, 2) := by decide +kernel
theorem dX8_noised_107 : decode cX8_noised 107 = .ok (.iload_n 3, 1) := by decide +kernel
theorem dX8_noised_108 : decode cX8_noised 108 = .ok (.if_icmp .ge 8, 3) := by decide +kernel
theorem dX8_noised_111 : decode cX8_noised 111 = .ok (.iload 9, 2) := by decide +kernel
theorem dX8_noised_113 : decode cX8_noised 113 = .ok (.goto 6, 3) := by decide +kernel
theorem dX8_noised_116 : decode cX8_noised 116 = .ok (.iload 9, 2) := by decide +kernel
theorem dX8_noised_118 : decode cX8_noised 118 = .ok (.ineg, 1) := by decide +kernel
theorem dX8_noised_119 : decode cX8_noised 119 = .ok (.iadd, 1) := by decide +kernel
theorem dX8_noised_120 : decode cX8_noised 120 = .ok (.istore 6, 2) := by decide +kernel
theorem dX8_noised_122 : decode cX8_noised 122 = .ok (.iinc 7 1, 3) := by decide +kernel
theorem dX8_noised_125 : decode cX8_noised 125 = .ok (.goto (-64), 3) := by decide +kernel
theorem dX8_noised_128 : decode cX8_noised 128 = .ok (.aload_n 0, 1) := by decide +kernel
theorem dX8_noised_129 : decode cX8_noised 129 = .ok (.getfield 36, 3) := by decide +kernel
theorem dX8_noised_132 : decode cX8_noised 132 = .ok (.sipush 256, 3) := by decide +kernel
theorem dX8_noised_135 : decode cX8_noised 135 = .ok (.iload 4, 2) := by decide +kernel
theorem dX8_noised_137 : decode cX8_noised 137 = .ok (.imul, 1) := by decide +kernel
theorem dX8_noised_138 : decode cX8_noised 138 = .ok (.iload 5, 2) := by decide +kernel
theorem dX8_noised_140 : decode cX8_noised 140 = .ok (.iadd, 1) := by decide +kernel
theorem dX8_noised_141 : decode cX8_noised 141 = .ok (.iload 6, 2) := by decide +kernel
theorem dX8_noised_143 : decode cX8_noised 143 = .ok (.i2l, 1) := by decide +kernel
theorem dX8_noised_144 : decode cX8_noised 144 = .ok (.invokestatic 91, 3) := by decide +kernel
theorem dX8_noised_147 : decode cX8_noised 147 = .ok (.iastore, 1) := by decide +kernel
theorem dX8_noised_148 : decode cX8_noised 148 = .ok (.iinc 5 1, 3) := by decide +kernel
theorem dX8_noised_151 : decode cX8_noised 151 = .ok (.goto (-104), 3) := by decide +kernel
theorem dX8_noised_154 : decode cX8_noised 154 = .ok (.return_, 1) := by decide +kernel
theorem dX8_eta1_0 : decode cX8_eta1 0 = .ok (.aload_n 0, 1) := by decide +kernel
theorem dX8_eta1_1 : decode cX8_eta1 1 = .ok (.getfield 13, 3) := by decide +kernel
theorem dX8_eta1_4 : decode cX8_eta1 4 = .ok (.iconst 2, 1) := by decide +kernel
theorem dX8_eta1_5 : decode cX8_eta1 5 = .ok (.if_icmp .ne 7, 3) := by decide +kernel
theorem dX8_eta1_8 : decode cX8_eta1 8 = .ok (.iconst 3, 1) := by decide +kernel
theorem dX8_eta1_9 : decode cX8_eta1 9 = .ok (.goto 4, 3) := by decide +kernel
theorem dX8_eta1_12 : decode cX8_eta1 12 = .ok (.iconst 2, 1) := by decide +kernel
theorem dX8_eta1_13 : decode cX8_eta1 13 = .ok (.ireturn, 1) := by decide +kernel
theorem dX8_du_0 : decode cX8_du 0 = .ok (.aload_n 0, 1) := by decide +kernel
theorem dX8_du_1 : decode cX8_du 1 = .ok (.getfield 13, 3) := by decide +kernel
theorem dX8_du_4 : decode cX8_du 4 = .ok (.iconst 4, 1) := by decide +kernel
theorem dX8_du_5 : decode cX8_du 5 = .ok (.if_icmp .ne 8, 3) := by decide +kernel
theorem dX8_du_8 : decode cX8_du 8 = .ok (.bipush 11, 2) := by decide +kernel
theorem dX8_du_10 : decode cX8_du 10 = .ok (.goto 5, 3) := by decide +kernel
theorem dX8_du_13 : decode cX8_du 13 = .ok (.bipush 10, 2) := by decide +kernel
theorem dX8_du_15 : decode cX8_du 15 = .ok (.ireturn, 1) := by decide +kernel
theorem dX8_dv_0 : decode cX8_dv 0 = .ok (.aload_n 0, 1) := by decide +kernel
theorem dX8_dv_1 : decode cX8_dv 1 = .ok (.getfield 13, 3) := by decide +kernel
theorem dX8_dv_4 : decode cX8_dv 4 = .ok (.iconst 4, 1) := by decide +kernel
theorem dX8_dv_5 : decode cX8_dv 5 = .ok (.if_icmp .ne 7, 3) := by decide +kernel
theorem dX8_dv_8 : decode cX8_dv 8 = .ok (.iconst 5, 1) := by decide +kernel
theorem dX8_dv_9 : decode cX8_dv 9 = .ok (.goto 4, 3) := by decide +kernel
theorem dX8_dv_12 : decode cX8_dv 12 = .ok (.iconst 4, 1) := by decide +kernel
theorem dX8_dv_13 : decode cX8_dv 13 = .ok (.ireturn, 1) := by decide +kernel
theorem dX8_ekBytes_0 : decode cX8_ekBytes 0 = .ok (.sipush 384, 3) := by decide +kernel
theorem dX8_ekBytes_3 : decode cX8_ekBytes 3 = .ok (.aload_n 0, 1) := by decide +kernel
theorem dX8_ekBytes_4 : decode cX8_ekBytes 4 = .ok (.getfield 13, 3) := by decide +kernel
theorem dX8_ekBytes_7 : decode cX8_ekBytes 7 = .ok (.imul, 1) := by decide +kernel
theorem dX8_ekBytes_8 : decode cX8_ekBytes 8 = .ok (.bipush 32, 2) := by decide +kernel
theorem dX8_ekBytes_10 : decode cX8_ekBytes 10 = .ok (.iadd, 1) := by decide +kernel
theorem dX8_ekBytes_11 : decode cX8_ekBytes 11 = .ok (.ireturn, 1) := by decide +kernel
theorem dX8_textBytes_0 : decode cX8_textBytes 0 = .ok (.bipush 32, 2) := by decide +kernel
theorem dX8_textBytes_2 : decode cX8_textBytes 2 = .ok (.aload_n 0, 1) := by decide +kernel
theorem dX8_textBytes_3 : decode cX8_textBytes 3 = .ok (.invokevirtual 118, 3) := by decide +kernel
theorem dX8_textBytes_6 : decode cX8_textBytes 6 = .ok (.aload_n 0, 1) := by decide +kernel
theorem dX8_textBytes_7 : decode cX8_textBytes 7 = .ok (.getfield 13, 3) := by decide +kernel
theorem dX8_textBytes_10 : decode cX8_textBytes 10 = .ok (.imul, 1) := by decide +kernel
theorem dX8_textBytes_11 : decode cX8_textBytes 11 = .ok (.aload_n 0, 1) := by decide +kernel
theorem dX8_textBytes_12 : decode cX8_textBytes 12 = .ok (.invokevirtual 121, 3) := by decide +kernel
theorem dX8_textBytes_15 : decode cX8_textBytes 15 = .ok (.iadd, 1) := by decide +kernel
theorem dX8_textBytes_16 : decode cX8_textBytes 16 = .ok (.imul, 1) := by decide +kernel
theorem dX8_textBytes_17 : decode cX8_textBytes 17 = .ok (.ireturn, 1) := by decide +kernel
theorem dX8_g_0 : decode cX8_g 0 = .ok (.aload_n 0, 1) := by decide +kernel
theorem dX8_g_1 : decode cX8_g 1 = .ok (.bipush 72, 2) := by decide +kernel
theorem dX8_g_3 : decode cX8_g 3 = .ok (.sipush 11336, 3) := by decide +kernel
theorem dX8_g_6 : decode cX8_g 6 = .ok (.iload_n 1, 1) := by decide +kernel
theorem dX8_g_7 : decode cX8_g 7 = .ok (.iconst 1, 1) := by decide +kernel
theorem dX8_g_8 : decode cX8_g 8 = .ok (.invokevirtual 104, 3) := by decide +kernel
theorem dX8_g_11 : decode cX8_g 11 = .ok (.aload_n 0, 1) := by decide +kernel
theorem dX8_g_12 : decode cX8_g 12 = .ok (.sipush 19612, 3) := by decide +kernel
theorem dX8_g_15 : decode cX8_g 15 = .ok (.bipush 64, 2) := by decide +kernel
theorem dX8_g_17 : decode cX8_g 17 = .ok (.invokevirtual 115, 3) := by decide +kernel
theorem dX8_g_20 : decode cX8_g 20 = .ok (.return_, 1) := by decide +kernel
theorem dX8_made_0 : decode cX8_made 0 = .ok (.aload_n 0, 1) := by decide +kernel
theorem dX8_made_1 : decode cX8_made 1 = .ok (.iconst 0, 1) := by decide +kernel
theorem dX8_made_2 : decode cX8_made 2 = .ok (.sipush 11336, 3) := by decide +kernel
theorem dX8_made_5 : decode cX8_made 5 = .ok (.bipush 32, 2) := by decide +kernel
theorem dX8_made_7 : decode cX8_made 7 = .ok (.invokevirtual 108, 3) := by decide +kernel
theorem dX8_made_10 : decode cX8_made 10 = .ok (.aload_n 0, 1) := by decide +kernel
theorem dX8_made_11 : decode cX8_made 11 = .ok (.getfield 7, 3) := by decide +kernel
theorem dX8_made_14 : decode cX8_made 14 = .ok (.sipush 11368, 3) := by decide +kernel
theorem dX8_made_17 : decode cX8_made 17 = .ok (.aload_n 0, 1) := by decide +kernel
theorem dX8_made_18 : decode cX8_made 18 = .ok (.getfield 13, 3) := by decide +kernel
theorem dX8_made_21 : decode cX8_made 21 = .ok (.i2b, 1) := by decide +kernel
theorem dX8_made_22 : decode cX8_made 22 = .ok (.bastore, 1) := by decide +kernel
theorem dX8_made_23 : decode cX8_made 23 = .ok (.aload_n 0, 1) := by decide +kernel
theorem dX8_made_24 : decode cX8_made 24 = .ok (.bipush 33, 2) := by decide +kernel
theorem dX8_made_26 : decode cX8_made 26 = .ok (.invokevirtual 124, 3) := by decide +kernel
theorem dX8_made_29 : decode cX8_made 29 = .ok (.aload_n 0, 1) := by decide +kernel
theorem dX8_made_30 : decode cX8_made 30 = .ok (.sipush 19612, 3) := by decide +kernel
theorem dX8_made_33 : decode cX8_made 33 = .ok (.sipush 19804, 3) := by decide +kernel
theorem dX8_made_36 : decode cX8_made 36 = .ok (.bipush 64, 2) := by decide +kernel
theorem dX8_made_38 : decode cX8_made 38 = .ok (.invokevirtual 108, 3) := by decide +kernel
theorem dX8_made_41 : decode cX8_made 41 = .ok (.iconst 0, 1) := by decide +kernel
theorem dX8_made_42 : decode cX8_made 42 = .ok (.istore_n 1, 1) := by decide +kernel
theorem dX8_made_43 : decode cX8_made 43 = .ok (.iload_n 1, 1) := by decide +kernel
theorem dX8_made_44 : decode cX8_made 44 = .ok (.aload_n 0, 1) := by decide +kernel
theorem dX8_made_45 : decode cX8_made 45 = .ok (.getfield 13, 3) := by decide +kernel
theorem dX8_made_48 : decode cX8_made 48 = .ok (.if_icmp .ge 60, 3) := by decide +kernel
theorem dX8_made_51 : decode cX8_made 51 = .ok (.aload_n 0, 1) := by decide +kernel
theorem dX8_made_52 : decode cX8_made 52 = .ok (.sipush 19836, 3) := by decide +kernel
theorem dX8_made_55 : decode cX8_made 55 = .ok (.iload_n 1, 1) := by decide +kernel
theorem dX8_made_56 : decode cX8_made 56 = .ok (.aload_n 0, 1) := by decide +kernel
theorem dX8_made_57 : decode cX8_made 57 = .ok (.invokevirtual 127, 3) := by decide +kernel
theorem dX8_made_60 : decode cX8_made 60 = .ok (.iconst 4, 1) := by decide +kernel
theorem dX8_made_61 : decode cX8_made 61 = .ok (.iload_n 1, 1) := by decide +kernel
theorem dX8_made_62 : decode cX8_made 62 = .ok (.iadd, 1) := by decide +kernel
theorem dX8_made_63 : decode cX8_made 63 = .ok (.invokevirtual 130, 3) := by decide +kernel
theorem dX8_made_66 : decode cX8_made 66 = .ok (.aload_n 0, 1) := by decide +kernel
theorem dX8_made_67 : decode cX8_made 67 = .ok (.sipush 19836, 3) := by decide +kernel
theorem dX8_made_70 : decode cX8_made 70 = .ok (.aload_n 0, 1) := by decide +kernel
theorem dX8_made_71 : decode cX8_made 71 = .ok (.getfield 13, 3) := by decide +kernel
theorem dX8_made_74 : decode cX8_made 74 = .ok (.iload_n 1, 1) := by decide +kernel
theorem dX8_made_75 : decode cX8_made 75 = .ok (.iadd, 1) := by decide +kernel
theorem dX8_made_76 : decode cX8_made 76 = .ok (.aload_n 0, 1) := by decide +kernel
theorem dX8_made_77 : decode cX8_made 77 = .ok (.invokevirtual 127, 3) := by decide +kernel
theorem dX8_made_80 : decode cX8_made 80 = .ok (.bipush 8, 2) := by decide +kernel
theorem dX8_made_82 : decode cX8_made 82 = .ok (.iload_n 1, 1) := by decide +kernel
theorem dX8_made_83 : decode cX8_made 83 = .ok (.iadd, 1) := by decide +kernel
theorem dX8_made_84 : decode cX8_made 84 = .ok (.invokevirtual 130, 3) := by decide +kernel
theorem dX8_made_87 : decode cX8_made 87 = .ok (.aload_n 0, 1) := by decide +kernel
theorem dX8_made_88 : decode cX8_made 88 = .ok (.iconst 4, 1) := by decide +kernel
theorem dX8_made_89 : decode cX8_made 89 = .ok (.iload_n 1, 1) := by decide +kernel
theorem dX8_made_90 : decode cX8_made 90 = .ok (.iadd, 1) := by decide +kernel
theorem dX8_made_91 : decode cX8_made 91 = .ok (.invokevirtual 134, 3) := by decide +kernel
theorem dX8_made_94 : decode cX8_made 94 = .ok (.aload_n 0, 1) := by decide +kernel
theorem dX8_made_95 : decode cX8_made 95 = .ok (.bipush 8, 2) := by decide +kernel
theorem dX8_made_97 : decode cX8_made 97 = .ok (.iload_n 1, 1) := by decide +kernel
theorem dX8_made_98 : decode cX8_made 98 = .ok (.iadd, 1) := by decide +kernel
theorem dX8_made_99 : decode cX8_made 99 = .ok (.invokevirtual 134, 3) := by decide +kernel
theorem dX8_made_102 : decode cX8_made 102 = .ok (.iinc 1 1, 3) := by decide +kernel
theorem dX8_made_105 : decode cX8_made 105 = .ok (.goto (-62), 3) := by decide +kernel
theorem dX8_made_108 : decode cX8_made 108 = .ok (.iconst 0, 1) := by decide +kernel
theorem dX8_made_109 : decode cX8_made 109 = .ok (.istore_n 1, 1) := by decide +kernel
theorem dX8_made_110 : decode cX8_made 110 = .ok (.iload_n 1, 1) := by decide +kernel
theorem dX8_made_111 : decode cX8_made 111 = .ok (.aload_n 0, 1) := by decide +kernel
theorem dX8_made_112 : decode cX8_made 112 = .ok (.getfield 13, 3) := by decide +kernel
theorem dX8_made_115 : decode cX8_made 115 = .ok (.if_icmp .ge 81, 3) := by decide +kernel
theorem dX8_made_118 : decode cX8_made 118 = .ok (.aload_n 0, 1) := by decide +kernel
theorem dX8_made_119 : decode cX8_made 119 = .ok (.bipush 8, 2) := by decide +kernel
theorem dX8_made_121 : decode cX8_made 121 = .ok (.iload_n 1, 1) := by decide +kernel
theorem dX8_made_122 : decode cX8_made 122 = .ok (.iadd, 1) := by decide +kernel
theorem dX8_made_123 : decode cX8_made 123 = .ok (.bipush 16, 2) := by decide +kernel
theorem dX8_made_125 : decode cX8_made 125 = .ok (.invokevirtual 87, 3) := by decide +kernel
theorem dX8_made_128 : decode cX8_made 128 = .ok (.iconst 0, 1) := by decide +kernel
theorem dX8_made_129 : decode cX8_made 129 = .ok (.istore_n 2, 1) := by decide +kernel
theorem dX8_made_130 : decode cX8_made 130 = .ok (.iload_n 2, 1) := by decide +kernel
theorem dX8_made_131 : decode cX8_made 131 = .ok (.aload_n 0, 1) := by decide +kernel
theorem dX8_made_132 : decode cX8_made 132 = .ok (.getfield 13, 3) := by decide +kernel
theorem dX8_made_135 : decode cX8_made 135 = .ok (.if_icmp .ge 38, 3) := by decide +kernel
theorem dX8_made_138 : decode cX8_made 138 = .ok (.aload_n 0, 1) := by decide +kernel
theorem dX8_made_139 : decode cX8_made 139 = .ok (.sipush 19804, 3) := by decide +kernel
theorem dX8_made_142 : decode cX8_made 142 = .ok (.iload_n 2, 1) := by decide +kernel
theorem dX8_made_143 : decode cX8_made 143 = .ok (.iload_n 1, 1) := by decide +kernel
theorem dX8_made_144 : decode cX8_made 144 = .ok (.bipush 17, 2) := by decide +kernel
theorem dX8_made_146 : decode cX8_made 146 = .ok (.invokevirtual 137, 3) := by decide +kernel
theorem dX8_made_149 : decode cX8_made 149 = .ok (.iconst (-1), 1) := by decide +kernel
theorem dX8_made_150 : decode cX8_made 150 = .ok (.if_icmp .ne 5, 3) := by decide +kernel
theorem dX8_made_153 : decode cX8_made 153 = .ok (.iconst 0, 1) := by decide +kernel
theorem dX8_made_154 : decode cX8_made 154 = .ok (.ireturn, 1) := by decide +kernel
theorem dX8_made_155 : decode cX8_made 155 = .ok (.aload_n 0, 1) := by decide +kernel
theorem dX8_made_156 : decode cX8_made 156 = .ok (.bipush 17, 2) := by decide +kernel
theorem dX8_made_158 : decode cX8_made 158 = .ok (.iconst 4, 1) := by decide +kernel
theorem dX8_made_159 : decode cX8_made 159 = .ok (.iload_n 2, 1) := by decide +kernel
theorem dX8_made_160 : decode cX8_made 160 = .ok (.iadd, 1) := by decide +kernel
theorem dX8_made_161 : decode cX8_made 161 = .ok (.bipush 16, 2) := by decide +kernel
theorem dX8_made_163 : decode cX8_made 163 = .ok (.iconst 1, 1) := by decide +kernel
theorem dX8_made_164 : decode cX8_made 164 = .ok (.invokevirtual 141, 3) := by decide +kernel
theorem dX8_made_167 : decode cX8_made 167 = .ok (.iinc 2 1, 3) := by decide +kernel
theorem dX8_made_170 : decode cX8_made 170 = .ok (.goto (-40), 3) := by decide +kernel
theorem dX8_made_173 : decode cX8_made 173 = .ok (.aload_n 0, 1) := by decide +kernel
theorem dX8_made_174 : decode cX8_made 174 = .ok (.bipush 16, 2) := by decide +kernel
theorem dX8_made_176 : decode cX8_made 176 = .ok (.bipush 12, 2) := by decide +kernel
theorem dX8_made_178 : decode cX8_made 178 = .ok (.sipush 16476, 3) := by decide +kernel
theorem dX8_made_181 : decode cX8_made 181 = .ok (.sipush 384, 3) := by decide +kernel
theorem dX8_made_184 : decode cX8_made 184 = .ok (.iload_n 1, 1) := by decide +kernel
theorem dX8_made_185 : decode cX8_made 185 = .ok (.imul, 1) := by decide +kernel
theorem dX8_made_186 : decode cX8_made 186 = .ok (.iadd, 1) := by decide +kernel
theorem dX8_made_187 : decode cX8_made 187 = .ok (.invokevirtual 144, 3) := by decide +kernel
theorem dX8_made_190 : decode cX8_made 190 = .ok (.iinc 1 1, 3) := by decide +kernel
theorem dX8_made_193 : decode cX8_made 193 = .ok (.goto (-83), 3) := by decide +kernel
theorem dX8_made_196 : decode cX8_made 196 = .ok (.aload_n 0, 1) := by decide +kernel
theorem dX8_made_197 : decode cX8_made 197 = .ok (.sipush 19804, 3) := by decide +kernel
theorem dX8_made_200 : decode cX8_made 200 = .ok (.sipush 16476, 3) := by decide +kernel
theorem dX8_made_203 : decode cX8_made 203 = .ok (.sipush 384, 3) := by decide +kernel
theorem dX8_made_206 : decode cX8_made 206 = .ok (.aload_n 0, 1) := by decide +kernel
theorem dX8_made_207 : decode cX8_made 207 = .ok (.getfield 13, 3) := by decide +kernel
theorem dX8_made_210 : decode cX8_made 210 = .ok (.imul, 1) := by decide +kernel
theorem dX8_made_211 : decode cX8_made 211 = .ok (.iadd, 1) := by decide +kernel
theorem dX8_made_212 : decode cX8_made 212 = .ok (.bipush 32, 2) := by decide +kernel
theorem dX8_made_214 : decode cX8_made 214 = .ok (.invokevirtual 108, 3) := by decide +kernel
theorem dX8_made_217 : decode cX8_made 217 = .ok (.iconst 1, 1) := by decide +kernel
theorem dX8_made_218 : decode cX8_made 218 = .ok (.ireturn, 1) := by decide +kernel
theorem dX8_locks_0 : decode cX8_locks 0 = .ok (.aload_n 0, 1) := by decide +kernel
theorem dX8_locks_1 : decode cX8_locks 1 = .ok (.sipush 19644, 3) := by decide +kernel
theorem dX8_locks_4 : decode cX8_locks 4 = .ok (.sipush 19804, 3) := by decide +kernel
theorem dX8_locks_7 : decode cX8_locks 7 = .ok (.bipush 32, 2) := by decide +kernel
theorem dX8_locks_9 : decode cX8_locks 9 = .ok (.invokevirtual 108, 3) := by decide +kernel
theorem dX8_locks_12 : decode cX8_locks 12 = .ok (.iconst 0, 1) := by decide +kernel
theorem dX8_locks_13 : decode cX8_locks 13 = .ok (.istore_n 2, 1) := by decide +kernel
theorem dX8_locks_14 : decode cX8_locks 14 = .ok (.iload_n 2, 1) := by decide +kernel
theorem dX8_locks_15 : decode cX8_locks 15 = .ok (.aload_n 0, 1) := by decide +kernel
theorem dX8_locks_16 : decode cX8_locks 16 = .ok (.getfield 13, 3) := by decide +kernel
theorem dX8_locks_19 : decode cX8_locks 19 = .ok (.if_icmp .ge 31, 3) := by decide +kernel
theorem dX8_locks_22 : decode cX8_locks 22 = .ok (.aload_n 0, 1) := by decide +kernel
theorem dX8_locks_23 : decode cX8_locks 23 = .ok (.sipush 19804, 3) := by decide +kernel
theorem dX8_locks_26 : decode cX8_locks 26 = .ok (.iload_n 2, 1) := by decide +kernel
theorem dX8_locks_27 : decode cX8_locks 27 = .ok (.aload_n 0, 1) := by decide +kernel
theorem dX8_locks_28 : decode cX8_locks 28 = .ok (.invokevirtual 127, 3) := by decide +kernel
theorem dX8_locks_31 : decode cX8_locks 31 = .ok (.iconst 4, 1) := by decide +kernel
theorem dX8_locks_32 : decode cX8_locks 32 = .ok (.iload_n 2, 1) := by decide +kernel
theorem dX8_locks_33 : decode cX8_locks 33 = .ok (.iadd, 1) := by decide +kernel
theorem dX8_locks_34 : decode cX8_locks 34 = .ok (.invokevirtual 130, 3) := by decide +kernel
theorem dX8_locks_37 : decode cX8_locks 37 = .ok (.aload_n 0, 1) := by decide +kernel
theorem dX8_locks_38 : decode cX8_locks 38 = .ok (.iconst 4, 1) := by decide +kernel
theorem dX8_locks_39 : decode cX8_locks 39 = .ok (.iload_n 2, 1) := by decide +kernel
theorem dX8_locks_40 : decode cX8_locks 40 = .ok (.iadd, 1) := by decide +kernel
theorem dX8_locks_41 : decode cX8_locks 41 = .ok (.invokevirtual 134, 3) := by decide +kernel
theorem dX8_locks_44 : decode cX8_locks 44 = .ok (.iinc 2 1, 3) := by decide +kernel
theorem dX8_locks_47 : decode cX8_locks 47 = .ok (.goto (-33), 3) := by decide +kernel
theorem dX8_locks_50 : decode cX8_locks 50 = .ok (.iconst 0, 1) := by decide +kernel
theorem dX8_locks_51 : decode cX8_locks 51 = .ok (.istore_n 2, 1) := by decide +kernel
theorem dX8_locks_52 : decode cX8_locks 52 = .ok (.iload_n 2, 1) := by decide +kernel
theorem dX8_locks_53 : decode cX8_locks 53 = .ok (.aload_n 0, 1) := by decide +kernel
theorem dX8_locks_54 : decode cX8_locks 54 = .ok (.getfield 13, 3) := by decide +kernel
theorem dX8_locks_57 : decode cX8_locks 57 = .ok (.if_icmp .ge 131, 3) := by decide +kernel
theorem dX8_locks_60 : decode cX8_locks 60 = .ok (.aload_n 0, 1) := by decide +kernel
theorem dX8_locks_61 : decode cX8_locks 61 = .ok (.bipush 16, 2) := by decide +kernel
theorem dX8_locks_63 : decode cX8_locks 63 = .ok (.invokevirtual 147, 3) := by decide +kernel
theorem dX8_locks_66 : decode cX8_locks 66 = .ok (.iconst 0, 1) := by decide +kernel
theorem dX8_locks_67 : decode cX8_locks 67 = .ok (.istore_n 3, 1) := by decide +kernel
theorem dX8_locks_68 : decode cX8_locks 68 = .ok (.iload_n 3, 1) := by decide +kernel
theorem dX8_locks_69 : decode cX8_locks 69 = .ok (.aload_n 0, 1) := by decide +kernel
theorem dX8_locks_70 : decode cX8_locks 70 = .ok (.getfield 13, 3) := by decide +kernel
theorem dX8_locks_73 : decode cX8_locks 73 = .ok (.if_icmp .ge 45, 3) := by decide +kernel
theorem dX8_locks_76 : decode cX8_locks 76 = .ok (.aload_n 0, 1) := by decide +kernel
theorem dX8_locks_77 : decode cX8_locks 77 = .ok (.iload_n 1, 1) := by decide +kernel
theorem dX8_locks_78 : decode cX8_locks 78 = .ok (.sipush 384, 3) := by decide +kernel
theorem dX8_locks_81 : decode cX8_locks 81 = .ok (.aload_n 0, 1) := by decide +kernel
theorem dX8_locks_82 : decode cX8_locks 82 = .ok (.getfield 13, 3) := by decide +kernel
theorem dX8_locks_85 : decode cX8_locks 85 = .ok (.imul, 1) := by decide +kernel
theorem dX8_locks_86 : decode cX8_locks 86 = .ok (.iadd, 1) := by decide +kernel
theorem dX8_locks_87 : decode cX8_locks 87 = .ok (.iload_n 2, 1) := by decide +kernel
theorem dX8_locks_88 : decode cX8_locks 88 = .ok (.iload_n 3, 1) := by decide +kernel
theorem dX8_locks_89 : decode cX8_locks 89 = .ok (.bipush 17, 2) := by decide +kernel
theorem dX8_locks_91 : decode cX8_locks 91 = .ok (.invokevirtual 137, 3) := by decide +kernel
theorem dX8_locks_94 : decode cX8_locks 94 = .ok (.iconst (-1), 1) := by decide +kernel
theorem dX8_locks_95 : decode cX8_locks 95 = .ok (.if_icmp .ne 5, 3) := by decide +kernel
theorem dX8_locks_98 : decode cX8_locks 98 = .ok (.iconst 0, 1) := by decide +kernel
theorem dX8_locks_99 : decode cX8_locks 99 = .ok (.ireturn, 1) := by decide +kernel
theorem dX8_locks_100 : decode cX8_locks 100 = .ok (.aload_n 0, 1) := by decide +kernel
theorem dX8_locks_101 : decode cX8_locks 101 = .ok (.bipush 17, 2) := by decide +kernel
theorem dX8_locks_103 : decode cX8_locks 103 = .ok (.iconst 4, 1) := by decide +kernel
theorem dX8_locks_104 : decode cX8_locks 104 = .ok (.iload_n 3, 1) := by decide +kernel
theorem dX8_locks_105 : decode cX8_locks 105 = .ok (.iadd, 1) := by decide +kernel
theorem dX8_locks_106 : decode cX8_locks 106 = .ok (.bipush 16, 2) := by decide +kernel
theorem dX8_locks_108 : decode cX8_locks 108 = .ok (.iconst 1, 1) := by decide +kernel
theorem dX8_locks_109 : decode cX8_locks 109 = .ok (.invokevirtual 141, 3) := by decide +kernel
theorem dX8_locks_112 : decode cX8_locks 112 = .ok (.iinc 3 1, 3) := by decide +kernel
theorem dX8_locks_115 : decode cX8_locks 115 = .ok (.goto (-47), 3) := by decide +kernel
theorem dX8_locks_118 : decode cX8_locks 118 = .ok (.aload_n 0, 1) := by decide +kernel
theorem dX8_locks_119 : decode cX8_locks 119 = .ok (.bipush 16, 2) := by decide +kernel
theorem dX8_locks_121 : decode cX8_locks 121 = .ok (.invokevirtual 150, 3) := by decide +kernel
theorem dX8_locks_124 : decode cX8_locks 124 = .ok (.aload_n 0, 1) := by decide +kernel
theorem dX8_locks_125 : decode cX8_locks 125 = .ok (.sipush 19804, 3) := by decide +kernel
theorem dX8_locks_128 : decode cX8_locks 128 = .ok (.aload_n 0, 1) := by decide +kernel
theorem dX8_locks_129 : decode cX8_locks 129 = .ok (.getfield 13, 3) := by decide +kernel
theorem dX8_locks_132 : decode cX8_locks 132 = .ok (.iload_n 2, 1) := by decide +kernel
theorem dX8_locks_133 : decode cX8_locks 133 = .ok (.iadd, 1) := by decide +kernel
theorem dX8_locks_134 : decode cX8_locks 134 = .ok (.iconst 2, 1) := by decide +kernel
theorem dX8_locks_135 : decode cX8_locks 135 = .ok (.bipush 17, 2) := by decide +kernel
theorem dX8_locks_137 : decode cX8_locks 137 = .ok (.invokevirtual 130, 3) := by decide +kernel
theorem dX8_locks_140 : decode cX8_locks 140 = .ok (.aload_n 0, 1) := by decide +kernel
theorem dX8_locks_141 : decode cX8_locks 141 = .ok (.bipush 16, 2) := by decide +kernel
theorem dX8_locks_143 : decode cX8_locks 143 = .ok (.bipush 17, 2) := by decide +kernel
theorem dX8_locks_145 : decode cX8_locks 145 = .ok (.iconst 1, 1) := by decide +kernel
theorem dX8_locks_146 : decode cX8_locks 146 = .ok (.invokevirtual 153, 3) := by decide +kernel
theorem dX8_locks_149 : decode cX8_locks 149 = .ok (.aload_n 0, 1) := by decide +kernel
theorem dX8_locks_150 : decode cX8_locks 150 = .ok (.bipush 16, 2) := by decide +kernel
theorem dX8_locks_152 : decode cX8_locks 152 = .ok (.aload_n 0, 1) := by decide +kernel
theorem dX8_locks_153 : decode cX8_locks 153 = .ok (.invokevirtual 118, 3) := by decide +kernel
theorem dX8_locks_156 : decode cX8_locks 156 = .ok (.invokevirtual 156, 3) := by decide +kernel
theorem dX8_locks_159 : decode cX8_locks 159 = .ok (.aload_n 0, 1) := by decide +kernel
theorem dX8_locks_160 : decode cX8_locks 160 = .ok (.bipush 16, 2) := by decide +kernel
theorem dX8_locks_162 : decode cX8_locks 162 = .ok (.aload_n 0, 1) := by decide +kernel
theorem dX8_locks_163 : decode cX8_locks 163 = .ok (.invokevirtual 118, 3) := by decide +kernel
theorem dX8_locks_166 : decode cX8_locks 166 = .ok (.sipush 18044, 3) := by decide +kernel
theorem dX8_locks_169 : decode cX8_locks 169 = .ok (.bipush 32, 2) := by decide +kernel
theorem dX8_locks_171 : decode cX8_locks 171 = .ok (.aload_n 0, 1) := by decide +kernel
theorem dX8_locks_172 : decode cX8_locks 172 = .ok (.invokevirtual 118, 3) := by decide +kernel
theorem dX8_locks_175 : decode cX8_locks 175 = .ok (.imul, 1) := by decide +kernel
theorem dX8_locks_176 : decode cX8_locks 176 = .ok (.iload_n 2, 1) := by decide +kernel
theorem dX8_locks_177 : decode cX8_locks 177 = .ok (.imul, 1) := by decide +kernel
theorem dX8_locks_178 : decode cX8_locks 178 = .ok (.iadd, 1) := by decide +kernel
theorem dX8_locks_179 : decode cX8_locks 179 = .ok (.invokevirtual 144, 3) := by decide +kernel
theorem dX8_locks_182 : decode cX8_locks 182 = .ok (.iinc 2 1, 3) := by decide +kernel
theorem dX8_locks_185 : decode cX8_locks 185 = .ok (.goto (-133), 3) := by decide +kernel
theorem dX8_locks_188 : decode cX8_locks 188 = .ok (.aload_n 0, 1) := by decide +kernel
theorem dX8_locks_189 : decode cX8_locks 189 = .ok (.bipush 16, 2) := by decide +kernel
theorem dX8_locks_191 : decode cX8_locks 191 = .ok (.invokevirtual 147, 3) := by decide +kernel
theorem dX8_locks_194 : decode cX8_locks 194 = .ok (.iconst 0, 1) := by decide +kernel
theorem dX8_locks_195 : decode cX8_locks 195 = .ok (.istore_n 2, 1) := by decide +kernel
theorem dX8_locks_196 : decode cX8_locks 196 = .ok (.iload_n 2, 1) := by decide +kernel
theorem dX8_locks_197 : decode cX8_locks 197 = .ok (.aload_n 0, 1) := by decide +kernel
theorem dX8_locks_198 : decode cX8_locks 198 = .ok (.getfield 13, 3) := by decide +kernel
theorem dX8_locks_201 : decode cX8_locks 201 = .ok (.if_icmp .ge 36, 3) := by decide +kernel
theorem dX8_locks_204 : decode cX8_locks 204 = .ok (.aload_n 0, 1) := by decide +kernel
theorem dX8_locks_205 : decode cX8_locks 205 = .ok (.bipush 17, 2) := by decide +kernel
theorem dX8_locks_207 : decode cX8_locks 207 = .ok (.bipush 12, 2) := by decide +kernel
theorem dX8_locks_209 : decode cX8_locks 209 = .ok (.iload_n 1, 1) := by decide +kernel
theorem dX8_locks_210 : decode cX8_locks 210 = .ok (.sipush 384, 3) := by decide +kernel
theorem dX8_locks_213 : decode cX8_locks 213 = .ok (.iload_n 2, 1) := by decide +kernel
theorem dX8_locks_214 : decode cX8_locks 214 = .ok (.imul, 1) := by decide +kernel
theorem dX8_locks_215 : decode cX8_locks 215 = .ok (.iadd, 1) := by decide +kernel
theorem dX8_locks_216 : decode cX8_locks 216 = .ok (.invokevirtual 159, 3) := by decide +kernel
theorem dX8_locks_219 : decode cX8_locks 219 = .ok (.aload_n 0, 1) := by decide +kernel
theorem dX8_locks_220 : decode cX8_locks 220 = .ok (.bipush 17, 2) := by decide +kernel
theorem dX8_locks_222 : decode cX8_locks 222 = .ok (.iconst 4, 1) := by decide +kernel
theorem dX8_locks_223 : decode cX8_locks 223 = .ok (.iload_n 2, 1) := by decide +kernel
theorem dX8_locks_224 : decode cX8_locks 224 = .ok (.iadd, 1) := by decide +kernel
theorem dX8_locks_225 : decode cX8_locks 225 = .ok (.bipush 16, 2) := by decide +kernel
theorem dX8_locks_227 : decode cX8_locks 227 = .ok (.iconst 1, 1) := by decide +kernel
theorem dX8_locks_228 : decode cX8_locks 228 = .ok (.invokevirtual 141, 3) := by decide +kernel
theorem dX8_locks_231 : decode cX8_locks 231 = .ok (.iinc 2 1, 3) := by decide +kernel
theorem dX8_locks_234 : decode cX8_locks 234 = .ok (.goto (-38), 3) := by decide +kernel
theorem dX8_locks_237 : decode cX8_locks 237 = .ok (.aload_n 0, 1) := by decide +kernel
theorem dX8_locks_238 : decode cX8_locks 238 = .ok (.bipush 16, 2) := by decide +kernel
theorem dX8_locks_240 : decode cX8_locks 240 = .ok (.invokevirtual 150, 3) := by decide +kernel
theorem dX8_locks_243 : decode cX8_locks 243 = .ok (.aload_n 0, 1) := by decide +kernel
theorem dX8_locks_244 : decode cX8_locks 244 = .ok (.sipush 19804, 3) := by decide +kernel
theorem dX8_locks_247 : decode cX8_locks 247 = .ok (.iconst 2, 1) := by decide +kernel
theorem dX8_locks_248 : decode cX8_locks 248 = .ok (.aload_n 0, 1) := by decide +kernel
theorem dX8_locks_249 : decode cX8_locks 249 = .ok (.getfield 13, 3) := by decide +kernel
theorem dX8_locks_252 : decode cX8_locks 252 = .ok (.imul, 1) := by decide +kernel
theorem dX8_locks_253 : decode cX8_locks 253 = .ok (.iconst 2, 1) := by decide +kernel
theorem dX8_locks_254 : decode cX8_locks 254 = .ok (.bipush 17, 2) := by decide +kernel
theorem dX8_locks_256 : decode cX8_locks 256 = .ok (.invokevirtual 130, 3) := by decide +kernel
theorem dX8_locks_259 : decode cX8_locks 259 = .ok (.aload_n 0, 1) := by decide +kernel
theorem dX8_locks_260 : decode cX8_locks 260 = .ok (.bipush 16, 2) := by decide +kernel
theorem dX8_locks_262 : decode cX8_locks 262 = .ok (.bipush 17, 2) := by decide +kernel
theorem dX8_locks_264 : decode cX8_locks 264 = .ok (.iconst 1, 1) := by decide +kernel
theorem dX8_locks_265 : decode cX8_locks 265 = .ok (.invokevirtual 153, 3) := by decide +kernel
theorem dX8_locks_268 : decode cX8_locks 268 = .ok (.aload_n 0, 1) := by decide +kernel
theorem dX8_locks_269 : decode cX8_locks 269 = .ok (.bipush 17, 2) := by decide +kernel
theorem dX8_locks_271 : decode cX8_locks 271 = .ok (.iconst 1, 1) := by decide +kernel
theorem dX8_locks_272 : decode cX8_locks 272 = .ok (.sipush 19740, 3) := by decide +kernel
theorem dX8_locks_275 : decode cX8_locks 275 = .ok (.invokevirtual 159, 3) := by decide +kernel
theorem dX8_locks_278 : decode cX8_locks 278 = .ok (.aload_n 0, 1) := by decide +kernel
theorem dX8_locks_279 : decode cX8_locks 279 = .ok (.bipush 17, 2) := by decide +kernel
theorem dX8_locks_281 : decode cX8_locks 281 = .ok (.iconst 1, 1) := by decide +kernel
theorem dX8_locks_282 : decode cX8_locks 282 = .ok (.invokevirtual 162, 3) := by decide +kernel
theorem dX8_locks_285 : decode cX8_locks 285 = .ok (.aload_n 0, 1) := by decide +kernel
theorem dX8_locks_286 : decode cX8_locks 286 = .ok (.bipush 16, 2) := by decide +kernel
theorem dX8_locks_288 : decode cX8_locks 288 = .ok (.bipush 17, 2) := by decide +kernel
theorem dX8_locks_290 : decode cX8_locks 290 = .ok (.iconst 1, 1) := by decide +kernel
theorem dX8_locks_291 : decode cX8_locks 291 = .ok (.invokevirtual 153, 3) := by decide +kernel
theorem dX8_locks_294 : decode cX8_locks 294 = .ok (.aload_n 0, 1) := by decide +kernel
theorem dX8_locks_295 : decode cX8_locks 295 = .ok (.bipush 16, 2) := by decide +kernel
theorem dX8_locks_297 : decode cX8_locks 297 = .ok (.aload_n 0, 1) := by decide +kernel
theorem dX8_locks_298 : decode cX8_locks 298 = .ok (.invokevirtual 121, 3) := by decide +kernel
theorem dX8_locks_301 : decode cX8_locks 301 = .ok (.invokevirtual 156, 3) := by decide +kernel
theorem dX8_locks_304 : decode cX8_locks 304 = .ok (.aload_n 0, 1) := by decide +kernel
theorem dX8_locks_305 : decode cX8_locks 305 = .ok (.bipush 16, 2) := by decide +kernel
theorem dX8_locks_307 : decode cX8_locks 307 = .ok (.aload_n 0, 1) := by decide +kernel
theorem dX8_locks_308 : decode cX8_locks 308 = .ok (.invokevirtual 121, 3) := by decide +kernel
theorem dX8_locks_311 : decode cX8_locks 311 = .ok (.sipush 18044, 3) := by decide +kernel
theorem dX8_locks_314 : decode cX8_locks 314 = .ok (.bipush 32, 2) := by decide +kernel
theorem dX8_locks_316 : decode cX8_locks 316 = .ok (.aload_n 0, 1) := by decide +kernel
theorem dX8_locks_317 : decode cX8_locks 317 = .ok (.invokevirtual 118, 3) := by decide +kernel
theorem dX8_locks_320 : decode cX8_locks 320 = .ok (.imul, 1) := by decide +kernel
theorem dX8_locks_321 : decode cX8_locks 321 = .ok (.aload_n 0, 1) := by decide +kernel
theorem dX8_locks_322 : decode cX8_locks 322 = .ok (.getfield 13, 3) := by decide +kernel
theorem dX8_locks_325 : decode cX8_locks 325 = .ok (.imul, 1) := by decide +kernel
theorem dX8_locks_326 : decode cX8_locks 326 = .ok (.iadd, 1) := by decide +kernel
theorem dX8_locks_327 : decode cX8_locks 327 = .ok (.invokevirtual 144, 3) := by decide +kernel
theorem dX8_locks_330 : decode cX8_locks 330 = .ok (.iconst 1, 1) := by decide +kernel
theorem dX8_locks_331 : decode cX8_locks 331 = .ok (.ireturn, 1) := by decide +kernel
theorem dX8_unlocks_0 : decode cX8_unlocks 0 = .ok (.aload_n 0, 1) := by decide +kernel
theorem dX8_unlocks_1 : decode cX8_unlocks 1 = .ok (.bipush 16, 2) := by decide +kernel
theorem dX8_unlocks_3 : decode cX8_unlocks 3 = .ok (.invokevirtual 147, 3) := by decide +kernel
theorem dX8_unlocks_6 : decode cX8_unlocks 6 = .ok (.iconst 0, 1) := by decide +kernel
theorem dX8_unlocks_7 : decode cX8_unlocks 7 = .ok (.istore_n 2, 1) := by decide +kernel
theorem dX8_unlocks_8 : decode cX8_unlocks 8 = .ok (.iload_n 2, 1) := by decide +kernel
theorem dX8_unlocks_9 : decode cX8_unlocks 9 = .ok (.aload_n 0, 1) := by decide +kernel
theorem dX8_unlocks_10 : decode cX8_unlocks 10 = .ok (.getfield 13, 3) := by decide +kernel
theorem dX8_unlocks_13 : decode cX8_unlocks 13 = .ok (.if_icmp .ge 74, 3) := by decide +kernel
theorem dX8_unlocks_16 : decode cX8_unlocks 16 = .ok (.aload_n 0, 1) := by decide +kernel
theorem dX8_unlocks_17 : decode cX8_unlocks 17 = .ok (.bipush 17, 2) := by decide +kernel
theorem dX8_unlocks_19 : decode cX8_unlocks 19 = .ok (.aload_n 0, 1) := by decide +kernel
theorem dX8_unlocks_20 : decode cX8_unlocks 20 = .ok (.invokevirtual 118, 3) := by decide +kernel
theorem dX8_unlocks_23 : decode cX8_unlocks 23 = .ok (.sipush 8736, 3) := by decide +kernel
theorem dX8_unlocks_26 : decode cX8_unlocks 26 = .ok (.bipush 32, 2) := by decide +kernel
theorem dX8_unlocks_28 : decode cX8_unlocks 28 = .ok (.aload_n 0, 1) := by decide +kernel
theorem dX8_unlocks_29 : decode cX8_unlocks 29 = .ok (.invokevirtual 118, 3) := by decide +kernel
theorem dX8_unlocks_32 : decode cX8_unlocks 32 = .ok (.imul, 1) := by decide +kernel
theorem dX8_unlocks_33 : decode cX8_unlocks 33 = .ok (.iload_n 2, 1) := by decide +kernel
theorem dX8_unlocks_34 : decode cX8_unlocks 34 = .ok (.imul, 1) := by decide +kernel
theorem dX8_unlocks_35 : decode cX8_unlocks 35 = .ok (.iadd, 1) := by decide +kernel
theorem dX8_unlocks_36 : decode cX8_unlocks 36 = .ok (.invokevirtual 159, 3) := by decide +kernel
theorem dX8_unlocks_39 : decode cX8_unlocks 39 = .ok (.aload_n 0, 1) := by decide +kernel
theorem dX8_unlocks_40 : decode cX8_unlocks 40 = .ok (.bipush 17, 2) := by decide +kernel
theorem dX8_unlocks_42 : decode cX8_unlocks 42 = .ok (.aload_n 0, 1) := by decide +kernel
theorem dX8_unlocks_43 : decode cX8_unlocks 43 = .ok (.invokevirtual 118, 3) := by decide +kernel
theorem dX8_unlocks_46 : decode cX8_unlocks 46 = .ok (.invokevirtual 162, 3) := by decide +kernel
theorem dX8_unlocks_49 : decode cX8_unlocks 49 = .ok (.aload_n 0, 1) := by decide +kernel
theorem dX8_unlocks_50 : decode cX8_unlocks 50 = .ok (.bipush 17, 2) := by decide +kernel
theorem dX8_unlocks_52 : decode cX8_unlocks 52 = .ok (.invokevirtual 134, 3) := by decide +kernel
theorem dX8_unlocks_55 : decode cX8_unlocks 55 = .ok (.aload_n 0, 1) := by decide +kernel
theorem dX8_unlocks_56 : decode cX8_unlocks 56 = .ok (.bipush 12, 2) := by decide +kernel
theorem dX8_unlocks_58 : decode cX8_unlocks 58 = .ok (.bipush 12, 2) := by decide +kernel
theorem dX8_unlocks_60 : decode cX8_unlocks 60 = .ok (.iload_n 1, 1) := by decide +kernel
theorem dX8_unlocks_61 : decode cX8_unlocks 61 = .ok (.sipush 384, 3) := by decide +kernel
theorem dX8_unlocks_64 : decode cX8_unlocks 64 = .ok (.iload_n 2, 1) := by decide +kernel
theorem dX8_unlocks_65 : decode cX8_unlocks 65 = .ok (.imul, 1) := by decide +kernel
theorem dX8_unlocks_66 : decode cX8_unlocks 66 = .ok (.iadd, 1) := by decide +kernel
theorem dX8_unlocks_67 : decode cX8_unlocks 67 = .ok (.invokevirtual 159, 3) := by decide +kernel
theorem dX8_unlocks_70 : decode cX8_unlocks 70 = .ok (.aload_n 0, 1) := by decide +kernel
theorem dX8_unlocks_71 : decode cX8_unlocks 71 = .ok (.bipush 17, 2) := by decide +kernel
theorem dX8_unlocks_73 : decode cX8_unlocks 73 = .ok (.bipush 12, 2) := by decide +kernel
theorem dX8_unlocks_75 : decode cX8_unlocks 75 = .ok (.bipush 16, 2) := by decide +kernel
theorem dX8_unlocks_77 : decode cX8_unlocks 77 = .ok (.iconst 1, 1) := by decide +kernel
theorem dX8_unlocks_78 : decode cX8_unlocks 78 = .ok (.invokevirtual 141, 3) := by decide +kernel
theorem dX8_unlocks_81 : decode cX8_unlocks 81 = .ok (.iinc 2 1, 3) := by decide +kernel
theorem dX8_unlocks_84 : decode cX8_unlocks 84 = .ok (.goto (-76), 3) := by decide +kernel
theorem dX8_unlocks_87 : decode cX8_unlocks 87 = .ok (.aload_n 0, 1) := by decide +kernel
theorem dX8_unlocks_88 : decode cX8_unlocks 88 = .ok (.bipush 16, 2) := by decide +kernel
theorem dX8_unlocks_90 : decode cX8_unlocks 90 = .ok (.invokevirtual 150, 3) := by decide +kernel
theorem dX8_unlocks_93 : decode cX8_unlocks 93 = .ok (.aload_n 0, 1) := by decide +kernel
theorem dX8_unlocks_94 : decode cX8_unlocks 94 = .ok (.bipush 17, 2) := by decide +kernel
theorem dX8_unlocks_96 : decode cX8_unlocks 96 = .ok (.aload_n 0, 1) := by decide +kernel
theorem dX8_unlocks_97 : decode cX8_unlocks 97 = .ok (.invokevirtual 121, 3) := by decide +kernel
theorem dX8_unlocks_100 : decode cX8_unlocks 100 = .ok (.sipush 8736, 3) := by decide +kernel
theorem dX8_unlocks_103 : decode cX8_unlocks 103 = .ok (.bipush 32, 2) := by decide +kernel
theorem dX8_unlocks_105 : decode cX8_unlocks 105 = .ok (.aload_n 0, 1) := by decide +kernel
theorem dX8_unlocks_106 : decode cX8_unlocks 106 = .ok (.invokevirtual 118, 3) := by decide +kernel
theorem dX8_unlocks_109 : decode cX8_unlocks 109 = .ok (.imul, 1) := by decide +kernel
theorem dX8_unlocks_110 : decode cX8_unlocks 110 = .ok (.aload_n 0, 1) := by decide +kernel
theorem dX8_unlocks_111 : decode cX8_unlocks 111 = .ok (.getfield 13, 3) := by decide +kernel
theorem dX8_unlocks_114 : decode cX8_unlocks 114 = .ok (.imul, 1) := by decide +kernel
theorem dX8_unlocks_115 : decode cX8_unlocks 115 = .ok (.iadd, 1) := by decide +kernel
theorem dX8_unlocks_116 : decode cX8_unlocks 116 = .ok (.invokevirtual 159, 3) := by decide +kernel
theorem dX8_unlocks_119 : decode cX8_unlocks 119 = .ok (.aload_n 0, 1) := by decide +kernel
theorem dX8_unlocks_120 : decode cX8_unlocks 120 = .ok (.bipush 17, 2) := by decide +kernel
theorem dX8_unlocks_122 : decode cX8_unlocks 122 = .ok (.aload_n 0, 1) := by decide +kernel
theorem dX8_unlocks_123 : decode cX8_unlocks 123 = .ok (.invokevirtual 121, 3) := by decide +kernel
theorem dX8_unlocks_126 : decode cX8_unlocks 126 = .ok (.invokevirtual 162, 3) := by decide +kernel
theorem dX8_unlocks_129 : decode cX8_unlocks 129 = .ok (.aload_n 0, 1) := by decide +kernel
theorem dX8_unlocks_130 : decode cX8_unlocks 130 = .ok (.bipush 17, 2) := by decide +kernel
theorem dX8_unlocks_132 : decode cX8_unlocks 132 = .ok (.bipush 16, 2) := by decide +kernel
theorem dX8_unlocks_134 : decode cX8_unlocks 134 = .ok (.iconst (-1), 1) := by decide +kernel
theorem dX8_unlocks_135 : decode cX8_unlocks 135 = .ok (.invokevirtual 153, 3) := by decide +kernel
theorem dX8_unlocks_138 : decode cX8_unlocks 138 = .ok (.aload_n 0, 1) := by decide +kernel
theorem dX8_unlocks_139 : decode cX8_unlocks 139 = .ok (.bipush 17, 2) := by decide +kernel
theorem dX8_unlocks_141 : decode cX8_unlocks 141 = .ok (.iconst 1, 1) := by decide +kernel
theorem dX8_unlocks_142 : decode cX8_unlocks 142 = .ok (.invokevirtual 156, 3) := by decide +kernel
theorem dX8_unlocks_145 : decode cX8_unlocks 145 = .ok (.aload_n 0, 1) := by decide +kernel
theorem dX8_unlocks_146 : decode cX8_unlocks 146 = .ok (.bipush 17, 2) := by decide +kernel
theorem dX8_unlocks_148 : decode cX8_unlocks 148 = .ok (.iconst 1, 1) := by decide +kernel
theorem dX8_unlocks_149 : decode cX8_unlocks 149 = .ok (.sipush 19740, 3) := by decide +kernel
theorem dX8_unlocks_152 : decode cX8_unlocks 152 = .ok (.invokevirtual 144, 3) := by decide +kernel
theorem dX8_unlocks_155 : decode cX8_unlocks 155 = .ok (.return_, 1) := by decide +kernel
theorem dX8_h_0 : decode cX8_h 0 = .ok (.aload_n 0, 1) := by decide +kernel
theorem dX8_h_1 : decode cX8_h 1 = .ok (.sipush 136, 3) := by decide +kernel
theorem dX8_h_4 : decode cX8_h 4 = .ok (.iload_n 1, 1) := by decide +kernel
theorem dX8_h_5 : decode cX8_h 5 = .ok (.iload_n 2, 1) := by decide +kernel
theorem dX8_h_6 : decode cX8_h 6 = .ok (.iconst 1, 1) := by decide +kernel
theorem dX8_h_7 : decode cX8_h 7 = .ok (.invokevirtual 104, 3) := by decide +kernel
theorem dX8_h_10 : decode cX8_h 10 = .ok (.aload_n 0, 1) := by decide +kernel
theorem dX8_h_11 : decode cX8_h 11 = .ok (.iload_n 3, 1) := by decide +kernel
theorem dX8_h_12 : decode cX8_h 12 = .ok (.bipush 32, 2) := by decide +kernel
theorem dX8_h_14 : decode cX8_h 14 = .ok (.invokevirtual 115, 3) := by decide +kernel
theorem dX8_h_17 : decode cX8_h 17 = .ok (.return_, 1) := by decide +kernel
theorem dX8_feed_0 : decode cX8_feed 0 = .ok (.aload_n 0, 1) := by decide +kernel
theorem dX8_feed_1 : decode cX8_feed 1 = .ok (.getfield 165, 3) := by decide +kernel
theorem dX8_feed_4 : decode cX8_feed 4 = .ok (.bipush 20, 2) := by decide +kernel
theorem dX8_feed_6 : decode cX8_feed 6 = .ok (.iadd, 1) := by decide +kernel
theorem dX8_feed_7 : decode cX8_feed 7 = .ok (.sipush 4000, 3) := by decide +kernel
theorem dX8_feed_10 : decode cX8_feed 10 = .ok (.if_icmp .le 5, 3) := by decide +kernel
theorem dX8_feed_13 : decode cX8_feed 13 = .ok (.iconst (-1), 1) := by decide +kernel
theorem dX8_feed_14 : decode cX8_feed 14 = .ok (.ireturn, 1) := by decide +kernel
theorem dX8_feed_15 : decode cX8_feed 15 = .ok (.iconst 0, 1) := by decide +kernel
theorem dX8_feed_16 : decode cX8_feed 16 = .ok (.istore 6, 2) := by decide +kernel
theorem dX8_feed_18 : decode cX8_feed 18 = .ok (.iload 6, 2) := by decide +kernel
theorem dX8_feed_20 : decode cX8_feed 20 = .ok (.bipush 20, 2) := by decide +kernel
theorem dX8_feed_22 : decode cX8_feed 22 = .ok (.if_icmp .ge 92, 3) := by decide +kernel
theorem dX8_feed_25 : decode cX8_feed 25 = .ok (.iload 6, 2) := by decide +kernel
theorem dX8_feed_27 : decode cX8_feed 27 = .ok (.iconst 4, 1) := by decide +kernel
theorem dX8_feed_28 : decode cX8_feed 28 = .ok (.if_icmp .ge 7, 3) := by decide +kernel
theorem dX8_feed_31 : decode cX8_feed 31 = .ok (.iload_n 1, 1) := by decide +kernel
theorem dX8_feed_32 : decode cX8_feed 32 = .ok (.goto 39, 3) := by decide +kernel
theorem dX8_feed_35 : decode cX8_feed 35 = .ok (.iload 6, 2) := by decide +kernel
theorem dX8_feed_37 : decode cX8_feed 37 = .ok (.bipush 8, 2) := by decide +kernel
theorem dX8_feed_39 : decode cX8_feed 39 = .ok (.if_icmp .ge 7, 3) := by decide +kernel
theorem dX8_feed_42 : decode cX8_feed 42 = .ok (.iload_n 2, 1) := by decide +kernel
theorem dX8_feed_43 : decode cX8_feed 43 = .ok (.goto 28, 3) := by decide +kernel
theorem dX8_feed_46 : decode cX8_feed 46 = .ok (.iload 6, 2) := by decide +kernel
theorem dX8_feed_48 : decode cX8_feed 48 = .ok (.bipush 12, 2) := by decide +kernel
theorem dX8_feed_50 : decode cX8_feed 50 = .ok (.if_icmp .ge 7, 3) := by decide +kernel
theorem dX8_feed_53 : decode cX8_feed 53 = .ok (.iload_n 3, 1) := by decide +kernel
theorem dX8_feed_54 : decode cX8_feed 54 = .ok (.goto 17, 3) := by decide +kernel
theorem dX8_feed_57 : decode cX8_feed 57 = .ok (.iload 6, 2) := by decide +kernel
theorem dX8_feed_59 : decode cX8_feed 59 = .ok (.bipush 16, 2) := by decide +kernel
theorem dX8_feed_61 : decode cX8_feed 61 = .ok (.if_icmp .ge 8, 3) := by decide +kernel
theorem dX8_feed_64 : decode cX8_feed 64 = .ok (.iload 4, 2) := by decide +kernel
theorem dX8_feed_66 : decode cX8_feed 66 = .ok (.goto 5, 3) := by decide +kernel
theorem dX8_feed_69 : decode cX8_feed 69 = .ok (.iload 5, 2) := by decide +kernel
theorem dX8_feed_71 : decode cX8_feed 71 = .ok (.istore 7, 2) := by decide +kernel
theorem dX8_feed_73 : decode cX8_feed 73 = .ok (.aload_n 0, 1) := by decide +kernel
theorem dX8_feed_74 : decode cX8_feed 74 = .ok (.getfield 7, 3) := by decide +kernel
theorem dX8_feed_77 : decode cX8_feed 77 = .ok (.iconst 0, 1) := by decide +kernel
theorem dX8_feed_78 : decode cX8_feed 78 = .ok (.aload_n 0, 1) := by decide +kernel
theorem dX8_feed_79 : decode cX8_feed 79 = .ok (.getfield 165, 3) := by decide +kernel
theorem dX8_feed_82 : decode cX8_feed 82 = .ok (.iadd, 1) := by decide +kernel
theorem dX8_feed_83 : decode cX8_feed 83 = .ok (.iload 7, 2) := by decide +kernel
theorem dX8_feed_85 : decode cX8_feed 85 = .ok (.bipush 24, 2) := by decide +kernel
theorem dX8_feed_87 : decode cX8_feed 87 = .ok (.bipush 8, 2) := by decide +kernel
theorem dX8_feed_89 : decode cX8_feed 89 = .ok (.iload 6, 2) := by decide +kernel
theorem dX8_feed_91 : decode cX8_feed 91 = .ok (.iconst 4, 1) := by decide +kernel
theorem dX8_feed_92 : decode cX8_feed 92 = .ok (.irem, 1) := by decide +kernel
theorem dX8_feed_93 : decode cX8_feed 93 = .ok (.imul, 1) := by decide +kernel
theorem dX8_feed_94 : decode cX8_feed 94 = .ok (.isub, 1) := by decide +kernel
theorem dX8_feed_95 : decode cX8_feed 95 = .ok (.ishr, 1) := by decide +kernel
theorem dX8_feed_96 : decode cX8_feed 96 = .ok (.i2b, 1) := by decide +kernel
theorem dX8_feed_97 : decode cX8_feed 97 = .ok (.bastore, 1) := by decide +kernel
theorem dX8_feed_98 : decode cX8_feed 98 = .ok (.aload_n 0, 1) := by decide +kernel
theorem dX8_feed_99 : decode cX8_feed 99 = .ok (.dup, 1) := by decide +kernel
theorem dX8_feed_100 : decode cX8_feed 100 = .ok (.getfield 165, 3) := by decide +kernel
theorem dX8_feed_103 : decode cX8_feed 103 = .ok (.iconst 1, 1) := by decide +kernel
theorem dX8_feed_104 : decode cX8_feed 104 = .ok (.iadd, 1) := by decide +kernel
theorem dX8_feed_105 : decode cX8_feed 105 = .ok (.putfield 165, 3) := by decide +kernel
theorem dX8_feed_108 : decode cX8_feed 108 = .ok (.iinc 6 1, 3) := by decide +kernel
theorem dX8_feed_111 : decode cX8_feed 111 = .ok (.goto (-93), 3) := by decide +kernel
theorem dX8_feed_114 : decode cX8_feed 114 = .ok (.aload_n 0, 1) := by decide +kernel
theorem dX8_feed_115 : decode cX8_feed 115 = .ok (.getfield 165, 3) := by decide +kernel
theorem dX8_feed_118 : decode cX8_feed 118 = .ok (.ireturn, 1) := by decide +kernel
theorem dX8_end_0 : decode cX8_end 0 = .ok (.iload_n 1, 1) := by decide +kernel
theorem dX8_end_1 : decode cX8_end 1 = .ok (.ifCond .lt 11, 3) := by decide +kernel
theorem dX8_end_4 : decode cX8_end 4 = .ok (.iload_n 1, 1) := by decide +kernel
theorem dX8_end_5 : decode cX8_end 5 = .ok (.aload_n 0, 1) := by decide +kernel
theorem dX8_end_6 : decode cX8_end 6 = .ok (.getfield 165, 3) := by decide +kernel
theorem dX8_end_9 : decode cX8_end 9 = .ok (.if_icmp .le 5, 3) := by decide +kernel
theorem dX8_end_12 : decode cX8_end 12 = .ok (.iconst (-1), 1) := by decide +kernel
theorem dX8_end_13 : decode cX8_end 13 = .ok (.ireturn, 1) := by decide +kernel
theorem dX8_end_14 : decode cX8_end 14 = .ok (.aload_n 0, 1) := by decide +kernel
theorem dX8_end_15 : decode cX8_end 15 = .ok (.iload_n 1, 1) := by decide +kernel
theorem dX8_end_16 : decode cX8_end 16 = .ok (.putfield 165, 3) := by decide +kernel
theorem dX8_end_19 : decode cX8_end 19 = .ok (.iload_n 1, 1) := by decide +kernel
theorem dX8_end_20 : decode cX8_end 20 = .ok (.ireturn, 1) := by decide +kernel
theorem dX8_take_0 : decode cX8_take 0 = .ok (.iload_n 1, 1) := by decide +kernel
theorem dX8_take_1 : decode cX8_take 1 = .ok (.ifCond .lt 8, 3) := by decide +kernel
theorem dX8_take_4 : decode cX8_take 4 = .ok (.iload_n 1, 1) := by decide +kernel
theorem dX8_take_5 : decode cX8_take 5 = .ok (.iconst 4, 1) := by decide +kernel
theorem dX8_take_6 : decode cX8_take 6 = .ok (.if_icmp .le 5, 3) := by decide +kernel
theorem dX8_take_9 : decode cX8_take 9 = .ok (.iconst (-1), 1) := by decide +kernel
theorem dX8_take_10 : decode cX8_take 10 = .ok (.ireturn, 1) := by decide +kernel
theorem dX8_take_11 : decode cX8_take 11 = .ok (.iload_n 1, 1) := by decide +kernel
theorem dX8_take_12 : decode cX8_take 12 = .ok (.ifCond .ne 9, 3) := by decide +kernel
theorem dX8_take_15 : decode cX8_take 15 = .ok (.sipush 4000, 3) := by decide +kernel
theorem dX8_take_18 : decode cX8_take 18 = .ok (.goto 39, 3) := by decide +kernel
theorem dX8_take_21 : decode cX8_take 21 = .ok (.iload_n 1, 1) := by decide +kernel
theorem dX8_take_22 : decode cX8_take 22 = .ok (.iconst 1, 1) := by decide +kernel
theorem dX8_take_23 : decode cX8_take 23 = .ok (.if_icmp .ne 9, 3) := by decide +kernel
theorem dX8_take_26 : decode cX8_take 26 = .ok (.sipush 5568, 3) := by decide +kernel
theorem dX8_take_29 : decode cX8_take 29 = .ok (.goto 28, 3) := by decide +kernel
theorem dX8_take_32 : decode cX8_take 32 = .ok (.iload_n 1, 1) := by decide +kernel
theorem dX8_take_33 : decode cX8_take 33 = .ok (.iconst 2, 1) := by decide +kernel
theorem dX8_take_34 : decode cX8_take 34 = .ok (.if_icmp .ne 9, 3) := by decide +kernel
theorem dX8_take_37 : decode cX8_take 37 = .ok (.sipush 8736, 3) := by decide +kernel
theorem dX8_take_40 : decode cX8_take 40 = .ok (.goto 17, 3) := by decide +kernel
theorem dX8_take_43 : decode cX8_take 43 = .ok (.iload_n 1, 1) := by decide +kernel
theorem dX8_take_44 : decode cX8_take 44 = .ok (.iconst 3, 1) := by decide +kernel
theorem dX8_take_45 : decode cX8_take 45 = .ok (.if_icmp .ne 9, 3) := by decide +kernel
theorem dX8_take_48 : decode cX8_take 48 = .ok (.sipush 10304, 3) := by decide +kernel
theorem dX8_take_51 : decode cX8_take 51 = .ok (.goto 6, 3) := by decide +kernel
theorem dX8_take_54 : decode cX8_take 54 = .ok (.sipush 10336, 3) := by decide +kernel
theorem dX8_take_57 : decode cX8_take 57 = .ok (.istore_n 2, 1) := by decide +kernel
theorem dX8_take_58 : decode cX8_take 58 = .ok (.aload_n 0, 1) := by decide +kernel
theorem dX8_take_59 : decode cX8_take 59 = .ok (.iload_n 1, 1) := by decide +kernel
theorem dX8_take_60 : decode cX8_take 60 = .ok (.invokevirtual 168, 3) := by decide +kernel
theorem dX8_take_63 : decode cX8_take 63 = .ok (.istore_n 3, 1) := by decide +kernel
theorem dX8_take_64 : decode cX8_take 64 = .ok (.aload_n 0, 1) := by decide +kernel
theorem dX8_take_65 : decode cX8_take 65 = .ok (.iload_n 2, 1) := by decide +kernel
theorem dX8_take_66 : decode cX8_take 66 = .ok (.iconst 0, 1) := by decide +kernel
theorem dX8_take_67 : decode cX8_take 67 = .ok (.iload_n 3, 1) := by decide +kernel
theorem dX8_take_68 : decode cX8_take 68 = .ok (.invokevirtual 108, 3) := by decide +kernel
theorem dX8_take_71 : decode cX8_take 71 = .ok (.aload_n 0, 1) := by decide +kernel
theorem dX8_take_72 : decode cX8_take 72 = .ok (.iload_n 3, 1) := by decide +kernel
theorem dX8_take_73 : decode cX8_take 73 = .ok (.putfield 165, 3) := by decide +kernel
theorem dX8_take_76 : decode cX8_take 76 = .ok (.iload_n 3, 1) := by decide +kernel
theorem dX8_take_77 : decode cX8_take 77 = .ok (.ireturn, 1) := by decide +kernel
theorem dX8_alter_0 : decode cX8_alter 0 = .ok (.iload_n 1, 1) := by decide +kernel
theorem dX8_alter_1 : decode cX8_alter 1 = .ok (.ifCond .lt 11, 3) := by decide +kernel
theorem dX8_alter_4 : decode cX8_alter 4 = .ok (.iload_n 1, 1) := by decide +kernel
theorem dX8_alter_5 : decode cX8_alter 5 = .ok (.aload_n 0, 1) := by decide +kernel
theorem dX8_alter_6 : decode cX8_alter 6 = .ok (.getfield 165, 3) := by decide +kernel
theorem dX8_alter_9 : decode cX8_alter 9 = .ok (.if_icmp .lt 5, 3) := by decide +kernel
theorem dX8_alter_12 : decode cX8_alter 12 = .ok (.iconst 0, 1) := by decide +kernel
theorem dX8_alter_13 : decode cX8_alter 13 = .ok (.ireturn, 1) := by decide +kernel
theorem dX8_alter_14 : decode cX8_alter 14 = .ok (.aload_n 0, 1) := by decide +kernel
theorem dX8_alter_15 : decode cX8_alter 15 = .ok (.getfield 7, 3) := by decide +kernel
theorem dX8_alter_18 : decode cX8_alter 18 = .ok (.iconst 0, 1) := by decide +kernel
theorem dX8_alter_19 : decode cX8_alter 19 = .ok (.iload_n 1, 1) := by decide +kernel
theorem dX8_alter_20 : decode cX8_alter 20 = .ok (.iadd, 1) := by decide +kernel
theorem dX8_alter_21 : decode cX8_alter 21 = .ok (.iload_n 2, 1) := by decide +kernel
theorem dX8_alter_22 : decode cX8_alter 22 = .ok (.i2b, 1) := by decide +kernel
theorem dX8_alter_23 : decode cX8_alter 23 = .ok (.bastore, 1) := by decide +kernel
theorem dX8_alter_24 : decode cX8_alter 24 = .ok (.iconst 1, 1) := by decide +kernel
theorem dX8_alter_25 : decode cX8_alter 25 = .ok (.ireturn, 1) := by decide +kernel
theorem dX8_choose_0 : decode cX8_choose 0 = .ok (.iload_n 1, 1) := by decide +kernel
theorem dX8_choose_1 : decode cX8_choose 1 = .ok (.iconst 2, 1) := by decide +kernel
theorem dX8_choose_2 : decode cX8_choose 2 = .ok (.if_icmp .lt 8, 3) := by decide +kernel
theorem dX8_choose_5 : decode cX8_choose 5 = .ok (.iload_n 1, 1) := by decide +kernel
theorem dX8_choose_6 : decode cX8_choose 6 = .ok (.iconst 4, 1) := by decide +kernel
theorem dX8_choose_7 : decode cX8_choose 7 = .ok (.if_icmp .le 5, 3) := by decide +kernel
theorem dX8_choose_10 : decode cX8_choose 10 = .ok (.iconst (-1), 1) := by decide +kernel
theorem dX8_choose_11 : decode cX8_choose 11 = .ok (.ireturn, 1) := by decide +kernel
theorem dX8_choose_12 : decode cX8_choose 12 = .ok (.aload_n 0, 1) := by decide +kernel
theorem dX8_choose_13 : decode cX8_choose 13 = .ok (.iload_n 1, 1) := by decide +kernel
theorem dX8_choose_14 : decode cX8_choose 14 = .ok (.putfield 13, 3) := by decide +kernel
theorem dX8_choose_17 : decode cX8_choose 17 = .ok (.aload_n 0, 1) := by decide +kernel
theorem dX8_choose_18 : decode cX8_choose 18 = .ok (.iconst 0, 1) := by decide +kernel
theorem dX8_choose_19 : decode cX8_choose 19 = .ok (.putfield 171, 3) := by decide +kernel
theorem dX8_choose_22 : decode cX8_choose 22 = .ok (.aload_n 0, 1) := by decide +kernel
theorem dX8_choose_23 : decode cX8_choose 23 = .ok (.iconst 0, 1) := by decide +kernel
theorem dX8_choose_24 : decode cX8_choose 24 = .ok (.putfield 174, 3) := by decide +kernel
theorem dX8_choose_27 : decode cX8_choose 27 = .ok (.aload_n 0, 1) := by decide +kernel
theorem dX8_choose_28 : decode cX8_choose 28 = .ok (.iconst 0, 1) := by decide +kernel
theorem dX8_choose_29 : decode cX8_choose 29 = .ok (.putfield 177, 3) := by decide +kernel
theorem dX8_choose_32 : decode cX8_choose 32 = .ok (.aload_n 0, 1) := by decide +kernel
theorem dX8_choose_33 : decode cX8_choose 33 = .ok (.iconst 0, 1) := by decide +kernel
theorem dX8_choose_34 : decode cX8_choose 34 = .ok (.putfield 180, 3) := by decide +kernel
theorem dX8_choose_37 : decode cX8_choose 37 = .ok (.aload_n 0, 1) := by decide +kernel
theorem dX8_choose_38 : decode cX8_choose 38 = .ok (.invokevirtual 183, 3) := by decide +kernel
theorem dX8_choose_41 : decode cX8_choose 41 = .ok (.ireturn, 1) := by decide +kernel
theorem dX8_bound_0 : decode cX8_bound 0 = .ok (.iload_n 1, 1) := by decide +kernel
theorem dX8_bound_1 : decode cX8_bound 1 = .ok (.iconst 1, 1) := by decide +kernel
theorem dX8_bound_2 : decode cX8_bound 2 = .ok (.if_icmp .lt 10, 3) := by decide +kernel
theorem dX8_bound_5 : decode cX8_bound 5 = .ok (.iload_n 1, 1) := by decide +kernel
theorem dX8_bound_6 : decode cX8_bound 6 = .ok (.sipush 280, 3) := by decide +kernel
theorem dX8_bound_9 : decode cX8_bound 9 = .ok (.if_icmp .le 5, 3) := by decide +kernel
theorem dX8_bound_12 : decode cX8_bound 12 = .ok (.iconst (-1), 1) := by decide +kernel
theorem dX8_bound_13 : decode cX8_bound 13 = .ok (.ireturn, 1) := by decide +kernel
theorem dX8_bound_14 : decode cX8_bound 14 = .ok (.aload_n 0, 1) := by decide +kernel
theorem dX8_bound_15 : decode cX8_bound 15 = .ok (.iload_n 1, 1) := by decide +kernel
theorem dX8_bound_16 : decode cX8_bound 16 = .ok (.putfield 17, 3) := by decide +kernel
theorem dX8_bound_19 : decode cX8_bound 19 = .ok (.iload_n 1, 1) := by decide +kernel
theorem dX8_bound_20 : decode cX8_bound 20 = .ok (.ireturn, 1) := by decide +kernel
theorem dX8_length_0 : decode cX8_length 0 = .ok (.iload_n 1, 1) := by decide +kernel
theorem dX8_length_1 : decode cX8_length 1 = .ok (.tableswitch 69 0 5 #[39, 44, 49, 54, 59, 64], 39) := by decide +kernel
theorem dX8_length_40 : decode cX8_length 40 = .ok (.aload_n 0, 1) := by decide +kernel
theorem dX8_length_41 : decode cX8_length 41 = .ok (.getfield 171, 3) := by decide +kernel
theorem dX8_length_44 : decode cX8_length 44 = .ok (.ireturn, 1) := by decide +kernel
theorem dX8_length_45 : decode cX8_length 45 = .ok (.aload_n 0, 1) := by decide +kernel
theorem dX8_length_46 : decode cX8_length 46 = .ok (.getfield 174, 3) := by decide +kernel
theorem dX8_length_49 : decode cX8_length 49 = .ok (.ireturn, 1) := by decide +kernel
theorem dX8_length_50 : decode cX8_length 50 = .ok (.aload_n 0, 1) := by decide +kernel
theorem dX8_length_51 : decode cX8_length 51 = .ok (.getfield 177, 3) := by decide +kernel
theorem dX8_length_54 : decode cX8_length 54 = .ok (.ireturn, 1) := by decide +kernel
theorem dX8_length_55 : decode cX8_length 55 = .ok (.aload_n 0, 1) := by decide +kernel
theorem dX8_length_56 : decode cX8_length 56 = .ok (.getfield 180, 3) := by decide +kernel
theorem dX8_length_59 : decode cX8_length 59 = .ok (.ireturn, 1) := by decide +kernel
theorem dX8_length_60 : decode cX8_length 60 = .ok (.aload_n 0, 1) := by decide +kernel
theorem dX8_length_61 : decode cX8_length 61 = .ok (.getfield 186, 3) := by decide +kernel
theorem dX8_length_64 : decode cX8_length 64 = .ok (.ireturn, 1) := by decide +kernel
theorem dX8_length_65 : decode cX8_length 65 = .ok (.aload_n 0, 1) := by decide +kernel
theorem dX8_length_66 : decode cX8_length 66 = .ok (.getfield 165, 3) := by decide +kernel
theorem dX8_length_69 : decode cX8_length 69 = .ok (.ireturn, 1) := by decide +kernel
theorem dX8_length_70 : decode cX8_length 70 = .ok (.iconst (-1), 1) := by decide +kernel
theorem dX8_length_71 : decode cX8_length 71 = .ok (.ireturn, 1) := by decide +kernel
theorem dX8_at_0 : decode cX8_at 0 = .ok (.iload_n 2, 1) := by decide +kernel
theorem dX8_at_1 : decode cX8_at 1 = .ok (.ifCond .lt 12, 3) := by decide +kernel
theorem dX8_at_4 : decode cX8_at 4 = .ok (.iload_n 2, 1) := by decide +kernel
theorem dX8_at_5 : decode cX8_at 5 = .ok (.aload_n 0, 1) := by decide +kernel
theorem dX8_at_6 : decode cX8_at 6 = .ok (.iload_n 1, 1) := by decide +kernel
theorem dX8_at_7 : decode cX8_at 7 = .ok (.invokevirtual 168, 3) := by decide +kernel
theorem dX8_at_10 : decode cX8_at 10 = .ok (.if_icmp .lt 5, 3) := by decide +kernel
theorem dX8_at_13 : decode cX8_at 13 = .ok (.iconst (-1), 1) := by decide +kernel
theorem dX8_at_14 : decode cX8_at 14 = .ok (.ireturn, 1) := by decide +kernel
theorem dX8_at_15 : decode cX8_at 15 = .ok (.iload_n 1, 1) := by decide +kernel
theorem dX8_at_16 : decode cX8_at 16 = .ok (.ifCond .ne 9, 3) := by decide +kernel
theorem dX8_at_19 : decode cX8_at 19 = .ok (.sipush 4000, 3) := by decide +kernel
theorem dX8_at_22 : decode cX8_at 22 = .ok (.goto 48, 3) := by decide +kernel
theorem dX8_at_25 : decode cX8_at 25 = .ok (.iload_n 1, 1) := by decide +kernel
theorem dX8_at_26 : decode cX8_at 26 = .ok (.iconst 1, 1) := by decide +kernel
theorem dX8_at_27 : decode cX8_at 27 = .ok (.if_icmp .ne 9, 3) := by decide +kernel
theorem dX8_at_30 : decode cX8_at 30 = .ok (.sipush 5568, 3) := by decide +kernel
theorem dX8_at_33 : decode cX8_at 33 = .ok (.goto 37, 3) := by decide +kernel
theorem dX8_at_36 : decode cX8_at 36 = .ok (.iload_n 1, 1) := by decide +kernel
theorem dX8_at_37 : decode cX8_at 37 = .ok (.iconst 2, 1) := by decide +kernel
theorem dX8_at_38 : decode cX8_at 38 = .ok (.if_icmp .ne 9, 3) := by decide +kernel
theorem dX8_at_41 : decode cX8_at 41 = .ok (.sipush 8736, 3) := by decide +kernel
theorem dX8_at_44 : decode cX8_at 44 = .ok (.goto 26, 3) := by decide +kernel
theorem dX8_at_47 : decode cX8_at 47 = .ok (.iload_n 1, 1) := by decide +kernel
theorem dX8_at_48 : decode cX8_at 48 = .ok (.iconst 3, 1) := by decide +kernel
theorem dX8_at_49 : decode cX8_at 49 = .ok (.if_icmp .ne 9, 3) := by decide +kernel
theorem dX8_at_52 : decode cX8_at 52 = .ok (.sipush 10304, 3) := by decide +kernel
theorem dX8_at_55 : decode cX8_at 55 = .ok (.goto 15, 3) := by decide +kernel
theorem dX8_at_58 : decode cX8_at 58 = .ok (.iload_n 1, 1) := by decide +kernel
theorem dX8_at_59 : decode cX8_at 59 = .ok (.iconst 4, 1) := by decide +kernel
theorem dX8_at_60 : decode cX8_at 60 = .ok (.if_icmp .ne 9, 3) := by decide +kernel
theorem dX8_at_63 : decode cX8_at 63 = .ok (.sipush 10336, 3) := by decide +kernel
theorem dX8_at_66 : decode cX8_at 66 = .ok (.goto 4, 3) := by decide +kernel
theorem dX8_at_69 : decode cX8_at 69 = .ok (.iconst 0, 1) := by decide +kernel
theorem dX8_at_70 : decode cX8_at 70 = .ok (.istore_n 3, 1) := by decide +kernel
theorem dX8_at_71 : decode cX8_at 71 = .ok (.aload_n 0, 1) := by decide +kernel
theorem dX8_at_72 : decode cX8_at 72 = .ok (.iload_n 3, 1) := by decide +kernel
theorem dX8_at_73 : decode cX8_at 73 = .ok (.iload_n 2, 1) := by decide +kernel
theorem dX8_at_74 : decode cX8_at 74 = .ok (.iadd, 1) := by decide +kernel
theorem dX8_at_75 : decode cX8_at 75 = .ok (.invokevirtual 74, 3) := by decide +kernel
theorem dX8_at_78 : decode cX8_at 78 = .ok (.ireturn, 1) := by decide +kernel
theorem dX8_used_0 : decode cX8_used 0 = .ok (.aload_n 0, 1) := by decide +kernel
theorem dX8_used_1 : decode cX8_used 1 = .ok (.getfield 165, 3) := by decide +kernel
theorem dX8_used_4 : decode cX8_used 4 = .ok (.istore_n 1, 1) := by decide +kernel
theorem dX8_used_5 : decode cX8_used 5 = .ok (.aload_n 0, 1) := by decide +kernel
theorem dX8_used_6 : decode cX8_used 6 = .ok (.iconst 0, 1) := by decide +kernel
theorem dX8_used_7 : decode cX8_used 7 = .ok (.putfield 165, 3) := by decide +kernel
theorem dX8_used_10 : decode cX8_used 10 = .ok (.iload_n 1, 1) := by decide +kernel
theorem dX8_used_11 : decode cX8_used 11 = .ok (.ireturn, 1) := by decide +kernel
theorem dX8_make_0 : decode cX8_make 0 = .ok (.aload_n 0, 1) := by decide +kernel
theorem dX8_make_1 : decode cX8_make 1 = .ok (.invokevirtual 189, 3) := by decide +kernel
theorem dX8_make_4 : decode cX8_make 4 = .ok (.bipush 64, 2) := by decide +kernel
theorem dX8_make_6 : decode cX8_make 6 = .ok (.if_icmp .eq 5, 3) := by decide +kernel
theorem dX8_make_9 : decode cX8_make 9 = .ok (.iconst (-1), 1) := by decide +kernel
theorem dX8_make_10 : decode cX8_make 10 = .ok (.ireturn, 1) := by decide +kernel
theorem dX8_make_11 : decode cX8_make 11 = .ok (.aload_n 0, 1) := by decide +kernel
theorem dX8_make_12 : decode cX8_make 12 = .ok (.invokevirtual 192, 3) := by decide +kernel
theorem dX8_make_15 : decode cX8_make 15 = .ok (.ifCond .ne 6, 3) := by decide +kernel
theorem dX8_make_18 : decode cX8_make 18 = .ok (.bipush (-2), 2) := by decide +kernel
theorem dX8_make_20 : decode cX8_make 20 = .ok (.ireturn, 1) := by decide +kernel
theorem dX8_make_21 : decode cX8_make 21 = .ok (.aload_n 0, 1) := by decide +kernel
theorem dX8_make_22 : decode cX8_make 22 = .ok (.sipush 16476, 3) := by decide +kernel
theorem dX8_make_25 : decode cX8_make 25 = .ok (.sipush 4000, 3) := by decide +kernel
theorem dX8_make_28 : decode cX8_make 28 = .ok (.aload_n 0, 1) := by decide +kernel
theorem dX8_make_29 : decode cX8_make 29 = .ok (.invokevirtual 183, 3) := by decide +kernel
theorem dX8_make_32 : decode cX8_make 32 = .ok (.invokevirtual 108, 3) := by decide +kernel
theorem dX8_make_35 : decode cX8_make 35 = .ok (.aload_n 0, 1) := by decide +kernel
theorem dX8_make_36 : decode cX8_make 36 = .ok (.aload_n 0, 1) := by decide +kernel
theorem dX8_make_37 : decode cX8_make 37 = .ok (.invokevirtual 183, 3) := by decide +kernel
theorem dX8_make_40 : decode cX8_make 40 = .ok (.putfield 171, 3) := by decide +kernel
theorem dX8_make_43 : decode cX8_make 43 = .ok (.iconst 0, 1) := by decide +kernel
theorem dX8_make_44 : decode cX8_make 44 = .ok (.istore_n 1, 1) := by decide +kernel
theorem dX8_make_45 : decode cX8_make 45 = .ok (.iload_n 1, 1) := by decide +kernel
theorem dX8_make_46 : decode cX8_make 46 = .ok (.aload_n 0, 1) := by decide +kernel
theorem dX8_make_47 : decode cX8_make 47 = .ok (.getfield 13, 3) := by decide +kernel
theorem dX8_make_50 : decode cX8_make 50 = .ok (.if_icmp .ge 27, 3) := by decide +kernel
theorem dX8_make_53 : decode cX8_make 53 = .ok (.aload_n 0, 1) := by decide +kernel
theorem dX8_make_54 : decode cX8_make 54 = .ok (.iconst 4, 1) := by decide +kernel
theorem dX8_make_55 : decode cX8_make 55 = .ok (.iload_n 1, 1) := by decide +kernel
theorem dX8_make_56 : decode cX8_make 56 = .ok (.iadd, 1) := by decide +kernel
theorem dX8_make_57 : decode cX8_make 57 = .ok (.bipush 12, 2) := by decide +kernel
theorem dX8_make_59 : decode cX8_make 59 = .ok (.sipush 5568, 3) := by decide +kernel
theorem dX8_make_62 : decode cX8_make 62 = .ok (.sipush 384, 3) := by decide +kernel
theorem dX8_make_65 : decode cX8_make 65 = .ok (.iload_n 1, 1) := by decide +kernel
theorem dX8_make_66 : decode cX8_make 66 = .ok (.imul, 1) := by decide +kernel
theorem dX8_make_67 : decode cX8_make 67 = .ok (.iadd, 1) := by decide +kernel
theorem dX8_make_68 : decode cX8_make 68 = .ok (.invokevirtual 144, 3) := by decide +kernel
theorem dX8_make_71 : decode cX8_make 71 = .ok (.iinc 1 1, 3) := by decide +kernel
theorem dX8_make_74 : decode cX8_make 74 = .ok (.goto (-29), 3) := by decide +kernel
theorem dX8_make_77 : decode cX8_make 77 = .ok (.aload_n 0, 1) := by decide +kernel
theorem dX8_make_78 : decode cX8_make 78 = .ok (.sipush 4000, 3) := by decide +kernel
theorem dX8_make_81 : decode cX8_make 81 = .ok (.sipush 5568, 3) := by decide +kernel
theorem dX8_make_84 : decode cX8_make 84 = .ok (.sipush 384, 3) := by decide +kernel
theorem dX8_make_87 : decode cX8_make 87 = .ok (.aload_n 0, 1) := by decide +kernel
theorem dX8_make_88 : decode cX8_make 88 = .ok (.getfield 13, 3) := by decide +kernel
theorem dX8_make_91 : decode cX8_make 91 = .ok (.imul, 1) := by decide +kernel
theorem dX8_make_92 : decode cX8_make 92 = .ok (.iadd, 1) := by decide +kernel
theorem dX8_make_93 : decode cX8_make 93 = .ok (.aload_n 0, 1) := by decide +kernel
theorem dX8_make_94 : decode cX8_make 94 = .ok (.getfield 171, 3) := by decide +kernel
theorem dX8_make_97 : decode cX8_make 97 = .ok (.invokevirtual 108, 3) := by decide +kernel
theorem dX8_make_100 : decode cX8_make 100 = .ok (.aload_n 0, 1) := by decide +kernel
theorem dX8_make_101 : decode cX8_make 101 = .ok (.sipush 4000, 3) := by decide +kernel
theorem dX8_make_104 : decode cX8_make 104 = .ok (.aload_n 0, 1) := by decide +kernel
theorem dX8_make_105 : decode cX8_make 105 = .ok (.getfield 171, 3) := by decide +kernel
theorem dX8_make_108 : decode cX8_make 108 = .ok (.sipush 5568, 3) := by decide +kernel
theorem dX8_make_111 : decode cX8_make 111 = .ok (.sipush 768, 3) := by decide +kernel
theorem dX8_make_114 : decode cX8_make 114 = .ok (.aload_n 0, 1) := by decide +kernel
theorem dX8_make_115 : decode cX8_make 115 = .ok (.getfield 13, 3) := by decide +kernel
theorem dX8_make_118 : decode cX8_make 118 = .ok (.imul, 1) := by decide +kernel
theorem dX8_make_119 : decode cX8_make 119 = .ok (.iadd, 1) := by decide +kernel
theorem dX8_make_120 : decode cX8_make 120 = .ok (.bipush 32, 2) := by decide +kernel
theorem dX8_make_122 : decode cX8_make 122 = .ok (.iadd, 1) := by decide +kernel
theorem dX8_make_123 : decode cX8_make 123 = .ok (.invokevirtual 196, 3) := by decide +kernel
theorem dX8_make_126 : decode cX8_make 126 = .ok (.aload_n 0, 1) := by decide +kernel
theorem dX8_make_127 : decode cX8_make 127 = .ok (.bipush 32, 2) := by decide +kernel
theorem dX8_make_129 : decode cX8_make 129 = .ok (.sipush 5568, 3) := by decide +kernel
theorem dX8_make_132 : decode cX8_make 132 = .ok (.sipush 768, 3) := by decide +kernel
theorem dX8_make_135 : decode cX8_make 135 = .ok (.aload_n 0, 1) := by decide +kernel
theorem dX8_make_136 : decode cX8_make 136 = .ok (.getfield 13, 3) := by decide +kernel
theorem dX8_make_139 : decode cX8_make 139 = .ok (.imul, 1) := by decide +kernel
theorem dX8_make_140 : decode cX8_make 140 = .ok (.iadd, 1) := by decide +kernel
theorem dX8_make_141 : decode cX8_make 141 = .ok (.bipush 64, 2) := by decide +kernel
theorem dX8_make_143 : decode cX8_make 143 = .ok (.iadd, 1) := by decide +kernel
theorem dX8_make_144 : decode cX8_make 144 = .ok (.bipush 32, 2) := by decide +kernel
theorem dX8_make_146 : decode cX8_make 146 = .ok (.invokevirtual 108, 3) := by decide +kernel
theorem dX8_make_149 : decode cX8_make 149 = .ok (.aload_n 0, 1) := by decide +kernel
theorem dX8_make_150 : decode cX8_make 150 = .ok (.sipush 768, 3) := by decide +kernel
theorem dX8_make_153 : decode cX8_make 153 = .ok (.aload_n 0, 1) := by decide +kernel
theorem dX8_make_154 : decode cX8_make 154 = .ok (.getfield 13, 3) := by decide +kernel
theorem dX8_make_157 : decode cX8_make 157 = .ok (.imul, 1) := by decide +kernel
theorem dX8_make_158 : decode cX8_make 158 = .ok (.bipush 96, 2) := by decide +kernel
theorem dX8_make_160 : decode cX8_make 160 = .ok (.iadd, 1) := by decide +kernel
theorem dX8_make_161 : decode cX8_make 161 = .ok (.putfield 174, 3) := by decide +kernel
theorem dX8_make_164 : decode cX8_make 164 = .ok (.aload_n 0, 1) := by decide +kernel
theorem dX8_make_165 : decode cX8_make 165 = .ok (.iconst 0, 1) := by decide +kernel
theorem dX8_make_166 : decode cX8_make 166 = .ok (.putfield 177, 3) := by decide +kernel
theorem dX8_make_169 : decode cX8_make 169 = .ok (.aload_n 0, 1) := by decide +kernel
theorem dX8_make_170 : decode cX8_make 170 = .ok (.iconst 0, 1) := by decide +kernel
theorem dX8_make_171 : decode cX8_make 171 = .ok (.putfield 180, 3) := by decide +kernel
theorem dX8_make_174 : decode cX8_make 174 = .ok (.aload_n 0, 1) := by decide +kernel
theorem dX8_make_175 : decode cX8_make 175 = .ok (.getfield 171, 3) := by decide +kernel
theorem dX8_make_178 : decode cX8_make 178 = .ok (.ireturn, 1) := by decide +kernel
theorem dX8_load_0 : decode cX8_load 0 = .ok (.iload_n 1, 1) := by decide +kernel
theorem dX8_load_1 : decode cX8_load 1 = .ok (.ifCond .lt 8, 3) := by decide +kernel
theorem dX8_load_4 : decode cX8_load 4 = .ok (.iload_n 1, 1) := by decide +kernel
theorem dX8_load_5 : decode cX8_load 5 = .ok (.iconst 2, 1) := by decide +kernel
theorem dX8_load_6 : decode cX8_load 6 = .ok (.if_icmp .le 5, 3) := by decide +kernel
theorem dX8_load_9 : decode cX8_load 9 = .ok (.iconst (-1), 1) := by decide +kernel
theorem dX8_load_10 : decode cX8_load 10 = .ok (.ireturn, 1) := by decide +kernel
theorem dX8_load_11 : decode cX8_load 11 = .ok (.aload_n 0, 1) := by decide +kernel
theorem dX8_load_12 : decode cX8_load 12 = .ok (.invokevirtual 189, 3) := by decide +kernel
theorem dX8_load_15 : decode cX8_load 15 = .ok (.istore_n 2, 1) := by decide +kernel
theorem dX8_load_16 : decode cX8_load 16 = .ok (.iload_n 2, 1) := by decide +kernel
theorem dX8_load_17 : decode cX8_load 17 = .ok (.iload_n 1, 1) := by decide +kernel
theorem dX8_load_18 : decode cX8_load 18 = .ok (.ifCond .ne 10, 3) := by decide +kernel
theorem dX8_load_21 : decode cX8_load 21 = .ok (.aload_n 0, 1) := by decide +kernel
theorem dX8_load_22 : decode cX8_load 22 = .ok (.invokevirtual 183, 3) := by decide +kernel
theorem dX8_load_25 : decode cX8_load 25 = .ok (.goto 26, 3) := by decide +kernel
theorem dX8_load_28 : decode cX8_load 28 = .ok (.iload_n 1, 1) := by decide +kernel
theorem dX8_load_29 : decode cX8_load 29 = .ok (.iconst 1, 1) := by decide +kernel
theorem dX8_load_30 : decode cX8_load 30 = .ok (.if_icmp .ne 17, 3) := by decide +kernel
theorem dX8_load_33 : decode cX8_load 33 = .ok (.sipush 768, 3) := by decide +kernel
theorem dX8_load_36 : decode cX8_load 36 = .ok (.aload_n 0, 1) := by decide +kernel
theorem dX8_load_37 : decode cX8_load 37 = .ok (.getfield 13, 3) := by decide +kernel
theorem dX8_load_40 : decode cX8_load 40 = .ok (.imul, 1) := by decide +kernel
theorem dX8_load_41 : decode cX8_load 41 = .ok (.bipush 96, 2) := by decide +kernel
theorem dX8_load_43 : decode cX8_load 43 = .ok (.iadd, 1) := by decide +kernel
theorem dX8_load_44 : decode cX8_load 44 = .ok (.goto 7, 3) := by decide +kernel
theorem dX8_load_47 : decode cX8_load 47 = .ok (.aload_n 0, 1) := by decide +kernel
theorem dX8_load_48 : decode cX8_load 48 = .ok (.invokevirtual 199, 3) := by decide +kernel
theorem dX8_load_51 : decode cX8_load 51 = .ok (.if_icmp .eq 5, 3) := by decide +kernel
theorem dX8_load_54 : decode cX8_load 54 = .ok (.iconst (-1), 1) := by decide +kernel
theorem dX8_load_55 : decode cX8_load 55 = .ok (.ireturn, 1) := by decide +kernel
theorem dX8_load_56 : decode cX8_load 56 = .ok (.iload_n 1, 1) := by decide +kernel
theorem dX8_load_57 : decode cX8_load 57 = .ok (.ifCond .ne 57, 3) := by decide +kernel
theorem dX8_load_60 : decode cX8_load 60 = .ok (.iconst 0, 1) := by decide +kernel
theorem dX8_load_61 : decode cX8_load 61 = .ok (.istore_n 3, 1) := by decide +kernel
theorem dX8_load_62 : decode cX8_load 62 = .ok (.iload_n 3, 1) := by decide +kernel
theorem dX8_load_63 : decode cX8_load 63 = .ok (.sipush 256, 3) := by decide +kernel
theorem dX8_load_66 : decode cX8_load 66 = .ok (.aload_n 0, 1) := by decide +kernel
theorem dX8_load_67 : decode cX8_load 67 = .ok (.getfield 13, 3) := by decide +kernel
theorem dX8_load_70 : decode cX8_load 70 = .ok (.imul, 1) := by decide +kernel
theorem dX8_load_71 : decode cX8_load 71 = .ok (.if_icmp .ge 26, 3) := by decide +kernel
theorem dX8_load_74 : decode cX8_load 74 = .ok (.aload_n 0, 1) := by decide +kernel
theorem dX8_load_75 : decode cX8_load 75 = .ok (.iconst 0, 1) := by decide +kernel
theorem dX8_load_76 : decode cX8_load 76 = .ok (.iload_n 3, 1) := by decide +kernel
theorem dX8_load_77 : decode cX8_load 77 = .ok (.bipush 12, 2) := by decide +kernel
theorem dX8_load_79 : decode cX8_load 79 = .ok (.invokevirtual 101, 3) := by decide +kernel
theorem dX8_load_82 : decode cX8_load 82 = .ok (.sipush 3329, 3) := by decide +kernel
theorem dX8_load_85 : decode cX8_load 85 = .ok (.if_icmp .lt 6, 3) := by decide +kernel
theorem dX8_load_88 : decode cX8_load 88 = .ok (.bipush (-2), 2) := by decide +kernel
theorem dX8_load_90 : decode cX8_load 90 = .ok (.ireturn, 1) := by decide +kernel
theorem dX8_load_91 : decode cX8_load 91 = .ok (.iinc 3 1, 3) := by decide +kernel
theorem dX8_load_94 : decode cX8_load 94 = .ok (.goto (-32), 3) := by decide +kernel
theorem dX8_load_97 : decode cX8_load 97 = .ok (.aload_n 0, 1) := by decide +kernel
theorem dX8_load_98 : decode cX8_load 98 = .ok (.iconst 0, 1) := by decide +kernel
theorem dX8_load_99 : decode cX8_load 99 = .ok (.sipush 4000, 3) := by decide +kernel
theorem dX8_load_102 : decode cX8_load 102 = .ok (.iload_n 2, 1) := by decide +kernel
theorem dX8_load_103 : decode cX8_load 103 = .ok (.invokevirtual 108, 3) := by decide +kernel
theorem dX8_load_106 : decode cX8_load 106 = .ok (.aload_n 0, 1) := by decide +kernel
theorem dX8_load_107 : decode cX8_load 107 = .ok (.iload_n 2, 1) := by decide +kernel
theorem dX8_load_108 : decode cX8_load 108 = .ok (.putfield 171, 3) := by decide +kernel
theorem dX8_load_111 : decode cX8_load 111 = .ok (.goto 110, 3) := by decide +kernel
theorem dX8_load_114 : decode cX8_load 114 = .ok (.iload_n 1, 1) := by decide +kernel
theorem dX8_load_115 : decode cX8_load 115 = .ok (.iconst 1, 1) := by decide +kernel
theorem dX8_load_116 : decode cX8_load 116 = .ok (.if_icmp .ne 91, 3) := by decide +kernel
theorem dX8_load_119 : decode cX8_load 119 = .ok (.aload_n 0, 1) := by decide +kernel
theorem dX8_load_120 : decode cX8_load 120 = .ok (.iconst 0, 1) := by decide +kernel
theorem dX8_load_121 : decode cX8_load 121 = .ok (.sipush 384, 3) := by decide +kernel
theorem dX8_load_124 : decode cX8_load 124 = .ok (.aload_n 0, 1) := by decide +kernel
theorem dX8_load_125 : decode cX8_load 125 = .ok (.getfield 13, 3) := by decide +kernel
theorem dX8_load_128 : decode cX8_load 128 = .ok (.imul, 1) := by decide +kernel
theorem dX8_load_129 : decode cX8_load 129 = .ok (.iadd, 1) := by decide +kernel
theorem dX8_load_130 : decode cX8_load 130 = .ok (.aload_n 0, 1) := by decide +kernel
theorem dX8_load_131 : decode cX8_load 131 = .ok (.invokevirtual 183, 3) := by decide +kernel
theorem dX8_load_134 : decode cX8_load 134 = .ok (.sipush 15436, 3) := by decide +kernel
theorem dX8_load_137 : decode cX8_load 137 = .ok (.invokevirtual 196, 3) := by decide +kernel
theorem dX8_load_140 : decode cX8_load 140 = .ok (.iconst 0, 1) := by decide +kernel
theorem dX8_load_141 : decode cX8_load 141 = .ok (.istore_n 3, 1) := by decide +kernel
theorem dX8_load_142 : decode cX8_load 142 = .ok (.iload_n 3, 1) := by decide +kernel
theorem dX8_load_143 : decode cX8_load 143 = .ok (.bipush 32, 2) := by decide +kernel
theorem dX8_load_145 : decode cX8_load 145 = .ok (.if_icmp .ge 45, 3) := by decide +kernel
theorem dX8_load_148 : decode cX8_load 148 = .ok (.aload_n 0, 1) := by decide +kernel
theorem dX8_load_149 : decode cX8_load 149 = .ok (.getfield 7, 3) := by decide +kernel
theorem dX8_load_152 : decode cX8_load 152 = .ok (.sipush 15436, 3) := by decide +kernel
theorem dX8_load_155 : decode cX8_load 155 = .ok (.iload_n 3, 1) := by decide +kernel
theorem dX8_load_156 : decode cX8_load 156 = .ok (.iadd, 1) := by decide +kernel
theorem dX8_load_157 : decode cX8_load 157 = .ok (.baload, 1) := by decide +kernel
theorem dX8_load_158 : decode cX8_load 158 = .ok (.aload_n 0, 1) := by decide +kernel
theorem dX8_load_159 : decode cX8_load 159 = .ok (.getfield 7, 3) := by decide +kernel
theorem dX8_load_162 : decode cX8_load 162 = .ok (.iconst 0, 1) := by decide +kernel
theorem dX8_load_163 : decode cX8_load 163 = .ok (.sipush 768, 3) := by decide +kernel
theorem dX8_load_166 : decode cX8_load 166 = .ok (.aload_n 0, 1) := by decide +kernel
theorem dX8_load_167 : decode cX8_load 167 = .ok (.getfield 13, 3) := by decide +kernel
theorem dX8_load_170 : decode cX8_load 170 = .ok (.imul, 1) := by decide +kernel
theorem dX8_load_171 : decode cX8_load 171 = .ok (.iadd, 1) := by decide +kernel
theorem dX8_load_172 : decode cX8_load 172 = .ok (.bipush 32, 2) := by decide +kernel
theorem dX8_load_174 : decode cX8_load 174 = .ok (.iadd, 1) := by decide +kernel
theorem dX8_load_175 : decode cX8_load 175 = .ok (.iload_n 3, 1) := by decide +kernel
theorem dX8_load_176 : decode cX8_load 176 = .ok (.iadd, 1) := by decide +kernel
theorem dX8_load_177 : decode cX8_load 177 = .ok (.baload, 1) := by decide +kernel
theorem dX8_load_178 : decode cX8_load 178 = .ok (.if_icmp .eq 6, 3) := by decide +kernel
theorem dX8_load_181 : decode cX8_load 181 = .ok (.bipush (-3), 2) := by decide +kernel
theorem dX8_load_183 : decode cX8_load 183 = .ok (.ireturn, 1) := by decide +kernel
theorem dX8_load_184 : decode cX8_load 184 = .ok (.iinc 3 1, 3) := by decide +kernel
theorem dX8_load_187 : decode cX8_load 187 = .ok (.goto (-45), 3) := by decide +kernel
theorem dX8_load_190 : decode cX8_load 190 = .ok (.aload_n 0, 1) := by decide +kernel
theorem dX8_load_191 : decode cX8_load 191 = .ok (.iconst 0, 1) := by decide +kernel
theorem dX8_load_192 : decode cX8_load 192 = .ok (.sipush 5568, 3) := by decide +kernel
theorem dX8_load_195 : decode cX8_load 195 = .ok (.iload_n 2, 1) := by decide +kernel
theorem dX8_load_196 : decode cX8_load 196 = .ok (.invokevirtual 108, 3) := by decide +kernel
theorem dX8_load_199 : decode cX8_load 199 = .ok (.aload_n 0, 1) := by decide +kernel
theorem dX8_load_200 : decode cX8_load 200 = .ok (.iload_n 2, 1) := by decide +kernel
theorem dX8_load_201 : decode cX8_load 201 = .ok (.putfield 174, 3) := by decide +kernel
theorem dX8_load_204 : decode cX8_load 204 = .ok (.goto 17, 3) := by decide +kernel
theorem dX8_load_207 : decode cX8_load 207 = .ok (.aload_n 0, 1) := by decide +kernel
theorem dX8_load_208 : decode cX8_load 208 = .ok (.iconst 0, 1) := by decide +kernel
theorem dX8_load_209 : decode cX8_load 209 = .ok (.sipush 8736, 3) := by decide +kernel
theorem dX8_load_212 : decode cX8_load 212 = .ok (.iload_n 2, 1) := by decide +kernel
theorem dX8_load_213 : decode cX8_load 213 = .ok (.invokevirtual 108, 3) := by decide +kernel
theorem dX8_load_216 : decode cX8_load 216 = .ok (.aload_n 0, 1) := by decide +kernel
theorem dX8_load_217 : decode cX8_load 217 = .ok (.iload_n 2, 1) := by decide +kernel
theorem dX8_load_218 : decode cX8_load 218 = .ok (.putfield 177, 3) := by decide +kernel
theorem dX8_load_221 : decode cX8_load 221 = .ok (.iload_n 2, 1) := by decide +kernel
theorem dX8_load_222 : decode cX8_load 222 = .ok (.ireturn, 1) := by decide +kernel
theorem dX8_wrap_0 : decode cX8_wrap 0 = .ok (.aload_n 0, 1) := by decide +kernel
theorem dX8_wrap_1 : decode cX8_wrap 1 = .ok (.invokevirtual 189, 3) := by decide +kernel
theorem dX8_wrap_4 : decode cX8_wrap 4 = .ok (.bipush 32, 2) := by decide +kernel
theorem dX8_wrap_6 : decode cX8_wrap 6 = .ok (.if_icmp .ne 10, 3) := by decide +kernel
theorem dX8_wrap_9 : decode cX8_wrap 9 = .ok (.aload_n 0, 1) := by decide +kernel
theorem dX8_wrap_10 : decode cX8_wrap 10 = .ok (.getfield 171, 3) := by decide +kernel
theorem dX8_wrap_13 : decode cX8_wrap 13 = .ok (.ifCond .ne 5, 3) := by decide +kernel
theorem dX8_wrap_16 : decode cX8_wrap 16 = .ok (.iconst (-1), 1) := by decide +kernel
theorem dX8_wrap_17 : decode cX8_wrap 17 = .ok (.ireturn, 1) := by decide +kernel
theorem dX8_wrap_18 : decode cX8_wrap 18 = .ok (.aload_n 0, 1) := by decide +kernel
theorem dX8_wrap_19 : decode cX8_wrap 19 = .ok (.iconst 0, 1) := by decide +kernel
theorem dX8_wrap_20 : decode cX8_wrap 20 = .ok (.sipush 19740, 3) := by decide +kernel
theorem dX8_wrap_23 : decode cX8_wrap 23 = .ok (.bipush 32, 2) := by decide +kernel
theorem dX8_wrap_25 : decode cX8_wrap 25 = .ok (.invokevirtual 108, 3) := by decide +kernel
theorem dX8_wrap_28 : decode cX8_wrap 28 = .ok (.aload_n 0, 1) := by decide +kernel
theorem dX8_wrap_29 : decode cX8_wrap 29 = .ok (.sipush 4000, 3) := by decide +kernel
theorem dX8_wrap_32 : decode cX8_wrap 32 = .ok (.aload_n 0, 1) := by decide +kernel
theorem dX8_wrap_33 : decode cX8_wrap 33 = .ok (.getfield 171, 3) := by decide +kernel
theorem dX8_wrap_36 : decode cX8_wrap 36 = .ok (.sipush 11400, 3) := by decide +kernel
theorem dX8_wrap_39 : decode cX8_wrap 39 = .ok (.invokevirtual 196, 3) := by decide +kernel
theorem dX8_wrap_42 : decode cX8_wrap 42 = .ok (.aload_n 0, 1) := by decide +kernel
theorem dX8_wrap_43 : decode cX8_wrap 43 = .ok (.sipush 19740, 3) := by decide +kernel
theorem dX8_wrap_46 : decode cX8_wrap 46 = .ok (.sipush 11336, 3) := by decide +kernel
theorem dX8_wrap_49 : decode cX8_wrap 49 = .ok (.bipush 32, 2) := by decide +kernel
theorem dX8_wrap_51 : decode cX8_wrap 51 = .ok (.invokevirtual 108, 3) := by decide +kernel
theorem dX8_wrap_54 : decode cX8_wrap 54 = .ok (.aload_n 0, 1) := by decide +kernel
theorem dX8_wrap_55 : decode cX8_wrap 55 = .ok (.sipush 11400, 3) := by decide +kernel
theorem dX8_wrap_58 : decode cX8_wrap 58 = .ok (.sipush 11368, 3) := by decide +kernel
theorem dX8_wrap_61 : decode cX8_wrap 61 = .ok (.bipush 32, 2) := by decide +kernel
theorem dX8_wrap_63 : decode cX8_wrap 63 = .ok (.invokevirtual 108, 3) := by decide +kernel
theorem dX8_wrap_66 : decode cX8_wrap 66 = .ok (.aload_n 0, 1) := by decide +kernel
theorem dX8_wrap_67 : decode cX8_wrap 67 = .ok (.bipush 64, 2) := by decide +kernel
theorem dX8_wrap_69 : decode cX8_wrap 69 = .ok (.invokevirtual 124, 3) := by decide +kernel
theorem dX8_wrap_72 : decode cX8_wrap 72 = .ok (.aload_n 0, 1) := by decide +kernel
theorem dX8_wrap_73 : decode cX8_wrap 73 = .ok (.sipush 4000, 3) := by decide +kernel
theorem dX8_wrap_76 : decode cX8_wrap 76 = .ok (.invokevirtual 202, 3) := by decide +kernel
theorem dX8_wrap_79 : decode cX8_wrap 79 = .ok (.ifCond .ne 6, 3) := by decide +kernel
theorem dX8_wrap_82 : decode cX8_wrap 82 = .ok (.bipush (-2), 2) := by decide +kernel
theorem dX8_wrap_84 : decode cX8_wrap 84 = .ok (.ireturn, 1) := by decide +kernel
theorem dX8_wrap_85 : decode cX8_wrap 85 = .ok (.aload_n 0, 1) := by decide +kernel
theorem dX8_wrap_86 : decode cX8_wrap 86 = .ok (.sipush 18044, 3) := by decide +kernel
theorem dX8_wrap_89 : decode cX8_wrap 89 = .ok (.sipush 8736, 3) := by decide +kernel
theorem dX8_wrap_92 : decode cX8_wrap 92 = .ok (.aload_n 0, 1) := by decide +kernel
theorem dX8_wrap_93 : decode cX8_wrap 93 = .ok (.invokevirtual 199, 3) := by decide +kernel
theorem dX8_wrap_96 : decode cX8_wrap 96 = .ok (.invokevirtual 108, 3) := by decide +kernel
theorem dX8_wrap_99 : decode cX8_wrap 99 = .ok (.aload_n 0, 1) := by decide +kernel
theorem dX8_wrap_100 : decode cX8_wrap 100 = .ok (.aload_n 0, 1) := by decide +kernel
theorem dX8_wrap_101 : decode cX8_wrap 101 = .ok (.invokevirtual 199, 3) := by decide +kernel
theorem dX8_wrap_104 : decode cX8_wrap 104 = .ok (.putfield 177, 3) := by decide +kernel
theorem dX8_wrap_107 : decode cX8_wrap 107 = .ok (.aload_n 0, 1) := by decide +kernel
theorem dX8_wrap_108 : decode cX8_wrap 108 = .ok (.sipush 19612, 3) := by decide +kernel
theorem dX8_wrap_111 : decode cX8_wrap 111 = .ok (.sipush 10304, 3) := by decide +kernel
theorem dX8_wrap_114 : decode cX8_wrap 114 = .ok (.bipush 32, 2) := by decide +kernel
theorem dX8_wrap_116 : decode cX8_wrap 116 = .ok (.invokevirtual 108, 3) := by decide +kernel
theorem dX8_wrap_119 : decode cX8_wrap 119 = .ok (.aload_n 0, 1) := by decide +kernel
theorem dX8_wrap_120 : decode cX8_wrap 120 = .ok (.bipush 32, 2) := by decide +kernel
theorem dX8_wrap_122 : decode cX8_wrap 122 = .ok (.putfield 180, 3) := by decide +kernel
theorem dX8_wrap_125 : decode cX8_wrap 125 = .ok (.aload_n 0, 1) := by decide +kernel
theorem dX8_wrap_126 : decode cX8_wrap 126 = .ok (.getfield 177, 3) := by decide +kernel
theorem dX8_wrap_129 : decode cX8_wrap 129 = .ok (.ireturn, 1) := by decide +kernel
theorem dX8_unwrap_0 : decode cX8_unwrap 0 = .ok (.aload_n 0, 1) := by decide +kernel
theorem dX8_unwrap_1 : decode cX8_unwrap 1 = .ok (.getfield 174, 3) := by decide +kernel
theorem dX8_unwrap_4 : decode cX8_unwrap 4 = .ok (.ifCond .eq 10, 3) := by decide +kernel
theorem dX8_unwrap_7 : decode cX8_unwrap 7 = .ok (.aload_n 0, 1) := by decide +kernel
theorem dX8_unwrap_8 : decode cX8_unwrap 8 = .ok (.getfield 177, 3) := by decide +kernel
theorem dX8_unwrap_11 : decode cX8_unwrap 11 = .ok (.ifCond .ne 5, 3) := by decide +kernel
theorem dX8_unwrap_14 : decode cX8_unwrap 14 = .ok (.iconst (-1), 1) := by decide +kernel
theorem dX8_unwrap_15 : decode cX8_unwrap 15 = .ok (.ireturn, 1) := by decide +kernel
theorem dX8_unwrap_16 : decode cX8_unwrap 16 = .ok (.aload_n 0, 1) := by decide +kernel
theorem dX8_unwrap_17 : decode cX8_unwrap 17 = .ok (.sipush 5568, 3) := by decide +kernel
theorem dX8_unwrap_20 : decode cX8_unwrap 20 = .ok (.invokevirtual 206, 3) := by decide +kernel
theorem dX8_unwrap_23 : decode cX8_unwrap 23 = .ok (.aload_n 0, 1) := by decide +kernel
theorem dX8_unwrap_24 : decode cX8_unwrap 24 = .ok (.sipush 19740, 3) := by decide +kernel
theorem dX8_unwrap_27 : decode cX8_unwrap 27 = .ok (.sipush 11336, 3) := by decide +kernel
theorem dX8_unwrap_30 : decode cX8_unwrap 30 = .ok (.bipush 32, 2) := by decide +kernel
theorem dX8_unwrap_32 : decode cX8_unwrap 32 = .ok (.invokevirtual 108, 3) := by decide +kernel
theorem dX8_unwrap_35 : decode cX8_unwrap 35 = .ok (.aload_n 0, 1) := by decide +kernel
theorem dX8_unwrap_36 : decode cX8_unwrap 36 = .ok (.sipush 5568, 3) := by decide +kernel
theorem dX8_unwrap_39 : decode cX8_unwrap 39 = .ok (.sipush 768, 3) := by decide +kernel
theorem dX8_unwrap_42 : decode cX8_unwrap 42 = .ok (.aload_n 0, 1) := by decide +kernel
theorem dX8_unwrap_43 : decode cX8_unwrap 43 = .ok (.getfield 13, 3) := by decide +kernel
theorem dX8_unwrap_46 : decode cX8_unwrap 46 = .ok (.imul, 1) := by decide +kernel
theorem dX8_unwrap_47 : decode cX8_unwrap 47 = .ok (.iadd, 1) := by decide +kernel
theorem dX8_unwrap_48 : decode cX8_unwrap 48 = .ok (.bipush 32, 2) := by decide +kernel
theorem dX8_unwrap_50 : decode cX8_unwrap 50 = .ok (.iadd, 1) := by decide +kernel
theorem dX8_unwrap_51 : decode cX8_unwrap 51 = .ok (.sipush 11368, 3) := by decide +kernel
theorem dX8_unwrap_54 : decode cX8_unwrap 54 = .ok (.bipush 32, 2) := by decide +kernel
theorem dX8_unwrap_56 : decode cX8_unwrap 56 = .ok (.invokevirtual 108, 3) := by decide +kernel
theorem dX8_unwrap_59 : decode cX8_unwrap 59 = .ok (.aload_n 0, 1) := by decide +kernel
theorem dX8_unwrap_60 : decode cX8_unwrap 60 = .ok (.bipush 64, 2) := by decide +kernel
theorem dX8_unwrap_62 : decode cX8_unwrap 62 = .ok (.invokevirtual 124, 3) := by decide +kernel
theorem dX8_unwrap_65 : decode cX8_unwrap 65 = .ok (.aload_n 0, 1) := by decide +kernel
theorem dX8_unwrap_66 : decode cX8_unwrap 66 = .ok (.sipush 5568, 3) := by decide +kernel
theorem dX8_unwrap_69 : decode cX8_unwrap 69 = .ok (.sipush 384, 3) := by decide +kernel
theorem dX8_unwrap_72 : decode cX8_unwrap 72 = .ok (.aload_n 0, 1) := by decide +kernel
theorem dX8_unwrap_73 : decode cX8_unwrap 73 = .ok (.getfield 13, 3) := by decide +kernel
theorem dX8_unwrap_76 : decode cX8_unwrap 76 = .ok (.imul, 1) := by decide +kernel
theorem dX8_unwrap_77 : decode cX8_unwrap 77 = .ok (.iadd, 1) := by decide +kernel
theorem dX8_unwrap_78 : decode cX8_unwrap 78 = .ok (.invokevirtual 202, 3) := by decide +kernel
theorem dX8_unwrap_81 : decode cX8_unwrap 81 = .ok (.ifCond .ne 6, 3) := by decide +kernel
theorem dX8_unwrap_84 : decode cX8_unwrap 84 = .ok (.bipush (-2), 2) := by decide +kernel
theorem dX8_unwrap_86 : decode cX8_unwrap 86 = .ok (.ireturn, 1) := by decide +kernel
theorem dX8_unwrap_87 : decode cX8_unwrap 87 = .ok (.iconst 1, 1) := by decide +kernel
theorem dX8_unwrap_88 : decode cX8_unwrap 88 = .ok (.istore_n 1, 1) := by decide +kernel
theorem dX8_unwrap_89 : decode cX8_unwrap 89 = .ok (.iconst 0, 1) := by decide +kernel
theorem dX8_unwrap_90 : decode cX8_unwrap 90 = .ok (.istore_n 2, 1) := by decide +kernel
theorem dX8_unwrap_91 : decode cX8_unwrap 91 = .ok (.iload_n 2, 1) := by decide +kernel
theorem dX8_unwrap_92 : decode cX8_unwrap 92 = .ok (.aload_n 0, 1) := by decide +kernel
theorem dX8_unwrap_93 : decode cX8_unwrap 93 = .ok (.getfield 177, 3) := by decide +kernel
theorem dX8_unwrap_96 : decode cX8_unwrap 96 = .ok (.if_icmp .ge 42, 3) := by decide +kernel
theorem dX8_unwrap_99 : decode cX8_unwrap 99 = .ok (.iload_n 1, 1) := by decide +kernel
theorem dX8_unwrap_100 : decode cX8_unwrap 100 = .ok (.ifCond .eq 30, 3) := by decide +kernel
theorem dX8_unwrap_103 : decode cX8_unwrap 103 = .ok (.aload_n 0, 1) := by decide +kernel
theorem dX8_unwrap_104 : decode cX8_unwrap 104 = .ok (.getfield 7, 3) := by decide +kernel
theorem dX8_unwrap_107 : decode cX8_unwrap 107 = .ok (.sipush 8736, 3) := by decide +kernel
theorem dX8_unwrap_110 : decode cX8_unwrap 110 = .ok (.iload_n 2, 1) := by decide +kernel
theorem dX8_unwrap_111 : decode cX8_unwrap 111 = .ok (.iadd, 1) := by decide +kernel
theorem dX8_unwrap_112 : decode cX8_unwrap 112 = .ok (.baload, 1) := by decide +kernel
theorem dX8_unwrap_113 : decode cX8_unwrap 113 = .ok (.aload_n 0, 1) := by decide +kernel
theorem dX8_unwrap_114 : decode cX8_unwrap 114 = .ok (.getfield 7, 3) := by decide +kernel
theorem dX8_unwrap_117 : decode cX8_unwrap 117 = .ok (.sipush 18044, 3) := by decide +kernel
theorem dX8_unwrap_120 : decode cX8_unwrap 120 = .ok (.iload_n 2, 1) := by decide +kernel
theorem dX8_unwrap_121 : decode cX8_unwrap 121 = .ok (.iadd, 1) := by decide +kernel
theorem dX8_unwrap_122 : decode cX8_unwrap 122 = .ok (.baload, 1) := by decide +kernel
theorem dX8_unwrap_123 : decode cX8_unwrap 123 = .ok (.if_icmp .ne 7, 3) := by decide +kernel
theorem dX8_unwrap_126 : decode cX8_unwrap 126 = .ok (.iconst 1, 1) := by decide +kernel
theorem dX8_unwrap_127 : decode cX8_unwrap 127 = .ok (.goto 4, 3) := by decide +kernel
theorem dX8_unwrap_130 : decode cX8_unwrap 130 = .ok (.iconst 0, 1) := by decide +kernel
theorem dX8_unwrap_131 : decode cX8_unwrap 131 = .ok (.istore_n 1, 1) := by decide +kernel
theorem dX8_unwrap_132 : decode cX8_unwrap 132 = .ok (.iinc 2 1, 3) := by decide +kernel
theorem dX8_unwrap_135 : decode cX8_unwrap 135 = .ok (.goto (-44), 3) := by decide +kernel
theorem dX8_unwrap_138 : decode cX8_unwrap 138 = .ok (.iload_n 1, 1) := by decide +kernel
theorem dX8_unwrap_139 : decode cX8_unwrap 139 = .ok (.ifCond .eq 18, 3) := by decide +kernel
theorem dX8_unwrap_142 : decode cX8_unwrap 142 = .ok (.aload_n 0, 1) := by decide +kernel
theorem dX8_unwrap_143 : decode cX8_unwrap 143 = .ok (.sipush 19612, 3) := by decide +kernel
theorem dX8_unwrap_146 : decode cX8_unwrap 146 = .ok (.sipush 10304, 3) := by decide +kernel
theorem dX8_unwrap_149 : decode cX8_unwrap 149 = .ok (.bipush 32, 2) := by decide +kernel
theorem dX8_unwrap_151 : decode cX8_unwrap 151 = .ok (.invokevirtual 108, 3) := by decide +kernel
theorem dX8_unwrap_154 : decode cX8_unwrap 154 = .ok (.goto 68, 3) := by decide +kernel
theorem dX8_unwrap_157 : decode cX8_unwrap 157 = .ok (.aload_n 0, 1) := by decide +kernel
theorem dX8_unwrap_158 : decode cX8_unwrap 158 = .ok (.sipush 5568, 3) := by decide +kernel
theorem dX8_unwrap_161 : decode cX8_unwrap 161 = .ok (.sipush 768, 3) := by decide +kernel
theorem dX8_unwrap_164 : decode cX8_unwrap 164 = .ok (.aload_n 0, 1) := by decide +kernel
theorem dX8_unwrap_165 : decode cX8_unwrap 165 = .ok (.getfield 13, 3) := by decide +kernel
theorem dX8_unwrap_168 : decode cX8_unwrap 168 = .ok (.imul, 1) := by decide +kernel
theorem dX8_unwrap_169 : decode cX8_unwrap 169 = .ok (.iadd, 1) := by decide +kernel
theorem dX8_unwrap_170 : decode cX8_unwrap 170 = .ok (.bipush 64, 2) := by decide +kernel
theorem dX8_unwrap_172 : decode cX8_unwrap 172 = .ok (.iadd, 1) := by decide +kernel
theorem dX8_unwrap_173 : decode cX8_unwrap 173 = .ok (.sipush 11336, 3) := by decide +kernel
theorem dX8_unwrap_176 : decode cX8_unwrap 176 = .ok (.bipush 32, 2) := by decide +kernel
theorem dX8_unwrap_178 : decode cX8_unwrap 178 = .ok (.invokevirtual 108, 3) := by decide +kernel
theorem dX8_unwrap_181 : decode cX8_unwrap 181 = .ok (.aload_n 0, 1) := by decide +kernel
theorem dX8_unwrap_182 : decode cX8_unwrap 182 = .ok (.sipush 8736, 3) := by decide +kernel
theorem dX8_unwrap_185 : decode cX8_unwrap 185 = .ok (.sipush 11368, 3) := by decide +kernel
theorem dX8_unwrap_188 : decode cX8_unwrap 188 = .ok (.aload_n 0, 1) := by decide +kernel
theorem dX8_unwrap_189 : decode cX8_unwrap 189 = .ok (.getfield 177, 3) := by decide +kernel
theorem dX8_unwrap_192 : decode cX8_unwrap 192 = .ok (.invokevirtual 108, 3) := by decide +kernel
theorem dX8_unwrap_195 : decode cX8_unwrap 195 = .ok (.aload_n 0, 1) := by decide +kernel
theorem dX8_unwrap_196 : decode cX8_unwrap 196 = .ok (.sipush 136, 3) := by decide +kernel
theorem dX8_unwrap_199 : decode cX8_unwrap 199 = .ok (.sipush 11336, 3) := by decide +kernel
theorem dX8_unwrap_202 : decode cX8_unwrap 202 = .ok (.bipush 32, 2) := by decide +kernel
theorem dX8_unwrap_204 : decode cX8_unwrap 204 = .ok (.aload_n 0, 1) := by decide +kernel
theorem dX8_unwrap_205 : decode cX8_unwrap 205 = .ok (.getfield 177, 3) := by decide +kernel
theorem dX8_unwrap_208 : decode cX8_unwrap 208 = .ok (.iadd, 1) := by decide +kernel
theorem dX8_unwrap_209 : decode cX8_unwrap 209 = .ok (.iconst 0, 1) := by decide +kernel
theorem dX8_unwrap_210 : decode cX8_unwrap 210 = .ok (.invokevirtual 104, 3) := by decide +kernel
theorem dX8_unwrap_213 : decode cX8_unwrap 213 = .ok (.aload_n 0, 1) := by decide +kernel
theorem dX8_unwrap_214 : decode cX8_unwrap 214 = .ok (.sipush 10304, 3) := by decide +kernel
theorem dX8_unwrap_217 : decode cX8_unwrap 217 = .ok (.bipush 32, 2) := by decide +kernel
theorem dX8_unwrap_219 : decode cX8_unwrap 219 = .ok (.invokevirtual 115, 3) := by decide +kernel
theorem dX8_unwrap_222 : decode cX8_unwrap 222 = .ok (.aload_n 0, 1) := by decide +kernel
theorem dX8_unwrap_223 : decode cX8_unwrap 223 = .ok (.bipush 32, 2) := by decide +kernel
theorem dX8_unwrap_225 : decode cX8_unwrap 225 = .ok (.putfield 180, 3) := by decide +kernel
theorem dX8_unwrap_228 : decode cX8_unwrap 228 = .ok (.iload_n 1, 1) := by decide +kernel
theorem dX8_unwrap_229 : decode cX8_unwrap 229 = .ok (.ifCond .eq 7, 3) := by decide +kernel
theorem dX8_unwrap_232 : decode cX8_unwrap 232 = .ok (.iconst 1, 1) := by decide +kernel
theorem dX8_unwrap_233 : decode cX8_unwrap 233 = .ok (.goto 4, 3) := by decide +kernel
theorem dX8_unwrap_236 : decode cX8_unwrap 236 = .ok (.iconst 0, 1) := by decide +kernel
theorem dX8_unwrap_237 : decode cX8_unwrap 237 = .ok (.ireturn, 1) := by decide +kernel
theorem dX8_hash_0 : decode cX8_hash 0 = .ok (.iload_n 1, 1) := by decide +kernel
theorem dX8_hash_1 : decode cX8_hash 1 = .ok (.ifCond .lt 24, 3) := by decide +kernel
theorem dX8_hash_4 : decode cX8_hash 4 = .ok (.iload_n 1, 1) := by decide +kernel
theorem dX8_hash_5 : decode cX8_hash 5 = .ok (.iconst 3, 1) := by decide +kernel
theorem dX8_hash_6 : decode cX8_hash 6 = .ok (.if_icmp .gt 19, 3) := by decide +kernel
theorem dX8_hash_9 : decode cX8_hash 9 = .ok (.iload_n 1, 1) := by decide +kernel
theorem dX8_hash_10 : decode cX8_hash 10 = .ok (.iconst 1, 1) := by decide +kernel
theorem dX8_hash_11 : decode cX8_hash 11 = .ok (.if_icmp .le 16, 3) := by decide +kernel
theorem dX8_hash_14 : decode cX8_hash 14 = .ok (.iload_n 2, 1) := by decide +kernel
theorem dX8_hash_15 : decode cX8_hash 15 = .ok (.ifCond .lt 10, 3) := by decide +kernel
theorem dX8_hash_18 : decode cX8_hash 18 = .ok (.iload_n 2, 1) := by decide +kernel
theorem dX8_hash_19 : decode cX8_hash 19 = .ok (.sipush 1000, 3) := by decide +kernel
theorem dX8_hash_22 : decode cX8_hash 22 = .ok (.if_icmp .le 5, 3) := by decide +kernel
theorem dX8_hash_25 : decode cX8_hash 25 = .ok (.iconst (-1), 1) := by decide +kernel
theorem dX8_hash_26 : decode cX8_hash 26 = .ok (.ireturn, 1) := by decide +kernel
theorem dX8_hash_27 : decode cX8_hash 27 = .ok (.aload_n 0, 1) := by decide +kernel
theorem dX8_hash_28 : decode cX8_hash 28 = .ok (.invokevirtual 189, 3) := by decide +kernel
theorem dX8_hash_31 : decode cX8_hash 31 = .ok (.istore_n 3, 1) := by decide +kernel
theorem dX8_hash_32 : decode cX8_hash 32 = .ok (.iload_n 1, 1) := by decide +kernel
theorem dX8_hash_33 : decode cX8_hash 33 = .ok (.ifCond .ne 8, 3) := by decide +kernel
theorem dX8_hash_36 : decode cX8_hash 36 = .ok (.bipush 32, 2) := by decide +kernel
theorem dX8_hash_38 : decode cX8_hash 38 = .ok (.goto 14, 3) := by decide +kernel
theorem dX8_hash_41 : decode cX8_hash 41 = .ok (.iload_n 1, 1) := by decide +kernel
theorem dX8_hash_42 : decode cX8_hash 42 = .ok (.iconst 1, 1) := by decide +kernel
theorem dX8_hash_43 : decode cX8_hash 43 = .ok (.if_icmp .ne 8, 3) := by decide +kernel
theorem dX8_hash_46 : decode cX8_hash 46 = .ok (.bipush 64, 2) := by decide +kernel
theorem dX8_hash_48 : decode cX8_hash 48 = .ok (.goto 4, 3) := by decide +kernel
theorem dX8_hash_51 : decode cX8_hash 51 = .ok (.iload_n 2, 1) := by decide +kernel
theorem dX8_hash_52 : decode cX8_hash 52 = .ok (.istore 4, 2) := by decide +kernel
theorem dX8_hash_54 : decode cX8_hash 54 = .ok (.aload_n 0, 1) := by decide +kernel
theorem dX8_hash_55 : decode cX8_hash 55 = .ok (.iload_n 1, 1) := by decide +kernel
theorem dX8_hash_56 : decode cX8_hash 56 = .ok (.iconst 1, 1) := by decide +kernel
theorem dX8_hash_57 : decode cX8_hash 57 = .ok (.if_icmp .ne 8, 3) := by decide +kernel
theorem dX8_hash_60 : decode cX8_hash 60 = .ok (.bipush 72, 2) := by decide +kernel
theorem dX8_hash_62 : decode cX8_hash 62 = .ok (.goto 17, 3) := by decide +kernel
theorem dX8_hash_65 : decode cX8_hash 65 = .ok (.iload_n 1, 1) := by decide +kernel
theorem dX8_hash_66 : decode cX8_hash 66 = .ok (.iconst 2, 1) := by decide +kernel
theorem dX8_hash_67 : decode cX8_hash 67 = .ok (.if_icmp .ne 9, 3) := by decide +kernel
theorem dX8_hash_70 : decode cX8_hash 70 = .ok (.sipush 168, 3) := by decide +kernel
theorem dX8_hash_73 : decode cX8_hash 73 = .ok (.goto 6, 3) := by decide +kernel
theorem dX8_hash_76 : decode cX8_hash 76 = .ok (.sipush 136, 3) := by decide +kernel
theorem dX8_hash_79 : decode cX8_hash 79 = .ok (.iconst 0, 1) := by decide +kernel
theorem dX8_hash_80 : decode cX8_hash 80 = .ok (.iload_n 3, 1) := by decide +kernel
theorem dX8_hash_81 : decode cX8_hash 81 = .ok (.iload_n 1, 1) := by decide +kernel
theorem dX8_hash_82 : decode cX8_hash 82 = .ok (.iconst 2, 1) := by decide +kernel
theorem dX8_hash_83 : decode cX8_hash 83 = .ok (.if_icmp .ge 7, 3) := by decide +kernel
theorem dX8_hash_86 : decode cX8_hash 86 = .ok (.iconst 1, 1) := by decide +kernel
theorem dX8_hash_87 : decode cX8_hash 87 = .ok (.goto 4, 3) := by decide +kernel
theorem dX8_hash_90 : decode cX8_hash 90 = .ok (.iconst 0, 1) := by decide +kernel
theorem dX8_hash_91 : decode cX8_hash 91 = .ok (.invokevirtual 104, 3) := by decide +kernel
theorem dX8_hash_94 : decode cX8_hash 94 = .ok (.aload_n 0, 1) := by decide +kernel
theorem dX8_hash_95 : decode cX8_hash 95 = .ok (.sipush 10336, 3) := by decide +kernel
theorem dX8_hash_98 : decode cX8_hash 98 = .ok (.iload 4, 2) := by decide +kernel
theorem dX8_hash_100 : decode cX8_hash 100 = .ok (.invokevirtual 115, 3) := by decide +kernel
theorem dX8_hash_103 : decode cX8_hash 103 = .ok (.aload_n 0, 1) := by decide +kernel
theorem dX8_hash_104 : decode cX8_hash 104 = .ok (.iload 4, 2) := by decide +kernel
theorem dX8_hash_106 : decode cX8_hash 106 = .ok (.putfield 186, 3) := by decide +kernel
theorem dX8_hash_109 : decode cX8_hash 109 = .ok (.iload 4, 2) := by decide +kernel
theorem dX8_hash_111 : decode cX8_hash 111 = .ok (.ireturn, 1) := by decide +kernel
theorem dX8_isPol_0 : decode cX8_isPol 0 = .ok (.iload_n 0, 1) := by decide +kernel
theorem dX8_isPol_1 : decode cX8_isPol 1 = .ok (.ifCond .lt 12, 3) := by decide +kernel
theorem dX8_isPol_4 : decode cX8_isPol 4 = .ok (.iload_n 0, 1) := by decide +kernel
theorem dX8_isPol_5 : decode cX8_isPol 5 = .ok (.iconst 3, 1) := by decide +kernel
theorem dX8_isPol_6 : decode cX8_isPol 6 = .ok (.if_icmp .gt 7, 3) := by decide +kernel
theorem dX8_isPol_9 : decode cX8_isPol 9 = .ok (.iconst 1, 1) := by decide +kernel
theorem dX8_isPol_10 : decode cX8_isPol 10 = .ok (.goto 4, 3) := by decide +kernel
theorem dX8_isPol_13 : decode cX8_isPol 13 = .ok (.iconst 0, 1) := by decide +kernel
theorem dX8_isPol_14 : decode cX8_isPol 14 = .ok (.ireturn, 1) := by decide +kernel
theorem dX8_put_0 : decode cX8_put 0 = .ok (.iload_n 1, 1) := by decide +kernel
theorem dX8_put_1 : decode cX8_put 1 = .ok (.invokestatic 209, 3) := by decide +kernel
theorem dX8_put_4 : decode cX8_put 4 = .ok (.ifCond .eq 14, 3) := by decide +kernel
theorem dX8_put_7 : decode cX8_put 7 = .ok (.iload_n 2, 1) := by decide +kernel
theorem dX8_put_8 : decode cX8_put 8 = .ok (.ifCond .lt 10, 3) := by decide +kernel
theorem dX8_put_11 : decode cX8_put 11 = .ok (.iload_n 2, 1) := by decide +kernel
theorem dX8_put_12 : decode cX8_put 12 = .ok (.sipush 255, 3) := by decide +kernel
theorem dX8_put_15 : decode cX8_put 15 = .ok (.if_icmp .le 5, 3) := by decide +kernel
theorem dX8_put_18 : decode cX8_put 18 = .ok (.iconst (-1), 1) := by decide +kernel
theorem dX8_put_19 : decode cX8_put 19 = .ok (.ireturn, 1) := by decide +kernel
theorem dX8_put_20 : decode cX8_put 20 = .ok (.aload_n 0, 1) := by decide +kernel
theorem dX8_put_21 : decode cX8_put 21 = .ok (.getfield 36, 3) := by decide +kernel
theorem dX8_put_24 : decode cX8_put 24 = .ok (.sipush 256, 3) := by decide +kernel
theorem dX8_put_27 : decode cX8_put 27 = .ok (.iload_n 1, 1) := by decide +kernel
theorem dX8_put_28 : decode cX8_put 28 = .ok (.imul, 1) := by decide +kernel
theorem dX8_put_29 : decode cX8_put 29 = .ok (.iload_n 2, 1) := by decide +kernel
theorem dX8_put_30 : decode cX8_put 30 = .ok (.iadd, 1) := by decide +kernel
theorem dX8_put_31 : decode cX8_put 31 = .ok (.iload_n 3, 1) := by decide +kernel
theorem dX8_put_32 : decode cX8_put 32 = .ok (.i2l, 1) := by decide +kernel
theorem dX8_put_33 : decode cX8_put 33 = .ok (.invokestatic 91, 3) := by decide +kernel
theorem dX8_put_36 : decode cX8_put 36 = .ok (.iastore, 1) := by decide +kernel
theorem dX8_put_37 : decode cX8_put 37 = .ok (.aload_n 0, 1) := by decide +kernel
theorem dX8_put_38 : decode cX8_put 38 = .ok (.getfield 36, 3) := by decide +kernel
theorem dX8_put_41 : decode cX8_put 41 = .ok (.sipush 256, 3) := by decide +kernel
theorem dX8_put_44 : decode cX8_put 44 = .ok (.iload_n 1, 1) := by decide +kernel
theorem dX8_put_45 : decode cX8_put 45 = .ok (.imul, 1) := by decide +kernel
theorem dX8_put_46 : decode cX8_put 46 = .ok (.iload_n 2, 1) := by decide +kernel
theorem dX8_put_47 : decode cX8_put 47 = .ok (.iadd, 1) := by decide +kernel
theorem dX8_put_48 : decode cX8_put 48 = .ok (.iaload, 1) := by decide +kernel
theorem dX8_put_49 : decode cX8_put 49 = .ok (.ireturn, 1) := by decide +kernel
theorem dX8_number_0 : decode cX8_number 0 = .ok (.iload_n 1, 1) := by decide +kernel
theorem dX8_number_1 : decode cX8_number 1 = .ok (.invokestatic 209, 3) := by decide +kernel
theorem dX8_number_4 : decode cX8_number 4 = .ok (.ifCond .eq 14, 3) := by decide +kernel
theorem dX8_number_7 : decode cX8_number 7 = .ok (.iload_n 2, 1) := by decide +kernel
theorem dX8_number_8 : decode cX8_number 8 = .ok (.ifCond .lt 10, 3) := by decide +kernel
theorem dX8_number_11 : decode cX8_number 11 = .ok (.iload_n 2, 1) := by decide +kernel
theorem dX8_number_12 : decode cX8_number 12 = .ok (.sipush 255, 3) := by decide +kernel
theorem dX8_number_15 : decode cX8_number 15 = .ok (.if_icmp .le 7, 3) := by decide +kernel
theorem dX8_number_18 : decode cX8_number 18 = .ok (.iconst (-1), 1) := by decide +kernel
theorem dX8_number_19 : decode cX8_number 19 = .ok (.goto 15, 3) := by decide +kernel
theorem dX8_number_22 : decode cX8_number 22 = .ok (.aload_n 0, 1) := by decide +kernel
theorem dX8_number_23 : decode cX8_number 23 = .ok (.getfield 36, 3) := by decide +kernel
theorem dX8_number_26 : decode cX8_number 26 = .ok (.sipush 256, 3) := by decide +kernel
theorem dX8_number_29 : decode cX8_number 29 = .ok (.iload_n 1, 1) := by decide +kernel
theorem dX8_number_30 : decode cX8_number 30 = .ok (.imul, 1) := by decide +kernel
theorem dX8_number_31 : decode cX8_number 31 = .ok (.iload_n 2, 1) := by decide +kernel
theorem dX8_number_32 : decode cX8_number 32 = .ok (.iadd, 1) := by decide +kernel
theorem dX8_number_33 : decode cX8_number 33 = .ok (.iaload, 1) := by decide +kernel
theorem dX8_number_34 : decode cX8_number 34 = .ok (.ireturn, 1) := by decide +kernel
theorem dX8_forward_0 : decode cX8_forward 0 = .ok (.iload_n 1, 1) := by decide +kernel
theorem dX8_forward_1 : decode cX8_forward 1 = .ok (.invokestatic 209, 3) := by decide +kernel
theorem dX8_forward_4 : decode cX8_forward 4 = .ok (.ifCond .ne 5, 3) := by decide +kernel
theorem dX8_forward_7 : decode cX8_forward 7 = .ok (.iconst 0, 1) := by decide +kernel
theorem dX8_forward_8 : decode cX8_forward 8 = .ok (.ireturn, 1) := by decide +kernel
theorem dX8_forward_9 : decode cX8_forward 9 = .ok (.aload_n 0, 1) := by decide +kernel
theorem dX8_forward_10 : decode cX8_forward 10 = .ok (.iload_n 1, 1) := by decide +kernel
theorem dX8_forward_11 : decode cX8_forward 11 = .ok (.invokevirtual 134, 3) := by decide +kernel
theorem dX8_forward_14 : decode cX8_forward 14 = .ok (.iconst 1, 1) := by decide +kernel
theorem dX8_forward_15 : decode cX8_forward 15 = .ok (.ireturn, 1) := by decide +kernel
theorem dX8_back_0 : decode cX8_back 0 = .ok (.iload_n 1, 1) := by decide +kernel
theorem dX8_back_1 : decode cX8_back 1 = .ok (.invokestatic 209, 3) := by decide +kernel
theorem dX8_back_4 : decode cX8_back 4 = .ok (.ifCond .ne 5, 3) := by decide +kernel
theorem dX8_back_7 : decode cX8_back 7 = .ok (.iconst 0, 1) := by decide +kernel
theorem dX8_back_8 : decode cX8_back 8 = .ok (.ireturn, 1) := by decide +kernel
theorem dX8_back_9 : decode cX8_back 9 = .ok (.aload_n 0, 1) := by decide +kernel
theorem dX8_back_10 : decode cX8_back 10 = .ok (.iload_n 1, 1) := by decide +kernel
theorem dX8_back_11 : decode cX8_back 11 = .ok (.invokevirtual 150, 3) := by decide +kernel
theorem dX8_back_14 : decode cX8_back 14 = .ok (.iconst 1, 1) := by decide +kernel
theorem dX8_back_15 : decode cX8_back 15 = .ok (.ireturn, 1) := by decide +kernel
theorem dX8_pairs_0 : decode cX8_pairs 0 = .ok (.iload_n 1, 1) := by decide +kernel
theorem dX8_pairs_1 : decode cX8_pairs 1 = .ok (.invokestatic 209, 3) := by decide +kernel
theorem dX8_pairs_4 : decode cX8_pairs 4 = .ok (.ifCond .eq 17, 3) := by decide +kernel
theorem dX8_pairs_7 : decode cX8_pairs 7 = .ok (.iload_n 2, 1) := by decide +kernel
theorem dX8_pairs_8 : decode cX8_pairs 8 = .ok (.invokestatic 209, 3) := by decide +kernel
theorem dX8_pairs_11 : decode cX8_pairs 11 = .ok (.ifCond .eq 10, 3) := by decide +kernel
theorem dX8_pairs_14 : decode cX8_pairs 14 = .ok (.iload_n 3, 1) := by decide +kernel
theorem dX8_pairs_15 : decode cX8_pairs 15 = .ok (.invokestatic 209, 3) := by decide +kernel
theorem dX8_pairs_18 : decode cX8_pairs 18 = .ok (.ifCond .ne 5, 3) := by decide +kernel
theorem dX8_pairs_21 : decode cX8_pairs 21 = .ok (.iconst 0, 1) := by decide +kernel
theorem dX8_pairs_22 : decode cX8_pairs 22 = .ok (.ireturn, 1) := by decide +kernel
theorem dX8_pairs_23 : decode cX8_pairs 23 = .ok (.aload_n 0, 1) := by decide +kernel
theorem dX8_pairs_24 : decode cX8_pairs 24 = .ok (.iload_n 1, 1) := by decide +kernel
theorem dX8_pairs_25 : decode cX8_pairs 25 = .ok (.iload_n 2, 1) := by decide +kernel
theorem dX8_pairs_26 : decode cX8_pairs 26 = .ok (.bipush 17, 2) := by decide +kernel
theorem dX8_pairs_28 : decode cX8_pairs 28 = .ok (.iconst 0, 1) := by decide +kernel
theorem dX8_pairs_29 : decode cX8_pairs 29 = .ok (.invokevirtual 141, 3) := by decide +kernel
theorem dX8_pairs_32 : decode cX8_pairs 32 = .ok (.aload_n 0, 1) := by decide +kernel
theorem dX8_pairs_33 : decode cX8_pairs 33 = .ok (.bipush 17, 2) := by decide +kernel
theorem dX8_pairs_35 : decode cX8_pairs 35 = .ok (.iload_n 3, 1) := by decide +kernel
theorem dX8_pairs_36 : decode cX8_pairs 36 = .ok (.invokevirtual 87, 3) := by decide +kernel
theorem dX8_pairs_39 : decode cX8_pairs 39 = .ok (.iconst 1, 1) := by decide +kernel
theorem dX8_pairs_40 : decode cX8_pairs 40 = .ok (.ireturn, 1) := by decide +kernel
theorem dX8_add_0 : decode cX8_add 0 = .ok (.iload_n 1, 1) := by decide +kernel
theorem dX8_add_1 : decode cX8_add 1 = .ok (.invokestatic 209, 3) := by decide +kernel
theorem dX8_add_4 : decode cX8_add 4 = .ok (.ifCond .eq 20, 3) := by decide +kernel
theorem dX8_add_7 : decode cX8_add 7 = .ok (.iload_n 2, 1) := by decide +kernel
theorem dX8_add_8 : decode cX8_add 8 = .ok (.invokestatic 209, 3) := by decide +kernel
theorem dX8_add_11 : decode cX8_add 11 = .ok (.ifCond .eq 13, 3) := by decide +kernel
theorem dX8_add_14 : decode cX8_add 14 = .ok (.iload_n 3, 1) := by decide +kernel
theorem dX8_add_15 : decode cX8_add 15 = .ok (.iconst 1, 1) := by decide +kernel
theorem dX8_add_16 : decode cX8_add 16 = .ok (.if_icmp .eq 10, 3) := by decide +kernel
theorem dX8_add_19 : decode cX8_add 19 = .ok (.iload_n 3, 1) := by decide +kernel
theorem dX8_add_20 : decode cX8_add 20 = .ok (.iconst (-1), 1) := by decide +kernel
theorem dX8_add_21 : decode cX8_add 21 = .ok (.if_icmp .eq 5, 3) := by decide +kernel
theorem dX8_add_24 : decode cX8_add 24 = .ok (.iconst 0, 1) := by decide +kernel
theorem dX8_add_25 : decode cX8_add 25 = .ok (.ireturn, 1) := by decide +kernel
theorem dX8_add_26 : decode cX8_add 26 = .ok (.aload_n 0, 1) := by decide +kernel
theorem dX8_add_27 : decode cX8_add 27 = .ok (.iload_n 2, 1) := by decide +kernel
theorem dX8_add_28 : decode cX8_add 28 = .ok (.bipush 17, 2) := by decide +kernel
theorem dX8_add_30 : decode cX8_add 30 = .ok (.invokevirtual 87, 3) := by decide +kernel
theorem dX8_add_33 : decode cX8_add 33 = .ok (.aload_n 0, 1) := by decide +kernel
theorem dX8_add_34 : decode cX8_add 34 = .ok (.iload_n 1, 1) := by decide +kernel
theorem dX8_add_35 : decode cX8_add 35 = .ok (.bipush 17, 2) := by decide +kernel
theorem dX8_add_37 : decode cX8_add 37 = .ok (.iload_n 3, 1) := by decide +kernel
theorem dX8_add_38 : decode cX8_add 38 = .ok (.invokevirtual 153, 3) := by decide +kernel
theorem dX8_add_41 : decode cX8_add 41 = .ok (.iconst 1, 1) := by decide +kernel
theorem dX8_add_42 : decode cX8_add 42 = .ok (.ireturn, 1) := by decide +kernel
theorem dX8_press_0 : decode cX8_press 0 = .ok (.iload_n 1, 1) := by decide +kernel
theorem dX8_press_1 : decode cX8_press 1 = .ok (.invokestatic 209, 3) := by decide +kernel
theorem dX8_press_4 : decode cX8_press 4 = .ok (.ifCond .eq 14, 3) := by decide +kernel
theorem dX8_press_7 : decode cX8_press 7 = .ok (.iload_n 2, 1) := by decide +kernel
theorem dX8_press_8 : decode cX8_press 8 = .ok (.iconst 1, 1) := by decide +kernel
theorem dX8_press_9 : decode cX8_press 9 = .ok (.if_icmp .lt 9, 3) := by decide +kernel
theorem dX8_press_12 : decode cX8_press 12 = .ok (.iload_n 2, 1) := by decide +kernel
theorem dX8_press_13 : decode cX8_press 13 = .ok (.bipush 11, 2) := by decide +kernel
theorem dX8_press_15 : decode cX8_press 15 = .ok (.if_icmp .le 5, 3) := by decide +kernel
theorem dX8_press_18 : decode cX8_press 18 = .ok (.iconst 0, 1) := by decide +kernel
theorem dX8_press_19 : decode cX8_press 19 = .ok (.ireturn, 1) := by decide +kernel
theorem dX8_press_20 : decode cX8_press 20 = .ok (.aload_n 0, 1) := by decide +kernel
theorem dX8_press_21 : decode cX8_press 21 = .ok (.iload_n 1, 1) := by decide +kernel
theorem dX8_press_22 : decode cX8_press 22 = .ok (.iload_n 2, 1) := by decide +kernel
theorem dX8_press_23 : decode cX8_press 23 = .ok (.invokevirtual 156, 3) := by decide +kernel
theorem dX8_press_26 : decode cX8_press 26 = .ok (.iconst 1, 1) := by decide +kernel
theorem dX8_press_27 : decode cX8_press 27 = .ok (.ireturn, 1) := by decide +kernel
theorem dX8_stretch_0 : decode cX8_stretch 0 = .ok (.iload_n 1, 1) := by decide +kernel
theorem dX8_stretch_1 : decode cX8_stretch 1 = .ok (.invokestatic 209, 3) := by decide +kernel
theorem dX8_stretch_4 : decode cX8_stretch 4 = .ok (.ifCond .eq 14, 3) := by decide +kernel
theorem dX8_stretch_7 : decode cX8_stretch 7 = .ok (.iload_n 2, 1) := by decide +kernel
theorem dX8_stretch_8 : decode cX8_stretch 8 = .ok (.iconst 1, 1) := by decide +kernel
theorem dX8_stretch_9 : decode cX8_stretch 9 = .ok (.if_icmp .lt 9, 3) := by decide +kernel
theorem dX8_stretch_12 : decode cX8_stretch 12 = .ok (.iload_n 2, 1) := by decide +kernel
theorem dX8_stretch_13 : decode cX8_stretch 13 = .ok (.bipush 11, 2) := by decide +kernel
theorem dX8_stretch_15 : decode cX8_stretch 15 = .ok (.if_icmp .le 5, 3) := by decide +kernel
theorem dX8_stretch_18 : decode cX8_stretch 18 = .ok (.iconst 0, 1) := by decide +kernel
theorem dX8_stretch_19 : decode cX8_stretch 19 = .ok (.ireturn, 1) := by decide +kernel
theorem dX8_stretch_20 : decode cX8_stretch 20 = .ok (.aload_n 0, 1) := by decide +kernel
theorem dX8_stretch_21 : decode cX8_stretch 21 = .ok (.iload_n 1, 1) := by decide +kernel
theorem dX8_stretch_22 : decode cX8_stretch 22 = .ok (.iload_n 2, 1) := by decide +kernel
theorem dX8_stretch_23 : decode cX8_stretch 23 = .ok (.invokevirtual 162, 3) := by decide +kernel
theorem dX8_stretch_26 : decode cX8_stretch 26 = .ok (.iconst 1, 1) := by decide +kernel
theorem dX8_stretch_27 : decode cX8_stretch 27 = .ok (.ireturn, 1) := by decide +kernel
theorem dX8_encode_0 : decode cX8_encode 0 = .ok (.iload_n 1, 1) := by decide +kernel
theorem dX8_encode_1 : decode cX8_encode 1 = .ok (.invokestatic 209, 3) := by decide +kernel
theorem dX8_encode_4 : decode cX8_encode 4 = .ok (.ifCond .eq 14, 3) := by decide +kernel
theorem dX8_encode_7 : decode cX8_encode 7 = .ok (.iload_n 2, 1) := by decide +kernel
theorem dX8_encode_8 : decode cX8_encode 8 = .ok (.iconst 1, 1) := by decide +kernel
theorem dX8_encode_9 : decode cX8_encode 9 = .ok (.if_icmp .lt 9, 3) := by decide +kernel
theorem dX8_encode_12 : decode cX8_encode 12 = .ok (.iload_n 2, 1) := by decide +kernel
theorem dX8_encode_13 : decode cX8_encode 13 = .ok (.bipush 12, 2) := by decide +kernel
theorem dX8_encode_15 : decode cX8_encode 15 = .ok (.if_icmp .le 5, 3) := by decide +kernel
theorem dX8_encode_18 : decode cX8_encode 18 = .ok (.iconst (-1), 1) := by decide +kernel
theorem dX8_encode_19 : decode cX8_encode 19 = .ok (.ireturn, 1) := by decide +kernel
theorem dX8_encode_20 : decode cX8_encode 20 = .ok (.aload_n 0, 1) := by decide +kernel
theorem dX8_encode_21 : decode cX8_encode 21 = .ok (.iload_n 1, 1) := by decide +kernel
theorem dX8_encode_22 : decode cX8_encode 22 = .ok (.iload_n 2, 1) := by decide +kernel
theorem dX8_encode_23 : decode cX8_encode 23 = .ok (.sipush 10336, 3) := by decide +kernel
theorem dX8_encode_26 : decode cX8_encode 26 = .ok (.invokevirtual 144, 3) := by decide +kernel
theorem dX8_encode_29 : decode cX8_encode 29 = .ok (.aload_n 0, 1) := by decide +kernel
theorem dX8_encode_30 : decode cX8_encode 30 = .ok (.bipush 32, 2) := by decide +kernel
theorem dX8_encode_32 : decode cX8_encode 32 = .ok (.iload_n 2, 1) := by decide +kernel
theorem dX8_encode_33 : decode cX8_encode 33 = .ok (.imul, 1) := by decide +kernel
theorem dX8_encode_34 : decode cX8_encode 34 = .ok (.putfield 186, 3) := by decide +kernel
theorem dX8_encode_37 : decode cX8_encode 37 = .ok (.aload_n 0, 1) := by decide +kernel
theorem dX8_encode_38 : decode cX8_encode 38 = .ok (.getfield 186, 3) := by decide +kernel
theorem dX8_encode_41 : decode cX8_encode 41 = .ok (.ireturn, 1) := by decide +kernel
theorem dX8_decode_0 : decode cX8_decode 0 = .ok (.iload_n 1, 1) := by decide +kernel
theorem dX8_decode_1 : decode cX8_decode 1 = .ok (.invokestatic 209, 3) := by decide +kernel
theorem dX8_decode_4 : decode cX8_decode 4 = .ok (.ifCond .eq 14, 3) := by decide +kernel
theorem dX8_decode_7 : decode cX8_decode 7 = .ok (.iload_n 2, 1) := by decide +kernel
theorem dX8_decode_8 : decode cX8_decode 8 = .ok (.iconst 1, 1) := by decide +kernel
theorem dX8_decode_9 : decode cX8_decode 9 = .ok (.if_icmp .lt 9, 3) := by decide +kernel
theorem dX8_decode_12 : decode cX8_decode 12 = .ok (.iload_n 2, 1) := by decide +kernel
theorem dX8_decode_13 : decode cX8_decode 13 = .ok (.bipush 12, 2) := by decide +kernel
theorem dX8_decode_15 : decode cX8_decode 15 = .ok (.if_icmp .le 5, 3) := by decide +kernel
theorem dX8_decode_18 : decode cX8_decode 18 = .ok (.iconst (-1), 1) := by decide +kernel
theorem dX8_decode_19 : decode cX8_decode 19 = .ok (.ireturn, 1) := by decide +kernel
theorem dX8_decode_20 : decode cX8_decode 20 = .ok (.aload_n 0, 1) := by decide +kernel
theorem dX8_decode_21 : decode cX8_decode 21 = .ok (.invokevirtual 189, 3) := by decide +kernel
theorem dX8_decode_24 : decode cX8_decode 24 = .ok (.bipush 32, 2) := by decide +kernel
theorem dX8_decode_26 : decode cX8_decode 26 = .ok (.iload_n 2, 1) := by decide +kernel
theorem dX8_decode_27 : decode cX8_decode 27 = .ok (.imul, 1) := by decide +kernel
theorem dX8_decode_28 : decode cX8_decode 28 = .ok (.if_icmp .eq 5, 3) := by decide +kernel
theorem dX8_decode_31 : decode cX8_decode 31 = .ok (.iconst (-1), 1) := by decide +kernel
theorem dX8_decode_32 : decode cX8_decode 32 = .ok (.ireturn, 1) := by decide +kernel
theorem dX8_decode_33 : decode cX8_decode 33 = .ok (.aload_n 0, 1) := by decide +kernel
theorem dX8_decode_34 : decode cX8_decode 34 = .ok (.iload_n 1, 1) := by decide +kernel
theorem dX8_decode_35 : decode cX8_decode 35 = .ok (.iload_n 2, 1) := by decide +kernel
theorem dX8_decode_36 : decode cX8_decode 36 = .ok (.iconst 0, 1) := by decide +kernel
theorem dX8_decode_37 : decode cX8_decode 37 = .ok (.invokevirtual 159, 3) := by decide +kernel
theorem dX8_decode_40 : decode cX8_decode 40 = .ok (.sipush 256, 3) := by decide +kernel
theorem dX8_decode_43 : decode cX8_decode 43 = .ok (.ireturn, 1) := by decide +kernel
theorem dX8_sample_0 : decode cX8_sample 0 = .ok (.iload_n 1, 1) := by decide +kernel
theorem dX8_sample_1 : decode cX8_sample 1 = .ok (.invokestatic 209, 3) := by decide +kernel
theorem dX8_sample_4 : decode cX8_sample 4 = .ok (.ifCond .ne 5, 3) := by decide +kernel
theorem dX8_sample_7 : decode cX8_sample 7 = .ok (.iconst (-1), 1) := by decide +kernel
theorem dX8_sample_8 : decode cX8_sample 8 = .ok (.ireturn, 1) := by decide +kernel
theorem dX8_sample_9 : decode cX8_sample 9 = .ok (.aload_n 0, 1) := by decide +kernel
theorem dX8_sample_10 : decode cX8_sample 10 = .ok (.invokevirtual 189, 3) := by decide +kernel
theorem dX8_sample_13 : decode cX8_sample 13 = .ok (.bipush 32, 2) := by decide +kernel
theorem dX8_sample_15 : decode cX8_sample 15 = .ok (.if_icmp .eq 5, 3) := by decide +kernel
theorem dX8_sample_18 : decode cX8_sample 18 = .ok (.iconst (-1), 1) := by decide +kernel
theorem dX8_sample_19 : decode cX8_sample 19 = .ok (.ireturn, 1) := by decide +kernel
theorem dX8_sample_20 : decode cX8_sample 20 = .ok (.aload_n 0, 1) := by decide +kernel
theorem dX8_sample_21 : decode cX8_sample 21 = .ok (.iconst 0, 1) := by decide +kernel
theorem dX8_sample_22 : decode cX8_sample 22 = .ok (.iload_n 3, 1) := by decide +kernel
theorem dX8_sample_23 : decode cX8_sample 23 = .ok (.iload_n 2, 1) := by decide +kernel
theorem dX8_sample_24 : decode cX8_sample 24 = .ok (.iload_n 1, 1) := by decide +kernel
theorem dX8_sample_25 : decode cX8_sample 25 = .ok (.invokevirtual 137, 3) := by decide +kernel
theorem dX8_sample_28 : decode cX8_sample 28 = .ok (.istore 4, 2) := by decide +kernel
theorem dX8_sample_30 : decode cX8_sample 30 = .ok (.iload 4, 2) := by decide +kernel
theorem dX8_sample_32 : decode cX8_sample 32 = .ok (.iconst (-1), 1) := by decide +kernel
theorem dX8_sample_33 : decode cX8_sample 33 = .ok (.if_icmp .ne 8, 3) := by decide +kernel
theorem dX8_sample_36 : decode cX8_sample 36 = .ok (.bipush (-2), 2) := by decide +kernel
theorem dX8_sample_38 : decode cX8_sample 38 = .ok (.goto 5, 3) := by decide +kernel
theorem dX8_sample_41 : decode cX8_sample 41 = .ok (.iload 4, 2) := by decide +kernel
theorem dX8_sample_43 : decode cX8_sample 43 = .ok (.ireturn, 1) := by decide +kernel
theorem dX8_noise_0 : decode cX8_noise 0 = .ok (.iload_n 1, 1) := by decide +kernel
theorem dX8_noise_1 : decode cX8_noise 1 = .ok (.invokestatic 209, 3) := by decide +kernel
theorem dX8_noise_4 : decode cX8_noise 4 = .ok (.ifCond .eq 13, 3) := by decide +kernel
theorem dX8_noise_7 : decode cX8_noise 7 = .ok (.iload_n 2, 1) := by decide +kernel
theorem dX8_noise_8 : decode cX8_noise 8 = .ok (.iconst 2, 1) := by decide +kernel
theorem dX8_noise_9 : decode cX8_noise 9 = .ok (.if_icmp .eq 10, 3) := by decide +kernel
theorem dX8_noise_12 : decode cX8_noise 12 = .ok (.iload_n 2, 1) := by decide +kernel
theorem dX8_noise_13 : decode cX8_noise 13 = .ok (.iconst 3, 1) := by decide +kernel
theorem dX8_noise_14 : decode cX8_noise 14 = .ok (.if_icmp .eq 5, 3) := by decide +kernel
theorem dX8_noise_17 : decode cX8_noise 17 = .ok (.iconst (-1), 1) := by decide +kernel
theorem dX8_noise_18 : decode cX8_noise 18 = .ok (.ireturn, 1) := by decide +kernel
theorem dX8_noise_19 : decode cX8_noise 19 = .ok (.aload_n 0, 1) := by decide +kernel
theorem dX8_noise_20 : decode cX8_noise 20 = .ok (.invokevirtual 189, 3) := by decide +kernel
theorem dX8_noise_23 : decode cX8_noise 23 = .ok (.bipush 32, 2) := by decide +kernel
theorem dX8_noise_25 : decode cX8_noise 25 = .ok (.if_icmp .eq 5, 3) := by decide +kernel
theorem dX8_noise_28 : decode cX8_noise 28 = .ok (.iconst (-1), 1) := by decide +kernel
theorem dX8_noise_29 : decode cX8_noise 29 = .ok (.ireturn, 1) := by decide +kernel
theorem dX8_noise_30 : decode cX8_noise 30 = .ok (.aload_n 0, 1) := by decide +kernel
theorem dX8_noise_31 : decode cX8_noise 31 = .ok (.iconst 0, 1) := by decide +kernel
theorem dX8_noise_32 : decode cX8_noise 32 = .ok (.iload_n 3, 1) := by decide +kernel
theorem dX8_noise_33 : decode cX8_noise 33 = .ok (.iload_n 2, 1) := by decide +kernel
theorem dX8_noise_34 : decode cX8_noise 34 = .ok (.iload_n 1, 1) := by decide +kernel
theorem dX8_noise_35 : decode cX8_noise 35 = .ok (.invokevirtual 130, 3) := by decide +kernel
theorem dX8_noise_38 : decode cX8_noise 38 = .ok (.sipush 256, 3) := by decide +kernel
theorem dX8_noise_41 : decode cX8_noise 41 = .ok (.ireturn, 1) := by decide +kernel
