theorem dX1_init_0 : decode cX1_init 0 = .ok (.aload_n 0, 1) := by decide +kernel
theorem dX1_init_1 : decode cX1_init 1 = .ok (.invokespecial 3, 3) := by decide +kernel
theorem dX1_init_4 : decode cX1_init 4 = .ok (.aload_n 0, 1) := by decide +kernel
theorem dX1_init_5 : decode cX1_init 5 = .ok (.new 9, 3) := by decide +kernel
theorem dX1_init_8 : decode cX1_init 8 = .ok (.dup, 1) := by decide +kernel
theorem dX1_init_9 : decode cX1_init 9 = .ok (.sipush 3168, 3) := by decide +kernel
theorem dX1_init_12 : decode cX1_init 12 = .ok (.invokespecial 11, 3) := by decide +kernel
theorem dX1_init_15 : decode cX1_init 15 = .ok (.putfield 14, 3) := by decide +kernel
theorem dX1_init_18 : decode cX1_init 18 = .ok (.aload_n 0, 1) := by decide +kernel
theorem dX1_init_19 : decode cX1_init 19 = .ok (.new 9, 3) := by decide +kernel
theorem dX1_init_22 : decode cX1_init 22 = .ok (.dup, 1) := by decide +kernel
theorem dX1_init_23 : decode cX1_init 23 = .ok (.bipush 64, 2) := by decide +kernel
theorem dX1_init_25 : decode cX1_init 25 = .ok (.invokespecial 11, 3) := by decide +kernel
theorem dX1_init_28 : decode cX1_init 28 = .ok (.putfield 20, 3) := by decide +kernel
theorem dX1_init_31 : decode cX1_init 31 = .ok (.aload_n 0, 1) := by decide +kernel
theorem dX1_init_32 : decode cX1_init 32 = .ok (.new 9, 3) := by decide +kernel
theorem dX1_init_35 : decode cX1_init 35 = .ok (.dup, 1) := by decide +kernel
theorem dX1_init_36 : decode cX1_init 36 = .ok (.bipush 32, 2) := by decide +kernel
theorem dX1_init_38 : decode cX1_init 38 = .ok (.invokespecial 11, 3) := by decide +kernel
theorem dX1_init_41 : decode cX1_init 41 = .ok (.putfield 23, 3) := by decide +kernel
theorem dX1_init_44 : decode cX1_init 44 = .ok (.aload_n 0, 1) := by decide +kernel
theorem dX1_init_45 : decode cX1_init 45 = .ok (.new 9, 3) := by decide +kernel
theorem dX1_init_48 : decode cX1_init 48 = .ok (.dup, 1) := by decide +kernel
theorem dX1_init_49 : decode cX1_init 49 = .ok (.bipush 32, 2) := by decide +kernel
theorem dX1_init_51 : decode cX1_init 51 = .ok (.invokespecial 11, 3) := by decide +kernel
theorem dX1_init_54 : decode cX1_init 54 = .ok (.putfield 26, 3) := by decide +kernel
theorem dX1_init_57 : decode cX1_init 57 = .ok (.aload_n 0, 1) := by decide +kernel
theorem dX1_init_58 : decode cX1_init 58 = .ok (.iconst 4, 1) := by decide +kernel
theorem dX1_init_59 : decode cX1_init 59 = .ok (.sipush 256, 3) := by decide +kernel
theorem dX1_init_62 : decode cX1_init 62 = .ok (.multianewarray 29 2, 4) := by decide +kernel
theorem dX1_init_66 : decode cX1_init 66 = .ok (.putfield 31, 3) := by decide +kernel
theorem dX1_init_69 : decode cX1_init 69 = .ok (.aload_n 0, 1) := by decide +kernel
theorem dX1_init_70 : decode cX1_init 70 = .ok (.sipush 256, 3) := by decide +kernel
theorem dX1_init_73 : decode cX1_init 73 = .ok (.newarray .int, 2) := by decide +kernel
theorem dX1_init_75 : decode cX1_init 75 = .ok (.putfield 34, 3) := by decide +kernel
theorem dX1_init_78 : decode cX1_init 78 = .ok (.aload_n 0, 1) := by decide +kernel
theorem dX1_init_79 : decode cX1_init 79 = .ok (.sipush 256, 3) := by decide +kernel
theorem dX1_init_82 : decode cX1_init 82 = .ok (.newarray .int, 2) := by decide +kernel
theorem dX1_init_84 : decode cX1_init 84 = .ok (.putfield 38, 3) := by decide +kernel
theorem dX1_init_87 : decode cX1_init 87 = .ok (.aload_n 0, 1) := by decide +kernel
theorem dX1_init_88 : decode cX1_init 88 = .ok (.aload_n 1, 1) := by decide +kernel
theorem dX1_init_89 : decode cX1_init 89 = .ok (.putfield 41, 3) := by decide +kernel
theorem dX1_init_92 : decode cX1_init 92 = .ok (.aload_n 0, 1) := by decide +kernel
theorem dX1_init_93 : decode cX1_init 93 = .ok (.aload_n 2, 1) := by decide +kernel
theorem dX1_init_94 : decode cX1_init 94 = .ok (.putfield 45, 3) := by decide +kernel
theorem dX1_init_97 : decode cX1_init 97 = .ok (.return_, 1) := by decide +kernel
theorem dX1_draft_0 : decode cX1_draft 0 = .ok (.aload_n 0, 1) := by decide +kernel
theorem dX1_draft_1 : decode cX1_draft 1 = .ok (.getfield 14, 3) := by decide +kernel
theorem dX1_draft_4 : decode cX1_draft 4 = .ok (.areturn, 1) := by decide +kernel
theorem dX1_seeds_0 : decode cX1_seeds 0 = .ok (.aload_n 0, 1) := by decide +kernel
theorem dX1_seeds_1 : decode cX1_seeds 1 = .ok (.getfield 20, 3) := by decide +kernel
theorem dX1_seeds_4 : decode cX1_seeds 4 = .ok (.areturn, 1) := by decide +kernel
theorem dX1_makeKeys_0 : decode cX1_makeKeys 0 = .ok (.aload_n 0, 1) := by decide +kernel
theorem dX1_makeKeys_1 : decode cX1_makeKeys 1 = .ok (.getfield 41, 3) := by decide +kernel
theorem dX1_makeKeys_4 : decode cX1_makeKeys 4 = .ok (.iconst 1, 1) := by decide +kernel
theorem dX1_makeKeys_5 : decode cX1_makeKeys 5 = .ok (.invokevirtual 49, 3) := by decide +kernel
theorem dX1_makeKeys_8 : decode cX1_makeKeys 8 = .ok (.aload_n 0, 1) := by decide +kernel
theorem dX1_makeKeys_9 : decode cX1_makeKeys 9 = .ok (.getfield 41, 3) := by decide +kernel
theorem dX1_makeKeys_12 : decode cX1_makeKeys 12 = .ok (.aload_n 2, 1) := by decide +kernel
theorem dX1_makeKeys_13 : decode cX1_makeKeys 13 = .ok (.iconst 0, 1) := by decide +kernel
theorem dX1_makeKeys_14 : decode cX1_makeKeys 14 = .ok (.bipush 32, 2) := by decide +kernel
theorem dX1_makeKeys_16 : decode cX1_makeKeys 16 = .ok (.invokevirtual 54, 3) := by decide +kernel
theorem dX1_makeKeys_19 : decode cX1_makeKeys 19 = .ok (.aload_n 0, 1) := by decide +kernel
theorem dX1_makeKeys_20 : decode cX1_makeKeys 20 = .ok (.getfield 41, 3) := by decide +kernel
theorem dX1_makeKeys_23 : decode cX1_makeKeys 23 = .ok (.aload_n 1, 1) := by decide +kernel
theorem dX1_makeKeys_24 : decode cX1_makeKeys 24 = .ok (.getfield 58, 3) := by decide +kernel
theorem dX1_makeKeys_27 : decode cX1_makeKeys 27 = .ok (.invokevirtual 64, 3) := by decide +kernel
theorem dX1_makeKeys_30 : decode cX1_makeKeys 30 = .ok (.aload_n 0, 1) := by decide +kernel
theorem dX1_makeKeys_31 : decode cX1_makeKeys 31 = .ok (.invokevirtual 67, 3) := by decide +kernel
theorem dX1_makeKeys_34 : decode cX1_makeKeys 34 = .ok (.aload_n 0, 1) := by decide +kernel
theorem dX1_makeKeys_35 : decode cX1_makeKeys 35 = .ok (.aload_n 1, 1) := by decide +kernel
theorem dX1_makeKeys_36 : decode cX1_makeKeys 36 = .ok (.invokevirtual 70, 3) := by decide +kernel
theorem dX1_makeKeys_39 : decode cX1_makeKeys 39 = .ok (.aload_n 0, 1) := by decide +kernel
theorem dX1_makeKeys_40 : decode cX1_makeKeys 40 = .ok (.getfield 14, 3) := by decide +kernel
theorem dX1_makeKeys_43 : decode cX1_makeKeys 43 = .ok (.invokevirtual 74, 3) := by decide +kernel
theorem dX1_makeKeys_46 : decode cX1_makeKeys 46 = .ok (.iconst 0, 1) := by decide +kernel
theorem dX1_makeKeys_47 : decode cX1_makeKeys 47 = .ok (.istore 4, 2) := by decide +kernel
theorem dX1_makeKeys_49 : decode cX1_makeKeys 49 = .ok (.iload 4, 2) := by decide +kernel
theorem dX1_makeKeys_51 : decode cX1_makeKeys 51 = .ok (.aload_n 1, 1) := by decide +kernel
theorem dX1_makeKeys_52 : decode cX1_makeKeys 52 = .ok (.getfield 58, 3) := by decide +kernel
theorem dX1_makeKeys_55 : decode cX1_makeKeys 55 = .ok (.if_icmp .ge 25, 3) := by decide +kernel
theorem dX1_makeKeys_58 : decode cX1_makeKeys 58 = .ok (.aload_n 0, 1) := by decide +kernel
theorem dX1_makeKeys_59 : decode cX1_makeKeys 59 = .ok (.getfield 31, 3) := by decide +kernel
theorem dX1_makeKeys_62 : decode cX1_makeKeys 62 = .ok (.iload 4, 2) := by decide +kernel
theorem dX1_makeKeys_64 : decode cX1_makeKeys 64 = .ok (.aaload, 1) := by decide +kernel
theorem dX1_makeKeys_65 : decode cX1_makeKeys 65 = .ok (.bipush 12, 2) := by decide +kernel
theorem dX1_makeKeys_67 : decode cX1_makeKeys 67 = .ok (.aload_n 0, 1) := by decide +kernel
theorem dX1_makeKeys_68 : decode cX1_makeKeys 68 = .ok (.getfield 14, 3) := by decide +kernel
theorem dX1_makeKeys_71 : decode cX1_makeKeys 71 = .ok (.invokestatic 77, 3) := by decide +kernel
theorem dX1_makeKeys_74 : decode cX1_makeKeys 74 = .ok (.iinc 4 1, 3) := by decide +kernel
theorem dX1_makeKeys_77 : decode cX1_makeKeys 77 = .ok (.goto (-28), 3) := by decide +kernel
theorem dX1_makeKeys_80 : decode cX1_makeKeys 80 = .ok (.iconst 0, 1) := by decide +kernel
theorem dX1_makeKeys_81 : decode cX1_makeKeys 81 = .ok (.istore 4, 2) := by decide +kernel
theorem dX1_makeKeys_83 : decode cX1_makeKeys 83 = .ok (.iload 4, 2) := by decide +kernel
theorem dX1_makeKeys_85 : decode cX1_makeKeys 85 = .ok (.aload_n 1, 1) := by decide +kernel
theorem dX1_makeKeys_86 : decode cX1_makeKeys 86 = .ok (.getfield 58, 3) := by decide +kernel
theorem dX1_makeKeys_89 : decode cX1_makeKeys 89 = .ok (.if_icmp .ge 114, 3) := by decide +kernel
theorem dX1_makeKeys_92 : decode cX1_makeKeys 92 = .ok (.aload_n 0, 1) := by decide +kernel
theorem dX1_makeKeys_93 : decode cX1_makeKeys 93 = .ok (.getfield 45, 3) := by decide +kernel
theorem dX1_makeKeys_96 : decode cX1_makeKeys 96 = .ok (.aload_n 0, 1) := by decide +kernel
theorem dX1_makeKeys_97 : decode cX1_makeKeys 97 = .ok (.getfield 34, 3) := by decide +kernel
theorem dX1_makeKeys_100 : decode cX1_makeKeys 100 = .ok (.aload_n 0, 1) := by decide +kernel
theorem dX1_makeKeys_101 : decode cX1_makeKeys 101 = .ok (.getfield 20, 3) := by decide +kernel
theorem dX1_makeKeys_104 : decode cX1_makeKeys 104 = .ok (.bipush 32, 2) := by decide +kernel
theorem dX1_makeKeys_106 : decode cX1_makeKeys 106 = .ok (.aload_n 1, 1) := by decide +kernel
theorem dX1_makeKeys_107 : decode cX1_makeKeys 107 = .ok (.getfield 83, 3) := by decide +kernel
theorem dX1_makeKeys_110 : decode cX1_makeKeys 110 = .ok (.aload_n 1, 1) := by decide +kernel
theorem dX1_makeKeys_111 : decode cX1_makeKeys 111 = .ok (.getfield 58, 3) := by decide +kernel
theorem dX1_makeKeys_114 : decode cX1_makeKeys 114 = .ok (.iload 4, 2) := by decide +kernel
theorem dX1_makeKeys_116 : decode cX1_makeKeys 116 = .ok (.iadd, 1) := by decide +kernel
theorem dX1_makeKeys_117 : decode cX1_makeKeys 117 = .ok (.invokevirtual 86, 3) := by decide +kernel
theorem dX1_makeKeys_120 : decode cX1_makeKeys 120 = .ok (.aload_n 0, 1) := by decide +kernel
theorem dX1_makeKeys_121 : decode cX1_makeKeys 121 = .ok (.getfield 34, 3) := by decide +kernel
theorem dX1_makeKeys_124 : decode cX1_makeKeys 124 = .ok (.invokestatic 92, 3) := by decide +kernel
theorem dX1_makeKeys_127 : decode cX1_makeKeys 127 = .ok (.iconst 0, 1) := by decide +kernel
theorem dX1_makeKeys_128 : decode cX1_makeKeys 128 = .ok (.istore 5, 2) := by decide +kernel
theorem dX1_makeKeys_130 : decode cX1_makeKeys 130 = .ok (.iload 5, 2) := by decide +kernel
theorem dX1_makeKeys_132 : decode cX1_makeKeys 132 = .ok (.aload_n 1, 1) := by decide +kernel
theorem dX1_makeKeys_133 : decode cX1_makeKeys 133 = .ok (.getfield 58, 3) := by decide +kernel
theorem dX1_makeKeys_136 : decode cX1_makeKeys 136 = .ok (.if_icmp .ge 48, 3) := by decide +kernel
theorem dX1_makeKeys_139 : decode cX1_makeKeys 139 = .ok (.aload_n 0, 1) := by decide +kernel
theorem dX1_makeKeys_140 : decode cX1_makeKeys 140 = .ok (.getfield 45, 3) := by decide +kernel
theorem dX1_makeKeys_143 : decode cX1_makeKeys 143 = .ok (.aload_n 0, 1) := by decide +kernel
theorem dX1_makeKeys_144 : decode cX1_makeKeys 144 = .ok (.getfield 38, 3) := by decide +kernel
theorem dX1_makeKeys_147 : decode cX1_makeKeys 147 = .ok (.aload_n 0, 1) := by decide +kernel
theorem dX1_makeKeys_148 : decode cX1_makeKeys 148 = .ok (.getfield 20, 3) := by decide +kernel
theorem dX1_makeKeys_151 : decode cX1_makeKeys 151 = .ok (.iconst 0, 1) := by decide +kernel
theorem dX1_makeKeys_152 : decode cX1_makeKeys 152 = .ok (.iload 5, 2) := by decide +kernel
theorem dX1_makeKeys_154 : decode cX1_makeKeys 154 = .ok (.iload 4, 2) := by decide +kernel
theorem dX1_makeKeys_156 : decode cX1_makeKeys 156 = .ok (.iload_n 3, 1) := by decide +kernel
theorem dX1_makeKeys_157 : decode cX1_makeKeys 157 = .ok (.invokevirtual 98, 3) := by decide +kernel
theorem dX1_makeKeys_160 : decode cX1_makeKeys 160 = .ok (.bipush (-2), 2) := by decide +kernel
theorem dX1_makeKeys_162 : decode cX1_makeKeys 162 = .ok (.if_icmp .ne 5, 3) := by decide +kernel
theorem dX1_makeKeys_165 : decode cX1_makeKeys 165 = .ok (.iconst 0, 1) := by decide +kernel
theorem dX1_makeKeys_166 : decode cX1_makeKeys 166 = .ok (.ireturn, 1) := by decide +kernel
theorem dX1_makeKeys_167 : decode cX1_makeKeys 167 = .ok (.aload_n 0, 1) := by decide +kernel
theorem dX1_makeKeys_168 : decode cX1_makeKeys 168 = .ok (.aload_n 0, 1) := by decide +kernel
theorem dX1_makeKeys_169 : decode cX1_makeKeys 169 = .ok (.getfield 31, 3) := by decide +kernel
theorem dX1_makeKeys_172 : decode cX1_makeKeys 172 = .ok (.iload 5, 2) := by decide +kernel
theorem dX1_makeKeys_174 : decode cX1_makeKeys 174 = .ok (.aaload, 1) := by decide +kernel
theorem dX1_makeKeys_175 : decode cX1_makeKeys 175 = .ok (.invokevirtual 102, 3) := by decide +kernel
theorem dX1_makeKeys_178 : decode cX1_makeKeys 178 = .ok (.iinc 5 1, 3) := by decide +kernel
theorem dX1_makeKeys_181 : decode cX1_makeKeys 181 = .ok (.goto (-51), 3) := by decide +kernel
theorem dX1_makeKeys_184 : decode cX1_makeKeys 184 = .ok (.aload_n 0, 1) := by decide +kernel
theorem dX1_makeKeys_185 : decode cX1_makeKeys 185 = .ok (.getfield 34, 3) := by decide +kernel
theorem dX1_makeKeys_188 : decode cX1_makeKeys 188 = .ok (.bipush 12, 2) := by decide +kernel
theorem dX1_makeKeys_190 : decode cX1_makeKeys 190 = .ok (.aload_n 0, 1) := by decide +kernel
theorem dX1_makeKeys_191 : decode cX1_makeKeys 191 = .ok (.getfield 14, 3) := by decide +kernel
theorem dX1_makeKeys_194 : decode cX1_makeKeys 194 = .ok (.invokestatic 77, 3) := by decide +kernel
theorem dX1_makeKeys_197 : decode cX1_makeKeys 197 = .ok (.iinc 4 1, 3) := by decide +kernel
theorem dX1_makeKeys_200 : decode cX1_makeKeys 200 = .ok (.goto (-117), 3) := by decide +kernel
theorem dX1_makeKeys_203 : decode cX1_makeKeys 203 = .ok (.aload_n 0, 1) := by decide +kernel
theorem dX1_makeKeys_204 : decode cX1_makeKeys 204 = .ok (.getfield 14, 3) := by decide +kernel
theorem dX1_makeKeys_207 : decode cX1_makeKeys 207 = .ok (.aload_n 0, 1) := by decide +kernel
theorem dX1_makeKeys_208 : decode cX1_makeKeys 208 = .ok (.getfield 20, 3) := by decide +kernel
theorem dX1_makeKeys_211 : decode cX1_makeKeys 211 = .ok (.iconst 0, 1) := by decide +kernel
theorem dX1_makeKeys_212 : decode cX1_makeKeys 212 = .ok (.bipush 32, 2) := by decide +kernel
theorem dX1_makeKeys_214 : decode cX1_makeKeys 214 = .ok (.invokevirtual 105, 3) := by decide +kernel
theorem dX1_makeKeys_217 : decode cX1_makeKeys 217 = .ok (.aload_n 0, 1) := by decide +kernel
theorem dX1_makeKeys_218 : decode cX1_makeKeys 218 = .ok (.aload_n 0, 1) := by decide +kernel
theorem dX1_makeKeys_219 : decode cX1_makeKeys 219 = .ok (.getfield 14, 3) := by decide +kernel
theorem dX1_makeKeys_222 : decode cX1_makeKeys 222 = .ok (.aload_n 1, 1) := by decide +kernel
theorem dX1_makeKeys_223 : decode cX1_makeKeys 223 = .ok (.invokevirtual 108, 3) := by decide +kernel
theorem dX1_makeKeys_226 : decode cX1_makeKeys 226 = .ok (.aload_n 1, 1) := by decide +kernel
theorem dX1_makeKeys_227 : decode cX1_makeKeys 227 = .ok (.invokevirtual 112, 3) := by decide +kernel
theorem dX1_makeKeys_230 : decode cX1_makeKeys 230 = .ok (.invokevirtual 115, 3) := by decide +kernel
theorem dX1_makeKeys_233 : decode cX1_makeKeys 233 = .ok (.aload_n 0, 1) := by decide +kernel
theorem dX1_makeKeys_234 : decode cX1_makeKeys 234 = .ok (.getfield 14, 3) := by decide +kernel
theorem dX1_makeKeys_237 : decode cX1_makeKeys 237 = .ok (.aload_n 0, 1) := by decide +kernel
theorem dX1_makeKeys_238 : decode cX1_makeKeys 238 = .ok (.getfield 26, 3) := by decide +kernel
theorem dX1_makeKeys_241 : decode cX1_makeKeys 241 = .ok (.iconst 0, 1) := by decide +kernel
theorem dX1_makeKeys_242 : decode cX1_makeKeys 242 = .ok (.bipush 32, 2) := by decide +kernel
theorem dX1_makeKeys_244 : decode cX1_makeKeys 244 = .ok (.invokevirtual 105, 3) := by decide +kernel
theorem dX1_makeKeys_247 : decode cX1_makeKeys 247 = .ok (.aload_n 0, 1) := by decide +kernel
theorem dX1_makeKeys_248 : decode cX1_makeKeys 248 = .ok (.getfield 14, 3) := by decide +kernel
theorem dX1_makeKeys_251 : decode cX1_makeKeys 251 = .ok (.aload_n 2, 1) := by decide +kernel
theorem dX1_makeKeys_252 : decode cX1_makeKeys 252 = .ok (.bipush 32, 2) := by decide +kernel
theorem dX1_makeKeys_254 : decode cX1_makeKeys 254 = .ok (.bipush 32, 2) := by decide +kernel
theorem dX1_makeKeys_256 : decode cX1_makeKeys 256 = .ok (.invokevirtual 105, 3) := by decide +kernel
theorem dX1_makeKeys_259 : decode cX1_makeKeys 259 = .ok (.iconst 1, 1) := by decide +kernel
theorem dX1_makeKeys_260 : decode cX1_makeKeys 260 = .ok (.ireturn, 1) := by decide +kernel
theorem dX1_readMessage_0 : decode cX1_readMessage 0 = .ok (.aload_n 0, 1) := by decide +kernel
theorem dX1_readMessage_1 : decode cX1_readMessage 1 = .ok (.getfield 23, 3) := by decide +kernel
theorem dX1_readMessage_4 : decode cX1_readMessage 4 = .ok (.aload_n 3, 1) := by decide +kernel
theorem dX1_readMessage_5 : decode cX1_readMessage 5 = .ok (.invokevirtual 118, 3) := by decide +kernel
theorem dX1_readMessage_8 : decode cX1_readMessage 8 = .ok (.aload_n 0, 1) := by decide +kernel
theorem dX1_readMessage_9 : decode cX1_readMessage 9 = .ok (.aload_n 2, 1) := by decide +kernel
theorem dX1_readMessage_10 : decode cX1_readMessage 10 = .ok (.iconst 0, 1) := by decide +kernel
theorem dX1_readMessage_11 : decode cX1_readMessage 11 = .ok (.aload_n 1, 1) := by decide +kernel
theorem dX1_readMessage_12 : decode cX1_readMessage 12 = .ok (.invokevirtual 112, 3) := by decide +kernel
theorem dX1_readMessage_15 : decode cX1_readMessage 15 = .ok (.invokevirtual 115, 3) := by decide +kernel
theorem dX1_readMessage_18 : decode cX1_readMessage 18 = .ok (.aload_n 0, 1) := by decide +kernel
theorem dX1_readMessage_19 : decode cX1_readMessage 19 = .ok (.aload_n 0, 1) := by decide +kernel
theorem dX1_readMessage_20 : decode cX1_readMessage 20 = .ok (.getfield 26, 3) := by decide +kernel
theorem dX1_readMessage_23 : decode cX1_readMessage 23 = .ok (.iconst 0, 1) := by decide +kernel
theorem dX1_readMessage_24 : decode cX1_readMessage 24 = .ok (.invokevirtual 122, 3) := by decide +kernel
theorem dX1_readMessage_27 : decode cX1_readMessage 27 = .ok (.return_, 1) := by decide +kernel
theorem dX1_unlockText_0 : decode cX1_unlockText 0 = .ok (.aload_n 0, 1) := by decide +kernel
theorem dX1_unlockText_1 : decode cX1_unlockText 1 = .ok (.getfield 31, 3) := by decide +kernel
theorem dX1_unlockText_4 : decode cX1_unlockText 4 = .ok (.iconst 0, 1) := by decide +kernel
theorem dX1_unlockText_5 : decode cX1_unlockText 5 = .ok (.aaload, 1) := by decide +kernel
theorem dX1_unlockText_6 : decode cX1_unlockText 6 = .ok (.astore 4, 2) := by decide +kernel
theorem dX1_unlockText_8 : decode cX1_unlockText 8 = .ok (.aload_n 0, 1) := by decide +kernel
theorem dX1_unlockText_9 : decode cX1_unlockText 9 = .ok (.getfield 34, 3) := by decide +kernel
theorem dX1_unlockText_12 : decode cX1_unlockText 12 = .ok (.iconst 0, 1) := by decide +kernel
theorem dX1_unlockText_13 : decode cX1_unlockText 13 = .ok (.invokestatic 126, 3) := by decide +kernel
theorem dX1_unlockText_16 : decode cX1_unlockText 16 = .ok (.iconst 0, 1) := by decide +kernel
theorem dX1_unlockText_17 : decode cX1_unlockText 17 = .ok (.istore 5, 2) := by decide +kernel
theorem dX1_unlockText_19 : decode cX1_unlockText 19 = .ok (.iload 5, 2) := by decide +kernel
theorem dX1_unlockText_21 : decode cX1_unlockText 21 = .ok (.aload_n 1, 1) := by decide +kernel
theorem dX1_unlockText_22 : decode cX1_unlockText 22 = .ok (.getfield 58, 3) := by decide +kernel
theorem dX1_unlockText_25 : decode cX1_unlockText 25 = .ok (.if_icmp .ge 56, 3) := by decide +kernel
theorem dX1_unlockText_28 : decode cX1_unlockText 28 = .ok (.aload 4, 2) := by decide +kernel
theorem dX1_unlockText_30 : decode cX1_unlockText 30 = .ok (.aload_n 3, 1) := by decide +kernel
theorem dX1_unlockText_31 : decode cX1_unlockText 31 = .ok (.bipush 32, 2) := by decide +kernel
theorem dX1_unlockText_33 : decode cX1_unlockText 33 = .ok (.aload_n 1, 1) := by decide +kernel
theorem dX1_unlockText_34 : decode cX1_unlockText 34 = .ok (.getfield 132, 3) := by decide +kernel
theorem dX1_unlockText_37 : decode cX1_unlockText 37 = .ok (.imul, 1) := by decide +kernel
theorem dX1_unlockText_38 : decode cX1_unlockText 38 = .ok (.iload 5, 2) := by decide +kernel
theorem dX1_unlockText_40 : decode cX1_unlockText 40 = .ok (.imul, 1) := by decide +kernel
theorem dX1_unlockText_41 : decode cX1_unlockText 41 = .ok (.aload_n 1, 1) := by decide +kernel
theorem dX1_unlockText_42 : decode cX1_unlockText 42 = .ok (.getfield 132, 3) := by decide +kernel
theorem dX1_unlockText_45 : decode cX1_unlockText 45 = .ok (.invokestatic 135, 3) := by decide +kernel
theorem dX1_unlockText_48 : decode cX1_unlockText 48 = .ok (.aload 4, 2) := by decide +kernel
theorem dX1_unlockText_50 : decode cX1_unlockText 50 = .ok (.invokestatic 92, 3) := by decide +kernel
theorem dX1_unlockText_53 : decode cX1_unlockText 53 = .ok (.aload_n 0, 1) := by decide +kernel
theorem dX1_unlockText_54 : decode cX1_unlockText 54 = .ok (.getfield 38, 3) := by decide +kernel
theorem dX1_unlockText_57 : decode cX1_unlockText 57 = .ok (.bipush 12, 2) := by decide +kernel
theorem dX1_unlockText_59 : decode cX1_unlockText 59 = .ok (.aload_n 2, 1) := by decide +kernel
theorem dX1_unlockText_60 : decode cX1_unlockText 60 = .ok (.sipush 384, 3) := by decide +kernel
theorem dX1_unlockText_63 : decode cX1_unlockText 63 = .ok (.iload 5, 2) := by decide +kernel
theorem dX1_unlockText_65 : decode cX1_unlockText 65 = .ok (.imul, 1) := by decide +kernel
theorem dX1_unlockText_66 : decode cX1_unlockText 66 = .ok (.invokestatic 139, 3) := by decide +kernel
theorem dX1_unlockText_69 : decode cX1_unlockText 69 = .ok (.aload_n 0, 1) := by decide +kernel
theorem dX1_unlockText_70 : decode cX1_unlockText 70 = .ok (.aload 4, 2) := by decide +kernel
theorem dX1_unlockText_72 : decode cX1_unlockText 72 = .ok (.invokevirtual 102, 3) := by decide +kernel
theorem dX1_unlockText_75 : decode cX1_unlockText 75 = .ok (.iinc 5 1, 3) := by decide +kernel
theorem dX1_unlockText_78 : decode cX1_unlockText 78 = .ok (.goto (-59), 3) := by decide +kernel
theorem dX1_unlockText_81 : decode cX1_unlockText 81 = .ok (.aload_n 0, 1) := by decide +kernel
theorem dX1_unlockText_82 : decode cX1_unlockText 82 = .ok (.getfield 34, 3) := by decide +kernel
theorem dX1_unlockText_85 : decode cX1_unlockText 85 = .ok (.invokestatic 143, 3) := by decide +kernel
theorem dX1_unlockText_88 : decode cX1_unlockText 88 = .ok (.aload_n 0, 1) := by decide +kernel
theorem dX1_unlockText_89 : decode cX1_unlockText 89 = .ok (.getfield 38, 3) := by decide +kernel
theorem dX1_unlockText_92 : decode cX1_unlockText 92 = .ok (.aload_n 3, 1) := by decide +kernel
theorem dX1_unlockText_93 : decode cX1_unlockText 93 = .ok (.bipush 32, 2) := by decide +kernel
theorem dX1_unlockText_95 : decode cX1_unlockText 95 = .ok (.aload_n 1, 1) := by decide +kernel
theorem dX1_unlockText_96 : decode cX1_unlockText 96 = .ok (.getfield 132, 3) := by decide +kernel
theorem dX1_unlockText_99 : decode cX1_unlockText 99 = .ok (.imul, 1) := by decide +kernel
theorem dX1_unlockText_100 : decode cX1_unlockText 100 = .ok (.aload_n 1, 1) := by decide +kernel
theorem dX1_unlockText_101 : decode cX1_unlockText 101 = .ok (.getfield 58, 3) := by decide +kernel
theorem dX1_unlockText_104 : decode cX1_unlockText 104 = .ok (.imul, 1) := by decide +kernel
theorem dX1_unlockText_105 : decode cX1_unlockText 105 = .ok (.aload_n 1, 1) := by decide +kernel
theorem dX1_unlockText_106 : decode cX1_unlockText 106 = .ok (.getfield 146, 3) := by decide +kernel
theorem dX1_unlockText_109 : decode cX1_unlockText 109 = .ok (.invokestatic 135, 3) := by decide +kernel
theorem dX1_unlockText_112 : decode cX1_unlockText 112 = .ok (.aload_n 0, 1) := by decide +kernel
theorem dX1_unlockText_113 : decode cX1_unlockText 113 = .ok (.getfield 38, 3) := by decide +kernel
theorem dX1_unlockText_116 : decode cX1_unlockText 116 = .ok (.aload_n 0, 1) := by decide +kernel
theorem dX1_unlockText_117 : decode cX1_unlockText 117 = .ok (.getfield 34, 3) := by decide +kernel
theorem dX1_unlockText_120 : decode cX1_unlockText 120 = .ok (.iconst (-1), 1) := by decide +kernel
theorem dX1_unlockText_121 : decode cX1_unlockText 121 = .ok (.invokestatic 149, 3) := by decide +kernel
theorem dX1_unlockText_124 : decode cX1_unlockText 124 = .ok (.aload_n 0, 1) := by decide +kernel
theorem dX1_unlockText_125 : decode cX1_unlockText 125 = .ok (.getfield 38, 3) := by decide +kernel
theorem dX1_unlockText_128 : decode cX1_unlockText 128 = .ok (.iconst 1, 1) := by decide +kernel
theorem dX1_unlockText_129 : decode cX1_unlockText 129 = .ok (.invokestatic 153, 3) := by decide +kernel
theorem dX1_unlockText_132 : decode cX1_unlockText 132 = .ok (.aload_n 0, 1) := by decide +kernel
theorem dX1_unlockText_133 : decode cX1_unlockText 133 = .ok (.getfield 23, 3) := by decide +kernel
theorem dX1_unlockText_136 : decode cX1_unlockText 136 = .ok (.invokevirtual 74, 3) := by decide +kernel
theorem dX1_unlockText_139 : decode cX1_unlockText 139 = .ok (.aload_n 0, 1) := by decide +kernel
theorem dX1_unlockText_140 : decode cX1_unlockText 140 = .ok (.getfield 38, 3) := by decide +kernel
theorem dX1_unlockText_143 : decode cX1_unlockText 143 = .ok (.iconst 1, 1) := by decide +kernel
theorem dX1_unlockText_144 : decode cX1_unlockText 144 = .ok (.aload_n 0, 1) := by decide +kernel
theorem dX1_unlockText_145 : decode cX1_unlockText 145 = .ok (.getfield 23, 3) := by decide +kernel
theorem dX1_unlockText_148 : decode cX1_unlockText 148 = .ok (.invokestatic 77, 3) := by decide +kernel
theorem dX1_unlockText_151 : decode cX1_unlockText 151 = .ok (.aload_n 0, 1) := by decide +kernel
theorem dX1_unlockText_152 : decode cX1_unlockText 152 = .ok (.aload_n 2, 1) := by decide +kernel
theorem dX1_unlockText_153 : decode cX1_unlockText 153 = .ok (.aload_n 1, 1) := by decide +kernel
theorem dX1_unlockText_154 : decode cX1_unlockText 154 = .ok (.invokevirtual 108, 3) := by decide +kernel
theorem dX1_unlockText_157 : decode cX1_unlockText 157 = .ok (.aload_n 1, 1) := by decide +kernel
theorem dX1_unlockText_158 : decode cX1_unlockText 158 = .ok (.invokevirtual 112, 3) := by decide +kernel
theorem dX1_unlockText_161 : decode cX1_unlockText 161 = .ok (.iadd, 1) := by decide +kernel
theorem dX1_unlockText_162 : decode cX1_unlockText 162 = .ok (.invokevirtual 122, 3) := by decide +kernel
theorem dX1_unlockText_165 : decode cX1_unlockText 165 = .ok (.return_, 1) := by decide +kernel
theorem dX1_tellRefusal_0 : decode cX1_tellRefusal 0 = .ok (.aload_n 0, 1) := by decide +kernel
theorem dX1_tellRefusal_1 : decode cX1_tellRefusal 1 = .ok (.getfield 41, 3) := by decide +kernel
theorem dX1_tellRefusal_4 : decode cX1_tellRefusal 4 = .ok (.iconst 3, 1) := by decide +kernel
theorem dX1_tellRefusal_5 : decode cX1_tellRefusal 5 = .ok (.invokevirtual 49, 3) := by decide +kernel
theorem dX1_tellRefusal_8 : decode cX1_tellRefusal 8 = .ok (.aload_n 0, 1) := by decide +kernel
theorem dX1_tellRefusal_9 : decode cX1_tellRefusal 9 = .ok (.getfield 41, 3) := by decide +kernel
theorem dX1_tellRefusal_12 : decode cX1_tellRefusal 12 = .ok (.aload_n 2, 1) := by decide +kernel
theorem dX1_tellRefusal_13 : decode cX1_tellRefusal 13 = .ok (.aload_n 1, 1) := by decide +kernel
theorem dX1_tellRefusal_14 : decode cX1_tellRefusal 14 = .ok (.invokevirtual 156, 3) := by decide +kernel
theorem dX1_tellRefusal_17 : decode cX1_tellRefusal 17 = .ok (.bipush 32, 2) := by decide +kernel
theorem dX1_tellRefusal_19 : decode cX1_tellRefusal 19 = .ok (.isub, 1) := by decide +kernel
theorem dX1_tellRefusal_20 : decode cX1_tellRefusal 20 = .ok (.bipush 32, 2) := by decide +kernel
theorem dX1_tellRefusal_22 : decode cX1_tellRefusal 22 = .ok (.invokevirtual 54, 3) := by decide +kernel
theorem dX1_tellRefusal_25 : decode cX1_tellRefusal 25 = .ok (.aload_n 0, 1) := by decide +kernel
theorem dX1_tellRefusal_26 : decode cX1_tellRefusal 26 = .ok (.getfield 41, 3) := by decide +kernel
theorem dX1_tellRefusal_29 : decode cX1_tellRefusal 29 = .ok (.aload_n 3, 1) := by decide +kernel
theorem dX1_tellRefusal_30 : decode cX1_tellRefusal 30 = .ok (.iconst 0, 1) := by decide +kernel
theorem dX1_tellRefusal_31 : decode cX1_tellRefusal 31 = .ok (.aload_n 1, 1) := by decide +kernel
theorem dX1_tellRefusal_32 : decode cX1_tellRefusal 32 = .ok (.invokevirtual 159, 3) := by decide +kernel
theorem dX1_tellRefusal_35 : decode cX1_tellRefusal 35 = .ok (.invokevirtual 54, 3) := by decide +kernel
theorem dX1_tellRefusal_38 : decode cX1_tellRefusal 38 = .ok (.aload_n 0, 1) := by decide +kernel
theorem dX1_tellRefusal_39 : decode cX1_tellRefusal 39 = .ok (.getfield 41, 3) := by decide +kernel
theorem dX1_tellRefusal_42 : decode cX1_tellRefusal 42 = .ok (.invokevirtual 162, 3) := by decide +kernel
theorem dX1_tellRefusal_45 : decode cX1_tellRefusal 45 = .ok (.aload_n 0, 1) := by decide +kernel
theorem dX1_tellRefusal_46 : decode cX1_tellRefusal 46 = .ok (.getfield 41, 3) := by decide +kernel
theorem dX1_tellRefusal_49 : decode cX1_tellRefusal 49 = .ok (.aload 4, 2) := by decide +kernel
theorem dX1_tellRefusal_51 : decode cX1_tellRefusal 51 = .ok (.bipush 32, 2) := by decide +kernel
theorem dX1_tellRefusal_53 : decode cX1_tellRefusal 53 = .ok (.invokevirtual 165, 3) := by decide +kernel
theorem dX1_tellRefusal_56 : decode cX1_tellRefusal 56 = .ok (.return_, 1) := by decide +kernel
theorem dX1_hashIsTrue_0 : decode cX1_hashIsTrue 0 = .ok (.aload_n 0, 1) := by decide +kernel
theorem dX1_hashIsTrue_1 : decode cX1_hashIsTrue 1 = .ok (.aload_n 2, 1) := by decide +kernel
theorem dX1_hashIsTrue_2 : decode cX1_hashIsTrue 2 = .ok (.aload_n 1, 1) := by decide +kernel
theorem dX1_hashIsTrue_3 : decode cX1_hashIsTrue 3 = .ok (.invokevirtual 108, 3) := by decide +kernel
theorem dX1_hashIsTrue_6 : decode cX1_hashIsTrue 6 = .ok (.aload_n 1, 1) := by decide +kernel
theorem dX1_hashIsTrue_7 : decode cX1_hashIsTrue 7 = .ok (.invokevirtual 112, 3) := by decide +kernel
theorem dX1_hashIsTrue_10 : decode cX1_hashIsTrue 10 = .ok (.invokevirtual 115, 3) := by decide +kernel
theorem dX1_hashIsTrue_13 : decode cX1_hashIsTrue 13 = .ok (.aload_n 0, 1) := by decide +kernel
theorem dX1_hashIsTrue_14 : decode cX1_hashIsTrue 14 = .ok (.getfield 26, 3) := by decide +kernel
theorem dX1_hashIsTrue_17 : decode cX1_hashIsTrue 17 = .ok (.iconst 0, 1) := by decide +kernel
theorem dX1_hashIsTrue_18 : decode cX1_hashIsTrue 18 = .ok (.aload_n 2, 1) := by decide +kernel
theorem dX1_hashIsTrue_19 : decode cX1_hashIsTrue 19 = .ok (.aload_n 1, 1) := by decide +kernel
theorem dX1_hashIsTrue_20 : decode cX1_hashIsTrue 20 = .ok (.invokevirtual 108, 3) := by decide +kernel
theorem dX1_hashIsTrue_23 : decode cX1_hashIsTrue 23 = .ok (.aload_n 1, 1) := by decide +kernel
theorem dX1_hashIsTrue_24 : decode cX1_hashIsTrue 24 = .ok (.invokevirtual 112, 3) := by decide +kernel
theorem dX1_hashIsTrue_27 : decode cX1_hashIsTrue 27 = .ok (.iadd, 1) := by decide +kernel
theorem dX1_hashIsTrue_28 : decode cX1_hashIsTrue 28 = .ok (.bipush 32, 2) := by decide +kernel
theorem dX1_hashIsTrue_30 : decode cX1_hashIsTrue 30 = .ok (.invokevirtual 168, 3) := by decide +kernel
theorem dX1_hashIsTrue_33 : decode cX1_hashIsTrue 33 = .ok (.ireturn, 1) := by decide +kernel
theorem dX1_lockMessage_0 : decode cX1_lockMessage 0 = .ok (.aload_n 0, 1) := by decide +kernel
theorem dX1_lockMessage_1 : decode cX1_lockMessage 1 = .ok (.aload_n 1, 1) := by decide +kernel
theorem dX1_lockMessage_2 : decode cX1_lockMessage 2 = .ok (.invokevirtual 70, 3) := by decide +kernel
theorem dX1_lockMessage_5 : decode cX1_lockMessage 5 = .ok (.aload_n 0, 1) := by decide +kernel
theorem dX1_lockMessage_6 : decode cX1_lockMessage 6 = .ok (.getfield 14, 3) := by decide +kernel
theorem dX1_lockMessage_9 : decode cX1_lockMessage 9 = .ok (.invokevirtual 74, 3) := by decide +kernel
theorem dX1_lockMessage_12 : decode cX1_lockMessage 12 = .ok (.iconst 0, 1) := by decide +kernel
theorem dX1_lockMessage_13 : decode cX1_lockMessage 13 = .ok (.istore 5, 2) := by decide +kernel
theorem dX1_lockMessage_15 : decode cX1_lockMessage 15 = .ok (.iload 5, 2) := by decide +kernel
theorem dX1_lockMessage_17 : decode cX1_lockMessage 17 = .ok (.aload_n 1, 1) := by decide +kernel
theorem dX1_lockMessage_18 : decode cX1_lockMessage 18 = .ok (.getfield 58, 3) := by decide +kernel
theorem dX1_lockMessage_21 : decode cX1_lockMessage 21 = .ok (.if_icmp .ge 132, 3) := by decide +kernel
theorem dX1_lockMessage_24 : decode cX1_lockMessage 24 = .ok (.aload_n 0, 1) := by decide +kernel
theorem dX1_lockMessage_25 : decode cX1_lockMessage 25 = .ok (.getfield 34, 3) := by decide +kernel
theorem dX1_lockMessage_28 : decode cX1_lockMessage 28 = .ok (.iconst 0, 1) := by decide +kernel
theorem dX1_lockMessage_29 : decode cX1_lockMessage 29 = .ok (.invokestatic 126, 3) := by decide +kernel
theorem dX1_lockMessage_32 : decode cX1_lockMessage 32 = .ok (.iconst 0, 1) := by decide +kernel
theorem dX1_lockMessage_33 : decode cX1_lockMessage 33 = .ok (.istore 6, 2) := by decide +kernel
theorem dX1_lockMessage_35 : decode cX1_lockMessage 35 = .ok (.iload 6, 2) := by decide +kernel
theorem dX1_lockMessage_37 : decode cX1_lockMessage 37 = .ok (.aload_n 1, 1) := by decide +kernel
theorem dX1_lockMessage_38 : decode cX1_lockMessage 38 = .ok (.getfield 58, 3) := by decide +kernel
theorem dX1_lockMessage_41 : decode cX1_lockMessage 41 = .ok (.if_icmp .ge 51, 3) := by decide +kernel
theorem dX1_lockMessage_44 : decode cX1_lockMessage 44 = .ok (.aload_n 0, 1) := by decide +kernel
theorem dX1_lockMessage_45 : decode cX1_lockMessage 45 = .ok (.getfield 45, 3) := by decide +kernel
theorem dX1_lockMessage_48 : decode cX1_lockMessage 48 = .ok (.aload_n 0, 1) := by decide +kernel
theorem dX1_lockMessage_49 : decode cX1_lockMessage 49 = .ok (.getfield 38, 3) := by decide +kernel
theorem dX1_lockMessage_52 : decode cX1_lockMessage 52 = .ok (.aload_n 2, 1) := by decide +kernel
theorem dX1_lockMessage_53 : decode cX1_lockMessage 53 = .ok (.iload_n 3, 1) := by decide +kernel
theorem dX1_lockMessage_54 : decode cX1_lockMessage 54 = .ok (.aload_n 1, 1) := by decide +kernel
theorem dX1_lockMessage_55 : decode cX1_lockMessage 55 = .ok (.invokevirtual 108, 3) := by decide +kernel
theorem dX1_lockMessage_58 : decode cX1_lockMessage 58 = .ok (.iadd, 1) := by decide +kernel
theorem dX1_lockMessage_59 : decode cX1_lockMessage 59 = .ok (.iload 5, 2) := by decide +kernel
theorem dX1_lockMessage_61 : decode cX1_lockMessage 61 = .ok (.iload 6, 2) := by decide +kernel
theorem dX1_lockMessage_63 : decode cX1_lockMessage 63 = .ok (.iload 4, 2) := by decide +kernel
theorem dX1_lockMessage_65 : decode cX1_lockMessage 65 = .ok (.invokevirtual 98, 3) := by decide +kernel
theorem dX1_lockMessage_68 : decode cX1_lockMessage 68 = .ok (.bipush (-2), 2) := by decide +kernel
theorem dX1_lockMessage_70 : decode cX1_lockMessage 70 = .ok (.if_icmp .ne 5, 3) := by decide +kernel
theorem dX1_lockMessage_73 : decode cX1_lockMessage 73 = .ok (.iconst 0, 1) := by decide +kernel
theorem dX1_lockMessage_74 : decode cX1_lockMessage 74 = .ok (.ireturn, 1) := by decide +kernel
theorem dX1_lockMessage_75 : decode cX1_lockMessage 75 = .ok (.aload_n 0, 1) := by decide +kernel
theorem dX1_lockMessage_76 : decode cX1_lockMessage 76 = .ok (.aload_n 0, 1) := by decide +kernel
theorem dX1_lockMessage_77 : decode cX1_lockMessage 77 = .ok (.getfield 31, 3) := by decide +kernel
theorem dX1_lockMessage_80 : decode cX1_lockMessage 80 = .ok (.iload 6, 2) := by decide +kernel
theorem dX1_lockMessage_82 : decode cX1_lockMessage 82 = .ok (.aaload, 1) := by decide +kernel
theorem dX1_lockMessage_83 : decode cX1_lockMessage 83 = .ok (.invokevirtual 102, 3) := by decide +kernel
theorem dX1_lockMessage_86 : decode cX1_lockMessage 86 = .ok (.iinc 6 1, 3) := by decide +kernel
theorem dX1_lockMessage_89 : decode cX1_lockMessage 89 = .ok (.goto (-54), 3) := by decide +kernel
theorem dX1_lockMessage_92 : decode cX1_lockMessage 92 = .ok (.aload_n 0, 1) := by decide +kernel
theorem dX1_lockMessage_93 : decode cX1_lockMessage 93 = .ok (.getfield 34, 3) := by decide +kernel
theorem dX1_lockMessage_96 : decode cX1_lockMessage 96 = .ok (.invokestatic 143, 3) := by decide +kernel
theorem dX1_lockMessage_99 : decode cX1_lockMessage 99 = .ok (.aload_n 0, 1) := by decide +kernel
theorem dX1_lockMessage_100 : decode cX1_lockMessage 100 = .ok (.getfield 45, 3) := by decide +kernel
theorem dX1_lockMessage_103 : decode cX1_lockMessage 103 = .ok (.aload_n 0, 1) := by decide +kernel
theorem dX1_lockMessage_104 : decode cX1_lockMessage 104 = .ok (.getfield 38, 3) := by decide +kernel
theorem dX1_lockMessage_107 : decode cX1_lockMessage 107 = .ok (.aload_n 0, 1) := by decide +kernel
theorem dX1_lockMessage_108 : decode cX1_lockMessage 108 = .ok (.getfield 20, 3) := by decide +kernel
theorem dX1_lockMessage_111 : decode cX1_lockMessage 111 = .ok (.bipush 32, 2) := by decide +kernel
theorem dX1_lockMessage_113 : decode cX1_lockMessage 113 = .ok (.aload_n 1, 1) := by decide +kernel
theorem dX1_lockMessage_114 : decode cX1_lockMessage 114 = .ok (.getfield 172, 3) := by decide +kernel
theorem dX1_lockMessage_117 : decode cX1_lockMessage 117 = .ok (.aload_n 1, 1) := by decide +kernel
theorem dX1_lockMessage_118 : decode cX1_lockMessage 118 = .ok (.getfield 58, 3) := by decide +kernel
theorem dX1_lockMessage_121 : decode cX1_lockMessage 121 = .ok (.iload 5, 2) := by decide +kernel
theorem dX1_lockMessage_123 : decode cX1_lockMessage 123 = .ok (.iadd, 1) := by decide +kernel
theorem dX1_lockMessage_124 : decode cX1_lockMessage 124 = .ok (.invokevirtual 86, 3) := by decide +kernel
theorem dX1_lockMessage_127 : decode cX1_lockMessage 127 = .ok (.aload_n 0, 1) := by decide +kernel
theorem dX1_lockMessage_128 : decode cX1_lockMessage 128 = .ok (.getfield 34, 3) := by decide +kernel
theorem dX1_lockMessage_131 : decode cX1_lockMessage 131 = .ok (.aload_n 0, 1) := by decide +kernel
theorem dX1_lockMessage_132 : decode cX1_lockMessage 132 = .ok (.getfield 38, 3) := by decide +kernel
theorem dX1_lockMessage_135 : decode cX1_lockMessage 135 = .ok (.iconst 1, 1) := by decide +kernel
theorem dX1_lockMessage_136 : decode cX1_lockMessage 136 = .ok (.invokestatic 149, 3) := by decide +kernel
theorem dX1_lockMessage_139 : decode cX1_lockMessage 139 = .ok (.aload_n 0, 1) := by decide +kernel
theorem dX1_lockMessage_140 : decode cX1_lockMessage 140 = .ok (.aload_n 1, 1) := by decide +kernel
theorem dX1_lockMessage_141 : decode cX1_lockMessage 141 = .ok (.getfield 132, 3) := by decide +kernel
theorem dX1_lockMessage_144 : decode cX1_lockMessage 144 = .ok (.invokevirtual 175, 3) := by decide +kernel
theorem dX1_lockMessage_147 : decode cX1_lockMessage 147 = .ok (.iinc 5 1, 3) := by decide +kernel
theorem dX1_lockMessage_150 : decode cX1_lockMessage 150 = .ok (.goto (-135), 3) := by decide +kernel
theorem dX1_lockMessage_153 : decode cX1_lockMessage 153 = .ok (.aload_n 0, 1) := by decide +kernel
theorem dX1_lockMessage_154 : decode cX1_lockMessage 154 = .ok (.aload_n 1, 1) := by decide +kernel
theorem dX1_lockMessage_155 : decode cX1_lockMessage 155 = .ok (.aload_n 2, 1) := by decide +kernel
theorem dX1_lockMessage_156 : decode cX1_lockMessage 156 = .ok (.iload_n 3, 1) := by decide +kernel
theorem dX1_lockMessage_157 : decode cX1_lockMessage 157 = .ok (.invokevirtual 178, 3) := by decide +kernel
theorem dX1_lockMessage_160 : decode cX1_lockMessage 160 = .ok (.iconst 1, 1) := by decide +kernel
theorem dX1_lockMessage_161 : decode cX1_lockMessage 161 = .ok (.ireturn, 1) := by decide +kernel
theorem dX1_lockLast_0 : decode cX1_lockLast 0 = .ok (.aload_n 0, 1) := by decide +kernel
theorem dX1_lockLast_1 : decode cX1_lockLast 1 = .ok (.getfield 34, 3) := by decide +kernel
theorem dX1_lockLast_4 : decode cX1_lockLast 4 = .ok (.iconst 0, 1) := by decide +kernel
theorem dX1_lockLast_5 : decode cX1_lockLast 5 = .ok (.invokestatic 126, 3) := by decide +kernel
theorem dX1_lockLast_8 : decode cX1_lockLast 8 = .ok (.iconst 0, 1) := by decide +kernel
theorem dX1_lockLast_9 : decode cX1_lockLast 9 = .ok (.istore 4, 2) := by decide +kernel
theorem dX1_lockLast_11 : decode cX1_lockLast 11 = .ok (.iload 4, 2) := by decide +kernel
theorem dX1_lockLast_13 : decode cX1_lockLast 13 = .ok (.aload_n 1, 1) := by decide +kernel
theorem dX1_lockLast_14 : decode cX1_lockLast 14 = .ok (.getfield 58, 3) := by decide +kernel
theorem dX1_lockLast_17 : decode cX1_lockLast 17 = .ok (.if_icmp .ge 38, 3) := by decide +kernel
theorem dX1_lockLast_20 : decode cX1_lockLast 20 = .ok (.aload_n 0, 1) := by decide +kernel
theorem dX1_lockLast_21 : decode cX1_lockLast 21 = .ok (.getfield 38, 3) := by decide +kernel
theorem dX1_lockLast_24 : decode cX1_lockLast 24 = .ok (.bipush 12, 2) := by decide +kernel
theorem dX1_lockLast_26 : decode cX1_lockLast 26 = .ok (.aload_n 2, 1) := by decide +kernel
theorem dX1_lockLast_27 : decode cX1_lockLast 27 = .ok (.iload_n 3, 1) := by decide +kernel
theorem dX1_lockLast_28 : decode cX1_lockLast 28 = .ok (.sipush 384, 3) := by decide +kernel
theorem dX1_lockLast_31 : decode cX1_lockLast 31 = .ok (.iload 4, 2) := by decide +kernel
theorem dX1_lockLast_33 : decode cX1_lockLast 33 = .ok (.imul, 1) := by decide +kernel
theorem dX1_lockLast_34 : decode cX1_lockLast 34 = .ok (.iadd, 1) := by decide +kernel
theorem dX1_lockLast_35 : decode cX1_lockLast 35 = .ok (.invokestatic 139, 3) := by decide +kernel
theorem dX1_lockLast_38 : decode cX1_lockLast 38 = .ok (.aload_n 0, 1) := by decide +kernel
theorem dX1_lockLast_39 : decode cX1_lockLast 39 = .ok (.aload_n 0, 1) := by decide +kernel
theorem dX1_lockLast_40 : decode cX1_lockLast 40 = .ok (.getfield 31, 3) := by decide +kernel
theorem dX1_lockLast_43 : decode cX1_lockLast 43 = .ok (.iload 4, 2) := by decide +kernel
theorem dX1_lockLast_45 : decode cX1_lockLast 45 = .ok (.aaload, 1) := by decide +kernel
theorem dX1_lockLast_46 : decode cX1_lockLast 46 = .ok (.invokevirtual 102, 3) := by decide +kernel
theorem dX1_lockLast_49 : decode cX1_lockLast 49 = .ok (.iinc 4 1, 3) := by decide +kernel
theorem dX1_lockLast_52 : decode cX1_lockLast 52 = .ok (.goto (-41), 3) := by decide +kernel
theorem dX1_lockLast_55 : decode cX1_lockLast 55 = .ok (.aload_n 0, 1) := by decide +kernel
theorem dX1_lockLast_56 : decode cX1_lockLast 56 = .ok (.getfield 34, 3) := by decide +kernel
theorem dX1_lockLast_59 : decode cX1_lockLast 59 = .ok (.invokestatic 143, 3) := by decide +kernel
theorem dX1_lockLast_62 : decode cX1_lockLast 62 = .ok (.aload_n 0, 1) := by decide +kernel
theorem dX1_lockLast_63 : decode cX1_lockLast 63 = .ok (.getfield 45, 3) := by decide +kernel
theorem dX1_lockLast_66 : decode cX1_lockLast 66 = .ok (.aload_n 0, 1) := by decide +kernel
theorem dX1_lockLast_67 : decode cX1_lockLast 67 = .ok (.getfield 38, 3) := by decide +kernel
theorem dX1_lockLast_70 : decode cX1_lockLast 70 = .ok (.aload_n 0, 1) := by decide +kernel
theorem dX1_lockLast_71 : decode cX1_lockLast 71 = .ok (.getfield 20, 3) := by decide +kernel
theorem dX1_lockLast_74 : decode cX1_lockLast 74 = .ok (.bipush 32, 2) := by decide +kernel
theorem dX1_lockLast_76 : decode cX1_lockLast 76 = .ok (.aload_n 1, 1) := by decide +kernel
theorem dX1_lockLast_77 : decode cX1_lockLast 77 = .ok (.getfield 172, 3) := by decide +kernel
theorem dX1_lockLast_80 : decode cX1_lockLast 80 = .ok (.iconst 2, 1) := by decide +kernel
theorem dX1_lockLast_81 : decode cX1_lockLast 81 = .ok (.aload_n 1, 1) := by decide +kernel
theorem dX1_lockLast_82 : decode cX1_lockLast 82 = .ok (.getfield 58, 3) := by decide +kernel
theorem dX1_lockLast_85 : decode cX1_lockLast 85 = .ok (.imul, 1) := by decide +kernel
theorem dX1_lockLast_86 : decode cX1_lockLast 86 = .ok (.invokevirtual 86, 3) := by decide +kernel
theorem dX1_lockLast_89 : decode cX1_lockLast 89 = .ok (.aload_n 0, 1) := by decide +kernel
theorem dX1_lockLast_90 : decode cX1_lockLast 90 = .ok (.getfield 34, 3) := by decide +kernel
theorem dX1_lockLast_93 : decode cX1_lockLast 93 = .ok (.aload_n 0, 1) := by decide +kernel
theorem dX1_lockLast_94 : decode cX1_lockLast 94 = .ok (.getfield 38, 3) := by decide +kernel
theorem dX1_lockLast_97 : decode cX1_lockLast 97 = .ok (.iconst 1, 1) := by decide +kernel
theorem dX1_lockLast_98 : decode cX1_lockLast 98 = .ok (.invokestatic 149, 3) := by decide +kernel
theorem dX1_lockLast_101 : decode cX1_lockLast 101 = .ok (.aload_n 0, 1) := by decide +kernel
theorem dX1_lockLast_102 : decode cX1_lockLast 102 = .ok (.getfield 38, 3) := by decide +kernel
theorem dX1_lockLast_105 : decode cX1_lockLast 105 = .ok (.aload_n 0, 1) := by decide +kernel
theorem dX1_lockLast_106 : decode cX1_lockLast 106 = .ok (.getfield 23, 3) := by decide +kernel
theorem dX1_lockLast_109 : decode cX1_lockLast 109 = .ok (.iconst 0, 1) := by decide +kernel
theorem dX1_lockLast_110 : decode cX1_lockLast 110 = .ok (.iconst 1, 1) := by decide +kernel
theorem dX1_lockLast_111 : decode cX1_lockLast 111 = .ok (.invokestatic 135, 3) := by decide +kernel
theorem dX1_lockLast_114 : decode cX1_lockLast 114 = .ok (.aload_n 0, 1) := by decide +kernel
theorem dX1_lockLast_115 : decode cX1_lockLast 115 = .ok (.getfield 34, 3) := by decide +kernel
theorem dX1_lockLast_118 : decode cX1_lockLast 118 = .ok (.aload_n 0, 1) := by decide +kernel
theorem dX1_lockLast_119 : decode cX1_lockLast 119 = .ok (.getfield 38, 3) := by decide +kernel
theorem dX1_lockLast_122 : decode cX1_lockLast 122 = .ok (.iconst 1, 1) := by decide +kernel
theorem dX1_lockLast_123 : decode cX1_lockLast 123 = .ok (.invokestatic 149, 3) := by decide +kernel
theorem dX1_lockLast_126 : decode cX1_lockLast 126 = .ok (.aload_n 0, 1) := by decide +kernel
theorem dX1_lockLast_127 : decode cX1_lockLast 127 = .ok (.aload_n 1, 1) := by decide +kernel
theorem dX1_lockLast_128 : decode cX1_lockLast 128 = .ok (.getfield 146, 3) := by decide +kernel
theorem dX1_lockLast_131 : decode cX1_lockLast 131 = .ok (.invokevirtual 175, 3) := by decide +kernel
theorem dX1_lockLast_134 : decode cX1_lockLast 134 = .ok (.return_, 1) := by decide +kernel
theorem dX1_drawVector_0 : decode cX1_drawVector 0 = .ok (.iconst 0, 1) := by decide +kernel
theorem dX1_drawVector_1 : decode cX1_drawVector 1 = .ok (.istore_n 2, 1) := by decide +kernel
theorem dX1_drawVector_2 : decode cX1_drawVector 2 = .ok (.iload_n 2, 1) := by decide +kernel
theorem dX1_drawVector_3 : decode cX1_drawVector 3 = .ok (.aload_n 1, 1) := by decide +kernel
theorem dX1_drawVector_4 : decode cX1_drawVector 4 = .ok (.getfield 58, 3) := by decide +kernel
theorem dX1_drawVector_7 : decode cX1_drawVector 7 = .ok (.if_icmp .ge 42, 3) := by decide +kernel
theorem dX1_drawVector_10 : decode cX1_drawVector 10 = .ok (.aload_n 0, 1) := by decide +kernel
theorem dX1_drawVector_11 : decode cX1_drawVector 11 = .ok (.getfield 45, 3) := by decide +kernel
theorem dX1_drawVector_14 : decode cX1_drawVector 14 = .ok (.aload_n 0, 1) := by decide +kernel
theorem dX1_drawVector_15 : decode cX1_drawVector 15 = .ok (.getfield 31, 3) := by decide +kernel
theorem dX1_drawVector_18 : decode cX1_drawVector 18 = .ok (.iload_n 2, 1) := by decide +kernel
theorem dX1_drawVector_19 : decode cX1_drawVector 19 = .ok (.aaload, 1) := by decide +kernel
theorem dX1_drawVector_20 : decode cX1_drawVector 20 = .ok (.aload_n 0, 1) := by decide +kernel
theorem dX1_drawVector_21 : decode cX1_drawVector 21 = .ok (.getfield 20, 3) := by decide +kernel
theorem dX1_drawVector_24 : decode cX1_drawVector 24 = .ok (.bipush 32, 2) := by decide +kernel
theorem dX1_drawVector_26 : decode cX1_drawVector 26 = .ok (.aload_n 1, 1) := by decide +kernel
theorem dX1_drawVector_27 : decode cX1_drawVector 27 = .ok (.getfield 83, 3) := by decide +kernel
theorem dX1_drawVector_30 : decode cX1_drawVector 30 = .ok (.iload_n 2, 1) := by decide +kernel
theorem dX1_drawVector_31 : decode cX1_drawVector 31 = .ok (.invokevirtual 86, 3) := by decide +kernel
theorem dX1_drawVector_34 : decode cX1_drawVector 34 = .ok (.aload_n 0, 1) := by decide +kernel
theorem dX1_drawVector_35 : decode cX1_drawVector 35 = .ok (.getfield 31, 3) := by decide +kernel
theorem dX1_drawVector_38 : decode cX1_drawVector 38 = .ok (.iload_n 2, 1) := by decide +kernel
theorem dX1_drawVector_39 : decode cX1_drawVector 39 = .ok (.aaload, 1) := by decide +kernel
theorem dX1_drawVector_40 : decode cX1_drawVector 40 = .ok (.invokestatic 92, 3) := by decide +kernel
theorem dX1_drawVector_43 : decode cX1_drawVector 43 = .ok (.iinc 2 1, 3) := by decide +kernel
theorem dX1_drawVector_46 : decode cX1_drawVector 46 = .ok (.goto (-44), 3) := by decide +kernel
theorem dX1_drawVector_49 : decode cX1_drawVector 49 = .ok (.return_, 1) := by decide +kernel
theorem dX1_addProduct_0 : decode cX1_addProduct 0 = .ok (.aload_n 0, 1) := by decide +kernel
theorem dX1_addProduct_1 : decode cX1_addProduct 1 = .ok (.getfield 38, 3) := by decide +kernel
theorem dX1_addProduct_4 : decode cX1_addProduct 4 = .ok (.aload_n 1, 1) := by decide +kernel
theorem dX1_addProduct_5 : decode cX1_addProduct 5 = .ok (.aload_n 0, 1) := by decide +kernel
theorem dX1_addProduct_6 : decode cX1_addProduct 6 = .ok (.getfield 38, 3) := by decide +kernel
theorem dX1_addProduct_9 : decode cX1_addProduct 9 = .ok (.invokestatic 182, 3) := by decide +kernel
theorem dX1_addProduct_12 : decode cX1_addProduct 12 = .ok (.aload_n 0, 1) := by decide +kernel
theorem dX1_addProduct_13 : decode cX1_addProduct 13 = .ok (.getfield 34, 3) := by decide +kernel
theorem dX1_addProduct_16 : decode cX1_addProduct 16 = .ok (.aload_n 0, 1) := by decide +kernel
theorem dX1_addProduct_17 : decode cX1_addProduct 17 = .ok (.getfield 38, 3) := by decide +kernel
theorem dX1_addProduct_20 : decode cX1_addProduct 20 = .ok (.iconst 1, 1) := by decide +kernel
theorem dX1_addProduct_21 : decode cX1_addProduct 21 = .ok (.invokestatic 149, 3) := by decide +kernel
theorem dX1_addProduct_24 : decode cX1_addProduct 24 = .ok (.return_, 1) := by decide +kernel
theorem dX1_packCompressed_0 : decode cX1_packCompressed 0 = .ok (.aload_n 0, 1) := by decide +kernel
theorem dX1_packCompressed_1 : decode cX1_packCompressed 1 = .ok (.getfield 34, 3) := by decide +kernel
theorem dX1_packCompressed_4 : decode cX1_packCompressed 4 = .ok (.iload_n 1, 1) := by decide +kernel
theorem dX1_packCompressed_5 : decode cX1_packCompressed 5 = .ok (.invokestatic 153, 3) := by decide +kernel
theorem dX1_packCompressed_8 : decode cX1_packCompressed 8 = .ok (.aload_n 0, 1) := by decide +kernel
theorem dX1_packCompressed_9 : decode cX1_packCompressed 9 = .ok (.getfield 34, 3) := by decide +kernel
theorem dX1_packCompressed_12 : decode cX1_packCompressed 12 = .ok (.iload_n 1, 1) := by decide +kernel
theorem dX1_packCompressed_13 : decode cX1_packCompressed 13 = .ok (.aload_n 0, 1) := by decide +kernel
theorem dX1_packCompressed_14 : decode cX1_packCompressed 14 = .ok (.getfield 14, 3) := by decide +kernel
theorem dX1_packCompressed_17 : decode cX1_packCompressed 17 = .ok (.invokestatic 77, 3) := by decide +kernel
theorem dX1_packCompressed_20 : decode cX1_packCompressed 20 = .ok (.return_, 1) := by decide +kernel
theorem dX1_unpackStretched_0 : decode cX1_unpackStretched 0 = .ok (.aload_n 0, 1) := by decide +kernel
theorem dX1_unpackStretched_1 : decode cX1_unpackStretched 1 = .ok (.iload_n 3, 1) := by decide +kernel
theorem dX1_unpackStretched_2 : decode cX1_unpackStretched 2 = .ok (.aload_n 1, 1) := by decide +kernel
theorem dX1_unpackStretched_3 : decode cX1_unpackStretched 3 = .ok (.iload_n 2, 1) := by decide +kernel
theorem dX1_unpackStretched_4 : decode cX1_unpackStretched 4 = .ok (.invokestatic 139, 3) := by decide +kernel
theorem dX1_unpackStretched_7 : decode cX1_unpackStretched 7 = .ok (.aload_n 0, 1) := by decide +kernel
theorem dX1_unpackStretched_8 : decode cX1_unpackStretched 8 = .ok (.iload_n 3, 1) := by decide +kernel
theorem dX1_unpackStretched_9 : decode cX1_unpackStretched 9 = .ok (.invokestatic 186, 3) := by decide +kernel
theorem dX1_unpackStretched_12 : decode cX1_unpackStretched 12 = .ok (.return_, 1) := by decide +kernel
theorem dX1_seedFromMessage_0 : decode cX1_seedFromMessage 0 = .ok (.aload_n 0, 1) := by decide +kernel
theorem dX1_seedFromMessage_1 : decode cX1_seedFromMessage 1 = .ok (.getfield 41, 3) := by decide +kernel
theorem dX1_seedFromMessage_4 : decode cX1_seedFromMessage 4 = .ok (.iconst 1, 1) := by decide +kernel
theorem dX1_seedFromMessage_5 : decode cX1_seedFromMessage 5 = .ok (.invokevirtual 49, 3) := by decide +kernel
theorem dX1_seedFromMessage_8 : decode cX1_seedFromMessage 8 = .ok (.aload_n 0, 1) := by decide +kernel
theorem dX1_seedFromMessage_9 : decode cX1_seedFromMessage 9 = .ok (.getfield 41, 3) := by decide +kernel
theorem dX1_seedFromMessage_12 : decode cX1_seedFromMessage 12 = .ok (.aload_n 0, 1) := by decide +kernel
theorem dX1_seedFromMessage_13 : decode cX1_seedFromMessage 13 = .ok (.getfield 23, 3) := by decide +kernel
theorem dX1_seedFromMessage_16 : decode cX1_seedFromMessage 16 = .ok (.iconst 0, 1) := by decide +kernel
theorem dX1_seedFromMessage_17 : decode cX1_seedFromMessage 17 = .ok (.bipush 32, 2) := by decide +kernel
theorem dX1_seedFromMessage_19 : decode cX1_seedFromMessage 19 = .ok (.invokevirtual 54, 3) := by decide +kernel
theorem dX1_seedFromMessage_22 : decode cX1_seedFromMessage 22 = .ok (.aload_n 0, 1) := by decide +kernel
theorem dX1_seedFromMessage_23 : decode cX1_seedFromMessage 23 = .ok (.getfield 41, 3) := by decide +kernel
theorem dX1_seedFromMessage_26 : decode cX1_seedFromMessage 26 = .ok (.aload_n 1, 1) := by decide +kernel
theorem dX1_seedFromMessage_27 : decode cX1_seedFromMessage 27 = .ok (.iload_n 2, 1) := by decide +kernel
theorem dX1_seedFromMessage_28 : decode cX1_seedFromMessage 28 = .ok (.bipush 32, 2) := by decide +kernel
theorem dX1_seedFromMessage_30 : decode cX1_seedFromMessage 30 = .ok (.invokevirtual 54, 3) := by decide +kernel
theorem dX1_seedFromMessage_33 : decode cX1_seedFromMessage 33 = .ok (.aload_n 0, 1) := by decide +kernel
theorem dX1_seedFromMessage_34 : decode cX1_seedFromMessage 34 = .ok (.invokevirtual 67, 3) := by decide +kernel
theorem dX1_seedFromMessage_37 : decode cX1_seedFromMessage 37 = .ok (.return_, 1) := by decide +kernel
theorem dX1_tellSeeds_0 : decode cX1_tellSeeds 0 = .ok (.aload_n 0, 1) := by decide +kernel
theorem dX1_tellSeeds_1 : decode cX1_tellSeeds 1 = .ok (.getfield 41, 3) := by decide +kernel
theorem dX1_tellSeeds_4 : decode cX1_tellSeeds 4 = .ok (.invokevirtual 162, 3) := by decide +kernel
theorem dX1_tellSeeds_7 : decode cX1_tellSeeds 7 = .ok (.aload_n 0, 1) := by decide +kernel
theorem dX1_tellSeeds_8 : decode cX1_tellSeeds 8 = .ok (.getfield 20, 3) := by decide +kernel
theorem dX1_tellSeeds_11 : decode cX1_tellSeeds 11 = .ok (.invokevirtual 74, 3) := by decide +kernel
theorem dX1_tellSeeds_14 : decode cX1_tellSeeds 14 = .ok (.aload_n 0, 1) := by decide +kernel
theorem dX1_tellSeeds_15 : decode cX1_tellSeeds 15 = .ok (.getfield 41, 3) := by decide +kernel
theorem dX1_tellSeeds_18 : decode cX1_tellSeeds 18 = .ok (.aload_n 0, 1) := by decide +kernel
theorem dX1_tellSeeds_19 : decode cX1_tellSeeds 19 = .ok (.getfield 20, 3) := by decide +kernel
theorem dX1_tellSeeds_22 : decode cX1_tellSeeds 22 = .ok (.bipush 64, 2) := by decide +kernel
theorem dX1_tellSeeds_24 : decode cX1_tellSeeds 24 = .ok (.invokevirtual 165, 3) := by decide +kernel
theorem dX1_tellSeeds_27 : decode cX1_tellSeeds 27 = .ok (.return_, 1) := by decide +kernel
theorem dX1_tellDigest_0 : decode cX1_tellDigest 0 = .ok (.aload_n 0, 1) := by decide +kernel
theorem dX1_tellDigest_1 : decode cX1_tellDigest 1 = .ok (.getfield 41, 3) := by decide +kernel
theorem dX1_tellDigest_4 : decode cX1_tellDigest 4 = .ok (.iconst 0, 1) := by decide +kernel
theorem dX1_tellDigest_5 : decode cX1_tellDigest 5 = .ok (.invokevirtual 49, 3) := by decide +kernel
theorem dX1_tellDigest_8 : decode cX1_tellDigest 8 = .ok (.aload_n 0, 1) := by decide +kernel
theorem dX1_tellDigest_9 : decode cX1_tellDigest 9 = .ok (.getfield 41, 3) := by decide +kernel
theorem dX1_tellDigest_12 : decode cX1_tellDigest 12 = .ok (.aload_n 1, 1) := by decide +kernel
theorem dX1_tellDigest_13 : decode cX1_tellDigest 13 = .ok (.iload_n 2, 1) := by decide +kernel
theorem dX1_tellDigest_14 : decode cX1_tellDigest 14 = .ok (.iload_n 3, 1) := by decide +kernel
theorem dX1_tellDigest_15 : decode cX1_tellDigest 15 = .ok (.invokevirtual 54, 3) := by decide +kernel
theorem dX1_tellDigest_18 : decode cX1_tellDigest 18 = .ok (.aload_n 0, 1) := by decide +kernel
theorem dX1_tellDigest_19 : decode cX1_tellDigest 19 = .ok (.getfield 41, 3) := by decide +kernel
theorem dX1_tellDigest_22 : decode cX1_tellDigest 22 = .ok (.invokevirtual 162, 3) := by decide +kernel
theorem dX1_tellDigest_25 : decode cX1_tellDigest 25 = .ok (.aload_n 0, 1) := by decide +kernel
theorem dX1_tellDigest_26 : decode cX1_tellDigest 26 = .ok (.getfield 26, 3) := by decide +kernel
theorem dX1_tellDigest_29 : decode cX1_tellDigest 29 = .ok (.invokevirtual 74, 3) := by decide +kernel
theorem dX1_tellDigest_32 : decode cX1_tellDigest 32 = .ok (.aload_n 0, 1) := by decide +kernel
theorem dX1_tellDigest_33 : decode cX1_tellDigest 33 = .ok (.getfield 41, 3) := by decide +kernel
theorem dX1_tellDigest_36 : decode cX1_tellDigest 36 = .ok (.aload_n 0, 1) := by decide +kernel
theorem dX1_tellDigest_37 : decode cX1_tellDigest 37 = .ok (.getfield 26, 3) := by decide +kernel
theorem dX1_tellDigest_40 : decode cX1_tellDigest 40 = .ok (.bipush 32, 2) := by decide +kernel
theorem dX1_tellDigest_42 : decode cX1_tellDigest 42 = .ok (.invokevirtual 165, 3) := by decide +kernel
theorem dX1_tellDigest_45 : decode cX1_tellDigest 45 = .ok (.return_, 1) := by decide +kernel
theorem dX6_init_0 : decode cX6_init 0 = .ok (.aload_n 0, 1) := by decide +kernel
theorem dX6_init_1 : decode cX6_init 1 = .ok (.invokespecial 3, 3) := by decide +kernel
theorem dX6_init_4 : decode cX6_init 4 = .ok (.aload_n 0, 1) := by decide +kernel
theorem dX6_init_5 : decode cX6_init 5 = .ok (.bipush 25, 2) := by decide +kernel
theorem dX6_init_7 : decode cX6_init 7 = .ok (.newarray .long, 2) := by decide +kernel
theorem dX6_init_9 : decode cX6_init 9 = .ok (.putfield 9, 3) := by decide +kernel
theorem dX6_init_12 : decode cX6_init 12 = .ok (.aload_n 0, 1) := by decide +kernel
theorem dX6_init_13 : decode cX6_init 13 = .ok (.sipush 136, 3) := by decide +kernel
theorem dX6_init_16 : decode cX6_init 16 = .ok (.putfield 15, 3) := by decide +kernel
theorem dX6_init_19 : decode cX6_init 19 = .ok (.return_, 1) := by decide +kernel
theorem dX6_begin_0 : decode cX6_begin 0 = .ok (.aload_n 0, 1) := by decide +kernel
theorem dX6_begin_1 : decode cX6_begin 1 = .ok (.iload_n 1, 1) := by decide +kernel
theorem dX6_begin_2 : decode cX6_begin 2 = .ok (.ifCond .lt 19, 3) := by decide +kernel
theorem dX6_begin_5 : decode cX6_begin 5 = .ok (.iload_n 1, 1) := by decide +kernel
theorem dX6_begin_6 : decode cX6_begin 6 = .ok (.getstatic 19, 3) := by decide +kernel
theorem dX6_begin_9 : decode cX6_begin 9 = .ok (.arraylength, 1) := by decide +kernel
theorem dX6_begin_10 : decode cX6_begin 10 = .ok (.if_icmp .ge 11, 3) := by decide +kernel
theorem dX6_begin_13 : decode cX6_begin 13 = .ok (.getstatic 19, 3) := by decide +kernel
theorem dX6_begin_16 : decode cX6_begin 16 = .ok (.iload_n 1, 1) := by decide +kernel
theorem dX6_begin_17 : decode cX6_begin 17 = .ok (.iaload, 1) := by decide +kernel
theorem dX6_begin_18 : decode cX6_begin 18 = .ok (.goto 6, 3) := by decide +kernel
theorem dX6_begin_21 : decode cX6_begin 21 = .ok (.sipush 136, 3) := by decide +kernel
theorem dX6_begin_24 : decode cX6_begin 24 = .ok (.putfield 15, 3) := by decide +kernel
theorem dX6_begin_27 : decode cX6_begin 27 = .ok (.aload_n 0, 1) := by decide +kernel
theorem dX6_begin_28 : decode cX6_begin 28 = .ok (.iload_n 1, 1) := by decide +kernel
theorem dX6_begin_29 : decode cX6_begin 29 = .ok (.ifCond .eq 8, 3) := by decide +kernel
theorem dX6_begin_32 : decode cX6_begin 32 = .ok (.iload_n 1, 1) := by decide +kernel
theorem dX6_begin_33 : decode cX6_begin 33 = .ok (.iconst 1, 1) := by decide +kernel
theorem dX6_begin_34 : decode cX6_begin 34 = .ok (.if_icmp .ne 8, 3) := by decide +kernel
theorem dX6_begin_37 : decode cX6_begin 37 = .ok (.bipush 6, 2) := by decide +kernel
theorem dX6_begin_39 : decode cX6_begin 39 = .ok (.goto 5, 3) := by decide +kernel
theorem dX6_begin_42 : decode cX6_begin 42 = .ok (.bipush 31, 2) := by decide +kernel
theorem dX6_begin_44 : decode cX6_begin 44 = .ok (.putfield 23, 3) := by decide +kernel
theorem dX6_begin_47 : decode cX6_begin 47 = .ok (.aload_n 0, 1) := by decide +kernel
theorem dX6_begin_48 : decode cX6_begin 48 = .ok (.iconst 0, 1) := by decide +kernel
theorem dX6_begin_49 : decode cX6_begin 49 = .ok (.putfield 26, 3) := by decide +kernel
theorem dX6_begin_52 : decode cX6_begin 52 = .ok (.aload_n 0, 1) := by decide +kernel
theorem dX6_begin_53 : decode cX6_begin 53 = .ok (.getfield 9, 3) := by decide +kernel
theorem dX6_begin_56 : decode cX6_begin 56 = .ok (.lconst 0, 1) := by decide +kernel
theorem dX6_begin_57 : decode cX6_begin 57 = .ok (.invokestatic 29, 3) := by decide +kernel
theorem dX6_begin_60 : decode cX6_begin 60 = .ok (.return_, 1) := by decide +kernel
theorem dX6_absorbByte_0 : decode cX6_absorbByte 0 = .ok (.aload_n 0, 1) := by decide +kernel
theorem dX6_absorbByte_1 : decode cX6_absorbByte 1 = .ok (.aload_n 0, 1) := by decide +kernel
theorem dX6_absorbByte_2 : decode cX6_absorbByte 2 = .ok (.getfield 26, 3) := by decide +kernel
theorem dX6_absorbByte_5 : decode cX6_absorbByte 5 = .ok (.iload_n 1, 1) := by decide +kernel
theorem dX6_absorbByte_6 : decode cX6_absorbByte 6 = .ok (.sipush 255, 3) := by decide +kernel
theorem dX6_absorbByte_9 : decode cX6_absorbByte 9 = .ok (.iand, 1) := by decide +kernel
theorem dX6_absorbByte_10 : decode cX6_absorbByte 10 = .ok (.invokevirtual 35, 3) := by decide +kernel
theorem dX6_absorbByte_13 : decode cX6_absorbByte 13 = .ok (.aload_n 0, 1) := by decide +kernel
theorem dX6_absorbByte_14 : decode cX6_absorbByte 14 = .ok (.dup, 1) := by decide +kernel
theorem dX6_absorbByte_15 : decode cX6_absorbByte 15 = .ok (.getfield 26, 3) := by decide +kernel
theorem dX6_absorbByte_18 : decode cX6_absorbByte 18 = .ok (.iconst 1, 1) := by decide +kernel
theorem dX6_absorbByte_19 : decode cX6_absorbByte 19 = .ok (.iadd, 1) := by decide +kernel
theorem dX6_absorbByte_20 : decode cX6_absorbByte 20 = .ok (.putfield 26, 3) := by decide +kernel
theorem dX6_absorbByte_23 : decode cX6_absorbByte 23 = .ok (.aload_n 0, 1) := by decide +kernel
theorem dX6_absorbByte_24 : decode cX6_absorbByte 24 = .ok (.getfield 26, 3) := by decide +kernel
theorem dX6_absorbByte_27 : decode cX6_absorbByte 27 = .ok (.aload_n 0, 1) := by decide +kernel
theorem dX6_absorbByte_28 : decode cX6_absorbByte 28 = .ok (.getfield 15, 3) := by decide +kernel
theorem dX6_absorbByte_31 : decode cX6_absorbByte 31 = .ok (.if_icmp .ne 12, 3) := by decide +kernel
theorem dX6_absorbByte_34 : decode cX6_absorbByte 34 = .ok (.aload_n 0, 1) := by decide +kernel
theorem dX6_absorbByte_35 : decode cX6_absorbByte 35 = .ok (.invokevirtual 39, 3) := by decide +kernel
theorem dX6_absorbByte_38 : decode cX6_absorbByte 38 = .ok (.aload_n 0, 1) := by decide +kernel
theorem dX6_absorbByte_39 : decode cX6_absorbByte 39 = .ok (.iconst 0, 1) := by decide +kernel
theorem dX6_absorbByte_40 : decode cX6_absorbByte 40 = .ok (.putfield 26, 3) := by decide +kernel
theorem dX6_absorbByte_43 : decode cX6_absorbByte 43 = .ok (.return_, 1) := by decide +kernel
theorem dX6_absorb_0 : decode cX6_absorb 0 = .ok (.iconst 0, 1) := by decide +kernel
theorem dX6_absorb_1 : decode cX6_absorb 1 = .ok (.istore 4, 2) := by decide +kernel
theorem dX6_absorb_3 : decode cX6_absorb 3 = .ok (.iload 4, 2) := by decide +kernel
theorem dX6_absorb_5 : decode cX6_absorb 5 = .ok (.iload_n 3, 1) := by decide +kernel
theorem dX6_absorb_6 : decode cX6_absorb 6 = .ok (.if_icmp .ge 21, 3) := by decide +kernel
theorem dX6_absorb_9 : decode cX6_absorb 9 = .ok (.aload_n 0, 1) := by decide +kernel
theorem dX6_absorb_10 : decode cX6_absorb 10 = .ok (.aload_n 1, 1) := by decide +kernel
theorem dX6_absorb_11 : decode cX6_absorb 11 = .ok (.iload_n 2, 1) := by decide +kernel
theorem dX6_absorb_12 : decode cX6_absorb 12 = .ok (.iload 4, 2) := by decide +kernel
theorem dX6_absorb_14 : decode cX6_absorb 14 = .ok (.iadd, 1) := by decide +kernel
theorem dX6_absorb_15 : decode cX6_absorb 15 = .ok (.invokevirtual 42, 3) := by decide +kernel
theorem dX6_absorb_18 : decode cX6_absorb 18 = .ok (.invokevirtual 48, 3) := by decide +kernel
theorem dX6_absorb_21 : decode cX6_absorb 21 = .ok (.iinc 4 1, 3) := by decide +kernel
theorem dX6_absorb_24 : decode cX6_absorb 24 = .ok (.goto (-21), 3) := by decide +kernel
theorem dX6_absorb_27 : decode cX6_absorb 27 = .ok (.return_, 1) := by decide +kernel
theorem dX6_finish_0 : decode cX6_finish 0 = .ok (.aload_n 0, 1) := by decide +kernel
theorem dX6_finish_1 : decode cX6_finish 1 = .ok (.aload_n 0, 1) := by decide +kernel
theorem dX6_finish_2 : decode cX6_finish 2 = .ok (.getfield 26, 3) := by decide +kernel
theorem dX6_finish_5 : decode cX6_finish 5 = .ok (.aload_n 0, 1) := by decide +kernel
theorem dX6_finish_6 : decode cX6_finish 6 = .ok (.getfield 23, 3) := by decide +kernel
theorem dX6_finish_9 : decode cX6_finish 9 = .ok (.invokevirtual 35, 3) := by decide +kernel
theorem dX6_finish_12 : decode cX6_finish 12 = .ok (.aload_n 0, 1) := by decide +kernel
theorem dX6_finish_13 : decode cX6_finish 13 = .ok (.aload_n 0, 1) := by decide +kernel
theorem dX6_finish_14 : decode cX6_finish 14 = .ok (.getfield 15, 3) := by decide +kernel
theorem dX6_finish_17 : decode cX6_finish 17 = .ok (.iconst 1, 1) := by decide +kernel
theorem dX6_finish_18 : decode cX6_finish 18 = .ok (.isub, 1) := by decide +kernel
theorem dX6_finish_19 : decode cX6_finish 19 = .ok (.sipush 128, 3) := by decide +kernel
theorem dX6_finish_22 : decode cX6_finish 22 = .ok (.invokevirtual 35, 3) := by decide +kernel
theorem dX6_finish_25 : decode cX6_finish 25 = .ok (.aload_n 0, 1) := by decide +kernel
theorem dX6_finish_26 : decode cX6_finish 26 = .ok (.invokevirtual 39, 3) := by decide +kernel
theorem dX6_finish_29 : decode cX6_finish 29 = .ok (.aload_n 0, 1) := by decide +kernel
theorem dX6_finish_30 : decode cX6_finish 30 = .ok (.iconst 0, 1) := by decide +kernel
theorem dX6_finish_31 : decode cX6_finish 31 = .ok (.putfield 26, 3) := by decide +kernel
theorem dX6_finish_34 : decode cX6_finish 34 = .ok (.return_, 1) := by decide +kernel
theorem dX6_tellByte_0 : decode cX6_tellByte 0 = .ok (.aload_n 0, 1) := by decide +kernel
theorem dX6_tellByte_1 : decode cX6_tellByte 1 = .ok (.getfield 26, 3) := by decide +kernel
theorem dX6_tellByte_4 : decode cX6_tellByte 4 = .ok (.aload_n 0, 1) := by decide +kernel
theorem dX6_tellByte_5 : decode cX6_tellByte 5 = .ok (.getfield 15, 3) := by decide +kernel
theorem dX6_tellByte_8 : decode cX6_tellByte 8 = .ok (.if_icmp .ne 12, 3) := by decide +kernel
theorem dX6_tellByte_11 : decode cX6_tellByte 11 = .ok (.aload_n 0, 1) := by decide +kernel
theorem dX6_tellByte_12 : decode cX6_tellByte 12 = .ok (.invokevirtual 39, 3) := by decide +kernel
theorem dX6_tellByte_15 : decode cX6_tellByte 15 = .ok (.aload_n 0, 1) := by decide +kernel
theorem dX6_tellByte_16 : decode cX6_tellByte 16 = .ok (.iconst 0, 1) := by decide +kernel
theorem dX6_tellByte_17 : decode cX6_tellByte 17 = .ok (.putfield 26, 3) := by decide +kernel
theorem dX6_tellByte_20 : decode cX6_tellByte 20 = .ok (.aload_n 0, 1) := by decide +kernel
theorem dX6_tellByte_21 : decode cX6_tellByte 21 = .ok (.getfield 9, 3) := by decide +kernel
theorem dX6_tellByte_24 : decode cX6_tellByte 24 = .ok (.aload_n 0, 1) := by decide +kernel
theorem dX6_tellByte_25 : decode cX6_tellByte 25 = .ok (.getfield 26, 3) := by decide +kernel
theorem dX6_tellByte_28 : decode cX6_tellByte 28 = .ok (.iconst 3, 1) := by decide +kernel
theorem dX6_tellByte_29 : decode cX6_tellByte 29 = .ok (.ishr, 1) := by decide +kernel
theorem dX6_tellByte_30 : decode cX6_tellByte 30 = .ok (.laload, 1) := by decide +kernel
theorem dX6_tellByte_31 : decode cX6_tellByte 31 = .ok (.aload_n 0, 1) := by decide +kernel
theorem dX6_tellByte_32 : decode cX6_tellByte 32 = .ok (.getfield 26, 3) := by decide +kernel
theorem dX6_tellByte_35 : decode cX6_tellByte 35 = .ok (.bipush 7, 2) := by decide +kernel
theorem dX6_tellByte_37 : decode cX6_tellByte 37 = .ok (.iand, 1) := by decide +kernel
theorem dX6_tellByte_38 : decode cX6_tellByte 38 = .ok (.iconst 3, 1) := by decide +kernel
theorem dX6_tellByte_39 : decode cX6_tellByte 39 = .ok (.ishl, 1) := by decide +kernel
theorem dX6_tellByte_40 : decode cX6_tellByte 40 = .ok (.lushr, 1) := by decide +kernel
theorem dX6_tellByte_41 : decode cX6_tellByte 41 = .ok (.l2i, 1) := by decide +kernel
theorem dX6_tellByte_42 : decode cX6_tellByte 42 = .ok (.sipush 255, 3) := by decide +kernel
theorem dX6_tellByte_45 : decode cX6_tellByte 45 = .ok (.iand, 1) := by decide +kernel
theorem dX6_tellByte_46 : decode cX6_tellByte 46 = .ok (.istore_n 1, 1) := by decide +kernel
theorem dX6_tellByte_47 : decode cX6_tellByte 47 = .ok (.aload_n 0, 1) := by decide +kernel
theorem dX6_tellByte_48 : decode cX6_tellByte 48 = .ok (.dup, 1) := by decide +kernel
theorem dX6_tellByte_49 : decode cX6_tellByte 49 = .ok (.getfield 26, 3) := by decide +kernel
theorem dX6_tellByte_52 : decode cX6_tellByte 52 = .ok (.iconst 1, 1) := by decide +kernel
theorem dX6_tellByte_53 : decode cX6_tellByte 53 = .ok (.iadd, 1) := by decide +kernel
theorem dX6_tellByte_54 : decode cX6_tellByte 54 = .ok (.putfield 26, 3) := by decide +kernel
theorem dX6_tellByte_57 : decode cX6_tellByte 57 = .ok (.iload_n 1, 1) := by decide +kernel
theorem dX6_tellByte_58 : decode cX6_tellByte 58 = .ok (.ireturn, 1) := by decide +kernel
theorem dX6_tellTo_0 : decode cX6_tellTo 0 = .ok (.iconst 0, 1) := by decide +kernel
theorem dX6_tellTo_1 : decode cX6_tellTo 1 = .ok (.istore_n 3, 1) := by decide +kernel
theorem dX6_tellTo_2 : decode cX6_tellTo 2 = .ok (.iload_n 3, 1) := by decide +kernel
theorem dX6_tellTo_3 : decode cX6_tellTo 3 = .ok (.iload_n 2, 1) := by decide +kernel
theorem dX6_tellTo_4 : decode cX6_tellTo 4 = .ok (.if_icmp .ge 17, 3) := by decide +kernel
theorem dX6_tellTo_7 : decode cX6_tellTo 7 = .ok (.aload_n 1, 1) := by decide +kernel
theorem dX6_tellTo_8 : decode cX6_tellTo 8 = .ok (.aload_n 0, 1) := by decide +kernel
theorem dX6_tellTo_9 : decode cX6_tellTo 9 = .ok (.invokevirtual 52, 3) := by decide +kernel
theorem dX6_tellTo_12 : decode cX6_tellTo 12 = .ok (.invokevirtual 56, 3) := by decide +kernel
theorem dX6_tellTo_15 : decode cX6_tellTo 15 = .ok (.iinc 3 1, 3) := by decide +kernel
theorem dX6_tellTo_18 : decode cX6_tellTo 18 = .ok (.goto (-16), 3) := by decide +kernel
theorem dX6_tellTo_21 : decode cX6_tellTo 21 = .ok (.return_, 1) := by decide +kernel
theorem dX6_mixIn_0 : decode cX6_mixIn 0 = .ok (.aload_n 0, 1) := by decide +kernel
theorem dX6_mixIn_1 : decode cX6_mixIn 1 = .ok (.getfield 9, 3) := by decide +kernel
theorem dX6_mixIn_4 : decode cX6_mixIn 4 = .ok (.iload_n 1, 1) := by decide +kernel
theorem dX6_mixIn_5 : decode cX6_mixIn 5 = .ok (.iconst 3, 1) := by decide +kernel
theorem dX6_mixIn_6 : decode cX6_mixIn 6 = .ok (.ishr, 1) := by decide +kernel
theorem dX6_mixIn_7 : decode cX6_mixIn 7 = .ok (.dup2, 1) := by decide +kernel
theorem dX6_mixIn_8 : decode cX6_mixIn 8 = .ok (.laload, 1) := by decide +kernel
theorem dX6_mixIn_9 : decode cX6_mixIn 9 = .ok (.iload_n 2, 1) := by decide +kernel
theorem dX6_mixIn_10 : decode cX6_mixIn 10 = .ok (.i2l, 1) := by decide +kernel
theorem dX6_mixIn_11 : decode cX6_mixIn 11 = .ok (.iload_n 1, 1) := by decide +kernel
theorem dX6_mixIn_12 : decode cX6_mixIn 12 = .ok (.bipush 7, 2) := by decide +kernel
theorem dX6_mixIn_14 : decode cX6_mixIn 14 = .ok (.iand, 1) := by decide +kernel
theorem dX6_mixIn_15 : decode cX6_mixIn 15 = .ok (.iconst 3, 1) := by decide +kernel
theorem dX6_mixIn_16 : decode cX6_mixIn 16 = .ok (.ishl, 1) := by decide +kernel
theorem dX6_mixIn_17 : decode cX6_mixIn 17 = .ok (.lshl, 1) := by decide +kernel
theorem dX6_mixIn_18 : decode cX6_mixIn 18 = .ok (.lxor, 1) := by decide +kernel
theorem dX6_mixIn_19 : decode cX6_mixIn 19 = .ok (.lastore, 1) := by decide +kernel
theorem dX6_mixIn_20 : decode cX6_mixIn 20 = .ok (.return_, 1) := by decide +kernel
theorem dX6_doRounds_0 : decode cX6_doRounds 0 = .ok (.aload_n 0, 1) := by decide +kernel
theorem dX6_doRounds_1 : decode cX6_doRounds 1 = .ok (.getfield 9, 3) := by decide +kernel
theorem dX6_doRounds_4 : decode cX6_doRounds 4 = .ok (.astore_n 1, 1) := by decide +kernel
theorem dX6_doRounds_5 : decode cX6_doRounds 5 = .ok (.iconst 0, 1) := by decide +kernel
theorem dX6_doRounds_6 : decode cX6_doRounds 6 = .ok (.istore_n 2, 1) := by decide +kernel
theorem dX6_doRounds_7 : decode cX6_doRounds 7 = .ok (.iload_n 2, 1) := by decide +kernel
theorem dX6_doRounds_8 : decode cX6_doRounds 8 = .ok (.bipush 24, 2) := by decide +kernel
theorem dX6_doRounds_10 : decode cX6_doRounds 10 = .ok (.if_icmp .ge 491, 3) := by decide +kernel
theorem dX6_doRounds_13 : decode cX6_doRounds 13 = .ok (.aload_n 1, 1) := by decide +kernel
theorem dX6_doRounds_14 : decode cX6_doRounds 14 = .ok (.iconst 0, 1) := by decide +kernel
theorem dX6_doRounds_15 : decode cX6_doRounds 15 = .ok (.laload, 1) := by decide +kernel
theorem dX6_doRounds_16 : decode cX6_doRounds 16 = .ok (.aload_n 1, 1) := by decide +kernel
theorem dX6_doRounds_17 : decode cX6_doRounds 17 = .ok (.iconst 5, 1) := by decide +kernel
theorem dX6_doRounds_18 : decode cX6_doRounds 18 = .ok (.laload, 1) := by decide +kernel
theorem dX6_doRounds_19 : decode cX6_doRounds 19 = .ok (.lxor, 1) := by decide +kernel
theorem dX6_doRounds_20 : decode cX6_doRounds 20 = .ok (.aload_n 1, 1) := by decide +kernel
theorem dX6_doRounds_21 : decode cX6_doRounds 21 = .ok (.bipush 10, 2) := by decide +kernel
theorem dX6_doRounds_23 : decode cX6_doRounds 23 = .ok (.laload, 1) := by decide +kernel
theorem dX6_doRounds_24 : decode cX6_doRounds 24 = .ok (.lxor, 1) := by decide +kernel
theorem dX6_doRounds_25 : decode cX6_doRounds 25 = .ok (.aload_n 1, 1) := by decide +kernel
theorem dX6_doRounds_26 : decode cX6_doRounds 26 = .ok (.bipush 15, 2) := by decide +kernel
theorem dX6_doRounds_28 : decode cX6_doRounds 28 = .ok (.laload, 1) := by decide +kernel
theorem dX6_doRounds_29 : decode cX6_doRounds 29 = .ok (.lxor, 1) := by decide +kernel
theorem dX6_doRounds_30 : decode cX6_doRounds 30 = .ok (.aload_n 1, 1) := by decide +kernel
theorem dX6_doRounds_31 : decode cX6_doRounds 31 = .ok (.bipush 20, 2) := by decide +kernel
theorem dX6_doRounds_33 : decode cX6_doRounds 33 = .ok (.laload, 1) := by decide +kernel
theorem dX6_doRounds_34 : decode cX6_doRounds 34 = .ok (.lxor, 1) := by decide +kernel
theorem dX6_doRounds_35 : decode cX6_doRounds 35 = .ok (.lstore_n 3, 1) := by decide +kernel
theorem dX6_doRounds_36 : decode cX6_doRounds 36 = .ok (.aload_n 1, 1) := by decide +kernel
theorem dX6_doRounds_37 : decode cX6_doRounds 37 = .ok (.iconst 1, 1) := by decide +kernel
theorem dX6_doRounds_38 : decode cX6_doRounds 38 = .ok (.laload, 1) := by decide +kernel
theorem dX6_doRounds_39 : decode cX6_doRounds 39 = .ok (.aload_n 1, 1) := by decide +kernel
theorem dX6_doRounds_40 : decode cX6_doRounds 40 = .ok (.bipush 6, 2) := by decide +kernel
theorem dX6_doRounds_42 : decode cX6_doRounds 42 = .ok (.laload, 1) := by decide +kernel
theorem dX6_doRounds_43 : decode cX6_doRounds 43 = .ok (.lxor, 1) := by decide +kernel
theorem dX6_doRounds_44 : decode cX6_doRounds 44 = .ok (.aload_n 1, 1) := by decide +kernel
theorem dX6_doRounds_45 : decode cX6_doRounds 45 = .ok (.bipush 11, 2) := by decide +kernel
theorem dX6_doRounds_47 : decode cX6_doRounds 47 = .ok (.laload, 1) := by decide +kernel
theorem dX6_doRounds_48 : decode cX6_doRounds 48 = .ok (.lxor, 1) := by decide +kernel
theorem dX6_doRounds_49 : decode cX6_doRounds 49 = .ok (.aload_n 1, 1) := by decide +kernel
theorem dX6_doRounds_50 : decode cX6_doRounds 50 = .ok (.bipush 16, 2) := by decide +kernel
theorem dX6_doRounds_52 : decode cX6_doRounds 52 = .ok (.laload, 1) := by decide +kernel
theorem dX6_doRounds_53 : decode cX6_doRounds 53 = .ok (.lxor, 1) := by decide +kernel
theorem dX6_doRounds_54 : decode cX6_doRounds 54 = .ok (.aload_n 1, 1) := by decide +kernel
theorem dX6_doRounds_55 : decode cX6_doRounds 55 = .ok (.bipush 21, 2) := by decide +kernel
theorem dX6_doRounds_57 : decode cX6_doRounds 57 = .ok (.laload, 1) := by decide +kernel
theorem dX6_doRounds_58 : decode cX6_doRounds 58 = .ok (.lxor, 1) := by decide +kernel
theorem dX6_doRounds_59 : decode cX6_doRounds 59 = .ok (.lstore 5, 2) := by decide +kernel
theorem dX6_doRounds_61 : decode cX6_doRounds 61 = .ok (.aload_n 1, 1) := by decide +kernel
theorem dX6_doRounds_62 : decode cX6_doRounds 62 = .ok (.iconst 2, 1) := by decide +kernel
theorem dX6_doRounds_63 : decode cX6_doRounds 63 = .ok (.laload, 1) := by decide +kernel
theorem dX6_doRounds_64 : decode cX6_doRounds 64 = .ok (.aload_n 1, 1) := by decide +kernel
theorem dX6_doRounds_65 : decode cX6_doRounds 65 = .ok (.bipush 7, 2) := by decide +kernel
theorem dX6_doRounds_67 : decode cX6_doRounds 67 = .ok (.laload, 1) := by decide +kernel
theorem dX6_doRounds_68 : decode cX6_doRounds 68 = .ok (.lxor, 1) := by decide +kernel
theorem dX6_doRounds_69 : decode cX6_doRounds 69 = .ok (.aload_n 1, 1) := by decide +kernel
theorem dX6_doRounds_70 : decode cX6_doRounds 70 = .ok (.bipush 12, 2) := by decide +kernel
theorem dX6_doRounds_72 : decode cX6_doRounds 72 = .ok (.laload, 1) := by decide +kernel
theorem dX6_doRounds_73 : decode cX6_doRounds 73 = .ok (.lxor, 1) := by decide +kernel
theorem dX6_doRounds_74 : decode cX6_doRounds 74 = .ok (.aload_n 1, 1) := by decide +kernel
theorem dX6_doRounds_75 : decode cX6_doRounds 75 = .ok (.bipush 17, 2) := by decide +kernel
theorem dX6_doRounds_77 : decode cX6_doRounds 77 = .ok (.laload, 1) := by decide +kernel
theorem dX6_doRounds_78 : decode cX6_doRounds 78 = .ok (.lxor, 1) := by decide +kernel
theorem dX6_doRounds_79 : decode cX6_doRounds 79 = .ok (.aload_n 1, 1) := by decide +kernel
theorem dX6_doRounds_80 : decode cX6_doRounds 80 = .ok (.bipush 22, 2) := by decide +kernel
theorem dX6_doRounds_82 : decode cX6_doRounds 82 = .ok (.laload, 1) := by decide +kernel
theorem dX6_doRounds_83 : decode cX6_doRounds 83 = .ok (.lxor, 1) := by decide +kernel
theorem dX6_doRounds_84 : decode cX6_doRounds 84 = .ok (.lstore 7, 2) := by decide +kernel
theorem dX6_doRounds_86 : decode cX6_doRounds 86 = .ok (.aload_n 1, 1) := by decide +kernel
theorem dX6_doRounds_87 : decode cX6_doRounds 87 = .ok (.iconst 3, 1) := by decide +kernel
theorem dX6_doRounds_88 : decode cX6_doRounds 88 = .ok (.laload, 1) := by decide +kernel
theorem dX6_doRounds_89 : decode cX6_doRounds 89 = .ok (.aload_n 1, 1) := by decide +kernel
theorem dX6_doRounds_90 : decode cX6_doRounds 90 = .ok (.bipush 8, 2) := by decide +kernel
theorem dX6_doRounds_92 : decode cX6_doRounds 92 = .ok (.laload, 1) := by decide +kernel
theorem dX6_doRounds_93 : decode cX6_doRounds 93 = .ok (.lxor, 1) := by decide +kernel
theorem dX6_doRounds_94 : decode cX6_doRounds 94 = .ok (.aload_n 1, 1) := by decide +kernel
theorem dX6_doRounds_95 : decode cX6_doRounds 95 = .ok (.bipush 13, 2) := by decide +kernel
theorem dX6_doRounds_97 : decode cX6_doRounds 97 = .ok (.laload, 1) := by decide +kernel
theorem dX6_doRounds_98 : decode cX6_doRounds 98 = .ok (.lxor, 1) := by decide +kernel
theorem dX6_doRounds_99 : decode cX6_doRounds 99 = .ok (.aload_n 1, 1) := by decide +kernel
theorem dX6_doRounds_100 : decode cX6_doRounds 100 = .ok (.bipush 18, 2) := by decide +kernel
theorem dX6_doRounds_102 : decode cX6_doRounds 102 = .ok (.laload, 1) := by decide +kernel
theorem dX6_doRounds_103 : decode cX6_doRounds 103 = .ok (.lxor, 1) := by decide +kernel
theorem dX6_doRounds_104 : decode cX6_doRounds 104 = .ok (.aload_n 1, 1) := by decide +kernel
theorem dX6_doRounds_105 : decode cX6_doRounds 105 = .ok (.bipush 23, 2) := by decide +kernel
theorem dX6_doRounds_107 : decode cX6_doRounds 107 = .ok (.laload, 1) := by decide +kernel
theorem dX6_doRounds_108 : decode cX6_doRounds 108 = .ok (.lxor, 1) := by decide +kernel
theorem dX6_doRounds_109 : decode cX6_doRounds 109 = .ok (.lstore 9, 2) := by decide +kernel
theorem dX6_doRounds_111 : decode cX6_doRounds 111 = .ok (.aload_n 1, 1) := by decide +kernel
theorem dX6_doRounds_112 : decode cX6_doRounds 112 = .ok (.iconst 4, 1) := by decide +kernel
theorem dX6_doRounds_113 : decode cX6_doRounds 113 = .ok (.laload, 1) := by decide +kernel
theorem dX6_doRounds_114 : decode cX6_doRounds 114 = .ok (.aload_n 1, 1) := by decide +kernel
theorem dX6_doRounds_115 : decode cX6_doRounds 115 = .ok (.bipush 9, 2) := by decide +kernel
theorem dX6_doRounds_117 : decode cX6_doRounds 117 = .ok (.laload, 1) := by decide +kernel
theorem dX6_doRounds_118 : decode cX6_doRounds 118 = .ok (.lxor, 1) := by decide +kernel
theorem dX6_doRounds_119 : decode cX6_doRounds 119 = .ok (.aload_n 1, 1) := by decide +kernel
theorem dX6_doRounds_120 : decode cX6_doRounds 120 = .ok (.bipush 14, 2) := by decide +kernel
theorem dX6_doRounds_122 : decode cX6_doRounds 122 = .ok (.laload, 1) := by decide +kernel
theorem dX6_doRounds_123 : decode cX6_doRounds 123 = .ok (.lxor, 1) := by decide +kernel
theorem dX6_doRounds_124 : decode cX6_doRounds 124 = .ok (.aload_n 1, 1) := by decide +kernel
theorem dX6_doRounds_125 : decode cX6_doRounds 125 = .ok (.bipush 19, 2) := by decide +kernel
theorem dX6_doRounds_127 : decode cX6_doRounds 127 = .ok (.laload, 1) := by decide +kernel
theorem dX6_doRounds_128 : decode cX6_doRounds 128 = .ok (.lxor, 1) := by decide +kernel
theorem dX6_doRounds_129 : decode cX6_doRounds 129 = .ok (.aload_n 1, 1) := by decide +kernel
theorem dX6_doRounds_130 : decode cX6_doRounds 130 = .ok (.bipush 24, 2) := by decide +kernel
theorem dX6_doRounds_132 : decode cX6_doRounds 132 = .ok (.laload, 1) := by decide +kernel
theorem dX6_doRounds_133 : decode cX6_doRounds 133 = .ok (.lxor, 1) := by decide +kernel
theorem dX6_doRounds_134 : decode cX6_doRounds 134 = .ok (.lstore 11, 2) := by decide +kernel
theorem dX6_doRounds_136 : decode cX6_doRounds 136 = .ok (.lload 11, 2) := by decide +kernel
theorem dX6_doRounds_138 : decode cX6_doRounds 138 = .ok (.lload 5, 2) := by decide +kernel
theorem dX6_doRounds_140 : decode cX6_doRounds 140 = .ok (.iconst 1, 1) := by decide +kernel
theorem dX6_doRounds_141 : decode cX6_doRounds 141 = .ok (.lshl, 1) := by decide +kernel
theorem dX6_doRounds_142 : decode cX6_doRounds 142 = .ok (.lload 5, 2) := by decide +kernel
theorem dX6_doRounds_144 : decode cX6_doRounds 144 = .ok (.bipush 63, 2) := by decide +kernel
theorem dX6_doRounds_146 : decode cX6_doRounds 146 = .ok (.lushr, 1) := by decide +kernel
theorem dX6_doRounds_147 : decode cX6_doRounds 147 = .ok (.lor, 1) := by decide +kernel
theorem dX6_doRounds_148 : decode cX6_doRounds 148 = .ok (.lxor, 1) := by decide +kernel
theorem dX6_doRounds_149 : decode cX6_doRounds 149 = .ok (.lstore 13, 2) := by decide +kernel
theorem dX6_doRounds_151 : decode cX6_doRounds 151 = .ok (.lload_n 3, 1) := by decide +kernel
theorem dX6_doRounds_152 : decode cX6_doRounds 152 = .ok (.lload 7, 2) := by decide +kernel
theorem dX6_doRounds_154 : decode cX6_doRounds 154 = .ok (.iconst 1, 1) := by decide +kernel
theorem dX6_doRounds_155 : decode cX6_doRounds 155 = .ok (.lshl, 1) := by decide +kernel
theorem dX6_doRounds_156 : decode cX6_doRounds 156 = .ok (.lload 7, 2) := by decide +kernel
theorem dX6_doRounds_158 : decode cX6_doRounds 158 = .ok (.bipush 63, 2) := by decide +kernel
theorem dX6_doRounds_160 : decode cX6_doRounds 160 = .ok (.lushr, 1) := by decide +kernel
theorem dX6_doRounds_161 : decode cX6_doRounds 161 = .ok (.lor, 1) := by decide +kernel
theorem dX6_doRounds_162 : decode cX6_doRounds 162 = .ok (.lxor, 1) := by decide +kernel
theorem dX6_doRounds_163 : decode cX6_doRounds 163 = .ok (.lstore 15, 2) := by decide +kernel
theorem dX6_doRounds_165 : decode cX6_doRounds 165 = .ok (.lload 5, 2) := by decide +kernel
theorem dX6_doRounds_167 : decode cX6_doRounds 167 = .ok (.lload 9, 2) := by decide +kernel
theorem dX6_doRounds_169 : decode cX6_doRounds 169 = .ok (.iconst 1, 1) := by decide +kernel
theorem dX6_doRounds_170 : decode cX6_doRounds 170 = .ok (.lshl, 1) := by decide +kernel
theorem dX6_doRounds_171 : decode cX6_doRounds 171 = .ok (.lload 9, 2) := by decide +kernel
theorem dX6_doRounds_173 : decode cX6_doRounds 173 = .ok (.bipush 63, 2) := by decide +kernel
theorem dX6_doRounds_175 : decode cX6_doRounds 175 = .ok (.lushr, 1) := by decide +kernel
theorem dX6_doRounds_176 : decode cX6_doRounds 176 = .ok (.lor, 1) := by decide +kernel
theorem dX6_doRounds_177 : decode cX6_doRounds 177 = .ok (.lxor, 1) := by decide +kernel
theorem dX6_doRounds_178 : decode cX6_doRounds 178 = .ok (.lstore 17, 2) := by decide +kernel
theorem dX6_doRounds_180 : decode cX6_doRounds 180 = .ok (.lload 7, 2) := by decide +kernel
theorem dX6_doRounds_182 : decode cX6_doRounds 182 = .ok (.lload 11, 2) := by decide +kernel
theorem dX6_doRounds_184 : decode cX6_doRounds 184 = .ok (.iconst 1, 1) := by decide +kernel
theorem dX6_doRounds_185 : decode cX6_doRounds 185 = .ok (.lshl, 1) := by decide +kernel
theorem dX6_doRounds_186 : decode cX6_doRounds 186 = .ok (.lload 11, 2) := by decide +kernel
theorem dX6_doRounds_188 : decode cX6_doRounds 188 = .ok (.bipush 63, 2) := by decide +kernel
theorem dX6_doRounds_190 : decode cX6_doRounds 190 = .ok (.lushr, 1) := by decide +kernel
theorem dX6_doRounds_191 : decode cX6_doRounds 191 = .ok (.lor, 1) := by decide +kernel
theorem dX6_doRounds_192 : decode cX6_doRounds 192 = .ok (.lxor, 1) := by decide +kernel
theorem dX6_doRounds_193 : decode cX6_doRounds 193 = .ok (.lstore 19, 2) := by decide +kernel
theorem dX6_doRounds_195 : decode cX6_doRounds 195 = .ok (.lload 9, 2) := by decide +kernel
theorem dX6_doRounds_197 : decode cX6_doRounds 197 = .ok (.lload_n 3, 1) := by decide +kernel
theorem dX6_doRounds_198 : decode cX6_doRounds 198 = .ok (.iconst 1, 1) := by decide +kernel
theorem dX6_doRounds_199 : decode cX6_doRounds 199 = .ok (.lshl, 1) := by decide +kernel
theorem dX6_doRounds_200 : decode cX6_doRounds 200 = .ok (.lload_n 3, 1) := by decide +kernel
theorem dX6_doRounds_201 : decode cX6_doRounds 201 = .ok (.bipush 63, 2) := by decide +kernel
theorem dX6_doRounds_203 : decode cX6_doRounds 203 = .ok (.lushr, 1) := by decide +kernel
theorem dX6_doRounds_204 : decode cX6_doRounds 204 = .ok (.lor, 1) := by decide +kernel
theorem dX6_doRounds_205 : decode cX6_doRounds 205 = .ok (.lxor, 1) := by decide +kernel
theorem dX6_doRounds_206 : decode cX6_doRounds 206 = .ok (.lstore 21, 2) := by decide +kernel
theorem dX6_doRounds_208 : decode cX6_doRounds 208 = .ok (.iconst 0, 1) := by decide +kernel
theorem dX6_doRounds_209 : decode cX6_doRounds 209 = .ok (.istore 23, 2) := by decide +kernel
theorem dX6_doRounds_211 : decode cX6_doRounds 211 = .ok (.iload 23, 2) := by decide +kernel
theorem dX6_doRounds_213 : decode cX6_doRounds 213 = .ok (.bipush 25, 2) := by decide +kernel
theorem dX6_doRounds_215 : decode cX6_doRounds 215 = .ok (.if_icmp .ge 62, 3) := by decide +kernel
theorem dX6_doRounds_218 : decode cX6_doRounds 218 = .ok (.aload_n 1, 1) := by decide +kernel
theorem dX6_doRounds_219 : decode cX6_doRounds 219 = .ok (.iload 23, 2) := by decide +kernel
theorem dX6_doRounds_221 : decode cX6_doRounds 221 = .ok (.dup2, 1) := by decide +kernel
theorem dX6_doRounds_222 : decode cX6_doRounds 222 = .ok (.laload, 1) := by decide +kernel
theorem dX6_doRounds_223 : decode cX6_doRounds 223 = .ok (.lload 13, 2) := by decide +kernel
theorem dX6_doRounds_225 : decode cX6_doRounds 225 = .ok (.lxor, 1) := by decide +kernel
theorem dX6_doRounds_226 : decode cX6_doRounds 226 = .ok (.lastore, 1) := by decide +kernel
theorem dX6_doRounds_227 : decode cX6_doRounds 227 = .ok (.aload_n 1, 1) := by decide +kernel
theorem dX6_doRounds_228 : decode cX6_doRounds 228 = .ok (.iload 23, 2) := by decide +kernel
theorem dX6_doRounds_230 : decode cX6_doRounds 230 = .ok (.iconst 1, 1) := by decide +kernel
theorem dX6_doRounds_231 : decode cX6_doRounds 231 = .ok (.iadd, 1) := by decide +kernel
theorem dX6_doRounds_232 : decode cX6_doRounds 232 = .ok (.dup2, 1) := by decide +kernel
theorem dX6_doRounds_233 : decode cX6_doRounds 233 = .ok (.laload, 1) := by decide +kernel
theorem dX6_doRounds_234 : decode cX6_doRounds 234 = .ok (.lload 15, 2) := by decide +kernel
theorem dX6_doRounds_236 : decode cX6_doRounds 236 = .ok (.lxor, 1) := by decide +kernel
theorem dX6_doRounds_237 : decode cX6_doRounds 237 = .ok (.lastore, 1) := by decide +kernel
theorem dX6_doRounds_238 : decode cX6_doRounds 238 = .ok (.aload_n 1, 1) := by decide +kernel
theorem dX6_doRounds_239 : decode cX6_doRounds 239 = .ok (.iload 23, 2) := by decide +kernel
theorem dX6_doRounds_241 : decode cX6_doRounds 241 = .ok (.iconst 2, 1) := by decide +kernel
theorem dX6_doRounds_242 : decode cX6_doRounds 242 = .ok (.iadd, 1) := by decide +kernel
theorem dX6_doRounds_243 : decode cX6_doRounds 243 = .ok (.dup2, 1) := by decide +kernel
theorem dX6_doRounds_244 : decode cX6_doRounds 244 = .ok (.laload, 1) := by decide +kernel
theorem dX6_doRounds_245 : decode cX6_doRounds 245 = .ok (.lload 17, 2) := by decide +kernel
theorem dX6_doRounds_247 : decode cX6_doRounds 247 = .ok (.lxor, 1) := by decide +kernel
theorem dX6_doRounds_248 : decode cX6_doRounds 248 = .ok (.lastore, 1) := by decide +kernel
theorem dX6_doRounds_249 : decode cX6_doRounds 249 = .ok (.aload_n 1, 1) := by decide +kernel
theorem dX6_doRounds_250 : decode cX6_doRounds 250 = .ok (.iload 23, 2) := by decide +kernel
theorem dX6_doRounds_252 : decode cX6_doRounds 252 = .ok (.iconst 3, 1) := by decide +kernel
theorem dX6_doRounds_253 : decode cX6_doRounds 253 = .ok (.iadd, 1) := by decide +kernel
theorem dX6_doRounds_254 : decode cX6_doRounds 254 = .ok (.dup2, 1) := by decide +kernel
theorem dX6_doRounds_255 : decode cX6_doRounds 255 = .ok (.laload, 1) := by decide +kernel
theorem dX6_doRounds_256 : decode cX6_doRounds 256 = .ok (.lload 19, 2) := by decide +kernel
theorem dX6_doRounds_258 : decode cX6_doRounds 258 = .ok (.lxor, 1) := by decide +kernel
theorem dX6_doRounds_259 : decode cX6_doRounds 259 = .ok (.lastore, 1) := by decide +kernel
theorem dX6_doRounds_260 : decode cX6_doRounds 260 = .ok (.aload_n 1, 1) := by decide +kernel
theorem dX6_doRounds_261 : decode cX6_doRounds 261 = .ok (.iload 23, 2) := by decide +kernel
theorem dX6_doRounds_263 : decode cX6_doRounds 263 = .ok (.iconst 4, 1) := by decide +kernel
theorem dX6_doRounds_264 : decode cX6_doRounds 264 = .ok (.iadd, 1) := by decide +kernel
theorem dX6_doRounds_265 : decode cX6_doRounds 265 = .ok (.dup2, 1) := by decide +kernel
theorem dX6_doRounds_266 : decode cX6_doRounds 266 = .ok (.laload, 1) := by decide +kernel
theorem dX6_doRounds_267 : decode cX6_doRounds 267 = .ok (.lload 21, 2) := by decide +kernel
theorem dX6_doRounds_269 : decode cX6_doRounds 269 = .ok (.lxor, 1) := by decide +kernel
theorem dX6_doRounds_270 : decode cX6_doRounds 270 = .ok (.lastore, 1) := by decide +kernel
theorem dX6_doRounds_271 : decode cX6_doRounds 271 = .ok (.iinc 23 5, 3) := by decide +kernel
theorem dX6_doRounds_274 : decode cX6_doRounds 274 = .ok (.goto (-63), 3) := by decide +kernel
theorem dX6_doRounds_277 : decode cX6_doRounds 277 = .ok (.aload_n 1, 1) := by decide +kernel
theorem dX6_doRounds_278 : decode cX6_doRounds 278 = .ok (.iconst 1, 1) := by decide +kernel
theorem dX6_doRounds_279 : decode cX6_doRounds 279 = .ok (.laload, 1) := by decide +kernel
theorem dX6_doRounds_280 : decode cX6_doRounds 280 = .ok (.lstore 23, 2) := by decide +kernel
theorem dX6_doRounds_282 : decode cX6_doRounds 282 = .ok (.iconst 0, 1) := by decide +kernel
theorem dX6_doRounds_283 : decode cX6_doRounds 283 = .ok (.istore 25, 2) := by decide +kernel
theorem dX6_doRounds_285 : decode cX6_doRounds 285 = .ok (.iload 25, 2) := by decide +kernel
theorem dX6_doRounds_287 : decode cX6_doRounds 287 = .ok (.bipush 24, 2) := by decide +kernel
theorem dX6_doRounds_289 : decode cX6_doRounds 289 = .ok (.if_icmp .ge 53, 3) := by decide +kernel
theorem dX6_doRounds_292 : decode cX6_doRounds 292 = .ok (.getstatic 59, 3) := by decide +kernel
theorem dX6_doRounds_295 : decode cX6_doRounds 295 = .ok (.iload 25, 2) := by decide +kernel
theorem dX6_doRounds_297 : decode cX6_doRounds 297 = .ok (.iaload, 1) := by decide +kernel
theorem dX6_doRounds_298 : decode cX6_doRounds 298 = .ok (.istore 26, 2) := by decide +kernel
theorem dX6_doRounds_300 : decode cX6_doRounds 300 = .ok (.getstatic 62, 3) := by decide +kernel
theorem dX6_doRounds_303 : decode cX6_doRounds 303 = .ok (.iload 25, 2) := by decide +kernel
theorem dX6_doRounds_305 : decode cX6_doRounds 305 = .ok (.iaload, 1) := by decide +kernel
theorem dX6_doRounds_306 : decode cX6_doRounds 306 = .ok (.istore 27, 2) := by decide +kernel
theorem dX6_doRounds_308 : decode cX6_doRounds 308 = .ok (.aload_n 1, 1) := by decide +kernel
theorem dX6_doRounds_309 : decode cX6_doRounds 309 = .ok (.iload 26, 2) := by decide +kernel
theorem dX6_doRounds_311 : decode cX6_doRounds 311 = .ok (.laload, 1) := by decide +kernel
theorem dX6_doRounds_312 : decode cX6_doRounds 312 = .ok (.lstore 28, 2) := by decide +kernel
theorem dX6_doRounds_314 : decode cX6_doRounds 314 = .ok (.aload_n 1, 1) := by decide +kernel
theorem dX6_doRounds_315 : decode cX6_doRounds 315 = .ok (.iload 26, 2) := by decide +kernel
theorem dX6_doRounds_317 : decode cX6_doRounds 317 = .ok (.lload 23, 2) := by decide +kernel
theorem dX6_doRounds_319 : decode cX6_doRounds 319 = .ok (.iload 27, 2) := by decide +kernel
theorem dX6_doRounds_321 : decode cX6_doRounds 321 = .ok (.lshl, 1) := by decide +kernel
theorem dX6_doRounds_322 : decode cX6_doRounds 322 = .ok (.lload 23, 2) := by decide +kernel
theorem dX6_doRounds_324 : decode cX6_doRounds 324 = .ok (.bipush 64, 2) := by decide +kernel
theorem dX6_doRounds_326 : decode cX6_doRounds 326 = .ok (.iload 27, 2) := by decide +kernel
theorem dX6_doRounds_328 : decode cX6_doRounds 328 = .ok (.isub, 1) := by decide +kernel
theorem dX6_doRounds_329 : decode cX6_doRounds 329 = .ok (.lushr, 1) := by decide +kernel
theorem dX6_doRounds_330 : decode cX6_doRounds 330 = .ok (.lor, 1) := by decide +kernel
theorem dX6_doRounds_331 : decode cX6_doRounds 331 = .ok (.lastore, 1) := by decide +kernel
theorem dX6_doRounds_332 : decode cX6_doRounds 332 = .ok (.lload 28, 2) := by decide +kernel
theorem dX6_doRounds_334 : decode cX6_doRounds 334 = .ok (.lstore 23, 2) := by decide +kernel
theorem dX6_doRounds_336 : decode cX6_doRounds 336 = .ok (.iinc 25 1, 3) := by decide +kernel
theorem dX6_doRounds_339 : decode cX6_doRounds 339 = .ok (.goto (-54), 3) := by decide +kernel
theorem dX6_doRounds_342 : decode cX6_doRounds 342 = .ok (.iconst 0, 1) := by decide +kernel
theorem dX6_doRounds_343 : decode cX6_doRounds 343 = .ok (.istore 25, 2) := by decide +kernel
theorem dX6_doRounds_345 : decode cX6_doRounds 345 = .ok (.iload 25, 2) := by decide +kernel
theorem dX6_doRounds_347 : decode cX6_doRounds 347 = .ok (.bipush 25, 2) := by decide +kernel
theorem dX6_doRounds_349 : decode cX6_doRounds 349 = .ok (.if_icmp .ge 135, 3) := by decide +kernel
theorem dX6_doRounds_352 : decode cX6_doRounds 352 = .ok (.aload_n 1, 1) := by decide +kernel
theorem dX6_doRounds_353 : decode cX6_doRounds 353 = .ok (.iload 25, 2) := by decide +kernel
theorem dX6_doRounds_355 : decode cX6_doRounds 355 = .ok (.laload, 1) := by decide +kernel
theorem dX6_doRounds_356 : decode cX6_doRounds 356 = .ok (.lstore 26, 2) := by decide +kernel
theorem dX6_doRounds_358 : decode cX6_doRounds 358 = .ok (.aload_n 1, 1) := by decide +kernel
theorem dX6_doRounds_359 : decode cX6_doRounds 359 = .ok (.iload 25, 2) := by decide +kernel
theorem dX6_doRounds_361 : decode cX6_doRounds 361 = .ok (.iconst 1, 1) := by decide +kernel
theorem dX6_doRounds_362 : decode cX6_doRounds 362 = .ok (.iadd, 1) := by decide +kernel
theorem dX6_doRounds_363 : decode cX6_doRounds 363 = .ok (.laload, 1) := by decide +kernel
theorem dX6_doRounds_364 : decode cX6_doRounds 364 = .ok (.lstore 28, 2) := by decide +kernel
theorem dX6_doRounds_366 : decode cX6_doRounds 366 = .ok (.aload_n 1, 1) := by decide +kernel
theorem dX6_doRounds_367 : decode cX6_doRounds 367 = .ok (.iload 25, 2) := by decide +kernel
theorem dX6_doRounds_369 : decode cX6_doRounds 369 = .ok (.iconst 2, 1) := by decide +kernel
theorem dX6_doRounds_370 : decode cX6_doRounds 370 = .ok (.iadd, 1) := by decide +kernel
theorem dX6_doRounds_371 : decode cX6_doRounds 371 = .ok (.laload, 1) := by decide +kernel
theorem dX6_doRounds_372 : decode cX6_doRounds 372 = .ok (.lstore 30, 2) := by decide +kernel
theorem dX6_doRounds_374 : decode cX6_doRounds 374 = .ok (.aload_n 1, 1) := by decide +kernel
theorem dX6_doRounds_375 : decode cX6_doRounds 375 = .ok (.iload 25, 2) := by decide +kernel
theorem dX6_doRounds_377 : decode cX6_doRounds 377 = .ok (.iconst 3, 1) := by decide +kernel
theorem dX6_doRounds_378 : decode cX6_doRounds 378 = .ok (.iadd, 1) := by decide +kernel
theorem dX6_doRounds_379 : decode cX6_doRounds 379 = .ok (.laload, 1) := by decide +kernel
theorem dX6_doRounds_380 : decode cX6_doRounds 380 = .ok (.lstore 32, 2) := by decide +kernel
theorem dX6_doRounds_382 : decode cX6_doRounds 382 = .ok (.aload_n 1, 1) := by decide +kernel
theorem dX6_doRounds_383 : decode cX6_doRounds 383 = .ok (.iload 25, 2) := by decide +kernel
theorem dX6_doRounds_385 : decode cX6_doRounds 385 = .ok (.iconst 4, 1) := by decide +kernel
theorem dX6_doRounds_386 : decode cX6_doRounds 386 = .ok (.iadd, 1) := by decide +kernel
theorem dX6_doRounds_387 : decode cX6_doRounds 387 = .ok (.laload, 1) := by decide +kernel
theorem dX6_doRounds_388 : decode cX6_doRounds 388 = .ok (.lstore 34, 2) := by decide +kernel
theorem dX6_doRounds_390 : decode cX6_doRounds 390 = .ok (.aload_n 1, 1) := by decide +kernel
theorem dX6_doRounds_391 : decode cX6_doRounds 391 = .ok (.iload 25, 2) := by decide +kernel
theorem dX6_doRounds_393 : decode cX6_doRounds 393 = .ok (.lload 26, 2) := by decide +kernel
theorem dX6_doRounds_395 : decode cX6_doRounds 395 = .ok (.lload 28, 2) := by decide +kernel
theorem dX6_doRounds_397 : decode cX6_doRounds 397 = .ok (.ldc2_w 65, 3) := by decide +kernel
theorem dX6_doRounds_400 : decode cX6_doRounds 400 = .ok (.lxor, 1) := by decide +kernel
theorem dX6_doRounds_401 : decode cX6_doRounds 401 = .ok (.lload 30, 2) := by decide +kernel
theorem dX6_doRounds_403 : decode cX6_doRounds 403 = .ok (.land, 1) := by decide +kernel
theorem dX6_doRounds_404 : decode cX6_doRounds 404 = .ok (.lxor, 1) := by decide +kernel
theorem dX6_doRounds_405 : decode cX6_doRounds 405 = .ok (.lastore, 1) := by decide +kernel
theorem dX6_doRounds_406 : decode cX6_doRounds 406 = .ok (.aload_n 1, 1) := by decide +kernel
theorem dX6_doRounds_407 : decode cX6_doRounds 407 = .ok (.iload 25, 2) := by decide +kernel
theorem dX6_doRounds_409 : decode cX6_doRounds 409 = .ok (.iconst 1, 1) := by decide +kernel
theorem dX6_doRounds_410 : decode cX6_doRounds 410 = .ok (.iadd, 1) := by decide +kernel
theorem dX6_doRounds_411 : decode cX6_doRounds 411 = .ok (.lload 28, 2) := by decide +kernel
theorem dX6_doRounds_413 : decode cX6_doRounds 413 = .ok (.lload 30, 2) := by decide +kernel
theorem dX6_doRounds_415 : decode cX6_doRounds 415 = .ok (.ldc2_w 65, 3) := by decide +kernel
theorem dX6_doRounds_418 : decode cX6_doRounds 418 = .ok (.lxor, 1) := by decide +kernel
theorem dX6_doRounds_419 : decode cX6_doRounds 419 = .ok (.lload 32, 2) := by decide +kernel
theorem dX6_doRounds_421 : decode cX6_doRounds 421 = .ok (.land, 1) := by decide +kernel
theorem dX6_doRounds_422 : decode cX6_doRounds 422 = .ok (.lxor, 1) := by decide +kernel
theorem dX6_doRounds_423 : decode cX6_doRounds 423 = .ok (.lastore, 1) := by decide +kernel
theorem dX6_doRounds_424 : decode cX6_doRounds 424 = .ok (.aload_n 1, 1) := by decide +kernel
theorem dX6_doRounds_425 : decode cX6_doRounds 425 = .ok (.iload 25, 2) := by decide +kernel
theorem dX6_doRounds_427 : decode cX6_doRounds 427 = .ok (.iconst 2, 1) := by decide +kernel
theorem dX6_doRounds_428 : decode cX6_doRounds 428 = .ok (.iadd, 1) := by decide +kernel
theorem dX6_doRounds_429 : decode cX6_doRounds 429 = .ok (.lload 30, 2) := by decide +kernel
theorem dX6_doRounds_431 : decode cX6_doRounds 431 = .ok (.lload 32, 2) := by decide +kernel
theorem dX6_doRounds_433 : decode cX6_doRounds 433 = .ok (.ldc2_w 65, 3) := by decide +kernel
theorem dX6_doRounds_436 : decode cX6_doRounds 436 = .ok (.lxor, 1) := by decide +kernel
theorem dX6_doRounds_437 : decode cX6_doRounds 437 = .ok (.lload 34, 2) := by decide +kernel
theorem dX6_doRounds_439 : decode cX6_doRounds 439 = .ok (.land, 1) := by decide +kernel
theorem dX6_doRounds_440 : decode cX6_doRounds 440 = .ok (.lxor, 1) := by decide +kernel
theorem dX6_doRounds_441 : decode cX6_doRounds 441 = .ok (.lastore, 1) := by decide +kernel
theorem dX6_doRounds_442 : decode cX6_doRounds 442 = .ok (.aload_n 1, 1) := by decide +kernel
theorem dX6_doRounds_443 : decode cX6_doRounds 443 = .ok (.iload 25, 2) := by decide +kernel
theorem dX6_doRounds_445 : decode cX6_doRounds 445 = .ok (.iconst 3, 1) := by decide +kernel
theorem dX6_doRounds_446 : decode cX6_doRounds 446 = .ok (.iadd, 1) := by decide +kernel
theorem dX6_doRounds_447 : decode cX6_doRounds 447 = .ok (.lload 32, 2) := by decide +kernel
theorem dX6_doRounds_449 : decode cX6_doRounds 449 = .ok (.lload 34, 2) := by decide +kernel
theorem dX6_doRounds_451 : decode cX6_doRounds 451 = .ok (.ldc2_w 65, 3) := by decide +kernel
theorem dX6_doRounds_454 : decode cX6_doRounds 454 = .ok (.lxor, 1) := by decide +kernel
theorem dX6_doRounds_455 : decode cX6_doRounds 455 = .ok (.lload 26, 2) := by decide +kernel
theorem dX6_doRounds_457 : decode cX6_doRounds 457 = .ok (.land, 1) := by decide +kernel
theorem dX6_doRounds_458 : decode cX6_doRounds 458 = .ok (.lxor, 1) := by decide +kernel
theorem dX6_doRounds_459 : decode cX6_doRounds 459 = .ok (.lastore, 1) := by decide +kernel
theorem dX6_doRounds_460 : decode cX6_doRounds 460 = .ok (.aload_n 1, 1) := by decide +kernel
theorem dX6_doRounds_461 : decode cX6_doRounds 461 = .ok (.iload 25, 2) := by decide +kernel
theorem dX6_doRounds_463 : decode cX6_doRounds 463 = .ok (.iconst 4, 1) := by decide +kernel
theorem dX6_doRounds_464 : decode cX6_doRounds 464 = .ok (.iadd, 1) := by decide +kernel
theorem dX6_doRounds_465 : decode cX6_doRounds 465 = .ok (.lload 34, 2) := by decide +kernel
theorem dX6_doRounds_467 : decode cX6_doRounds 467 = .ok (.lload 26, 2) := by decide +kernel
theorem dX6_doRounds_469 : decode cX6_doRounds 469 = .ok (.ldc2_w 65, 3) := by decide +kernel
theorem dX6_doRounds_472 : decode cX6_doRounds 472 = .ok (.lxor, 1) := by decide +kernel
theorem dX6_doRounds_473 : decode cX6_doRounds 473 = .ok (.lload 28, 2) := by decide +kernel
theorem dX6_doRounds_475 : decode cX6_doRounds 475 = .ok (.land, 1) := by decide +kernel
theorem dX6_doRounds_476 : decode cX6_doRounds 476 = .ok (.lxor, 1) := by decide +kernel
theorem dX6_doRounds_477 : decode cX6_doRounds 477 = .ok (.lastore, 1) := by decide +kernel
theorem dX6_doRounds_478 : decode cX6_doRounds 478 = .ok (.iinc 25 5, 3) := by decide +kernel
theorem dX6_doRounds_481 : decode cX6_doRounds 481 = .ok (.goto (-136), 3) := by decide +kernel
theorem dX6_doRounds_484 : decode cX6_doRounds 484 = .ok (.aload_n 1, 1) := by decide +kernel
theorem dX6_doRounds_485 : decode cX6_doRounds 485 = .ok (.iconst 0, 1) := by decide +kernel
theorem dX6_doRounds_486 : decode cX6_doRounds 486 = .ok (.dup2, 1) := by decide +kernel
theorem dX6_doRounds_487 : decode cX6_doRounds 487 = .ok (.laload, 1) := by decide +kernel
theorem dX6_doRounds_488 : decode cX6_doRounds 488 = .ok (.getstatic 67, 3) := by decide +kernel
theorem dX6_doRounds_491 : decode cX6_doRounds 491 = .ok (.iload_n 2, 1) := by decide +kernel
theorem dX6_doRounds_492 : decode cX6_doRounds 492 = .ok (.laload, 1) := by decide +kernel
theorem dX6_doRounds_493 : decode cX6_doRounds 493 = .ok (.lxor, 1) := by decide +kernel
theorem dX6_doRounds_494 : decode cX6_doRounds 494 = .ok (.lastore, 1) := by decide +kernel
theorem dX6_doRounds_495 : decode cX6_doRounds 495 = .ok (.iinc 2 1, 3) := by decide +kernel
theorem dX6_doRounds_498 : decode cX6_doRounds 498 = .ok (.goto (-491), 3) := by decide +kernel
theorem dX6_doRounds_501 : decode cX6_doRounds 501 = .ok (.return_, 1) := by decide +kernel
