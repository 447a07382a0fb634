theorem dX7_writeStatement_0 : decode cX7_writeStatement 0 = .ok (.aload_n 0, 1) := by decide +kernel
theorem dX7_writeStatement_1 : decode cX7_writeStatement 1 = .ok (.invokevirtual 239, 3) := by decide +kernel
theorem dX7_writeStatement_4 : decode cX7_writeStatement 4 = .ok (.istore_n 1, 1) := by decide +kernel
theorem dX7_writeStatement_5 : decode cX7_writeStatement 5 = .ok (.aload_n 0, 1) := by decide +kernel
theorem dX7_writeStatement_6 : decode cX7_writeStatement 6 = .ok (.getfield 230, 3) := by decide +kernel
theorem dX7_writeStatement_9 : decode cX7_writeStatement 9 = .ok (.ifCond .ne 18, 3) := by decide +kernel
theorem dX7_writeStatement_12 : decode cX7_writeStatement 12 = .ok (.iload_n 1, 1) := by decide +kernel
theorem dX7_writeStatement_13 : decode cX7_writeStatement 13 = .ok (.iconst 0, 1) := by decide +kernel
theorem dX7_writeStatement_14 : decode cX7_writeStatement 14 = .ok (.bipush 11, 2) := by decide +kernel
theorem dX7_writeStatement_16 : decode cX7_writeStatement 16 = .ok (.invokestatic 138, 3) := by decide +kernel
theorem dX7_writeStatement_19 : decode cX7_writeStatement 19 = .ok (.ifCond .ne 8, 3) := by decide +kernel
theorem dX7_writeStatement_22 : decode cX7_writeStatement 22 = .ok (.aload_n 0, 1) := by decide +kernel
theorem dX7_writeStatement_23 : decode cX7_writeStatement 23 = .ok (.iconst 2, 1) := by decide +kernel
theorem dX7_writeStatement_24 : decode cX7_writeStatement 24 = .ok (.invokevirtual 243, 3) := by decide +kernel
theorem dX7_writeStatement_27 : decode cX7_writeStatement 27 = .ok (.iload_n 1, 1) := by decide +kernel
theorem dX7_writeStatement_28 : decode cX7_writeStatement 28 = .ok (.bipush 6, 2) := by decide +kernel
theorem dX7_writeStatement_30 : decode cX7_writeStatement 30 = .ok (.if_icmp .eq 21, 3) := by decide +kernel
theorem dX7_writeStatement_33 : decode cX7_writeStatement 33 = .ok (.iload_n 1, 1) := by decide +kernel
theorem dX7_writeStatement_34 : decode cX7_writeStatement 34 = .ok (.bipush 7, 2) := by decide +kernel
theorem dX7_writeStatement_36 : decode cX7_writeStatement 36 = .ok (.if_icmp .eq 15, 3) := by decide +kernel
theorem dX7_writeStatement_39 : decode cX7_writeStatement 39 = .ok (.iload_n 1, 1) := by decide +kernel
theorem dX7_writeStatement_40 : decode cX7_writeStatement 40 = .ok (.bipush 9, 2) := by decide +kernel
theorem dX7_writeStatement_42 : decode cX7_writeStatement 42 = .ok (.if_icmp .eq 9, 3) := by decide +kernel
theorem dX7_writeStatement_45 : decode cX7_writeStatement 45 = .ok (.iload_n 1, 1) := by decide +kernel
theorem dX7_writeStatement_46 : decode cX7_writeStatement 46 = .ok (.bipush 10, 2) := by decide +kernel
theorem dX7_writeStatement_48 : decode cX7_writeStatement 48 = .ok (.if_icmp .ne 7, 3) := by decide +kernel
theorem dX7_writeStatement_51 : decode cX7_writeStatement 51 = .ok (.iconst 1, 1) := by decide +kernel
theorem dX7_writeStatement_52 : decode cX7_writeStatement 52 = .ok (.goto 4, 3) := by decide +kernel
theorem dX7_writeStatement_55 : decode cX7_writeStatement 55 = .ok (.iconst 0, 1) := by decide +kernel
theorem dX7_writeStatement_56 : decode cX7_writeStatement 56 = .ok (.istore_n 2, 1) := by decide +kernel
theorem dX7_writeStatement_57 : decode cX7_writeStatement 57 = .ok (.aload_n 0, 1) := by decide +kernel
theorem dX7_writeStatement_58 : decode cX7_writeStatement 58 = .ok (.getfield 230, 3) := by decide +kernel
theorem dX7_writeStatement_61 : decode cX7_writeStatement 61 = .ok (.ifCond .ne 20, 3) := by decide +kernel
theorem dX7_writeStatement_64 : decode cX7_writeStatement 64 = .ok (.iload_n 2, 1) := by decide +kernel
theorem dX7_writeStatement_65 : decode cX7_writeStatement 65 = .ok (.ifCond .eq 16, 3) := by decide +kernel
theorem dX7_writeStatement_68 : decode cX7_writeStatement 68 = .ok (.aload_n 0, 1) := by decide +kernel
theorem dX7_writeStatement_69 : decode cX7_writeStatement 69 = .ok (.invokevirtual 253, 3) := by decide +kernel
theorem dX7_writeStatement_72 : decode cX7_writeStatement 72 = .ok (.iconst (-1), 1) := by decide +kernel
theorem dX7_writeStatement_73 : decode cX7_writeStatement 73 = .ok (.if_icmp .ne 8, 3) := by decide +kernel
theorem dX7_writeStatement_76 : decode cX7_writeStatement 76 = .ok (.aload_n 0, 1) := by decide +kernel
theorem dX7_writeStatement_77 : decode cX7_writeStatement 77 = .ok (.iconst 5, 1) := by decide +kernel
theorem dX7_writeStatement_78 : decode cX7_writeStatement 78 = .ok (.invokevirtual 243, 3) := by decide +kernel
theorem dX7_writeStatement_81 : decode cX7_writeStatement 81 = .ok (.aload_n 0, 1) := by decide +kernel
theorem dX7_writeStatement_82 : decode cX7_writeStatement 82 = .ok (.getfield 230, 3) := by decide +kernel
theorem dX7_writeStatement_85 : decode cX7_writeStatement 85 = .ok (.ifCond .eq 4, 3) := by decide +kernel
theorem dX7_writeStatement_88 : decode cX7_writeStatement 88 = .ok (.return_, 1) := by decide +kernel
theorem dX7_writeStatement_89 : decode cX7_writeStatement 89 = .ok (.iload_n 1, 1) := by decide +kernel
theorem dX7_writeStatement_90 : decode cX7_writeStatement 90 = .ok (.ifCond .ne 8, 3) := by decide +kernel
theorem dX7_writeStatement_93 : decode cX7_writeStatement 93 = .ok (.aload_n 0, 1) := by decide +kernel
theorem dX7_writeStatement_94 : decode cX7_writeStatement 94 = .ok (.invokevirtual 256, 3) := by decide +kernel
theorem dX7_writeStatement_97 : decode cX7_writeStatement 97 = .ok (.return_, 1) := by decide +kernel
theorem dX7_writeStatement_98 : decode cX7_writeStatement 98 = .ok (.iload_n 1, 1) := by decide +kernel
theorem dX7_writeStatement_99 : decode cX7_writeStatement 99 = .ok (.iconst 3, 1) := by decide +kernel
theorem dX7_writeStatement_100 : decode cX7_writeStatement 100 = .ok (.if_icmp .eq 18, 3) := by decide +kernel
theorem dX7_writeStatement_103 : decode cX7_writeStatement 103 = .ok (.iload_n 1, 1) := by decide +kernel
theorem dX7_writeStatement_104 : decode cX7_writeStatement 104 = .ok (.bipush 6, 2) := by decide +kernel
theorem dX7_writeStatement_106 : decode cX7_writeStatement 106 = .ok (.bipush 8, 2) := by decide +kernel
theorem dX7_writeStatement_108 : decode cX7_writeStatement 108 = .ok (.invokestatic 138, 3) := by decide +kernel
theorem dX7_writeStatement_111 : decode cX7_writeStatement 111 = .ok (.ifCond .ne 7, 3) := by decide +kernel
theorem dX7_writeStatement_114 : decode cX7_writeStatement 114 = .ok (.iconst 1, 1) := by decide +kernel
theorem dX7_writeStatement_115 : decode cX7_writeStatement 115 = .ok (.goto 4, 3) := by decide +kernel
theorem dX7_writeStatement_118 : decode cX7_writeStatement 118 = .ok (.iconst 0, 1) := by decide +kernel
theorem dX7_writeStatement_119 : decode cX7_writeStatement 119 = .ok (.istore_n 3, 1) := by decide +kernel
theorem dX7_writeStatement_120 : decode cX7_writeStatement 120 = .ok (.iload_n 3, 1) := by decide +kernel
theorem dX7_writeStatement_121 : decode cX7_writeStatement 121 = .ok (.ifCond .eq 11, 3) := by decide +kernel
theorem dX7_writeStatement_124 : decode cX7_writeStatement 124 = .ok (.aload_n 0, 1) := by decide +kernel
theorem dX7_writeStatement_125 : decode cX7_writeStatement 125 = .ok (.iconst 0, 1) := by decide +kernel
theorem dX7_writeStatement_126 : decode cX7_writeStatement 126 = .ok (.invokevirtual 259, 3) := by decide +kernel
theorem dX7_writeStatement_129 : decode cX7_writeStatement 129 = .ok (.goto 4, 3) := by decide +kernel
theorem dX7_writeStatement_132 : decode cX7_writeStatement 132 = .ok (.iconst 0, 1) := by decide +kernel
theorem dX7_writeStatement_133 : decode cX7_writeStatement 133 = .ok (.istore 4, 2) := by decide +kernel
theorem dX7_writeStatement_135 : decode cX7_writeStatement 135 = .ok (.iload_n 3, 1) := by decide +kernel
theorem dX7_writeStatement_136 : decode cX7_writeStatement 136 = .ok (.ifCond .eq 11, 3) := by decide +kernel
theorem dX7_writeStatement_139 : decode cX7_writeStatement 139 = .ok (.aload_n 0, 1) := by decide +kernel
theorem dX7_writeStatement_140 : decode cX7_writeStatement 140 = .ok (.iconst 1, 1) := by decide +kernel
theorem dX7_writeStatement_141 : decode cX7_writeStatement 141 = .ok (.invokevirtual 259, 3) := by decide +kernel
theorem dX7_writeStatement_144 : decode cX7_writeStatement 144 = .ok (.goto 4, 3) := by decide +kernel
theorem dX7_writeStatement_147 : decode cX7_writeStatement 147 = .ok (.iconst 0, 1) := by decide +kernel
theorem dX7_writeStatement_148 : decode cX7_writeStatement 148 = .ok (.istore 5, 2) := by decide +kernel
theorem dX7_writeStatement_150 : decode cX7_writeStatement 150 = .ok (.iload_n 2, 1) := by decide +kernel
theorem dX7_writeStatement_151 : decode cX7_writeStatement 151 = .ok (.ifCond .eq 32, 3) := by decide +kernel
theorem dX7_writeStatement_154 : decode cX7_writeStatement 154 = .ok (.aload_n 0, 1) := by decide +kernel
theorem dX7_writeStatement_155 : decode cX7_writeStatement 155 = .ok (.iload_n 1, 1) := by decide +kernel
theorem dX7_writeStatement_156 : decode cX7_writeStatement 156 = .ok (.bipush 6, 2) := by decide +kernel
theorem dX7_writeStatement_158 : decode cX7_writeStatement 158 = .ok (.if_icmp .eq 9, 3) := by decide +kernel
theorem dX7_writeStatement_161 : decode cX7_writeStatement 161 = .ok (.iload_n 1, 1) := by decide +kernel
theorem dX7_writeStatement_162 : decode cX7_writeStatement 162 = .ok (.bipush 9, 2) := by decide +kernel
theorem dX7_writeStatement_164 : decode cX7_writeStatement 164 = .ok (.if_icmp .ne 7, 3) := by decide +kernel
theorem dX7_writeStatement_167 : decode cX7_writeStatement 167 = .ok (.iconst 1, 1) := by decide +kernel
theorem dX7_writeStatement_168 : decode cX7_writeStatement 168 = .ok (.goto 4, 3) := by decide +kernel
theorem dX7_writeStatement_171 : decode cX7_writeStatement 171 = .ok (.iconst 2, 1) := by decide +kernel
theorem dX7_writeStatement_172 : decode cX7_writeStatement 172 = .ok (.iload_n 3, 1) := by decide +kernel
theorem dX7_writeStatement_173 : decode cX7_writeStatement 173 = .ok (.iload 4, 2) := by decide +kernel
theorem dX7_writeStatement_175 : decode cX7_writeStatement 175 = .ok (.iload 5, 2) := by decide +kernel
theorem dX7_writeStatement_177 : decode cX7_writeStatement 177 = .ok (.invokevirtual 262, 3) := by decide +kernel
theorem dX7_writeStatement_180 : decode cX7_writeStatement 180 = .ok (.goto 96, 3) := by decide +kernel
theorem dX7_writeStatement_183 : decode cX7_writeStatement 183 = .ok (.iload_n 1, 1) := by decide +kernel
theorem dX7_writeStatement_184 : decode cX7_writeStatement 184 = .ok (.bipush 8, 2) := by decide +kernel
theorem dX7_writeStatement_186 : decode cX7_writeStatement 186 = .ok (.if_icmp .eq 9, 3) := by decide +kernel
theorem dX7_writeStatement_189 : decode cX7_writeStatement 189 = .ok (.iload_n 1, 1) := by decide +kernel
theorem dX7_writeStatement_190 : decode cX7_writeStatement 190 = .ok (.bipush 11, 2) := by decide +kernel
theorem dX7_writeStatement_192 : decode cX7_writeStatement 192 = .ok (.if_icmp .ne 42, 3) := by decide +kernel
theorem dX7_writeStatement_195 : decode cX7_writeStatement 195 = .ok (.aload_n 0, 1) := by decide +kernel
theorem dX7_writeStatement_196 : decode cX7_writeStatement 196 = .ok (.invokevirtual 239, 3) := by decide +kernel
theorem dX7_writeStatement_199 : decode cX7_writeStatement 199 = .ok (.istore 6, 2) := by decide +kernel
theorem dX7_writeStatement_201 : decode cX7_writeStatement 201 = .ok (.iload 6, 2) := by decide +kernel
theorem dX7_writeStatement_203 : decode cX7_writeStatement 203 = .ok (.ifCond .ge 9, 3) := by decide +kernel
theorem dX7_writeStatement_206 : decode cX7_writeStatement 206 = .ok (.aload_n 0, 1) := by decide +kernel
theorem dX7_writeStatement_207 : decode cX7_writeStatement 207 = .ok (.bipush 6, 2) := by decide +kernel
theorem dX7_writeStatement_209 : decode cX7_writeStatement 209 = .ok (.invokevirtual 243, 3) := by decide +kernel
theorem dX7_writeStatement_212 : decode cX7_writeStatement 212 = .ok (.aload_n 0, 1) := by decide +kernel
theorem dX7_writeStatement_213 : decode cX7_writeStatement 213 = .ok (.iload_n 3, 1) := by decide +kernel
theorem dX7_writeStatement_214 : decode cX7_writeStatement 214 = .ok (.ifCond .eq 7, 3) := by decide +kernel
theorem dX7_writeStatement_217 : decode cX7_writeStatement 217 = .ok (.iconst 3, 1) := by decide +kernel
theorem dX7_writeStatement_218 : decode cX7_writeStatement 218 = .ok (.goto 4, 3) := by decide +kernel
theorem dX7_writeStatement_221 : decode cX7_writeStatement 221 = .ok (.iconst 2, 1) := by decide +kernel
theorem dX7_writeStatement_222 : decode cX7_writeStatement 222 = .ok (.iload 4, 2) := by decide +kernel
theorem dX7_writeStatement_224 : decode cX7_writeStatement 224 = .ok (.iload 5, 2) := by decide +kernel
theorem dX7_writeStatement_226 : decode cX7_writeStatement 226 = .ok (.iload 6, 2) := by decide +kernel
theorem dX7_writeStatement_228 : decode cX7_writeStatement 228 = .ok (.invokevirtual 249, 3) := by decide +kernel
theorem dX7_writeStatement_231 : decode cX7_writeStatement 231 = .ok (.goto 45, 3) := by decide +kernel
theorem dX7_writeStatement_234 : decode cX7_writeStatement 234 = .ok (.aload_n 0, 1) := by decide +kernel
theorem dX7_writeStatement_235 : decode cX7_writeStatement 235 = .ok (.getfield 236, 3) := by decide +kernel
theorem dX7_writeStatement_238 : decode cX7_writeStatement 238 = .ok (.istore 6, 2) := by decide +kernel
theorem dX7_writeStatement_240 : decode cX7_writeStatement 240 = .ok (.iload_n 1, 1) := by decide +kernel
theorem dX7_writeStatement_241 : decode cX7_writeStatement 241 = .ok (.iconst 1, 1) := by decide +kernel
theorem dX7_writeStatement_242 : decode cX7_writeStatement 242 = .ok (.if_icmp .eq 13, 3) := by decide +kernel
theorem dX7_writeStatement_245 : decode cX7_writeStatement 245 = .ok (.iload_n 1, 1) := by decide +kernel
theorem dX7_writeStatement_246 : decode cX7_writeStatement 246 = .ok (.iconst 2, 1) := by decide +kernel
theorem dX7_writeStatement_247 : decode cX7_writeStatement 247 = .ok (.if_icmp .eq 8, 3) := by decide +kernel
theorem dX7_writeStatement_250 : decode cX7_writeStatement 250 = .ok (.iload_n 1, 1) := by decide +kernel
theorem dX7_writeStatement_251 : decode cX7_writeStatement 251 = .ok (.iconst 4, 1) := by decide +kernel
theorem dX7_writeStatement_252 : decode cX7_writeStatement 252 = .ok (.if_icmp .ne 13, 3) := by decide +kernel
theorem dX7_writeStatement_255 : decode cX7_writeStatement 255 = .ok (.aload_n 0, 1) := by decide +kernel
theorem dX7_writeStatement_256 : decode cX7_writeStatement 256 = .ok (.iconst 3, 1) := by decide +kernel
theorem dX7_writeStatement_257 : decode cX7_writeStatement 257 = .ok (.iload 4, 2) := by decide +kernel
theorem dX7_writeStatement_259 : decode cX7_writeStatement 259 = .ok (.iload 5, 2) := by decide +kernel
theorem dX7_writeStatement_261 : decode cX7_writeStatement 261 = .ok (.iconst 0, 1) := by decide +kernel
theorem dX7_writeStatement_262 : decode cX7_writeStatement 262 = .ok (.invokevirtual 249, 3) := by decide +kernel
theorem dX7_writeStatement_265 : decode cX7_writeStatement 265 = .ok (.aload_n 0, 1) := by decide +kernel
theorem dX7_writeStatement_266 : decode cX7_writeStatement 266 = .ok (.iload_n 1, 1) := by decide +kernel
theorem dX7_writeStatement_267 : decode cX7_writeStatement 267 = .ok (.iload 4, 2) := by decide +kernel
theorem dX7_writeStatement_269 : decode cX7_writeStatement 269 = .ok (.iload 5, 2) := by decide +kernel
theorem dX7_writeStatement_271 : decode cX7_writeStatement 271 = .ok (.iload 6, 2) := by decide +kernel
theorem dX7_writeStatement_273 : decode cX7_writeStatement 273 = .ok (.invokevirtual 266, 3) := by decide +kernel
theorem dX7_writeStatement_276 : decode cX7_writeStatement 276 = .ok (.return_, 1) := by decide +kernel
theorem dX7_close_0 : decode cX7_close 0 = .ok (.iconst 0, 1) := by decide +kernel
theorem dX7_close_1 : decode cX7_close 1 = .ok (.istore_n 3, 1) := by decide +kernel
theorem dX7_close_2 : decode cX7_close 2 = .ok (.iload_n 3, 1) := by decide +kernel
theorem dX7_close_3 : decode cX7_close 3 = .ok (.aload_n 0, 1) := by decide +kernel
theorem dX7_close_4 : decode cX7_close 4 = .ok (.getfield 236, 3) := by decide +kernel
theorem dX7_close_7 : decode cX7_close 7 = .ok (.if_icmp .ge 61, 3) := by decide +kernel
theorem dX7_close_10 : decode cX7_close 10 = .ok (.aload_n 0, 1) := by decide +kernel
theorem dX7_close_11 : decode cX7_close 11 = .ok (.getfield 105, 3) := by decide +kernel
theorem dX7_close_14 : decode cX7_close 14 = .ok (.iload_n 3, 1) := by decide +kernel
theorem dX7_close_15 : decode cX7_close 15 = .ok (.iaload, 1) := by decide +kernel
theorem dX7_close_16 : decode cX7_close 16 = .ok (.ifCond .le 46, 3) := by decide +kernel
theorem dX7_close_19 : decode cX7_close 19 = .ok (.aload_n 0, 1) := by decide +kernel
theorem dX7_close_20 : decode cX7_close 20 = .ok (.getfield 108, 3) := by decide +kernel
theorem dX7_close_23 : decode cX7_close 23 = .ok (.iload_n 3, 1) := by decide +kernel
theorem dX7_close_24 : decode cX7_close 24 = .ok (.iaload, 1) := by decide +kernel
theorem dX7_close_25 : decode cX7_close 25 = .ok (.aload_n 0, 1) := by decide +kernel
theorem dX7_close_26 : decode cX7_close 26 = .ok (.getfield 246, 3) := by decide +kernel
theorem dX7_close_29 : decode cX7_close 29 = .ok (.iconst 1, 1) := by decide +kernel
theorem dX7_close_30 : decode cX7_close 30 = .ok (.isub, 1) := by decide +kernel
theorem dX7_close_31 : decode cX7_close 31 = .ok (.if_icmp .ne 31, 3) := by decide +kernel
theorem dX7_close_34 : decode cX7_close 34 = .ok (.aload_n 0, 1) := by decide +kernel
theorem dX7_close_35 : decode cX7_close 35 = .ok (.getfield 102, 3) := by decide +kernel
theorem dX7_close_38 : decode cX7_close 38 = .ok (.iload_n 3, 1) := by decide +kernel
theorem dX7_close_39 : decode cX7_close 39 = .ok (.aload_n 0, 1) := by decide +kernel
theorem dX7_close_40 : decode cX7_close 40 = .ok (.getfield 105, 3) := by decide +kernel
theorem dX7_close_43 : decode cX7_close 43 = .ok (.iload_n 3, 1) := by decide +kernel
theorem dX7_close_44 : decode cX7_close 44 = .ok (.iaload, 1) := by decide +kernel
theorem dX7_close_45 : decode cX7_close 45 = .ok (.iconst 1, 1) := by decide +kernel
theorem dX7_close_46 : decode cX7_close 46 = .ok (.if_icmp .ne 7, 3) := by decide +kernel
theorem dX7_close_49 : decode cX7_close 49 = .ok (.iload_n 1, 1) := by decide +kernel
theorem dX7_close_50 : decode cX7_close 50 = .ok (.goto 4, 3) := by decide +kernel
theorem dX7_close_53 : decode cX7_close 53 = .ok (.iload_n 2, 1) := by decide +kernel
theorem dX7_close_54 : decode cX7_close 54 = .ok (.iastore, 1) := by decide +kernel
theorem dX7_close_55 : decode cX7_close 55 = .ok (.aload_n 0, 1) := by decide +kernel
theorem dX7_close_56 : decode cX7_close 56 = .ok (.getfield 105, 3) := by decide +kernel
theorem dX7_close_59 : decode cX7_close 59 = .ok (.iload_n 3, 1) := by decide +kernel
theorem dX7_close_60 : decode cX7_close 60 = .ok (.iconst 0, 1) := by decide +kernel
theorem dX7_close_61 : decode cX7_close 61 = .ok (.iastore, 1) := by decide +kernel
theorem dX7_close_62 : decode cX7_close 62 = .ok (.iinc 3 1, 3) := by decide +kernel
theorem dX7_close_65 : decode cX7_close 65 = .ok (.goto (-63), 3) := by decide +kernel
theorem dX7_close_68 : decode cX7_close 68 = .ok (.return_, 1) := by decide +kernel
theorem dX7_endBody_0 : decode cX7_endBody 0 = .ok (.aload_n 0, 1) := by decide +kernel
theorem dX7_endBody_1 : decode cX7_endBody 1 = .ok (.getfield 246, 3) := by decide +kernel
theorem dX7_endBody_4 : decode cX7_endBody 4 = .ok (.iconst 1, 1) := by decide +kernel
theorem dX7_endBody_5 : decode cX7_endBody 5 = .ok (.isub, 1) := by decide +kernel
theorem dX7_endBody_6 : decode cX7_endBody 6 = .ok (.istore_n 1, 1) := by decide +kernel
theorem dX7_endBody_7 : decode cX7_endBody 7 = .ok (.aload_n 0, 1) := by decide +kernel
theorem dX7_endBody_8 : decode cX7_endBody 8 = .ok (.getfield 126, 3) := by decide +kernel
theorem dX7_endBody_11 : decode cX7_endBody 11 = .ok (.iload_n 1, 1) := by decide +kernel
theorem dX7_endBody_12 : decode cX7_endBody 12 = .ok (.iaload, 1) := by decide +kernel
theorem dX7_endBody_13 : decode cX7_endBody 13 = .ok (.istore_n 2, 1) := by decide +kernel
theorem dX7_endBody_14 : decode cX7_endBody 14 = .ok (.aload_n 0, 1) := by decide +kernel
theorem dX7_endBody_15 : decode cX7_endBody 15 = .ok (.getfield 114, 3) := by decide +kernel
theorem dX7_endBody_18 : decode cX7_endBody 18 = .ok (.iload_n 1, 1) := by decide +kernel
theorem dX7_endBody_19 : decode cX7_endBody 19 = .ok (.iaload, 1) := by decide +kernel
theorem dX7_endBody_20 : decode cX7_endBody 20 = .ok (.tableswitch 214 (-1) 5 #[99, 214, 44, 57, 112, 142, 172], 44) := by decide +kernel
theorem dX7_endBody_64 : decode cX7_endBody 64 = .ok (.aload_n 0, 1) := by decide +kernel
theorem dX7_endBody_65 : decode cX7_endBody 65 = .ok (.getfield 102, 3) := by decide +kernel
theorem dX7_endBody_68 : decode cX7_endBody 68 = .ok (.iload_n 2, 1) := by decide +kernel
theorem dX7_endBody_69 : decode cX7_endBody 69 = .ok (.aload_n 0, 1) := by decide +kernel
theorem dX7_endBody_70 : decode cX7_endBody 70 = .ok (.getfield 236, 3) := by decide +kernel
theorem dX7_endBody_73 : decode cX7_endBody 73 = .ok (.iastore, 1) := by decide +kernel
theorem dX7_endBody_74 : decode cX7_endBody 74 = .ok (.goto 160, 3) := by decide +kernel
theorem dX7_endBody_77 : decode cX7_endBody 77 = .ok (.aload_n 0, 1) := by decide +kernel
theorem dX7_endBody_78 : decode cX7_endBody 78 = .ok (.getfield 236, 3) := by decide +kernel
theorem dX7_endBody_81 : decode cX7_endBody 81 = .ok (.istore_n 3, 1) := by decide +kernel
theorem dX7_endBody_82 : decode cX7_endBody 82 = .ok (.aload_n 0, 1) := by decide +kernel
theorem dX7_endBody_83 : decode cX7_endBody 83 = .ok (.iconst 2, 1) := by decide +kernel
theorem dX7_endBody_84 : decode cX7_endBody 84 = .ok (.iconst 0, 1) := by decide +kernel
theorem dX7_endBody_85 : decode cX7_endBody 85 = .ok (.iconst 0, 1) := by decide +kernel
theorem dX7_endBody_86 : decode cX7_endBody 86 = .ok (.iconst 0, 1) := by decide +kernel
theorem dX7_endBody_87 : decode cX7_endBody 87 = .ok (.invokevirtual 249, 3) := by decide +kernel
theorem dX7_endBody_90 : decode cX7_endBody 90 = .ok (.aload_n 0, 1) := by decide +kernel
theorem dX7_endBody_91 : decode cX7_endBody 91 = .ok (.getfield 102, 3) := by decide +kernel
theorem dX7_endBody_94 : decode cX7_endBody 94 = .ok (.iload_n 2, 1) := by decide +kernel
theorem dX7_endBody_95 : decode cX7_endBody 95 = .ok (.aload_n 0, 1) := by decide +kernel
theorem dX7_endBody_96 : decode cX7_endBody 96 = .ok (.getfield 236, 3) := by decide +kernel
theorem dX7_endBody_99 : decode cX7_endBody 99 = .ok (.iastore, 1) := by decide +kernel
theorem dX7_endBody_100 : decode cX7_endBody 100 = .ok (.aload_n 0, 1) := by decide +kernel
theorem dX7_endBody_101 : decode cX7_endBody 101 = .ok (.dup, 1) := by decide +kernel
theorem dX7_endBody_102 : decode cX7_endBody 102 = .ok (.getfield 246, 3) := by decide +kernel
theorem dX7_endBody_105 : decode cX7_endBody 105 = .ok (.iconst 1, 1) := by decide +kernel
theorem dX7_endBody_106 : decode cX7_endBody 106 = .ok (.isub, 1) := by decide +kernel
theorem dX7_endBody_107 : decode cX7_endBody 107 = .ok (.putfield 246, 3) := by decide +kernel
theorem dX7_endBody_110 : decode cX7_endBody 110 = .ok (.aload_n 0, 1) := by decide +kernel
theorem dX7_endBody_111 : decode cX7_endBody 111 = .ok (.iconst (-1), 1) := by decide +kernel
theorem dX7_endBody_112 : decode cX7_endBody 112 = .ok (.iconst 0, 1) := by decide +kernel
theorem dX7_endBody_113 : decode cX7_endBody 113 = .ok (.iconst 0, 1) := by decide +kernel
theorem dX7_endBody_114 : decode cX7_endBody 114 = .ok (.iload_n 3, 1) := by decide +kernel
theorem dX7_endBody_115 : decode cX7_endBody 115 = .ok (.invokevirtual 266, 3) := by decide +kernel
theorem dX7_endBody_118 : decode cX7_endBody 118 = .ok (.return_, 1) := by decide +kernel
theorem dX7_endBody_119 : decode cX7_endBody 119 = .ok (.aload_n 0, 1) := by decide +kernel
theorem dX7_endBody_120 : decode cX7_endBody 120 = .ok (.getfield 102, 3) := by decide +kernel
theorem dX7_endBody_123 : decode cX7_endBody 123 = .ok (.iload_n 2, 1) := by decide +kernel
theorem dX7_endBody_124 : decode cX7_endBody 124 = .ok (.aload_n 0, 1) := by decide +kernel
theorem dX7_endBody_125 : decode cX7_endBody 125 = .ok (.getfield 236, 3) := by decide +kernel
theorem dX7_endBody_128 : decode cX7_endBody 128 = .ok (.iastore, 1) := by decide +kernel
theorem dX7_endBody_129 : decode cX7_endBody 129 = .ok (.goto 105, 3) := by decide +kernel
theorem dX7_endBody_132 : decode cX7_endBody 132 = .ok (.aload_n 0, 1) := by decide +kernel
theorem dX7_endBody_133 : decode cX7_endBody 133 = .ok (.iconst 2, 1) := by decide +kernel
theorem dX7_endBody_134 : decode cX7_endBody 134 = .ok (.iconst 0, 1) := by decide +kernel
theorem dX7_endBody_135 : decode cX7_endBody 135 = .ok (.iconst 0, 1) := by decide +kernel
theorem dX7_endBody_136 : decode cX7_endBody 136 = .ok (.aload_n 0, 1) := by decide +kernel
theorem dX7_endBody_137 : decode cX7_endBody 137 = .ok (.getfield 117, 3) := by decide +kernel
theorem dX7_endBody_140 : decode cX7_endBody 140 = .ok (.iload_n 1, 1) := by decide +kernel
theorem dX7_endBody_141 : decode cX7_endBody 141 = .ok (.iaload, 1) := by decide +kernel
theorem dX7_endBody_142 : decode cX7_endBody 142 = .ok (.invokevirtual 249, 3) := by decide +kernel
theorem dX7_endBody_145 : decode cX7_endBody 145 = .ok (.aload_n 0, 1) := by decide +kernel
theorem dX7_endBody_146 : decode cX7_endBody 146 = .ok (.aload_n 0, 1) := by decide +kernel
theorem dX7_endBody_147 : decode cX7_endBody 147 = .ok (.getfield 236, 3) := by decide +kernel
theorem dX7_endBody_150 : decode cX7_endBody 150 = .ok (.aload_n 0, 1) := by decide +kernel
theorem dX7_endBody_151 : decode cX7_endBody 151 = .ok (.getfield 117, 3) := by decide +kernel
theorem dX7_endBody_154 : decode cX7_endBody 154 = .ok (.iload_n 1, 1) := by decide +kernel
theorem dX7_endBody_155 : decode cX7_endBody 155 = .ok (.iaload, 1) := by decide +kernel
theorem dX7_endBody_156 : decode cX7_endBody 156 = .ok (.invokevirtual 269, 3) := by decide +kernel
theorem dX7_endBody_159 : decode cX7_endBody 159 = .ok (.goto 75, 3) := by decide +kernel
theorem dX7_endBody_162 : decode cX7_endBody 162 = .ok (.aload_n 0, 1) := by decide +kernel
theorem dX7_endBody_163 : decode cX7_endBody 163 = .ok (.iconst 2, 1) := by decide +kernel
theorem dX7_endBody_164 : decode cX7_endBody 164 = .ok (.iconst 0, 1) := by decide +kernel
theorem dX7_endBody_165 : decode cX7_endBody 165 = .ok (.iconst 0, 1) := by decide +kernel
theorem dX7_endBody_166 : decode cX7_endBody 166 = .ok (.iload_n 2, 1) := by decide +kernel
theorem dX7_endBody_167 : decode cX7_endBody 167 = .ok (.invokevirtual 249, 3) := by decide +kernel
theorem dX7_endBody_170 : decode cX7_endBody 170 = .ok (.aload_n 0, 1) := by decide +kernel
theorem dX7_endBody_171 : decode cX7_endBody 171 = .ok (.getfield 102, 3) := by decide +kernel
theorem dX7_endBody_174 : decode cX7_endBody 174 = .ok (.iload_n 2, 1) := by decide +kernel
theorem dX7_endBody_175 : decode cX7_endBody 175 = .ok (.aload_n 0, 1) := by decide +kernel
theorem dX7_endBody_176 : decode cX7_endBody 176 = .ok (.getfield 236, 3) := by decide +kernel
theorem dX7_endBody_179 : decode cX7_endBody 179 = .ok (.iastore, 1) := by decide +kernel
theorem dX7_endBody_180 : decode cX7_endBody 180 = .ok (.aload_n 0, 1) := by decide +kernel
theorem dX7_endBody_181 : decode cX7_endBody 181 = .ok (.aload_n 0, 1) := by decide +kernel
theorem dX7_endBody_182 : decode cX7_endBody 182 = .ok (.getfield 236, 3) := by decide +kernel
theorem dX7_endBody_185 : decode cX7_endBody 185 = .ok (.iload_n 2, 1) := by decide +kernel
theorem dX7_endBody_186 : decode cX7_endBody 186 = .ok (.invokevirtual 269, 3) := by decide +kernel
theorem dX7_endBody_189 : decode cX7_endBody 189 = .ok (.goto 45, 3) := by decide +kernel
theorem dX7_endBody_192 : decode cX7_endBody 192 = .ok (.aload_n 0, 1) := by decide +kernel
theorem dX7_endBody_193 : decode cX7_endBody 193 = .ok (.getfield 236, 3) := by decide +kernel
theorem dX7_endBody_196 : decode cX7_endBody 196 = .ok (.istore 4, 2) := by decide +kernel
theorem dX7_endBody_198 : decode cX7_endBody 198 = .ok (.aload_n 0, 1) := by decide +kernel
theorem dX7_endBody_199 : decode cX7_endBody 199 = .ok (.iconst 3, 1) := by decide +kernel
theorem dX7_endBody_200 : decode cX7_endBody 200 = .ok (.aload_n 0, 1) := by decide +kernel
theorem dX7_endBody_201 : decode cX7_endBody 201 = .ok (.getfield 120, 3) := by decide +kernel
theorem dX7_endBody_204 : decode cX7_endBody 204 = .ok (.iload_n 1, 1) := by decide +kernel
theorem dX7_endBody_205 : decode cX7_endBody 205 = .ok (.iaload, 1) := by decide +kernel
theorem dX7_endBody_206 : decode cX7_endBody 206 = .ok (.aload_n 0, 1) := by decide +kernel
theorem dX7_endBody_207 : decode cX7_endBody 207 = .ok (.getfield 123, 3) := by decide +kernel
theorem dX7_endBody_210 : decode cX7_endBody 210 = .ok (.iload_n 1, 1) := by decide +kernel
theorem dX7_endBody_211 : decode cX7_endBody 211 = .ok (.iaload, 1) := by decide +kernel
theorem dX7_endBody_212 : decode cX7_endBody 212 = .ok (.aload_n 0, 1) := by decide +kernel
theorem dX7_endBody_213 : decode cX7_endBody 213 = .ok (.getfield 117, 3) := by decide +kernel
theorem dX7_endBody_216 : decode cX7_endBody 216 = .ok (.iload_n 1, 1) := by decide +kernel
theorem dX7_endBody_217 : decode cX7_endBody 217 = .ok (.iaload, 1) := by decide +kernel
theorem dX7_endBody_218 : decode cX7_endBody 218 = .ok (.invokevirtual 249, 3) := by decide +kernel
theorem dX7_endBody_221 : decode cX7_endBody 221 = .ok (.aload_n 0, 1) := by decide +kernel
theorem dX7_endBody_222 : decode cX7_endBody 222 = .ok (.aload_n 0, 1) := by decide +kernel
theorem dX7_endBody_223 : decode cX7_endBody 223 = .ok (.getfield 236, 3) := by decide +kernel
theorem dX7_endBody_226 : decode cX7_endBody 226 = .ok (.iload 4, 2) := by decide +kernel
theorem dX7_endBody_228 : decode cX7_endBody 228 = .ok (.invokevirtual 269, 3) := by decide +kernel
theorem dX7_endBody_231 : decode cX7_endBody 231 = .ok (.goto 3, 3) := by decide +kernel
theorem dX7_endBody_234 : decode cX7_endBody 234 = .ok (.aload_n 0, 1) := by decide +kernel
theorem dX7_endBody_235 : decode cX7_endBody 235 = .ok (.dup, 1) := by decide +kernel
theorem dX7_endBody_236 : decode cX7_endBody 236 = .ok (.getfield 246, 3) := by decide +kernel
theorem dX7_endBody_239 : decode cX7_endBody 239 = .ok (.iconst 1, 1) := by decide +kernel
theorem dX7_endBody_240 : decode cX7_endBody 240 = .ok (.isub, 1) := by decide +kernel
theorem dX7_endBody_241 : decode cX7_endBody 241 = .ok (.putfield 246, 3) := by decide +kernel
theorem dX7_endBody_244 : decode cX7_endBody 244 = .ok (.return_, 1) := by decide +kernel
theorem dX7_write_0 : decode cX7_write 0 = .ok (.aload_n 0, 1) := by decide +kernel
theorem dX7_write_1 : decode cX7_write 1 = .ok (.getfield 135, 3) := by decide +kernel
theorem dX7_write_4 : decode cX7_write 4 = .ok (.bipush 12, 2) := by decide +kernel
theorem dX7_write_6 : decode cX7_write 6 = .ok (.if_icmp .ne 6, 3) := by decide +kernel
theorem dX7_write_9 : decode cX7_write 9 = .ok (.bipush (-4), 2) := by decide +kernel
theorem dX7_write_11 : decode cX7_write 11 = .ok (.ireturn, 1) := by decide +kernel
theorem dX7_write_12 : decode cX7_write 12 = .ok (.aload_n 0, 1) := by decide +kernel
theorem dX7_write_13 : decode cX7_write 13 = .ok (.iconst 0, 1) := by decide +kernel
theorem dX7_write_14 : decode cX7_write 14 = .ok (.putfield 233, 3) := by decide +kernel
theorem dX7_write_17 : decode cX7_write 17 = .ok (.aload_n 0, 1) := by decide +kernel
theorem dX7_write_18 : decode cX7_write 18 = .ok (.iconst 0, 1) := by decide +kernel
theorem dX7_write_19 : decode cX7_write 19 = .ok (.putfield 230, 3) := by decide +kernel
theorem dX7_write_22 : decode cX7_write 22 = .ok (.aload_n 0, 1) := by decide +kernel
theorem dX7_write_23 : decode cX7_write 23 = .ok (.iconst 0, 1) := by decide +kernel
theorem dX7_write_24 : decode cX7_write 24 = .ok (.putfield 236, 3) := by decide +kernel
theorem dX7_write_27 : decode cX7_write 27 = .ok (.aload_n 0, 1) := by decide +kernel
theorem dX7_write_28 : decode cX7_write 28 = .ok (.iconst 0, 1) := by decide +kernel
theorem dX7_write_29 : decode cX7_write 29 = .ok (.putfield 246, 3) := by decide +kernel
theorem dX7_write_32 : decode cX7_write 32 = .ok (.aload_n 0, 1) := by decide +kernel
theorem dX7_write_33 : decode cX7_write 33 = .ok (.iconst 0, 1) := by decide +kernel
theorem dX7_write_34 : decode cX7_write 34 = .ok (.iconst 0, 1) := by decide +kernel
theorem dX7_write_35 : decode cX7_write 35 = .ok (.iconst 0, 1) := by decide +kernel
theorem dX7_write_36 : decode cX7_write 36 = .ok (.iconst 0, 1) := by decide +kernel
theorem dX7_write_37 : decode cX7_write 37 = .ok (.invokevirtual 266, 3) := by decide +kernel
theorem dX7_write_40 : decode cX7_write 40 = .ok (.aload_n 0, 1) := by decide +kernel
theorem dX7_write_41 : decode cX7_write 41 = .ok (.getfield 230, 3) := by decide +kernel
theorem dX7_write_44 : decode cX7_write 44 = .ok (.ifCond .ne 53, 3) := by decide +kernel
theorem dX7_write_47 : decode cX7_write 47 = .ok (.aload_n 0, 1) := by decide +kernel
theorem dX7_write_48 : decode cX7_write 48 = .ok (.getfield 246, 3) := by decide +kernel
theorem dX7_write_51 : decode cX7_write 51 = .ok (.ifCond .le 46, 3) := by decide +kernel
theorem dX7_write_54 : decode cX7_write 54 = .ok (.aload_n 0, 1) := by decide +kernel
theorem dX7_write_55 : decode cX7_write 55 = .ok (.getfield 111, 3) := by decide +kernel
theorem dX7_write_58 : decode cX7_write 58 = .ok (.aload_n 0, 1) := by decide +kernel
theorem dX7_write_59 : decode cX7_write 59 = .ok (.getfield 246, 3) := by decide +kernel
theorem dX7_write_62 : decode cX7_write 62 = .ok (.iconst 1, 1) := by decide +kernel
theorem dX7_write_63 : decode cX7_write 63 = .ok (.isub, 1) := by decide +kernel
theorem dX7_write_64 : decode cX7_write 64 = .ok (.iaload, 1) := by decide +kernel
theorem dX7_write_65 : decode cX7_write 65 = .ok (.ifCond .le 25, 3) := by decide +kernel
theorem dX7_write_68 : decode cX7_write 68 = .ok (.aload_n 0, 1) := by decide +kernel
theorem dX7_write_69 : decode cX7_write 69 = .ok (.getfield 111, 3) := by decide +kernel
theorem dX7_write_72 : decode cX7_write 72 = .ok (.aload_n 0, 1) := by decide +kernel
theorem dX7_write_73 : decode cX7_write 73 = .ok (.getfield 246, 3) := by decide +kernel
theorem dX7_write_76 : decode cX7_write 76 = .ok (.iconst 1, 1) := by decide +kernel
theorem dX7_write_77 : decode cX7_write 77 = .ok (.isub, 1) := by decide +kernel
theorem dX7_write_78 : decode cX7_write 78 = .ok (.dup2, 1) := by decide +kernel
theorem dX7_write_79 : decode cX7_write 79 = .ok (.iaload, 1) := by decide +kernel
theorem dX7_write_80 : decode cX7_write 80 = .ok (.iconst 1, 1) := by decide +kernel
theorem dX7_write_81 : decode cX7_write 81 = .ok (.isub, 1) := by decide +kernel
theorem dX7_write_82 : decode cX7_write 82 = .ok (.iastore, 1) := by decide +kernel
theorem dX7_write_83 : decode cX7_write 83 = .ok (.aload_n 0, 1) := by decide +kernel
theorem dX7_write_84 : decode cX7_write 84 = .ok (.invokevirtual 272, 3) := by decide +kernel
theorem dX7_write_87 : decode cX7_write 87 = .ok (.goto (-47), 3) := by decide +kernel
theorem dX7_write_90 : decode cX7_write 90 = .ok (.aload_n 0, 1) := by decide +kernel
theorem dX7_write_91 : decode cX7_write 91 = .ok (.invokevirtual 275, 3) := by decide +kernel
theorem dX7_write_94 : decode cX7_write 94 = .ok (.goto (-54), 3) := by decide +kernel
theorem dX7_write_97 : decode cX7_write 97 = .ok (.aload_n 0, 1) := by decide +kernel
theorem dX7_write_98 : decode cX7_write 98 = .ok (.getfield 230, 3) := by decide +kernel
theorem dX7_write_101 : decode cX7_write 101 = .ok (.ifCond .ne 88, 3) := by decide +kernel
theorem dX7_write_104 : decode cX7_write 104 = .ok (.iconst 0, 1) := by decide +kernel
theorem dX7_write_105 : decode cX7_write 105 = .ok (.istore_n 1, 1) := by decide +kernel
theorem dX7_write_106 : decode cX7_write 106 = .ok (.iconst 0, 1) := by decide +kernel
theorem dX7_write_107 : decode cX7_write 107 = .ok (.istore_n 2, 1) := by decide +kernel
theorem dX7_write_108 : decode cX7_write 108 = .ok (.iload_n 2, 1) := by decide +kernel
theorem dX7_write_109 : decode cX7_write 109 = .ok (.aload_n 0, 1) := by decide +kernel
theorem dX7_write_110 : decode cX7_write 110 = .ok (.getfield 236, 3) := by decide +kernel
theorem dX7_write_113 : decode cX7_write 113 = .ok (.if_icmp .ge 32, 3) := by decide +kernel
theorem dX7_write_116 : decode cX7_write 116 = .ok (.iload_n 1, 1) := by decide +kernel
theorem dX7_write_117 : decode cX7_write 117 = .ok (.ifCond .ne 16, 3) := by decide +kernel
theorem dX7_write_120 : decode cX7_write 120 = .ok (.aload_n 0, 1) := by decide +kernel
theorem dX7_write_121 : decode cX7_write 121 = .ok (.getfield 102, 3) := by decide +kernel
theorem dX7_write_124 : decode cX7_write 124 = .ok (.iload_n 2, 1) := by decide +kernel
theorem dX7_write_125 : decode cX7_write 125 = .ok (.iaload, 1) := by decide +kernel
theorem dX7_write_126 : decode cX7_write 126 = .ok (.aload_n 0, 1) := by decide +kernel
theorem dX7_write_127 : decode cX7_write 127 = .ok (.getfield 236, 3) := by decide +kernel
theorem dX7_write_130 : decode cX7_write 130 = .ok (.if_icmp .le 7, 3) := by decide +kernel
theorem dX7_write_133 : decode cX7_write 133 = .ok (.iconst 1, 1) := by decide +kernel
theorem dX7_write_134 : decode cX7_write 134 = .ok (.goto 4, 3) := by decide +kernel
theorem dX7_write_137 : decode cX7_write 137 = .ok (.iconst 0, 1) := by decide +kernel
theorem dX7_write_138 : decode cX7_write 138 = .ok (.istore_n 1, 1) := by decide +kernel
theorem dX7_write_139 : decode cX7_write 139 = .ok (.iinc 2 1, 3) := by decide +kernel
theorem dX7_write_142 : decode cX7_write 142 = .ok (.goto (-34), 3) := by decide +kernel
theorem dX7_write_145 : decode cX7_write 145 = .ok (.aload_n 0, 1) := by decide +kernel
theorem dX7_write_146 : decode cX7_write 146 = .ok (.aload_n 0, 1) := by decide +kernel
theorem dX7_write_147 : decode cX7_write 147 = .ok (.getfield 233, 3) := by decide +kernel
theorem dX7_write_150 : decode cX7_write 150 = .ok (.aload_n 0, 1) := by decide +kernel
theorem dX7_write_151 : decode cX7_write 151 = .ok (.getfield 227, 3) := by decide +kernel
theorem dX7_write_154 : decode cX7_write 154 = .ok (.if_icmp .ge 8, 3) := by decide +kernel
theorem dX7_write_157 : decode cX7_write 157 = .ok (.bipush 7, 2) := by decide +kernel
theorem dX7_write_159 : decode cX7_write 159 = .ok (.goto 27, 3) := by decide +kernel
theorem dX7_write_162 : decode cX7_write 162 = .ok (.aload_n 0, 1) := by decide +kernel
theorem dX7_write_163 : decode cX7_write 163 = .ok (.getfield 236, 3) := by decide +kernel
theorem dX7_write_166 : decode cX7_write 166 = .ok (.bipush 60, 2) := by decide +kernel
theorem dX7_write_168 : decode cX7_write 168 = .ok (.if_icmp .le 8, 3) := by decide +kernel
theorem dX7_write_171 : decode cX7_write 171 = .ok (.bipush 8, 2) := by decide +kernel
theorem dX7_write_173 : decode cX7_write 173 = .ok (.goto 13, 3) := by decide +kernel
theorem dX7_write_176 : decode cX7_write 176 = .ok (.iload_n 1, 1) := by decide +kernel
theorem dX7_write_177 : decode cX7_write 177 = .ok (.ifCond .eq 8, 3) := by decide +kernel
theorem dX7_write_180 : decode cX7_write 180 = .ok (.bipush 9, 2) := by decide +kernel
theorem dX7_write_182 : decode cX7_write 182 = .ok (.goto 4, 3) := by decide +kernel
theorem dX7_write_185 : decode cX7_write 185 = .ok (.iconst 0, 1) := by decide +kernel
theorem dX7_write_186 : decode cX7_write 186 = .ok (.putfield 230, 3) := by decide +kernel
theorem dX7_write_189 : decode cX7_write 189 = .ok (.aload_n 0, 1) := by decide +kernel
theorem dX7_write_190 : decode cX7_write 190 = .ok (.iconst 0, 1) := by decide +kernel
theorem dX7_write_191 : decode cX7_write 191 = .ok (.putfield 227, 3) := by decide +kernel
theorem dX7_write_194 : decode cX7_write 194 = .ok (.aload_n 0, 1) := by decide +kernel
theorem dX7_write_195 : decode cX7_write 195 = .ok (.getfield 230, 3) := by decide +kernel
theorem dX7_write_198 : decode cX7_write 198 = .ok (.ifCond .eq 19, 3) := by decide +kernel
theorem dX7_write_201 : decode cX7_write 201 = .ok (.aload_n 0, 1) := by decide +kernel
theorem dX7_write_202 : decode cX7_write 202 = .ok (.aload_n 0, 1) := by decide +kernel
theorem dX7_write_203 : decode cX7_write 203 = .ok (.getfield 233, 3) := by decide +kernel
theorem dX7_write_206 : decode cX7_write 206 = .ok (.putfield 31, 3) := by decide +kernel
theorem dX7_write_209 : decode cX7_write 209 = .ok (.bipush (-10), 2) := by decide +kernel
theorem dX7_write_211 : decode cX7_write 211 = .ok (.aload_n 0, 1) := by decide +kernel
theorem dX7_write_212 : decode cX7_write 212 = .ok (.getfield 230, 3) := by decide +kernel
theorem dX7_write_215 : decode cX7_write 215 = .ok (.isub, 1) := by decide +kernel
theorem dX7_write_216 : decode cX7_write 216 = .ok (.ireturn, 1) := by decide +kernel
theorem dX7_write_217 : decode cX7_write 217 = .ok (.aload_n 0, 1) := by decide +kernel
theorem dX7_write_218 : decode cX7_write 218 = .ok (.getfield 135, 3) := by decide +kernel
theorem dX7_write_221 : decode cX7_write 221 = .ok (.istore_n 1, 1) := by decide +kernel
theorem dX7_write_222 : decode cX7_write 222 = .ok (.aload_n 0, 1) := by decide +kernel
theorem dX7_write_223 : decode cX7_write 223 = .ok (.dup, 1) := by decide +kernel
theorem dX7_write_224 : decode cX7_write 224 = .ok (.getfield 135, 3) := by decide +kernel
theorem dX7_write_227 : decode cX7_write 227 = .ok (.iconst 1, 1) := by decide +kernel
theorem dX7_write_228 : decode cX7_write 228 = .ok (.iadd, 1) := by decide +kernel
theorem dX7_write_229 : decode cX7_write 229 = .ok (.putfield 135, 3) := by decide +kernel
theorem dX7_write_232 : decode cX7_write 232 = .ok (.aload_n 0, 1) := by decide +kernel
theorem dX7_write_233 : decode cX7_write 233 = .ok (.getfield 7, 3) := by decide +kernel
theorem dX7_write_236 : decode cX7_write 236 = .ok (.iload_n 1, 1) := by decide +kernel
theorem dX7_write_237 : decode cX7_write 237 = .ok (.aload_n 0, 1) := by decide +kernel
theorem dX7_write_238 : decode cX7_write 238 = .ok (.getfield 236, 3) := by decide +kernel
theorem dX7_write_241 : decode cX7_write 241 = .ok (.iastore, 1) := by decide +kernel
theorem dX7_write_242 : decode cX7_write 242 = .ok (.iconst 0, 1) := by decide +kernel
theorem dX7_write_243 : decode cX7_write 243 = .ok (.istore_n 2, 1) := by decide +kernel
theorem dX7_write_244 : decode cX7_write 244 = .ok (.iload_n 2, 1) := by decide +kernel
theorem dX7_write_245 : decode cX7_write 245 = .ok (.aload_n 0, 1) := by decide +kernel
theorem dX7_write_246 : decode cX7_write 246 = .ok (.getfield 236, 3) := by decide +kernel
theorem dX7_write_249 : decode cX7_write 249 = .ok (.if_icmp .ge 39, 3) := by decide +kernel
theorem dX7_write_252 : decode cX7_write 252 = .ok (.aload_n 0, 1) := by decide +kernel
theorem dX7_write_253 : decode cX7_write 253 = .ok (.iload_n 1, 1) := by decide +kernel
theorem dX7_write_254 : decode cX7_write 254 = .ok (.iload_n 2, 1) := by decide +kernel
theorem dX7_write_255 : decode cX7_write 255 = .ok (.aload_n 0, 1) := by decide +kernel
theorem dX7_write_256 : decode cX7_write 256 = .ok (.getfield 93, 3) := by decide +kernel
theorem dX7_write_259 : decode cX7_write 259 = .ok (.iload_n 2, 1) := by decide +kernel
theorem dX7_write_260 : decode cX7_write 260 = .ok (.iaload, 1) := by decide +kernel
theorem dX7_write_261 : decode cX7_write 261 = .ok (.aload_n 0, 1) := by decide +kernel
theorem dX7_write_262 : decode cX7_write 262 = .ok (.getfield 96, 3) := by decide +kernel
theorem dX7_write_265 : decode cX7_write 265 = .ok (.iload_n 2, 1) := by decide +kernel
theorem dX7_write_266 : decode cX7_write 266 = .ok (.iaload, 1) := by decide +kernel
theorem dX7_write_267 : decode cX7_write 267 = .ok (.aload_n 0, 1) := by decide +kernel
theorem dX7_write_268 : decode cX7_write 268 = .ok (.getfield 99, 3) := by decide +kernel
theorem dX7_write_271 : decode cX7_write 271 = .ok (.iload_n 2, 1) := by decide +kernel
theorem dX7_write_272 : decode cX7_write 272 = .ok (.iaload, 1) := by decide +kernel
theorem dX7_write_273 : decode cX7_write 273 = .ok (.aload_n 0, 1) := by decide +kernel
theorem dX7_write_274 : decode cX7_write 274 = .ok (.getfield 102, 3) := by decide +kernel
theorem dX7_write_277 : decode cX7_write 277 = .ok (.iload_n 2, 1) := by decide +kernel
theorem dX7_write_278 : decode cX7_write 278 = .ok (.iaload, 1) := by decide +kernel
theorem dX7_write_279 : decode cX7_write 279 = .ok (.invokevirtual 150, 3) := by decide +kernel
theorem dX7_write_282 : decode cX7_write 282 = .ok (.iinc 2 1, 3) := by decide +kernel
theorem dX7_write_285 : decode cX7_write 285 = .ok (.goto (-41), 3) := by decide +kernel
theorem dX7_write_288 : decode cX7_write 288 = .ok (.iload_n 1, 1) := by decide +kernel
theorem dX7_write_289 : decode cX7_write 289 = .ok (.ireturn, 1) := by decide +kernel
theorem dX7_fault_0 : decode cX7_fault 0 = .ok (.aload_n 0, 1) := by decide +kernel
theorem dX7_fault_1 : decode cX7_fault 1 = .ok (.getfield 31, 3) := by decide +kernel
theorem dX7_fault_4 : decode cX7_fault 4 = .ok (.ireturn, 1) := by decide +kernel
theorem dX7_like_0 : decode cX7_like 0 = .ok (.aload_n 0, 1) := by decide +kernel
theorem dX7_like_1 : decode cX7_like 1 = .ok (.iload_n 1, 1) := by decide +kernel
theorem dX7_like_2 : decode cX7_like 2 = .ok (.invokevirtual 142, 3) := by decide +kernel
theorem dX7_like_5 : decode cX7_like 5 = .ok (.ifCond .eq 28, 3) := by decide +kernel
theorem dX7_like_8 : decode cX7_like 8 = .ok (.aload_n 0, 1) := by decide +kernel
theorem dX7_like_9 : decode cX7_like 9 = .ok (.iload_n 2, 1) := by decide +kernel
theorem dX7_like_10 : decode cX7_like 10 = .ok (.invokevirtual 142, 3) := by decide +kernel
theorem dX7_like_13 : decode cX7_like 13 = .ok (.ifCond .eq 20, 3) := by decide +kernel
theorem dX7_like_16 : decode cX7_like 16 = .ok (.aload_n 0, 1) := by decide +kernel
theorem dX7_like_17 : decode cX7_like 17 = .ok (.iload_n 1, 1) := by decide +kernel
theorem dX7_like_18 : decode cX7_like 18 = .ok (.iload_n 2, 1) := by decide +kernel
theorem dX7_like_19 : decode cX7_like 19 = .ok (.invokevirtual 194, 3) := by decide +kernel
theorem dX7_like_22 : decode cX7_like 22 = .ok (.ifCond .eq 7, 3) := by decide +kernel
theorem dX7_like_25 : decode cX7_like 25 = .ok (.iconst 1, 1) := by decide +kernel
theorem dX7_like_26 : decode cX7_like 26 = .ok (.goto 9, 3) := by decide +kernel
theorem dX7_like_29 : decode cX7_like 29 = .ok (.iconst 0, 1) := by decide +kernel
theorem dX7_like_30 : decode cX7_like 30 = .ok (.goto 5, 3) := by decide +kernel
theorem dX7_like_33 : decode cX7_like 33 = .ok (.bipush (-2), 2) := by decide +kernel
theorem dX7_like_35 : decode cX7_like 35 = .ok (.ireturn, 1) := by decide +kernel
theorem dX7_set_0 : decode cX7_set 0 = .ok (.iload_n 1, 1) := by decide +kernel
theorem dX7_set_1 : decode cX7_set 1 = .ok (.iconst 0, 1) := by decide +kernel
theorem dX7_set_2 : decode cX7_set 2 = .ok (.iconst 3, 1) := by decide +kernel
theorem dX7_set_3 : decode cX7_set 3 = .ok (.invokestatic 138, 3) := by decide +kernel
theorem dX7_set_6 : decode cX7_set 6 = .ok (.ifCond .ne 6, 3) := by decide +kernel
theorem dX7_set_9 : decode cX7_set 9 = .ok (.bipush (-2), 2) := by decide +kernel
theorem dX7_set_11 : decode cX7_set 11 = .ok (.ireturn, 1) := by decide +kernel
theorem dX7_set_12 : decode cX7_set 12 = .ok (.aload_n 0, 1) := by decide +kernel
theorem dX7_set_13 : decode cX7_set 13 = .ok (.getfield 25, 3) := by decide +kernel
theorem dX7_set_16 : decode cX7_set 16 = .ok (.iload_n 1, 1) := by decide +kernel
theorem dX7_set_17 : decode cX7_set 17 = .ok (.iaload, 1) := by decide +kernel
theorem dX7_set_18 : decode cX7_set 18 = .ok (.istore_n 3, 1) := by decide +kernel
theorem dX7_set_19 : decode cX7_set 19 = .ok (.aload_n 0, 1) := by decide +kernel
theorem dX7_set_20 : decode cX7_set 20 = .ok (.getfield 25, 3) := by decide +kernel
theorem dX7_set_23 : decode cX7_set 23 = .ok (.iload_n 1, 1) := by decide +kernel
theorem dX7_set_24 : decode cX7_set 24 = .ok (.iload_n 2, 1) := by decide +kernel
theorem dX7_set_25 : decode cX7_set 25 = .ok (.iastore, 1) := by decide +kernel
theorem dX7_set_26 : decode cX7_set 26 = .ok (.iload_n 3, 1) := by decide +kernel
theorem dX7_set_27 : decode cX7_set 27 = .ok (.ireturn, 1) := by decide +kernel
theorem dX7_isSo_0 : decode cX7_isSo 0 = .ok (.iload_n 1, 1) := by decide +kernel
theorem dX7_isSo_1 : decode cX7_isSo 1 = .ok (.ifCond .ne 15, 3) := by decide +kernel
theorem dX7_isSo_4 : decode cX7_isSo 4 = .ok (.iload_n 0, 1) := by decide +kernel
theorem dX7_isSo_5 : decode cX7_isSo 5 = .ok (.ifCond .ne 7, 3) := by decide +kernel
theorem dX7_isSo_8 : decode cX7_isSo 8 = .ok (.iconst 1, 1) := by decide +kernel
theorem dX7_isSo_9 : decode cX7_isSo 9 = .ok (.goto 84, 3) := by decide +kernel
theorem dX7_isSo_12 : decode cX7_isSo 12 = .ok (.iconst 0, 1) := by decide +kernel
theorem dX7_isSo_13 : decode cX7_isSo 13 = .ok (.goto 80, 3) := by decide +kernel
theorem dX7_isSo_16 : decode cX7_isSo 16 = .ok (.iload_n 1, 1) := by decide +kernel
theorem dX7_isSo_17 : decode cX7_isSo 17 = .ok (.iconst 1, 1) := by decide +kernel
theorem dX7_isSo_18 : decode cX7_isSo 18 = .ok (.if_icmp .ne 15, 3) := by decide +kernel
theorem dX7_isSo_21 : decode cX7_isSo 21 = .ok (.iload_n 0, 1) := by decide +kernel
theorem dX7_isSo_22 : decode cX7_isSo 22 = .ok (.ifCond .eq 7, 3) := by decide +kernel
theorem dX7_isSo_25 : decode cX7_isSo 25 = .ok (.iconst 1, 1) := by decide +kernel
theorem dX7_isSo_26 : decode cX7_isSo 26 = .ok (.goto 67, 3) := by decide +kernel
theorem dX7_isSo_29 : decode cX7_isSo 29 = .ok (.iconst 0, 1) := by decide +kernel
theorem dX7_isSo_30 : decode cX7_isSo 30 = .ok (.goto 63, 3) := by decide +kernel
theorem dX7_isSo_33 : decode cX7_isSo 33 = .ok (.iload_n 1, 1) := by decide +kernel
theorem dX7_isSo_34 : decode cX7_isSo 34 = .ok (.iconst 2, 1) := by decide +kernel
theorem dX7_isSo_35 : decode cX7_isSo 35 = .ok (.if_icmp .ne 15, 3) := by decide +kernel
theorem dX7_isSo_38 : decode cX7_isSo 38 = .ok (.iload_n 0, 1) := by decide +kernel
theorem dX7_isSo_39 : decode cX7_isSo 39 = .ok (.ifCond .ge 7, 3) := by decide +kernel
theorem dX7_isSo_42 : decode cX7_isSo 42 = .ok (.iconst 1, 1) := by decide +kernel
theorem dX7_isSo_43 : decode cX7_isSo 43 = .ok (.goto 50, 3) := by decide +kernel
theorem dX7_isSo_46 : decode cX7_isSo 46 = .ok (.iconst 0, 1) := by decide +kernel
theorem dX7_isSo_47 : decode cX7_isSo 47 = .ok (.goto 46, 3) := by decide +kernel
theorem dX7_isSo_50 : decode cX7_isSo 50 = .ok (.iload_n 1, 1) := by decide +kernel
theorem dX7_isSo_51 : decode cX7_isSo 51 = .ok (.iconst 3, 1) := by decide +kernel
theorem dX7_isSo_52 : decode cX7_isSo 52 = .ok (.if_icmp .ne 15, 3) := by decide +kernel
theorem dX7_isSo_55 : decode cX7_isSo 55 = .ok (.iload_n 0, 1) := by decide +kernel
theorem dX7_isSo_56 : decode cX7_isSo 56 = .ok (.ifCond .lt 7, 3) := by decide +kernel
theorem dX7_isSo_59 : decode cX7_isSo 59 = .ok (.iconst 1, 1) := by decide +kernel
theorem dX7_isSo_60 : decode cX7_isSo 60 = .ok (.goto 33, 3) := by decide +kernel
theorem dX7_isSo_63 : decode cX7_isSo 63 = .ok (.iconst 0, 1) := by decide +kernel
theorem dX7_isSo_64 : decode cX7_isSo 64 = .ok (.goto 29, 3) := by decide +kernel
theorem dX7_isSo_67 : decode cX7_isSo 67 = .ok (.iload_n 1, 1) := by decide +kernel
theorem dX7_isSo_68 : decode cX7_isSo 68 = .ok (.iconst 4, 1) := by decide +kernel
theorem dX7_isSo_69 : decode cX7_isSo 69 = .ok (.if_icmp .ne 15, 3) := by decide +kernel
theorem dX7_isSo_72 : decode cX7_isSo 72 = .ok (.iload_n 0, 1) := by decide +kernel
theorem dX7_isSo_73 : decode cX7_isSo 73 = .ok (.ifCond .le 7, 3) := by decide +kernel
theorem dX7_isSo_76 : decode cX7_isSo 76 = .ok (.iconst 1, 1) := by decide +kernel
theorem dX7_isSo_77 : decode cX7_isSo 77 = .ok (.goto 16, 3) := by decide +kernel
theorem dX7_isSo_80 : decode cX7_isSo 80 = .ok (.iconst 0, 1) := by decide +kernel
theorem dX7_isSo_81 : decode cX7_isSo 81 = .ok (.goto 12, 3) := by decide +kernel
theorem dX7_isSo_84 : decode cX7_isSo 84 = .ok (.iload_n 0, 1) := by decide +kernel
theorem dX7_isSo_85 : decode cX7_isSo 85 = .ok (.ifCond .gt 7, 3) := by decide +kernel
theorem dX7_isSo_88 : decode cX7_isSo 88 = .ok (.iconst 1, 1) := by decide +kernel
theorem dX7_isSo_89 : decode cX7_isSo 89 = .ok (.goto 4, 3) := by decide +kernel
theorem dX7_isSo_92 : decode cX7_isSo 92 = .ok (.iconst 0, 1) := by decide +kernel
theorem dX7_isSo_93 : decode cX7_isSo 93 = .ok (.ireturn, 1) := by decide +kernel
theorem dX7_run_0 : decode cX7_run 0 = .ok (.aload_n 0, 1) := by decide +kernel
theorem dX7_run_1 : decode cX7_run 1 = .ok (.iload_n 1, 1) := by decide +kernel
theorem dX7_run_2 : decode cX7_run 2 = .ok (.invokevirtual 142, 3) := by decide +kernel
theorem dX7_run_5 : decode cX7_run 5 = .ok (.ifCond .eq 14, 3) := by decide +kernel
theorem dX7_run_8 : decode cX7_run 8 = .ok (.iload_n 2, 1) := by decide +kernel
theorem dX7_run_9 : decode cX7_run 9 = .ok (.iconst 0, 1) := by decide +kernel
theorem dX7_run_10 : decode cX7_run 10 = .ok (.sipush 10000, 3) := by decide +kernel
theorem dX7_run_13 : decode cX7_run 13 = .ok (.invokestatic 138, 3) := by decide +kernel
theorem dX7_run_16 : decode cX7_run 16 = .ok (.ifCond .ne 6, 3) := by decide +kernel
theorem dX7_run_19 : decode cX7_run 19 = .ok (.bipush (-2), 2) := by decide +kernel
theorem dX7_run_21 : decode cX7_run 21 = .ok (.ireturn, 1) := by decide +kernel
theorem dX7_run_22 : decode cX7_run 22 = .ok (.aload_n 0, 1) := by decide +kernel
theorem dX7_run_23 : decode cX7_run 23 = .ok (.iload_n 1, 1) := by decide +kernel
theorem dX7_run_24 : decode cX7_run 24 = .ok (.invokevirtual 184, 3) := by decide +kernel
theorem dX7_run_27 : decode cX7_run 27 = .ok (.ifCond .ne 6, 3) := by decide +kernel
theorem dX7_run_30 : decode cX7_run 30 = .ok (.bipush (-3), 2) := by decide +kernel
theorem dX7_run_32 : decode cX7_run 32 = .ok (.ireturn, 1) := by decide +kernel
theorem dX7_run_33 : decode cX7_run 33 = .ok (.iconst 0, 1) := by decide +kernel
theorem dX7_run_34 : decode cX7_run 34 = .ok (.istore_n 3, 1) := by decide +kernel
theorem dX7_run_35 : decode cX7_run 35 = .ok (.iload_n 3, 1) := by decide +kernel
theorem dX7_run_36 : decode cX7_run 36 = .ok (.iconst 4, 1) := by decide +kernel
theorem dX7_run_37 : decode cX7_run 37 = .ok (.if_icmp .ge 21, 3) := by decide +kernel
theorem dX7_run_40 : decode cX7_run 40 = .ok (.aload_n 0, 1) := by decide +kernel
theorem dX7_run_41 : decode cX7_run 41 = .ok (.getfield 38, 3) := by decide +kernel
theorem dX7_run_44 : decode cX7_run 44 = .ok (.iload_n 3, 1) := by decide +kernel
theorem dX7_run_45 : decode cX7_run 45 = .ok (.aload_n 0, 1) := by decide +kernel
theorem dX7_run_46 : decode cX7_run 46 = .ok (.getfield 25, 3) := by decide +kernel
theorem dX7_run_49 : decode cX7_run 49 = .ok (.iload_n 3, 1) := by decide +kernel
theorem dX7_run_50 : decode cX7_run 50 = .ok (.iaload, 1) := by decide +kernel
theorem dX7_run_51 : decode cX7_run 51 = .ok (.iastore, 1) := by decide +kernel
theorem dX7_run_52 : decode cX7_run 52 = .ok (.iinc 3 1, 3) := by decide +kernel
theorem dX7_run_55 : decode cX7_run 55 = .ok (.goto (-20), 3) := by decide +kernel
theorem dX7_run_58 : decode cX7_run 58 = .ok (.aload_n 0, 1) := by decide +kernel
theorem dX7_run_59 : decode cX7_run 59 = .ok (.iconst 0, 1) := by decide +kernel
theorem dX7_run_60 : decode cX7_run 60 = .ok (.putfield 278, 3) := by decide +kernel
theorem dX7_run_63 : decode cX7_run 63 = .ok (.aload_n 0, 1) := by decide +kernel
theorem dX7_run_64 : decode cX7_run 64 = .ok (.iconst 1, 1) := by decide +kernel
theorem dX7_run_65 : decode cX7_run 65 = .ok (.putfield 281, 3) := by decide +kernel
theorem dX7_run_68 : decode cX7_run 68 = .ok (.aload_n 0, 1) := by decide +kernel
theorem dX7_run_69 : decode cX7_run 69 = .ok (.iconst 0, 1) := by decide +kernel
theorem dX7_run_70 : decode cX7_run 70 = .ok (.putfield 284, 3) := by decide +kernel
theorem dX7_run_73 : decode cX7_run 73 = .ok (.aload_n 0, 1) := by decide +kernel
theorem dX7_run_74 : decode cX7_run 74 = .ok (.getfield 129, 3) := by decide +kernel
theorem dX7_run_77 : decode cX7_run 77 = .ok (.iconst 0, 1) := by decide +kernel
theorem dX7_run_78 : decode cX7_run 78 = .ok (.iload_n 1, 1) := by decide +kernel
theorem dX7_run_79 : decode cX7_run 79 = .ok (.iastore, 1) := by decide +kernel
theorem dX7_run_80 : decode cX7_run 80 = .ok (.aload_n 0, 1) := by decide +kernel
theorem dX7_run_81 : decode cX7_run 81 = .ok (.getfield 132, 3) := by decide +kernel
theorem dX7_run_84 : decode cX7_run 84 = .ok (.iconst 0, 1) := by decide +kernel
theorem dX7_run_85 : decode cX7_run 85 = .ok (.iconst 0, 1) := by decide +kernel
theorem dX7_run_86 : decode cX7_run 86 = .ok (.iastore, 1) := by decide +kernel
theorem dX7_run_87 : decode cX7_run 87 = .ok (.iconst 1, 1) := by decide +kernel
theorem dX7_run_88 : decode cX7_run 88 = .ok (.istore_n 3, 1) := by decide +kernel
theorem dX7_run_89 : decode cX7_run 89 = .ok (.iload_n 3, 1) := by decide +kernel
theorem dX7_run_90 : decode cX7_run 90 = .ok (.ifCond .le 337, 3) := by decide +kernel
theorem dX7_run_93 : decode cX7_run 93 = .ok (.aload_n 0, 1) := by decide +kernel
theorem dX7_run_94 : decode cX7_run 94 = .ok (.getfield 129, 3) := by decide +kernel
theorem dX7_run_97 : decode cX7_run 97 = .ok (.iload_n 3, 1) := by decide +kernel
theorem dX7_run_98 : decode cX7_run 98 = .ok (.iconst 1, 1) := by decide +kernel
theorem dX7_run_99 : decode cX7_run 99 = .ok (.isub, 1) := by decide +kernel
theorem dX7_run_100 : decode cX7_run 100 = .ok (.iaload, 1) := by decide +kernel
theorem dX7_run_101 : decode cX7_run 101 = .ok (.istore 4, 2) := by decide +kernel
theorem dX7_run_103 : decode cX7_run 103 = .ok (.aload_n 0, 1) := by decide +kernel
theorem dX7_run_104 : decode cX7_run 104 = .ok (.getfield 132, 3) := by decide +kernel
theorem dX7_run_107 : decode cX7_run 107 = .ok (.iload_n 3, 1) := by decide +kernel
theorem dX7_run_108 : decode cX7_run 108 = .ok (.iconst 1, 1) := by decide +kernel
theorem dX7_run_109 : decode cX7_run 109 = .ok (.isub, 1) := by decide +kernel
theorem dX7_run_110 : decode cX7_run 110 = .ok (.iaload, 1) := by decide +kernel
theorem dX7_run_111 : decode cX7_run 111 = .ok (.istore 5, 2) := by decide +kernel
theorem dX7_run_113 : decode cX7_run 113 = .ok (.iload 5, 2) := by decide +kernel
theorem dX7_run_115 : decode cX7_run 115 = .ok (.aload_n 0, 1) := by decide +kernel
theorem dX7_run_116 : decode cX7_run 116 = .ok (.getfield 7, 3) := by decide +kernel
theorem dX7_run_119 : decode cX7_run 119 = .ok (.iload 4, 2) := by decide +kernel
theorem dX7_run_121 : decode cX7_run 121 = .ok (.iaload, 1) := by decide +kernel
theorem dX7_run_122 : decode cX7_run 122 = .ok (.if_icmp .ne 9, 3) := by decide +kernel
theorem dX7_run_125 : decode cX7_run 125 = .ok (.iinc 3 (-1), 3) := by decide +kernel
theorem dX7_run_128 : decode cX7_run 128 = .ok (.goto (-39), 3) := by decide +kernel
theorem dX7_run_131 : decode cX7_run 131 = .ok (.aload_n 0, 1) := by decide +kernel
theorem dX7_run_132 : decode cX7_run 132 = .ok (.getfield 278, 3) := by decide +kernel
theorem dX7_run_135 : decode cX7_run 135 = .ok (.iload_n 2, 1) := by decide +kernel
theorem dX7_run_136 : decode cX7_run 136 = .ok (.if_icmp .ne 5, 3) := by decide +kernel
theorem dX7_run_139 : decode cX7_run 139 = .ok (.iconst 1, 1) := by decide +kernel
theorem dX7_run_140 : decode cX7_run 140 = .ok (.ireturn, 1) := by decide +kernel
theorem dX7_run_141 : decode cX7_run 141 = .ok (.aload_n 0, 1) := by decide +kernel
theorem dX7_run_142 : decode cX7_run 142 = .ok (.dup, 1) := by decide +kernel
theorem dX7_run_143 : decode cX7_run 143 = .ok (.getfield 278, 3) := by decide +kernel
theorem dX7_run_146 : decode cX7_run 146 = .ok (.iconst 1, 1) := by decide +kernel
theorem dX7_run_147 : decode cX7_run 147 = .ok (.iadd, 1) := by decide +kernel
theorem dX7_run_148 : decode cX7_run 148 = .ok (.putfield 278, 3) := by decide +kernel
theorem dX7_run_151 : decode cX7_run 151 = .ok (.bipush 60, 2) := by decide +kernel
theorem dX7_run_153 : decode cX7_run 153 = .ok (.iload 4, 2) := by decide +kernel
theorem dX7_run_155 : decode cX7_run 155 = .ok (.imul, 1) := by decide +kernel
theorem dX7_run_156 : decode cX7_run 156 = .ok (.iload 5, 2) := by decide +kernel
theorem dX7_run_158 : decode cX7_run 158 = .ok (.iadd, 1) := by decide +kernel
theorem dX7_run_159 : decode cX7_run 159 = .ok (.istore 6, 2) := by decide +kernel
theorem dX7_run_161 : decode cX7_run 161 = .ok (.aload_n 0, 1) := by decide +kernel
theorem dX7_run_162 : decode cX7_run 162 = .ok (.getfield 132, 3) := by decide +kernel
theorem dX7_run_165 : decode cX7_run 165 = .ok (.iload_n 3, 1) := by decide +kernel
theorem dX7_run_166 : decode cX7_run 166 = .ok (.iconst 1, 1) := by decide +kernel
theorem dX7_run_167 : decode cX7_run 167 = .ok (.isub, 1) := by decide +kernel
theorem dX7_run_168 : decode cX7_run 168 = .ok (.iload 5, 2) := by decide +kernel
theorem dX7_run_170 : decode cX7_run 170 = .ok (.iconst 1, 1) := by decide +kernel
theorem dX7_run_171 : decode cX7_run 171 = .ok (.iadd, 1) := by decide +kernel
theorem dX7_run_172 : decode cX7_run 172 = .ok (.iastore, 1) := by decide +kernel
theorem dX7_run_173 : decode cX7_run 173 = .ok (.aload_n 0, 1) := by decide +kernel
theorem dX7_run_174 : decode cX7_run 174 = .ok (.getfield 13, 3) := by decide +kernel
theorem dX7_run_177 : decode cX7_run 177 = .ok (.iload 6, 2) := by decide +kernel
theorem dX7_run_179 : decode cX7_run 179 = .ok (.iaload, 1) := by decide +kernel
theorem dX7_run_180 : decode cX7_run 180 = .ok (.ifCond .ne 44, 3) := by decide +kernel
theorem dX7_run_183 : decode cX7_run 183 = .ok (.aload_n 0, 1) := by decide +kernel
theorem dX7_run_184 : decode cX7_run 184 = .ok (.getfield 284, 3) := by decide +kernel
theorem dX7_run_187 : decode cX7_run 187 = .ok (.sipush 200, 3) := by decide +kernel
theorem dX7_run_190 : decode cX7_run 190 = .ok (.if_icmp .ne 5, 3) := by decide +kernel
theorem dX7_run_193 : decode cX7_run 193 = .ok (.iconst 4, 1) := by decide +kernel
theorem dX7_run_194 : decode cX7_run 194 = .ok (.ireturn, 1) := by decide +kernel
theorem dX7_run_195 : decode cX7_run 195 = .ok (.aload_n 0, 1) := by decide +kernel
theorem dX7_run_196 : decode cX7_run 196 = .ok (.getfield 35, 3) := by decide +kernel
theorem dX7_run_199 : decode cX7_run 199 = .ok (.aload_n 0, 1) := by decide +kernel
theorem dX7_run_200 : decode cX7_run 200 = .ok (.getfield 284, 3) := by decide +kernel
theorem dX7_run_203 : decode cX7_run 203 = .ok (.aload_n 0, 1) := by decide +kernel
theorem dX7_run_204 : decode cX7_run 204 = .ok (.getfield 16, 3) := by decide +kernel
theorem dX7_run_207 : decode cX7_run 207 = .ok (.iload 6, 2) := by decide +kernel
theorem dX7_run_209 : decode cX7_run 209 = .ok (.iaload, 1) := by decide +kernel
theorem dX7_run_210 : decode cX7_run 210 = .ok (.iastore, 1) := by decide +kernel
theorem dX7_run_211 : decode cX7_run 211 = .ok (.aload_n 0, 1) := by decide +kernel
theorem dX7_run_212 : decode cX7_run 212 = .ok (.dup, 1) := by decide +kernel
theorem dX7_run_213 : decode cX7_run 213 = .ok (.getfield 284, 3) := by decide +kernel
theorem dX7_run_216 : decode cX7_run 216 = .ok (.iconst 1, 1) := by decide +kernel
theorem dX7_run_217 : decode cX7_run 217 = .ok (.iadd, 1) := by decide +kernel
theorem dX7_run_218 : decode cX7_run 218 = .ok (.putfield 284, 3) := by decide +kernel
theorem dX7_run_221 : decode cX7_run 221 = .ok (.goto 203, 3) := by decide +kernel
theorem dX7_run_224 : decode cX7_run 224 = .ok (.aload_n 0, 1) := by decide +kernel
theorem dX7_run_225 : decode cX7_run 225 = .ok (.getfield 13, 3) := by decide +kernel
theorem dX7_run_228 : decode cX7_run 228 = .ok (.iload 6, 2) := by decide +kernel
theorem dX7_run_230 : decode cX7_run 230 = .ok (.iaload, 1) := by decide +kernel
theorem dX7_run_231 : decode cX7_run 231 = .ok (.iconst 1, 1) := by decide +kernel
theorem dX7_run_232 : decode cX7_run 232 = .ok (.if_icmp .ne 28, 3) := by decide +kernel
theorem dX7_run_235 : decode cX7_run 235 = .ok (.aload_n 0, 1) := by decide +kernel
theorem dX7_run_236 : decode cX7_run 236 = .ok (.getfield 38, 3) := by decide +kernel
theorem dX7_run_239 : decode cX7_run 239 = .ok (.aload_n 0, 1) := by decide +kernel
theorem dX7_run_240 : decode cX7_run 240 = .ok (.getfield 16, 3) := by decide +kernel
theorem dX7_run_243 : decode cX7_run 243 = .ok (.iload 6, 2) := by decide +kernel
theorem dX7_run_245 : decode cX7_run 245 = .ok (.iaload, 1) := by decide +kernel
theorem dX7_run_246 : decode cX7_run 246 = .ok (.dup2, 1) := by decide +kernel
theorem dX7_run_247 : decode cX7_run 247 = .ok (.iaload, 1) := by decide +kernel
theorem dX7_run_248 : decode cX7_run 248 = .ok (.aload_n 0, 1) := by decide +kernel
theorem dX7_run_249 : decode cX7_run 249 = .ok (.getfield 19, 3) := by decide +kernel
theorem dX7_run_252 : decode cX7_run 252 = .ok (.iload 6, 2) := by decide +kernel
theorem dX7_run_254 : decode cX7_run 254 = .ok (.iaload, 1) := by decide +kernel
theorem dX7_run_255 : decode cX7_run 255 = .ok (.iadd, 1) := by decide +kernel
theorem dX7_run_256 : decode cX7_run 256 = .ok (.iastore, 1) := by decide +kernel
theorem dX7_run_257 : decode cX7_run 257 = .ok (.goto 167, 3) := by decide +kernel
theorem dX7_run_260 : decode cX7_run 260 = .ok (.aload_n 0, 1) := by decide +kernel
theorem dX7_run_261 : decode cX7_run 261 = .ok (.getfield 13, 3) := by decide +kernel
theorem dX7_run_264 : decode cX7_run 264 = .ok (.iload 6, 2) := by decide +kernel
theorem dX7_run_266 : decode cX7_run 266 = .ok (.iaload, 1) := by decide +kernel
theorem dX7_run_267 : decode cX7_run 267 = .ok (.iconst 2, 1) := by decide +kernel
theorem dX7_run_268 : decode cX7_run 268 = .ok (.if_icmp .eq 39, 3) := by decide +kernel
theorem dX7_run_271 : decode cX7_run 271 = .ok (.aload_n 0, 1) := by decide +kernel
theorem dX7_run_272 : decode cX7_run 272 = .ok (.getfield 13, 3) := by decide +kernel
theorem dX7_run_275 : decode cX7_run 275 = .ok (.iload 6, 2) := by decide +kernel
theorem dX7_run_277 : decode cX7_run 277 = .ok (.iaload, 1) := by decide +kernel
theorem dX7_run_278 : decode cX7_run 278 = .ok (.iconst 3, 1) := by decide +kernel
theorem dX7_run_279 : decode cX7_run 279 = .ok (.if_icmp .ne 46, 3) := by decide +kernel
theorem dX7_run_282 : decode cX7_run 282 = .ok (.aload_n 0, 1) := by decide +kernel
theorem dX7_run_283 : decode cX7_run 283 = .ok (.getfield 38, 3) := by decide +kernel
theorem dX7_run_286 : decode cX7_run 286 = .ok (.aload_n 0, 1) := by decide +kernel
theorem dX7_run_287 : decode cX7_run 287 = .ok (.getfield 16, 3) := by decide +kernel
theorem dX7_run_290 : decode cX7_run 290 = .ok (.iload 6, 2) := by decide +kernel
theorem dX7_run_292 : decode cX7_run 292 = .ok (.iaload, 1) := by decide +kernel
theorem dX7_run_293 : decode cX7_run 293 = .ok (.iaload, 1) := by decide +kernel
theorem dX7_run_294 : decode cX7_run 294 = .ok (.aload_n 0, 1) := by decide +kernel
theorem dX7_run_295 : decode cX7_run 295 = .ok (.getfield 19, 3) := by decide +kernel
theorem dX7_run_298 : decode cX7_run 298 = .ok (.iload 6, 2) := by decide +kernel
theorem dX7_run_300 : decode cX7_run 300 = .ok (.iaload, 1) := by decide +kernel
theorem dX7_run_301 : decode cX7_run 301 = .ok (.invokestatic 287, 3) := by decide +kernel
theorem dX7_run_304 : decode cX7_run 304 = .ok (.ifCond .eq 21, 3) := by decide +kernel
theorem dX7_run_307 : decode cX7_run 307 = .ok (.aload_n 0, 1) := by decide +kernel
theorem dX7_run_308 : decode cX7_run 308 = .ok (.getfield 132, 3) := by decide +kernel
theorem dX7_run_311 : decode cX7_run 311 = .ok (.iload_n 3, 1) := by decide +kernel
theorem dX7_run_312 : decode cX7_run 312 = .ok (.iconst 1, 1) := by decide +kernel
theorem dX7_run_313 : decode cX7_run 313 = .ok (.isub, 1) := by decide +kernel
theorem dX7_run_314 : decode cX7_run 314 = .ok (.aload_n 0, 1) := by decide +kernel
theorem dX7_run_315 : decode cX7_run 315 = .ok (.getfield 22, 3) := by decide +kernel
theorem dX7_run_318 : decode cX7_run 318 = .ok (.iload 6, 2) := by decide +kernel
theorem dX7_run_320 : decode cX7_run 320 = .ok (.iaload, 1) := by decide +kernel
theorem dX7_run_321 : decode cX7_run 321 = .ok (.iastore, 1) := by decide +kernel
theorem dX7_run_322 : decode cX7_run 322 = .ok (.goto 102, 3) := by decide +kernel
theorem dX7_run_325 : decode cX7_run 325 = .ok (.aload_n 0, 1) := by decide +kernel
theorem dX7_run_326 : decode cX7_run 326 = .ok (.getfield 13, 3) := by decide +kernel
theorem dX7_run_329 : decode cX7_run 329 = .ok (.iload 6, 2) := by decide +kernel
theorem dX7_run_331 : decode cX7_run 331 = .ok (.iaload, 1) := by decide +kernel
theorem dX7_run_332 : decode cX7_run 332 = .ok (.iconst 4, 1) := by decide +kernel
theorem dX7_run_333 : decode cX7_run 333 = .ok (.if_icmp .ne 9, 3) := by decide +kernel
theorem dX7_run_336 : decode cX7_run 336 = .ok (.iinc 3 (-1), 3) := by decide +kernel
theorem dX7_run_339 : decode cX7_run 339 = .ok (.goto 85, 3) := by decide +kernel
theorem dX7_run_342 : decode cX7_run 342 = .ok (.aload_n 0, 1) := by decide +kernel
theorem dX7_run_343 : decode cX7_run 343 = .ok (.getfield 13, 3) := by decide +kernel
theorem dX7_run_346 : decode cX7_run 346 = .ok (.iload 6, 2) := by decide +kernel
theorem dX7_run_348 : decode cX7_run 348 = .ok (.iaload, 1) := by decide +kernel
theorem dX7_run_349 : decode cX7_run 349 = .ok (.iconst 5, 1) := by decide +kernel
theorem dX7_run_350 : decode cX7_run 350 = .ok (.if_icmp .ne 74, 3) := by decide +kernel
theorem dX7_run_353 : decode cX7_run 353 = .ok (.aload_n 0, 1) := by decide +kernel
theorem dX7_run_354 : decode cX7_run 354 = .ok (.aload_n 0, 1) := by decide +kernel
theorem dX7_run_355 : decode cX7_run 355 = .ok (.getfield 16, 3) := by decide +kernel
theorem dX7_run_358 : decode cX7_run 358 = .ok (.iload 6, 2) := by decide +kernel
theorem dX7_run_360 : decode cX7_run 360 = .ok (.iaload, 1) := by decide +kernel
theorem dX7_run_361 : decode cX7_run 361 = .ok (.invokevirtual 142, 3) := by decide +kernel
theorem dX7_run_364 : decode cX7_run 364 = .ok (.ifCond .eq 17, 3) := by decide +kernel
theorem dX7_run_367 : decode cX7_run 367 = .ok (.aload_n 0, 1) := by decide +kernel
theorem dX7_run_368 : decode cX7_run 368 = .ok (.aload_n 0, 1) := by decide +kernel
theorem dX7_run_369 : decode cX7_run 369 = .ok (.getfield 16, 3) := by decide +kernel
theorem dX7_run_372 : decode cX7_run 372 = .ok (.iload 6, 2) := by decide +kernel
theorem dX7_run_374 : decode cX7_run 374 = .ok (.iaload, 1) := by decide +kernel
theorem dX7_run_375 : decode cX7_run 375 = .ok (.invokevirtual 184, 3) := by decide +kernel
theorem dX7_run_378 : decode cX7_run 378 = .ok (.ifCond .ne 5, 3) := by decide +kernel
theorem dX7_run_381 : decode cX7_run 381 = .ok (.iconst 2, 1) := by decide +kernel
theorem dX7_run_382 : decode cX7_run 382 = .ok (.ireturn, 1) := by decide +kernel
theorem dX7_run_383 : decode cX7_run 383 = .ok (.iload_n 3, 1) := by decide +kernel
theorem dX7_run_384 : decode cX7_run 384 = .ok (.bipush 8, 2) := by decide +kernel
theorem dX7_run_386 : decode cX7_run 386 = .ok (.if_icmp .ne 5, 3) := by decide +kernel
theorem dX7_run_389 : decode cX7_run 389 = .ok (.iconst 3, 1) := by decide +kernel
theorem dX7_run_390 : decode cX7_run 390 = .ok (.ireturn, 1) := by decide +kernel
theorem dX7_run_391 : decode cX7_run 391 = .ok (.aload_n 0, 1) := by decide +kernel
theorem dX7_run_392 : decode cX7_run 392 = .ok (.getfield 129, 3) := by decide +kernel
theorem dX7_run_395 : decode cX7_run 395 = .ok (.iload_n 3, 1) := by decide +kernel
theorem dX7_run_396 : decode cX7_run 396 = .ok (.aload_n 0, 1) := by decide +kernel
theorem dX7_run_397 : decode cX7_run 397 = .ok (.getfield 16, 3) := by decide +kernel
theorem dX7_run_400 : decode cX7_run 400 = .ok (.iload 6, 2) := by decide +kernel
theorem dX7_run_402 : decode cX7_run 402 = .ok (.iaload, 1) := by decide +kernel
theorem dX7_run_403 : decode cX7_run 403 = .ok (.iastore, 1) := by decide +kernel
theorem dX7_run_404 : decode cX7_run 404 = .ok (.aload_n 0, 1) := by decide +kernel
theorem dX7_run_405 : decode cX7_run 405 = .ok (.getfield 132, 3) := by decide +kernel
theorem dX7_run_408 : decode cX7_run 408 = .ok (.iload_n 3, 1) := by decide +kernel
theorem dX7_run_409 : decode cX7_run 409 = .ok (.iconst 0, 1) := by decide +kernel
theorem dX7_run_410 : decode cX7_run 410 = .ok (.iastore, 1) := by decide +kernel
theorem dX7_run_411 : decode cX7_run 411 = .ok (.iinc 3 1, 3) := by decide +kernel
theorem dX7_run_414 : decode cX7_run 414 = .ok (.aload_n 0, 1) := by decide +kernel
theorem dX7_run_415 : decode cX7_run 415 = .ok (.dup, 1) := by decide +kernel
theorem dX7_run_416 : decode cX7_run 416 = .ok (.getfield 281, 3) := by decide +kernel
theorem dX7_run_419 : decode cX7_run 419 = .ok (.iconst 1, 1) := by decide +kernel
theorem dX7_run_420 : decode cX7_run 420 = .ok (.iadd, 1) := by decide +kernel
theorem dX7_run_421 : decode cX7_run 421 = .ok (.putfield 281, 3) := by decide +kernel
theorem dX7_run_424 : decode cX7_run 424 = .ok (.goto (-335), 3) := by decide +kernel
theorem dX7_run_427 : decode cX7_run 427 = .ok (.iconst 0, 1) := by decide +kernel
theorem dX7_run_428 : decode cX7_run 428 = .ok (.ireturn, 1) := by decide +kernel
theorem dX7_ran_0 : decode cX7_ran 0 = .ok (.iload_n 1, 1) := by decide +kernel
theorem dX7_ran_1 : decode cX7_ran 1 = .ok (.iconst 0, 1) := by decide +kernel
theorem dX7_ran_2 : decode cX7_ran 2 = .ok (.bipush 7, 2) := by decide +kernel
theorem dX7_ran_4 : decode cX7_ran 4 = .ok (.invokestatic 138, 3) := by decide +kernel
theorem dX7_ran_7 : decode cX7_ran 7 = .ok (.ifCond .eq 8, 3) := by decide +kernel
theorem dX7_ran_10 : decode cX7_ran 10 = .ok (.iload_n 1, 1) := by decide +kernel
theorem dX7_ran_11 : decode cX7_ran 11 = .ok (.iconst 3, 1) := by decide +kernel
theorem dX7_ran_12 : decode cX7_ran 12 = .ok (.if_icmp .ne 6, 3) := by decide +kernel
theorem dX7_ran_15 : decode cX7_ran 15 = .ok (.bipush (-2), 2) := by decide +kernel
theorem dX7_ran_17 : decode cX7_ran 17 = .ok (.ireturn, 1) := by decide +kernel
theorem dX7_ran_18 : decode cX7_ran 18 = .ok (.iload_n 1, 1) := by decide +kernel
theorem dX7_ran_19 : decode cX7_ran 19 = .ok (.ifCond .ne 10, 3) := by decide +kernel
theorem dX7_ran_22 : decode cX7_ran 22 = .ok (.aload_n 0, 1) := by decide +kernel
theorem dX7_ran_23 : decode cX7_ran 23 = .ok (.getfield 278, 3) := by decide +kernel
theorem dX7_ran_26 : decode cX7_ran 26 = .ok (.goto 35, 3) := by decide +kernel
theorem dX7_ran_29 : decode cX7_ran 29 = .ok (.iload_n 1, 1) := by decide +kernel
theorem dX7_ran_30 : decode cX7_ran 30 = .ok (.iconst 1, 1) := by decide +kernel
theorem dX7_ran_31 : decode cX7_ran 31 = .ok (.if_icmp .ne 10, 3) := by decide +kernel
theorem dX7_ran_34 : decode cX7_ran 34 = .ok (.aload_n 0, 1) := by decide +kernel
theorem dX7_ran_35 : decode cX7_ran 35 = .ok (.getfield 284, 3) := by decide +kernel
theorem dX7_ran_38 : decode cX7_ran 38 = .ok (.goto 23, 3) := by decide +kernel
theorem dX7_ran_41 : decode cX7_ran 41 = .ok (.iload_n 1, 1) := by decide +kernel
theorem dX7_ran_42 : decode cX7_ran 42 = .ok (.iconst 2, 1) := by decide +kernel
theorem dX7_ran_43 : decode cX7_ran 43 = .ok (.if_icmp .ne 10, 3) := by decide +kernel
theorem dX7_ran_46 : decode cX7_ran 46 = .ok (.aload_n 0, 1) := by decide +kernel
theorem dX7_ran_47 : decode cX7_ran 47 = .ok (.getfield 281, 3) := by decide +kernel
theorem dX7_ran_50 : decode cX7_ran 50 = .ok (.goto 11, 3) := by decide +kernel
theorem dX7_ran_53 : decode cX7_ran 53 = .ok (.aload_n 0, 1) := by decide +kernel
theorem dX7_ran_54 : decode cX7_ran 54 = .ok (.getfield 38, 3) := by decide +kernel
theorem dX7_ran_57 : decode cX7_ran 57 = .ok (.iload_n 1, 1) := by decide +kernel
theorem dX7_ran_58 : decode cX7_ran 58 = .ok (.iconst 4, 1) := by decide +kernel
theorem dX7_ran_59 : decode cX7_ran 59 = .ok (.isub, 1) := by decide +kernel
theorem dX7_ran_60 : decode cX7_ran 60 = .ok (.iaload, 1) := by decide +kernel
theorem dX7_ran_61 : decode cX7_ran 61 = .ok (.ireturn, 1) := by decide +kernel
theorem dX7_out_0 : decode cX7_out 0 = .ok (.iload_n 1, 1) := by decide +kernel
theorem dX7_out_1 : decode cX7_out 1 = .ok (.iconst 0, 1) := by decide +kernel
theorem dX7_out_2 : decode cX7_out 2 = .ok (.aload_n 0, 1) := by decide +kernel
theorem dX7_out_3 : decode cX7_out 3 = .ok (.getfield 284, 3) := by decide +kernel
theorem dX7_out_6 : decode cX7_out 6 = .ok (.iconst 1, 1) := by decide +kernel
theorem dX7_out_7 : decode cX7_out 7 = .ok (.isub, 1) := by decide +kernel
theorem dX7_out_8 : decode cX7_out 8 = .ok (.invokestatic 138, 3) := by decide +kernel
theorem dX7_out_11 : decode cX7_out 11 = .ok (.ifCond .eq 12, 3) := by decide +kernel
theorem dX7_out_14 : decode cX7_out 14 = .ok (.aload_n 0, 1) := by decide +kernel
theorem dX7_out_15 : decode cX7_out 15 = .ok (.getfield 35, 3) := by decide +kernel
theorem dX7_out_18 : decode cX7_out 18 = .ok (.iload_n 1, 1) := by decide +kernel
theorem dX7_out_19 : decode cX7_out 19 = .ok (.iaload, 1) := by decide +kernel
theorem dX7_out_20 : decode cX7_out 20 = .ok (.goto 5, 3) := by decide +kernel
theorem dX7_out_23 : decode cX7_out 23 = .ok (.bipush (-2), 2) := by decide +kernel
theorem dX7_out_25 : decode cX7_out 25 = .ok (.ireturn, 1) := by decide +kernel
theorem dL_law_0 : decode cL_law 0 = .ok (.new 7, 3) := by decide +kernel
theorem dL_law_3 : decode cL_law 3 = .ok (.dup, 1) := by decide +kernel
theorem dL_law_4 : decode cL_law 4 = .ok (.invokespecial 9, 3) := by decide +kernel
theorem dL_law_7 : decode cL_law 7 = .ok (.astore_n 1, 1) := by decide +kernel
theorem dL_law_8 : decode cL_law 8 = .ok (.new 10, 3) := by decide +kernel
theorem dL_law_11 : decode cL_law 11 = .ok (.dup, 1) := by decide +kernel
theorem dL_law_12 : decode cL_law 12 = .ok (.invokespecial 12, 3) := by decide +kernel
theorem dL_law_15 : decode cL_law 15 = .ok (.astore_n 2, 1) := by decide +kernel
theorem dL_law_16 : decode cL_law 16 = .ok (.iconst 0, 1) := by decide +kernel
theorem dL_law_17 : decode cL_law 17 = .ok (.istore_n 3, 1) := by decide +kernel
theorem dL_law_18 : decode cL_law 18 = .ok (.iload_n 3, 1) := by decide +kernel
theorem dL_law_19 : decode cL_law 19 = .ok (.aload_n 0, 1) := by decide +kernel
theorem dL_law_20 : decode cL_law 20 = .ok (.arraylength, 1) := by decide +kernel
theorem dL_law_21 : decode cL_law 21 = .ok (.bipush 7, 2) := by decide +kernel
theorem dL_law_23 : decode cL_law 23 = .ok (.isub, 1) := by decide +kernel
theorem dL_law_24 : decode cL_law 24 = .ok (.if_icmp .gt 631, 3) := by decide +kernel
theorem dL_law_27 : decode cL_law 27 = .ok (.aload_n 0, 1) := by decide +kernel
theorem dL_law_28 : decode cL_law 28 = .ok (.iload_n 3, 1) := by decide +kernel
theorem dL_law_29 : decode cL_law 29 = .ok (.iaload, 1) := by decide +kernel
theorem dL_law_30 : decode cL_law 30 = .ok (.bipush 31, 2) := by decide +kernel
theorem dL_law_32 : decode cL_law 32 = .ok (.iand, 1) := by decide +kernel
theorem dL_law_33 : decode cL_law 33 = .ok (.tableswitch 616 0 16 #[83, 96, 159, 234, 277, 310, 353, 386, 409, 432, 445, 458, 471, 504, 537, 570, 593], 83) := by decide +kernel
theorem dL_law_116 : decode cL_law 116 = .ok (.aload_n 1, 1) := by decide +kernel
theorem dL_law_117 : decode cL_law 117 = .ok (.invokevirtual 13, 3) := by decide +kernel
theorem dL_law_120 : decode cL_law 120 = .ok (.aload_n 2, 1) := by decide +kernel
theorem dL_law_121 : decode cL_law 121 = .ok (.invokevirtual 17, 3) := by decide +kernel
theorem dL_law_124 : decode cL_law 124 = .ok (.if_icmp .eq 525, 3) := by decide +kernel
theorem dL_law_127 : decode cL_law 127 = .ok (.iconst 0, 1) := by decide +kernel
theorem dL_law_128 : decode cL_law 128 = .ok (.ireturn, 1) := by decide +kernel
theorem dL_law_129 : decode cL_law 129 = .ok (.aload_n 1, 1) := by decide +kernel
theorem dL_law_130 : decode cL_law 130 = .ok (.aload_n 0, 1) := by decide +kernel
theorem dL_law_131 : decode cL_law 131 = .ok (.iload_n 3, 1) := by decide +kernel
theorem dL_law_132 : decode cL_law 132 = .ok (.iconst 1, 1) := by decide +kernel
theorem dL_law_133 : decode cL_law 133 = .ok (.iadd, 1) := by decide +kernel
theorem dL_law_134 : decode cL_law 134 = .ok (.iaload, 1) := by decide +kernel
theorem dL_law_135 : decode cL_law 135 = .ok (.aload_n 0, 1) := by decide +kernel
theorem dL_law_136 : decode cL_law 136 = .ok (.iload_n 3, 1) := by decide +kernel
theorem dL_law_137 : decode cL_law 137 = .ok (.iconst 2, 1) := by decide +kernel
theorem dL_law_138 : decode cL_law 138 = .ok (.iadd, 1) := by decide +kernel
theorem dL_law_139 : decode cL_law 139 = .ok (.iaload, 1) := by decide +kernel
theorem dL_law_140 : decode cL_law 140 = .ok (.aload_n 0, 1) := by decide +kernel
theorem dL_law_141 : decode cL_law 141 = .ok (.iload_n 3, 1) := by decide +kernel
theorem dL_law_142 : decode cL_law 142 = .ok (.iconst 3, 1) := by decide +kernel
theorem dL_law_143 : decode cL_law 143 = .ok (.iadd, 1) := by decide +kernel
theorem dL_law_144 : decode cL_law 144 = .ok (.iaload, 1) := by decide +kernel
theorem dL_law_145 : decode cL_law 145 = .ok (.aload_n 0, 1) := by decide +kernel
theorem dL_law_146 : decode cL_law 146 = .ok (.iload_n 3, 1) := by decide +kernel
theorem dL_law_147 : decode cL_law 147 = .ok (.iconst 4, 1) := by decide +kernel
theorem dL_law_148 : decode cL_law 148 = .ok (.iadd, 1) := by decide +kernel
theorem dL_law_149 : decode cL_law 149 = .ok (.iaload, 1) := by decide +kernel
theorem dL_law_150 : decode cL_law 150 = .ok (.aload_n 0, 1) := by decide +kernel
theorem dL_law_151 : decode cL_law 151 = .ok (.iload_n 3, 1) := by decide +kernel
theorem dL_law_152 : decode cL_law 152 = .ok (.iconst 5, 1) := by decide +kernel
theorem dL_law_153 : decode cL_law 153 = .ok (.iadd, 1) := by decide +kernel
theorem dL_law_154 : decode cL_law 154 = .ok (.iaload, 1) := by decide +kernel
theorem dL_law_155 : decode cL_law 155 = .ok (.invokevirtual 18, 3) := by decide +kernel
theorem dL_law_158 : decode cL_law 158 = .ok (.aload_n 2, 1) := by decide +kernel
theorem dL_law_159 : decode cL_law 159 = .ok (.aload_n 0, 1) := by decide +kernel
theorem dL_law_160 : decode cL_law 160 = .ok (.iload_n 3, 1) := by decide +kernel
theorem dL_law_161 : decode cL_law 161 = .ok (.iconst 1, 1) := by decide +kernel
theorem dL_law_162 : decode cL_law 162 = .ok (.iadd, 1) := by decide +kernel
theorem dL_law_163 : decode cL_law 163 = .ok (.iaload, 1) := by decide +kernel
theorem dL_law_164 : decode cL_law 164 = .ok (.aload_n 0, 1) := by decide +kernel
theorem dL_law_165 : decode cL_law 165 = .ok (.iload_n 3, 1) := by decide +kernel
theorem dL_law_166 : decode cL_law 166 = .ok (.iconst 2, 1) := by decide +kernel
theorem dL_law_167 : decode cL_law 167 = .ok (.iadd, 1) := by decide +kernel
theorem dL_law_168 : decode cL_law 168 = .ok (.iaload, 1) := by decide +kernel
theorem dL_law_169 : decode cL_law 169 = .ok (.aload_n 0, 1) := by decide +kernel
theorem dL_law_170 : decode cL_law 170 = .ok (.iload_n 3, 1) := by decide +kernel
theorem dL_law_171 : decode cL_law 171 = .ok (.iconst 3, 1) := by decide +kernel
theorem dL_law_172 : decode cL_law 172 = .ok (.iadd, 1) := by decide +kernel
theorem dL_law_173 : decode cL_law 173 = .ok (.iaload, 1) := by decide +kernel
theorem dL_law_174 : decode cL_law 174 = .ok (.aload_n 0, 1) := by decide +kernel
theorem dL_law_175 : decode cL_law 175 = .ok (.iload_n 3, 1) := by decide +kernel
theorem dL_law_176 : decode cL_law 176 = .ok (.iconst 4, 1) := by decide +kernel
theorem dL_law_177 : decode cL_law 177 = .ok (.iadd, 1) := by decide +kernel
theorem dL_law_178 : decode cL_law 178 = .ok (.iaload, 1) := by decide +kernel
theorem dL_law_179 : decode cL_law 179 = .ok (.aload_n 0, 1) := by decide +kernel
theorem dL_law_180 : decode cL_law 180 = .ok (.iload_n 3, 1) := by decide +kernel
theorem dL_law_181 : decode cL_law 181 = .ok (.iconst 5, 1) := by decide +kernel
theorem dL_law_182 : decode cL_law 182 = .ok (.iadd, 1) := by decide +kernel
theorem dL_law_183 : decode cL_law 183 = .ok (.iaload, 1) := by decide +kernel
theorem dL_law_184 : decode cL_law 184 = .ok (.invokevirtual 22, 3) := by decide +kernel
theorem dL_law_187 : decode cL_law 187 = .ok (.if_icmp .eq 462, 3) := by decide +kernel
theorem dL_law_190 : decode cL_law 190 = .ok (.iconst 0, 1) := by decide +kernel
theorem dL_law_191 : decode cL_law 191 = .ok (.ireturn, 1) := by decide +kernel
theorem dL_law_192 : decode cL_law 192 = .ok (.aload_n 1, 1) := by decide +kernel
theorem dL_law_193 : decode cL_law 193 = .ok (.aload_n 0, 1) := by decide +kernel
theorem dL_law_194 : decode cL_law 194 = .ok (.iload_n 3, 1) := by decide +kernel
theorem dL_law_195 : decode cL_law 195 = .ok (.iconst 1, 1) := by decide +kernel
theorem dL_law_196 : decode cL_law 196 = .ok (.iadd, 1) := by decide +kernel
theorem dL_law_197 : decode cL_law 197 = .ok (.iaload, 1) := by decide +kernel
theorem dL_law_198 : decode cL_law 198 = .ok (.aload_n 0, 1) := by decide +kernel
theorem dL_law_199 : decode cL_law 199 = .ok (.iload_n 3, 1) := by decide +kernel
theorem dL_law_200 : decode cL_law 200 = .ok (.iconst 2, 1) := by decide +kernel
theorem dL_law_201 : decode cL_law 201 = .ok (.iadd, 1) := by decide +kernel
theorem dL_law_202 : decode cL_law 202 = .ok (.iaload, 1) := by decide +kernel
theorem dL_law_203 : decode cL_law 203 = .ok (.aload_n 0, 1) := by decide +kernel
theorem dL_law_204 : decode cL_law 204 = .ok (.iload_n 3, 1) := by decide +kernel
theorem dL_law_205 : decode cL_law 205 = .ok (.iconst 3, 1) := by decide +kernel
theorem dL_law_206 : decode cL_law 206 = .ok (.iadd, 1) := by decide +kernel
theorem dL_law_207 : decode cL_law 207 = .ok (.iaload, 1) := by decide +kernel
theorem dL_law_208 : decode cL_law 208 = .ok (.aload_n 0, 1) := by decide +kernel
theorem dL_law_209 : decode cL_law 209 = .ok (.iload_n 3, 1) := by decide +kernel
theorem dL_law_210 : decode cL_law 210 = .ok (.iconst 4, 1) := by decide +kernel
theorem dL_law_211 : decode cL_law 211 = .ok (.iadd, 1) := by decide +kernel
theorem dL_law_212 : decode cL_law 212 = .ok (.iaload, 1) := by decide +kernel
theorem dL_law_213 : decode cL_law 213 = .ok (.aload_n 0, 1) := by decide +kernel
theorem dL_law_214 : decode cL_law 214 = .ok (.iload_n 3, 1) := by decide +kernel
theorem dL_law_215 : decode cL_law 215 = .ok (.iconst 5, 1) := by decide +kernel
theorem dL_law_216 : decode cL_law 216 = .ok (.iadd, 1) := by decide +kernel
theorem dL_law_217 : decode cL_law 217 = .ok (.iaload, 1) := by decide +kernel
theorem dL_law_218 : decode cL_law 218 = .ok (.aload_n 0, 1) := by decide +kernel
theorem dL_law_219 : decode cL_law 219 = .ok (.iload_n 3, 1) := by decide +kernel
theorem dL_law_220 : decode cL_law 220 = .ok (.bipush 6, 2) := by decide +kernel
theorem dL_law_222 : decode cL_law 222 = .ok (.iadd, 1) := by decide +kernel
theorem dL_law_223 : decode cL_law 223 = .ok (.iaload, 1) := by decide +kernel
theorem dL_law_224 : decode cL_law 224 = .ok (.invokevirtual 23, 3) := by decide +kernel
theorem dL_law_227 : decode cL_law 227 = .ok (.aload_n 2, 1) := by decide +kernel
theorem dL_law_228 : decode cL_law 228 = .ok (.aload_n 0, 1) := by decide +kernel
theorem dL_law_229 : decode cL_law 229 = .ok (.iload_n 3, 1) := by decide +kernel
theorem dL_law_230 : decode cL_law 230 = .ok (.iconst 1, 1) := by decide +kernel
theorem dL_law_231 : decode cL_law 231 = .ok (.iadd, 1) := by decide +kernel
theorem dL_law_232 : decode cL_law 232 = .ok (.iaload, 1) := by decide +kernel
theorem dL_law_233 : decode cL_law 233 = .ok (.aload_n 0, 1) := by decide +kernel
theorem dL_law_234 : decode cL_law 234 = .ok (.iload_n 3, 1) := by decide +kernel
theorem dL_law_235 : decode cL_law 235 = .ok (.iconst 2, 1) := by decide +kernel
theorem dL_law_236 : decode cL_law 236 = .ok (.iadd, 1) := by decide +kernel
theorem dL_law_237 : decode cL_law 237 = .ok (.iaload, 1) := by decide +kernel
theorem dL_law_238 : decode cL_law 238 = .ok (.aload_n 0, 1) := by decide +kernel
theorem dL_law_239 : decode cL_law 239 = .ok (.iload_n 3, 1) := by decide +kernel
theorem dL_law_240 : decode cL_law 240 = .ok (.iconst 3, 1) := by decide +kernel
theorem dL_law_241 : decode cL_law 241 = .ok (.iadd, 1) := by decide +kernel
theorem dL_law_242 : decode cL_law 242 = .ok (.iaload, 1) := by decide +kernel
theorem dL_law_243 : decode cL_law 243 = .ok (.aload_n 0, 1) := by decide +kernel
theorem dL_law_244 : decode cL_law 244 = .ok (.iload_n 3, 1) := by decide +kernel
theorem dL_law_245 : decode cL_law 245 = .ok (.iconst 4, 1) := by decide +kernel
theorem dL_law_246 : decode cL_law 246 = .ok (.iadd, 1) := by decide +kernel
theorem dL_law_247 : decode cL_law 247 = .ok (.iaload, 1) := by decide +kernel
theorem dL_law_248 : decode cL_law 248 = .ok (.aload_n 0, 1) := by decide +kernel
theorem dL_law_249 : decode cL_law 249 = .ok (.iload_n 3, 1) := by decide +kernel
theorem dL_law_250 : decode cL_law 250 = .ok (.iconst 5, 1) := by decide +kernel
theorem dL_law_251 : decode cL_law 251 = .ok (.iadd, 1) := by decide +kernel
theorem dL_law_252 : decode cL_law 252 = .ok (.iaload, 1) := by decide +kernel
theorem dL_law_253 : decode cL_law 253 = .ok (.aload_n 0, 1) := by decide +kernel
theorem dL_law_254 : decode cL_law 254 = .ok (.iload_n 3, 1) := by decide +kernel
theorem dL_law_255 : decode cL_law 255 = .ok (.bipush 6, 2) := by decide +kernel
theorem dL_law_257 : decode cL_law 257 = .ok (.iadd, 1) := by decide +kernel
theorem dL_law_258 : decode cL_law 258 = .ok (.iaload, 1) := by decide +kernel
theorem dL_law_259 : decode cL_law 259 = .ok (.invokevirtual 27, 3) := by decide +kernel
theorem dL_law_262 : decode cL_law 262 = .ok (.if_icmp .eq 387, 3) := by decide +kernel
theorem dL_law_265 : decode cL_law 265 = .ok (.iconst 0, 1) := by decide +kernel
theorem dL_law_266 : decode cL_law 266 = .ok (.ireturn, 1) := by decide +kernel
theorem dL_law_267 : decode cL_law 267 = .ok (.aload_n 1, 1) := by decide +kernel
theorem dL_law_268 : decode cL_law 268 = .ok (.aload_n 0, 1) := by decide +kernel
theorem dL_law_269 : decode cL_law 269 = .ok (.iload_n 3, 1) := by decide +kernel
theorem dL_law_270 : decode cL_law 270 = .ok (.iconst 1, 1) := by decide +kernel
theorem dL_law_271 : decode cL_law 271 = .ok (.iadd, 1) := by decide +kernel
theorem dL_law_272 : decode cL_law 272 = .ok (.iaload, 1) := by decide +kernel
theorem dL_law_273 : decode cL_law 273 = .ok (.aload_n 0, 1) := by decide +kernel
theorem dL_law_274 : decode cL_law 274 = .ok (.iload_n 3, 1) := by decide +kernel
theorem dL_law_275 : decode cL_law 275 = .ok (.iconst 2, 1) := by decide +kernel
theorem dL_law_276 : decode cL_law 276 = .ok (.iadd, 1) := by decide +kernel
theorem dL_law_277 : decode cL_law 277 = .ok (.iaload, 1) := by decide +kernel
theorem dL_law_278 : decode cL_law 278 = .ok (.aload_n 0, 1) := by decide +kernel
theorem dL_law_279 : decode cL_law 279 = .ok (.iload_n 3, 1) := by decide +kernel
theorem dL_law_280 : decode cL_law 280 = .ok (.iconst 3, 1) := by decide +kernel
theorem dL_law_281 : decode cL_law 281 = .ok (.iadd, 1) := by decide +kernel
theorem dL_law_282 : decode cL_law 282 = .ok (.iaload, 1) := by decide +kernel
theorem dL_law_283 : decode cL_law 283 = .ok (.invokevirtual 28, 3) := by decide +kernel
theorem dL_law_286 : decode cL_law 286 = .ok (.aload_n 2, 1) := by decide +kernel
theorem dL_law_287 : decode cL_law 287 = .ok (.aload_n 0, 1) := by decide +kernel
theorem dL_law_288 : decode cL_law 288 = .ok (.iload_n 3, 1) := by decide +kernel
theorem dL_law_289 : decode cL_law 289 = .ok (.iconst 1, 1) := by decide +kernel
theorem dL_law_290 : decode cL_law 290 = .ok (.iadd, 1) := by decide +kernel
theorem dL_law_291 : decode cL_law 291 = .ok (.iaload, 1) := by decide +kernel
theorem dL_law_292 : decode cL_law 292 = .ok (.aload_n 0, 1) := by decide +kernel
theorem dL_law_293 : decode cL_law 293 = .ok (.iload_n 3, 1) := by decide +kernel
theorem dL_law_294 : decode cL_law 294 = .ok (.iconst 2, 1) := by decide +kernel
theorem dL_law_295 : decode cL_law 295 = .ok (.iadd, 1) := by decide +kernel
theorem dL_law_296 : decode cL_law 296 = .ok (.iaload, 1) := by decide +kernel
theorem dL_law_297 : decode cL_law 297 = .ok (.aload_n 0, 1) := by decide +kernel
theorem dL_law_298 : decode cL_law 298 = .ok (.iload_n 3, 1) := by decide +kernel
theorem dL_law_299 : decode cL_law 299 = .ok (.iconst 3, 1) := by decide +kernel
theorem dL_law_300 : decode cL_law 300 = .ok (.iadd, 1) := by decide +kernel
theorem dL_law_301 : decode cL_law 301 = .ok (.iaload, 1) := by decide +kernel
theorem dL_law_302 : decode cL_law 302 = .ok (.invokevirtual 32, 3) := by decide +kernel
theorem dL_law_305 : decode cL_law 305 = .ok (.if_icmp .eq 344, 3) := by decide +kernel
theorem dL_law_308 : decode cL_law 308 = .ok (.iconst 0, 1) := by decide +kernel
theorem dL_law_309 : decode cL_law 309 = .ok (.ireturn, 1) := by decide +kernel
theorem dL_law_310 : decode cL_law 310 = .ok (.aload_n 1, 1) := by decide +kernel
theorem dL_law_311 : decode cL_law 311 = .ok (.aload_n 0, 1) := by decide +kernel
theorem dL_law_312 : decode cL_law 312 = .ok (.iload_n 3, 1) := by decide +kernel
theorem dL_law_313 : decode cL_law 313 = .ok (.iconst 1, 1) := by decide +kernel
theorem dL_law_314 : decode cL_law 314 = .ok (.iadd, 1) := by decide +kernel
theorem dL_law_315 : decode cL_law 315 = .ok (.iaload, 1) := by decide +kernel
theorem dL_law_316 : decode cL_law 316 = .ok (.aload_n 0, 1) := by decide +kernel
theorem dL_law_317 : decode cL_law 317 = .ok (.iload_n 3, 1) := by decide +kernel
theorem dL_law_318 : decode cL_law 318 = .ok (.iconst 2, 1) := by decide +kernel
theorem dL_law_319 : decode cL_law 319 = .ok (.iadd, 1) := by decide +kernel
theorem dL_law_320 : decode cL_law 320 = .ok (.iaload, 1) := by decide +kernel
theorem dL_law_321 : decode cL_law 321 = .ok (.invokevirtual 33, 3) := by decide +kernel
theorem dL_law_324 : decode cL_law 324 = .ok (.aload_n 2, 1) := by decide +kernel
theorem dL_law_325 : decode cL_law 325 = .ok (.aload_n 0, 1) := by decide +kernel
theorem dL_law_326 : decode cL_law 326 = .ok (.iload_n 3, 1) := by decide +kernel
theorem dL_law_327 : decode cL_law 327 = .ok (.iconst 1, 1) := by decide +kernel
theorem dL_law_328 : decode cL_law 328 = .ok (.iadd, 1) := by decide +kernel
theorem dL_law_329 : decode cL_law 329 = .ok (.iaload, 1) := by decide +kernel
theorem dL_law_330 : decode cL_law 330 = .ok (.aload_n 0, 1) := by decide +kernel
theorem dL_law_331 : decode cL_law 331 = .ok (.iload_n 3, 1) := by decide +kernel
theorem dL_law_332 : decode cL_law 332 = .ok (.iconst 2, 1) := by decide +kernel
theorem dL_law_333 : decode cL_law 333 = .ok (.iadd, 1) := by decide +kernel
theorem dL_law_334 : decode cL_law 334 = .ok (.iaload, 1) := by decide +kernel
theorem dL_law_335 : decode cL_law 335 = .ok (.invokevirtual 37, 3) := by decide +kernel
theorem dL_law_338 : decode cL_law 338 = .ok (.if_icmp .eq 311, 3) := by decide +kernel
theorem dL_law_341 : decode cL_law 341 = .ok (.iconst 0, 1) := by decide +kernel
theorem dL_law_342 : decode cL_law 342 = .ok (.ireturn, 1) := by decide +kernel
theorem dL_law_343 : decode cL_law 343 = .ok (.aload_n 1, 1) := by decide +kernel
theorem dL_law_344 : decode cL_law 344 = .ok (.aload_n 0, 1) := by decide +kernel
theorem dL_law_345 : decode cL_law 345 = .ok (.iload_n 3, 1) := by decide +kernel
theorem dL_law_346 : decode cL_law 346 = .ok (.iconst 1, 1) := by decide +kernel
theorem dL_law_347 : decode cL_law 347 = .ok (.iadd, 1) := by decide +kernel
theorem dL_law_348 : decode cL_law 348 = .ok (.iaload, 1) := by decide +kernel
theorem dL_law_349 : decode cL_law 349 = .ok (.aload_n 0, 1) := by decide +kernel
theorem dL_law_350 : decode cL_law 350 = .ok (.iload_n 3, 1) := by decide +kernel
theorem dL_law_351 : decode cL_law 351 = .ok (.iconst 2, 1) := by decide +kernel
theorem dL_law_352 : decode cL_law 352 = .ok (.iadd, 1) := by decide +kernel
theorem dL_law_353 : decode cL_law 353 = .ok (.iaload, 1) := by decide +kernel
theorem dL_law_354 : decode cL_law 354 = .ok (.aload_n 0, 1) := by decide +kernel
theorem dL_law_355 : decode cL_law 355 = .ok (.iload_n 3, 1) := by decide +kernel
theorem dL_law_356 : decode cL_law 356 = .ok (.iconst 3, 1) := by decide +kernel
theorem dL_law_357 : decode cL_law 357 = .ok (.iadd, 1) := by decide +kernel
theorem dL_law_358 : decode cL_law 358 = .ok (.iaload, 1) := by decide +kernel
theorem dL_law_359 : decode cL_law 359 = .ok (.invokevirtual 38, 3) := by decide +kernel
theorem dL_law_362 : decode cL_law 362 = .ok (.aload_n 2, 1) := by decide +kernel
theorem dL_law_363 : decode cL_law 363 = .ok (.aload_n 0, 1) := by decide +kernel
theorem dL_law_364 : decode cL_law 364 = .ok (.iload_n 3, 1) := by decide +kernel
theorem dL_law_365 : decode cL_law 365 = .ok (.iconst 1, 1) := by decide +kernel
theorem dL_law_366 : decode cL_law 366 = .ok (.iadd, 1) := by decide +kernel
theorem dL_law_367 : decode cL_law 367 = .ok (.iaload, 1) := by decide +kernel
theorem dL_law_368 : decode cL_law 368 = .ok (.aload_n 0, 1) := by decide +kernel
theorem dL_law_369 : decode cL_law 369 = .ok (.iload_n 3, 1) := by decide +kernel
theorem dL_law_370 : decode cL_law 370 = .ok (.iconst 2, 1) := by decide +kernel
theorem dL_law_371 : decode cL_law 371 = .ok (.iadd, 1) := by decide +kernel
theorem dL_law_372 : decode cL_law 372 = .ok (.iaload, 1) := by decide +kernel
theorem dL_law_373 : decode cL_law 373 = .ok (.aload_n 0, 1) := by decide +kernel
theorem dL_law_374 : decode cL_law 374 = .ok (.iload_n 3, 1) := by decide +kernel
theorem dL_law_375 : decode cL_law 375 = .ok (.iconst 3, 1) := by decide +kernel
theorem dL_law_376 : decode cL_law 376 = .ok (.iadd, 1) := by decide +kernel
theorem dL_law_377 : decode cL_law 377 = .ok (.iaload, 1) := by decide +kernel
theorem dL_law_378 : decode cL_law 378 = .ok (.invokevirtual 41, 3) := by decide +kernel
theorem dL_law_381 : decode cL_law 381 = .ok (.if_icmp .eq 268, 3) := by decide +kernel
theorem dL_law_384 : decode cL_law 384 = .ok (.iconst 0, 1) := by decide +kernel
theorem dL_law_385 : decode cL_law 385 = .ok (.ireturn, 1) := by decide +kernel
theorem dL_law_386 : decode cL_law 386 = .ok (.aload_n 1, 1) := by decide +kernel
theorem dL_law_387 : decode cL_law 387 = .ok (.aload_n 0, 1) := by decide +kernel
theorem dL_law_388 : decode cL_law 388 = .ok (.iload_n 3, 1) := by decide +kernel
theorem dL_law_389 : decode cL_law 389 = .ok (.iconst 1, 1) := by decide +kernel
theorem dL_law_390 : decode cL_law 390 = .ok (.iadd, 1) := by decide +kernel
theorem dL_law_391 : decode cL_law 391 = .ok (.iaload, 1) := by decide +kernel
theorem dL_law_392 : decode cL_law 392 = .ok (.aload_n 0, 1) := by decide +kernel
theorem dL_law_393 : decode cL_law 393 = .ok (.iload_n 3, 1) := by decide +kernel
theorem dL_law_394 : decode cL_law 394 = .ok (.iconst 2, 1) := by decide +kernel
theorem dL_law_395 : decode cL_law 395 = .ok (.iadd, 1) := by decide +kernel
theorem dL_law_396 : decode cL_law 396 = .ok (.iaload, 1) := by decide +kernel
theorem dL_law_397 : decode cL_law 397 = .ok (.invokevirtual 42, 3) := by decide +kernel
theorem dL_law_400 : decode cL_law 400 = .ok (.aload_n 2, 1) := by decide +kernel
theorem dL_law_401 : decode cL_law 401 = .ok (.aload_n 0, 1) := by decide +kernel
theorem dL_law_402 : decode cL_law 402 = .ok (.iload_n 3, 1) := by decide +kernel
theorem dL_law_403 : decode cL_law 403 = .ok (.iconst 1, 1) := by decide +kernel
theorem dL_law_404 : decode cL_law 404 = .ok (.iadd, 1) := by decide +kernel
theorem dL_law_405 : decode cL_law 405 = .ok (.iaload, 1) := by decide +kernel
theorem dL_law_406 : decode cL_law 406 = .ok (.aload_n 0, 1) := by decide +kernel
theorem dL_law_407 : decode cL_law 407 = .ok (.iload_n 3, 1) := by decide +kernel
theorem dL_law_408 : decode cL_law 408 = .ok (.iconst 2, 1) := by decide +kernel
theorem dL_law_409 : decode cL_law 409 = .ok (.iadd, 1) := by decide +kernel
theorem dL_law_410 : decode cL_law 410 = .ok (.iaload, 1) := by decide +kernel
theorem dL_law_411 : decode cL_law 411 = .ok (.invokevirtual 45, 3) := by decide +kernel
theorem dL_law_414 : decode cL_law 414 = .ok (.if_icmp .eq 235, 3) := by decide +kernel
theorem dL_law_417 : decode cL_law 417 = .ok (.iconst 0, 1) := by decide +kernel
theorem dL_law_418 : decode cL_law 418 = .ok (.ireturn, 1) := by decide +kernel
theorem dL_law_419 : decode cL_law 419 = .ok (.aload_n 1, 1) := by decide +kernel
theorem dL_law_420 : decode cL_law 420 = .ok (.aload_n 0, 1) := by decide +kernel
theorem dL_law_421 : decode cL_law 421 = .ok (.iload_n 3, 1) := by decide +kernel
theorem dL_law_422 : decode cL_law 422 = .ok (.iconst 1, 1) := by decide +kernel
theorem dL_law_423 : decode cL_law 423 = .ok (.iadd, 1) := by decide +kernel
theorem dL_law_424 : decode cL_law 424 = .ok (.iaload, 1) := by decide +kernel
theorem dL_law_425 : decode cL_law 425 = .ok (.invokevirtual 46, 3) := by decide +kernel
theorem dL_law_428 : decode cL_law 428 = .ok (.aload_n 2, 1) := by decide +kernel
theorem dL_law_429 : decode cL_law 429 = .ok (.aload_n 0, 1) := by decide +kernel
theorem dL_law_430 : decode cL_law 430 = .ok (.iload_n 3, 1) := by decide +kernel
theorem dL_law_431 : decode cL_law 431 = .ok (.iconst 1, 1) := by decide +kernel
theorem dL_law_432 : decode cL_law 432 = .ok (.iadd, 1) := by decide +kernel
theorem dL_law_433 : decode cL_law 433 = .ok (.iaload, 1) := by decide +kernel
theorem dL_law_434 : decode cL_law 434 = .ok (.invokevirtual 50, 3) := by decide +kernel
theorem dL_law_437 : decode cL_law 437 = .ok (.if_icmp .eq 212, 3) := by decide +kernel
theorem dL_law_440 : decode cL_law 440 = .ok (.iconst 0, 1) := by decide +kernel
theorem dL_law_441 : decode cL_law 441 = .ok (.ireturn, 1) := by decide +kernel
theorem dL_law_442 : decode cL_law 442 = .ok (.aload_n 1, 1) := by decide +kernel
theorem dL_law_443 : decode cL_law 443 = .ok (.aload_n 0, 1) := by decide +kernel
theorem dL_law_444 : decode cL_law 444 = .ok (.iload_n 3, 1) := by decide +kernel
theorem dL_law_445 : decode cL_law 445 = .ok (.iconst 1, 1) := by decide +kernel
theorem dL_law_446 : decode cL_law 446 = .ok (.iadd, 1) := by decide +kernel
theorem dL_law_447 : decode cL_law 447 = .ok (.iaload, 1) := by decide +kernel
theorem dL_law_448 : decode cL_law 448 = .ok (.invokevirtual 51, 3) := by decide +kernel
theorem dL_law_451 : decode cL_law 451 = .ok (.aload_n 2, 1) := by decide +kernel
theorem dL_law_452 : decode cL_law 452 = .ok (.aload_n 0, 1) := by decide +kernel
theorem dL_law_453 : decode cL_law 453 = .ok (.iload_n 3, 1) := by decide +kernel
theorem dL_law_454 : decode cL_law 454 = .ok (.iconst 1, 1) := by decide +kernel
theorem dL_law_455 : decode cL_law 455 = .ok (.iadd, 1) := by decide +kernel
theorem dL_law_456 : decode cL_law 456 = .ok (.iaload, 1) := by decide +kernel
theorem dL_law_457 : decode cL_law 457 = .ok (.invokevirtual 54, 3) := by decide +kernel
theorem dL_law_460 : decode cL_law 460 = .ok (.if_icmp .eq 189, 3) := by decide +kernel
theorem dL_law_463 : decode cL_law 463 = .ok (.iconst 0, 1) := by decide +kernel
theorem dL_law_464 : decode cL_law 464 = .ok (.ireturn, 1) := by decide +kernel
theorem dL_law_465 : decode cL_law 465 = .ok (.aload_n 1, 1) := by decide +kernel
theorem dL_law_466 : decode cL_law 466 = .ok (.invokevirtual 55, 3) := by decide +kernel
theorem dL_law_469 : decode cL_law 469 = .ok (.aload_n 2, 1) := by decide +kernel
theorem dL_law_470 : decode cL_law 470 = .ok (.invokevirtual 58, 3) := by decide +kernel
theorem dL_law_473 : decode cL_law 473 = .ok (.if_icmp .eq 176, 3) := by decide +kernel
theorem dL_law_476 : decode cL_law 476 = .ok (.iconst 0, 1) := by decide +kernel
theorem dL_law_477 : decode cL_law 477 = .ok (.ireturn, 1) := by decide +kernel
theorem dL_law_478 : decode cL_law 478 = .ok (.aload_n 1, 1) := by decide +kernel
theorem dL_law_479 : decode cL_law 479 = .ok (.invokevirtual 59, 3) := by decide +kernel
theorem dL_law_482 : decode cL_law 482 = .ok (.aload_n 2, 1) := by decide +kernel
theorem dL_law_483 : decode cL_law 483 = .ok (.invokevirtual 62, 3) := by decide +kernel
theorem dL_law_486 : decode cL_law 486 = .ok (.if_icmp .eq 163, 3) := by decide +kernel
theorem dL_law_489 : decode cL_law 489 = .ok (.iconst 0, 1) := by decide +kernel
theorem dL_law_490 : decode cL_law 490 = .ok (.ireturn, 1) := by decide +kernel
theorem dL_law_491 : decode cL_law 491 = .ok (.aload_n 1, 1) := by decide +kernel
theorem dL_law_492 : decode cL_law 492 = .ok (.invokevirtual 63, 3) := by decide +kernel
theorem dL_law_495 : decode cL_law 495 = .ok (.aload_n 2, 1) := by decide +kernel
theorem dL_law_496 : decode cL_law 496 = .ok (.invokevirtual 66, 3) := by decide +kernel
theorem dL_law_499 : decode cL_law 499 = .ok (.if_icmp .eq 150, 3) := by decide +kernel
theorem dL_law_502 : decode cL_law 502 = .ok (.iconst 0, 1) := by decide +kernel
theorem dL_law_503 : decode cL_law 503 = .ok (.ireturn, 1) := by decide +kernel
theorem dL_law_504 : decode cL_law 504 = .ok (.aload_n 1, 1) := by decide +kernel
theorem dL_law_505 : decode cL_law 505 = .ok (.aload_n 0, 1) := by decide +kernel
theorem dL_law_506 : decode cL_law 506 = .ok (.iload_n 3, 1) := by decide +kernel
theorem dL_law_507 : decode cL_law 507 = .ok (.iconst 1, 1) := by decide +kernel
theorem dL_law_508 : decode cL_law 508 = .ok (.iadd, 1) := by decide +kernel
theorem dL_law_509 : decode cL_law 509 = .ok (.iaload, 1) := by decide +kernel
theorem dL_law_510 : decode cL_law 510 = .ok (.aload_n 0, 1) := by decide +kernel
theorem dL_law_511 : decode cL_law 511 = .ok (.iload_n 3, 1) := by decide +kernel
theorem dL_law_512 : decode cL_law 512 = .ok (.iconst 2, 1) := by decide +kernel
theorem dL_law_513 : decode cL_law 513 = .ok (.iadd, 1) := by decide +kernel
theorem dL_law_514 : decode cL_law 514 = .ok (.iaload, 1) := by decide +kernel
theorem dL_law_515 : decode cL_law 515 = .ok (.invokevirtual 67, 3) := by decide +kernel
theorem dL_law_518 : decode cL_law 518 = .ok (.aload_n 2, 1) := by decide +kernel
theorem dL_law_519 : decode cL_law 519 = .ok (.aload_n 0, 1) := by decide +kernel
theorem dL_law_520 : decode cL_law 520 = .ok (.iload_n 3, 1) := by decide +kernel
theorem dL_law_521 : decode cL_law 521 = .ok (.iconst 1, 1) := by decide +kernel
theorem dL_law_522 : decode cL_law 522 = .ok (.iadd, 1) := by decide +kernel
theorem dL_law_523 : decode cL_law 523 = .ok (.iaload, 1) := by decide +kernel
theorem dL_law_524 : decode cL_law 524 = .ok (.aload_n 0, 1) := by decide +kernel
theorem dL_law_525 : decode cL_law 525 = .ok (.iload_n 3, 1) := by decide +kernel
theorem dL_law_526 : decode cL_law 526 = .ok (.iconst 2, 1) := by decide +kernel
theorem dL_law_527 : decode cL_law 527 = .ok (.iadd, 1) := by decide +kernel
theorem dL_law_528 : decode cL_law 528 = .ok (.iaload, 1) := by decide +kernel
theorem dL_law_529 : decode cL_law 529 = .ok (.invokevirtual 70, 3) := by decide +kernel
theorem dL_law_532 : decode cL_law 532 = .ok (.if_icmp .eq 117, 3) := by decide +kernel
theorem dL_law_535 : decode cL_law 535 = .ok (.iconst 0, 1) := by decide +kernel
theorem dL_law_536 : decode cL_law 536 = .ok (.ireturn, 1) := by decide +kernel
theorem dL_law_537 : decode cL_law 537 = .ok (.aload_n 1, 1) := by decide +kernel
theorem dL_law_538 : decode cL_law 538 = .ok (.aload_n 0, 1) := by decide +kernel
theorem dL_law_539 : decode cL_law 539 = .ok (.iload_n 3, 1) := by decide +kernel
theorem dL_law_540 : decode cL_law 540 = .ok (.iconst 1, 1) := by decide +kernel
theorem dL_law_541 : decode cL_law 541 = .ok (.iadd, 1) := by decide +kernel
theorem dL_law_542 : decode cL_law 542 = .ok (.iaload, 1) := by decide +kernel
theorem dL_law_543 : decode cL_law 543 = .ok (.aload_n 0, 1) := by decide +kernel
theorem dL_law_544 : decode cL_law 544 = .ok (.iload_n 3, 1) := by decide +kernel
theorem dL_law_545 : decode cL_law 545 = .ok (.iconst 2, 1) := by decide +kernel
theorem dL_law_546 : decode cL_law 546 = .ok (.iadd, 1) := by decide +kernel
theorem dL_law_547 : decode cL_law 547 = .ok (.iaload, 1) := by decide +kernel
theorem dL_law_548 : decode cL_law 548 = .ok (.invokevirtual 71, 3) := by decide +kernel
theorem dL_law_551 : decode cL_law 551 = .ok (.aload_n 2, 1) := by decide +kernel
theorem dL_law_552 : decode cL_law 552 = .ok (.aload_n 0, 1) := by decide +kernel
theorem dL_law_553 : decode cL_law 553 = .ok (.iload_n 3, 1) := by decide +kernel
theorem dL_law_554 : decode cL_law 554 = .ok (.iconst 1, 1) := by decide +kernel
theorem dL_law_555 : decode cL_law 555 = .ok (.iadd, 1) := by decide +kernel
theorem dL_law_556 : decode cL_law 556 = .ok (.iaload, 1) := by decide +kernel
theorem dL_law_557 : decode cL_law 557 = .ok (.aload_n 0, 1) := by decide +kernel
theorem dL_law_558 : decode cL_law 558 = .ok (.iload_n 3, 1) := by decide +kernel
theorem dL_law_559 : decode cL_law 559 = .ok (.iconst 2, 1) := by decide +kernel
theorem dL_law_560 : decode cL_law 560 = .ok (.iadd, 1) := by decide +kernel
theorem dL_law_561 : decode cL_law 561 = .ok (.iaload, 1) := by decide +kernel
theorem dL_law_562 : decode cL_law 562 = .ok (.invokevirtual 74, 3) := by decide +kernel
theorem dL_law_565 : decode cL_law 565 = .ok (.if_icmp .eq 84, 3) := by decide +kernel
theorem dL_law_568 : decode cL_law 568 = .ok (.iconst 0, 1) := by decide +kernel
theorem dL_law_569 : decode cL_law 569 = .ok (.ireturn, 1) := by decide +kernel
theorem dL_law_570 : decode cL_law 570 = .ok (.aload_n 1, 1) := by decide +kernel
theorem dL_law_571 : decode cL_law 571 = .ok (.aload_n 0, 1) := by decide +kernel
theorem dL_law_572 : decode cL_law 572 = .ok (.iload_n 3, 1) := by decide +kernel
theorem dL_law_573 : decode cL_law 573 = .ok (.iconst 1, 1) := by decide +kernel
theorem dL_law_574 : decode cL_law 574 = .ok (.iadd, 1) := by decide +kernel
theorem dL_law_575 : decode cL_law 575 = .ok (.iaload, 1) := by decide +kernel
theorem dL_law_576 : decode cL_law 576 = .ok (.aload_n 0, 1) := by decide +kernel
theorem dL_law_577 : decode cL_law 577 = .ok (.iload_n 3, 1) := by decide +kernel
theorem dL_law_578 : decode cL_law 578 = .ok (.iconst 2, 1) := by decide +kernel
theorem dL_law_579 : decode cL_law 579 = .ok (.iadd, 1) := by decide +kernel
theorem dL_law_580 : decode cL_law 580 = .ok (.iaload, 1) := by decide +kernel
theorem dL_law_581 : decode cL_law 581 = .ok (.invokevirtual 75, 3) := by decide +kernel
theorem dL_law_584 : decode cL_law 584 = .ok (.aload_n 2, 1) := by decide +kernel
theorem dL_law_585 : decode cL_law 585 = .ok (.aload_n 0, 1) := by decide +kernel
theorem dL_law_586 : decode cL_law 586 = .ok (.iload_n 3, 1) := by decide +kernel
theorem dL_law_587 : decode cL_law 587 = .ok (.iconst 1, 1) := by decide +kernel
theorem dL_law_588 : decode cL_law 588 = .ok (.iadd, 1) := by decide +kernel
theorem dL_law_589 : decode cL_law 589 = .ok (.iaload, 1) := by decide +kernel
theorem dL_law_590 : decode cL_law 590 = .ok (.aload_n 0, 1) := by decide +kernel
theorem dL_law_591 : decode cL_law 591 = .ok (.iload_n 3, 1) := by decide +kernel
theorem dL_law_592 : decode cL_law 592 = .ok (.iconst 2, 1) := by decide +kernel
theorem dL_law_593 : decode cL_law 593 = .ok (.iadd, 1) := by decide +kernel
theorem dL_law_594 : decode cL_law 594 = .ok (.iaload, 1) := by decide +kernel
theorem dL_law_595 : decode cL_law 595 = .ok (.invokevirtual 78, 3) := by decide +kernel
theorem dL_law_598 : decode cL_law 598 = .ok (.if_icmp .eq 51, 3) := by decide +kernel
theorem dL_law_601 : decode cL_law 601 = .ok (.iconst 0, 1) := by decide +kernel
theorem dL_law_602 : decode cL_law 602 = .ok (.ireturn, 1) := by decide +kernel
theorem dL_law_603 : decode cL_law 603 = .ok (.aload_n 1, 1) := by decide +kernel
theorem dL_law_604 : decode cL_law 604 = .ok (.aload_n 0, 1) := by decide +kernel
theorem dL_law_605 : decode cL_law 605 = .ok (.iload_n 3, 1) := by decide +kernel
theorem dL_law_606 : decode cL_law 606 = .ok (.iconst 1, 1) := by decide +kernel
theorem dL_law_607 : decode cL_law 607 = .ok (.iadd, 1) := by decide +kernel
theorem dL_law_608 : decode cL_law 608 = .ok (.iaload, 1) := by decide +kernel
theorem dL_law_609 : decode cL_law 609 = .ok (.invokevirtual 79, 3) := by decide +kernel
theorem dL_law_612 : decode cL_law 612 = .ok (.aload_n 2, 1) := by decide +kernel
theorem dL_law_613 : decode cL_law 613 = .ok (.aload_n 0, 1) := by decide +kernel
theorem dL_law_614 : decode cL_law 614 = .ok (.iload_n 3, 1) := by decide +kernel
theorem dL_law_615 : decode cL_law 615 = .ok (.iconst 1, 1) := by decide +kernel
theorem dL_law_616 : decode cL_law 616 = .ok (.iadd, 1) := by decide +kernel
theorem dL_law_617 : decode cL_law 617 = .ok (.iaload, 1) := by decide +kernel
theorem dL_law_618 : decode cL_law 618 = .ok (.invokevirtual 82, 3) := by decide +kernel
theorem dL_law_621 : decode cL_law 621 = .ok (.if_icmp .eq 28, 3) := by decide +kernel
theorem dL_law_624 : decode cL_law 624 = .ok (.iconst 0, 1) := by decide +kernel
theorem dL_law_625 : decode cL_law 625 = .ok (.ireturn, 1) := by decide +kernel
theorem dL_law_626 : decode cL_law 626 = .ok (.aload_n 1, 1) := by decide +kernel
theorem dL_law_627 : decode cL_law 627 = .ok (.aload_n 0, 1) := by decide +kernel
theorem dL_law_628 : decode cL_law 628 = .ok (.iload_n 3, 1) := by decide +kernel
theorem dL_law_629 : decode cL_law 629 = .ok (.iconst 1, 1) := by decide +kernel
theorem dL_law_630 : decode cL_law 630 = .ok (.iadd, 1) := by decide +kernel
theorem dL_law_631 : decode cL_law 631 = .ok (.iaload, 1) := by decide +kernel
theorem dL_law_632 : decode cL_law 632 = .ok (.invokevirtual 83, 3) := by decide +kernel
theorem dL_law_635 : decode cL_law 635 = .ok (.aload_n 2, 1) := by decide +kernel
theorem dL_law_636 : decode cL_law 636 = .ok (.aload_n 0, 1) := by decide +kernel
theorem dL_law_637 : decode cL_law 637 = .ok (.iload_n 3, 1) := by decide +kernel
theorem dL_law_638 : decode cL_law 638 = .ok (.iconst 1, 1) := by decide +kernel
theorem dL_law_639 : decode cL_law 639 = .ok (.iadd, 1) := by decide +kernel
theorem dL_law_640 : decode cL_law 640 = .ok (.iaload, 1) := by decide +kernel
theorem dL_law_641 : decode cL_law 641 = .ok (.invokevirtual 86, 3) := by decide +kernel
theorem dL_law_644 : decode cL_law 644 = .ok (.if_icmp .eq 5, 3) := by decide +kernel
theorem dL_law_647 : decode cL_law 647 = .ok (.iconst 0, 1) := by decide +kernel
theorem dL_law_648 : decode cL_law 648 = .ok (.ireturn, 1) := by decide +kernel
theorem dL_law_649 : decode cL_law 649 = .ok (.iinc 3 7, 3) := by decide +kernel
theorem dL_law_652 : decode cL_law 652 = .ok (.goto (-634), 3) := by decide +kernel
theorem dL_law_655 : decode cL_law 655 = .ok (.iconst 1, 1) := by decide +kernel
theorem dL_law_656 : decode cL_law 656 = .ok (.ireturn, 1) := by decide +kernel
