theorem dX7_come_0 : decode cX7_come 0 = .ok (.aload_n 0, 1) := by decide +kernel
theorem dX7_come_1 : decode cX7_come 1 = .ok (.getfield 7, 3) := by decide +kernel
theorem dX7_come_4 : decode cX7_come 4 = .ok (.iload_n 1, 1) := by decide +kernel
theorem dX7_come_5 : decode cX7_come 5 = .ok (.iaload, 1) := by decide +kernel
theorem dX7_come_6 : decode cX7_come 6 = .ok (.istore_n 2, 1) := by decide +kernel
theorem dX7_come_7 : decode cX7_come 7 = .ok (.iconst 0, 1) := by decide +kernel
theorem dX7_come_8 : decode cX7_come 8 = .ok (.istore_n 3, 1) := by decide +kernel
theorem dX7_come_9 : decode cX7_come 9 = .ok (.iload_n 3, 1) := by decide +kernel
theorem dX7_come_10 : decode cX7_come 10 = .ok (.bipush 60, 2) := by decide +kernel
theorem dX7_come_12 : decode cX7_come 12 = .ok (.if_icmp .gt 24, 3) := by decide +kernel
theorem dX7_come_15 : decode cX7_come 15 = .ok (.aload_n 0, 1) := by decide +kernel
theorem dX7_come_16 : decode cX7_come 16 = .ok (.getfield 86, 3) := by decide +kernel
theorem dX7_come_19 : decode cX7_come 19 = .ok (.iload_n 3, 1) := by decide +kernel
theorem dX7_come_20 : decode cX7_come 20 = .ok (.iload_n 3, 1) := by decide +kernel
theorem dX7_come_21 : decode cX7_come 21 = .ok (.ifCond .ne 7, 3) := by decide +kernel
theorem dX7_come_24 : decode cX7_come 24 = .ok (.iconst 1, 1) := by decide +kernel
theorem dX7_come_25 : decode cX7_come 25 = .ok (.goto 4, 3) := by decide +kernel
theorem dX7_come_28 : decode cX7_come 28 = .ok (.iconst 0, 1) := by decide +kernel
theorem dX7_come_29 : decode cX7_come 29 = .ok (.bastore, 1) := by decide +kernel
theorem dX7_come_30 : decode cX7_come 30 = .ok (.iinc 3 1, 3) := by decide +kernel
theorem dX7_come_33 : decode cX7_come 33 = .ok (.goto (-24), 3) := by decide +kernel
theorem dX7_come_36 : decode cX7_come 36 = .ok (.iconst 1, 1) := by decide +kernel
theorem dX7_come_37 : decode cX7_come 37 = .ok (.istore_n 3, 1) := by decide +kernel
theorem dX7_come_38 : decode cX7_come 38 = .ok (.iload_n 3, 1) := by decide +kernel
theorem dX7_come_39 : decode cX7_come 39 = .ok (.ifCond .eq 194, 3) := by decide +kernel
theorem dX7_come_42 : decode cX7_come 42 = .ok (.iconst 0, 1) := by decide +kernel
theorem dX7_come_43 : decode cX7_come 43 = .ok (.istore_n 3, 1) := by decide +kernel
theorem dX7_come_44 : decode cX7_come 44 = .ok (.iconst 0, 1) := by decide +kernel
theorem dX7_come_45 : decode cX7_come 45 = .ok (.istore 4, 2) := by decide +kernel
theorem dX7_come_47 : decode cX7_come 47 = .ok (.iload 4, 2) := by decide +kernel
theorem dX7_come_49 : decode cX7_come 49 = .ok (.iload_n 2, 1) := by decide +kernel
theorem dX7_come_50 : decode cX7_come 50 = .ok (.if_icmp .ge 180, 3) := by decide +kernel
theorem dX7_come_53 : decode cX7_come 53 = .ok (.bipush 60, 2) := by decide +kernel
theorem dX7_come_55 : decode cX7_come 55 = .ok (.iload_n 1, 1) := by decide +kernel
theorem dX7_come_56 : decode cX7_come 56 = .ok (.imul, 1) := by decide +kernel
theorem dX7_come_57 : decode cX7_come 57 = .ok (.iload 4, 2) := by decide +kernel
theorem dX7_come_59 : decode cX7_come 59 = .ok (.iadd, 1) := by decide +kernel
theorem dX7_come_60 : decode cX7_come 60 = .ok (.istore 5, 2) := by decide +kernel
theorem dX7_come_62 : decode cX7_come 62 = .ok (.aload_n 0, 1) := by decide +kernel
theorem dX7_come_63 : decode cX7_come 63 = .ok (.getfield 86, 3) := by decide +kernel
theorem dX7_come_66 : decode cX7_come 66 = .ok (.iload 4, 2) := by decide +kernel
theorem dX7_come_68 : decode cX7_come 68 = .ok (.baload, 1) := by decide +kernel
theorem dX7_come_69 : decode cX7_come 69 = .ok (.ifCond .eq 155, 3) := by decide +kernel
theorem dX7_come_72 : decode cX7_come 72 = .ok (.aload_n 0, 1) := by decide +kernel
theorem dX7_come_73 : decode cX7_come 73 = .ok (.getfield 13, 3) := by decide +kernel
theorem dX7_come_76 : decode cX7_come 76 = .ok (.iload 5, 2) := by decide +kernel
theorem dX7_come_78 : decode cX7_come 78 = .ok (.iaload, 1) := by decide +kernel
theorem dX7_come_79 : decode cX7_come 79 = .ok (.iconst 2, 1) := by decide +kernel
theorem dX7_come_80 : decode cX7_come 80 = .ok (.if_icmp .eq 18, 3) := by decide +kernel
theorem dX7_come_83 : decode cX7_come 83 = .ok (.aload_n 0, 1) := by decide +kernel
theorem dX7_come_84 : decode cX7_come 84 = .ok (.getfield 13, 3) := by decide +kernel
theorem dX7_come_87 : decode cX7_come 87 = .ok (.iload 5, 2) := by decide +kernel
theorem dX7_come_89 : decode cX7_come 89 = .ok (.iaload, 1) := by decide +kernel
theorem dX7_come_90 : decode cX7_come 90 = .ok (.iconst 4, 1) := by decide +kernel
theorem dX7_come_91 : decode cX7_come 91 = .ok (.if_icmp .eq 7, 3) := by decide +kernel
theorem dX7_come_94 : decode cX7_come 94 = .ok (.iconst 1, 1) := by decide +kernel
theorem dX7_come_95 : decode cX7_come 95 = .ok (.goto 4, 3) := by decide +kernel
theorem dX7_come_98 : decode cX7_come 98 = .ok (.iconst 0, 1) := by decide +kernel
theorem dX7_come_99 : decode cX7_come 99 = .ok (.istore 6, 2) := by decide +kernel
theorem dX7_come_101 : decode cX7_come 101 = .ok (.iload_n 3, 1) := by decide +kernel
theorem dX7_come_102 : decode cX7_come 102 = .ok (.ifCond .ne 44, 3) := by decide +kernel
theorem dX7_come_105 : decode cX7_come 105 = .ok (.iload 6, 2) := by decide +kernel
theorem dX7_come_107 : decode cX7_come 107 = .ok (.ifCond .eq 15, 3) := by decide +kernel
theorem dX7_come_110 : decode cX7_come 110 = .ok (.aload_n 0, 1) := by decide +kernel
theorem dX7_come_111 : decode cX7_come 111 = .ok (.getfield 86, 3) := by decide +kernel
theorem dX7_come_114 : decode cX7_come 114 = .ok (.iload 4, 2) := by decide +kernel
theorem dX7_come_116 : decode cX7_come 116 = .ok (.iconst 1, 1) := by decide +kernel
theorem dX7_come_117 : decode cX7_come 117 = .ok (.iadd, 1) := by decide +kernel
theorem dX7_come_118 : decode cX7_come 118 = .ok (.baload, 1) := by decide +kernel
theorem dX7_come_119 : decode cX7_come 119 = .ok (.ifCond .eq 27, 3) := by decide +kernel
theorem dX7_come_122 : decode cX7_come 122 = .ok (.aload_n 0, 1) := by decide +kernel
theorem dX7_come_123 : decode cX7_come 123 = .ok (.iload 5, 2) := by decide +kernel
theorem dX7_come_125 : decode cX7_come 125 = .ok (.invokevirtual 154, 3) := by decide +kernel
theorem dX7_come_128 : decode cX7_come 128 = .ok (.ifCond .eq 22, 3) := by decide +kernel
theorem dX7_come_131 : decode cX7_come 131 = .ok (.aload_n 0, 1) := by decide +kernel
theorem dX7_come_132 : decode cX7_come 132 = .ok (.getfield 86, 3) := by decide +kernel
theorem dX7_come_135 : decode cX7_come 135 = .ok (.aload_n 0, 1) := by decide +kernel
theorem dX7_come_136 : decode cX7_come 136 = .ok (.getfield 22, 3) := by decide +kernel
theorem dX7_come_139 : decode cX7_come 139 = .ok (.iload 5, 2) := by decide +kernel
theorem dX7_come_141 : decode cX7_come 141 = .ok (.iaload, 1) := by decide +kernel
theorem dX7_come_142 : decode cX7_come 142 = .ok (.baload, 1) := by decide +kernel
theorem dX7_come_143 : decode cX7_come 143 = .ok (.ifCond .ne 7, 3) := by decide +kernel
theorem dX7_come_146 : decode cX7_come 146 = .ok (.iconst 1, 1) := by decide +kernel
theorem dX7_come_147 : decode cX7_come 147 = .ok (.goto 4, 3) := by decide +kernel
theorem dX7_come_150 : decode cX7_come 150 = .ok (.iconst 0, 1) := by decide +kernel
theorem dX7_come_151 : decode cX7_come 151 = .ok (.istore_n 3, 1) := by decide +kernel
theorem dX7_come_152 : decode cX7_come 152 = .ok (.aload_n 0, 1) := by decide +kernel
theorem dX7_come_153 : decode cX7_come 153 = .ok (.getfield 86, 3) := by decide +kernel
theorem dX7_come_156 : decode cX7_come 156 = .ok (.iload 4, 2) := by decide +kernel
theorem dX7_come_158 : decode cX7_come 158 = .ok (.iconst 1, 1) := by decide +kernel
theorem dX7_come_159 : decode cX7_come 159 = .ok (.iadd, 1) := by decide +kernel
theorem dX7_come_160 : decode cX7_come 160 = .ok (.aload_n 0, 1) := by decide +kernel
theorem dX7_come_161 : decode cX7_come 161 = .ok (.getfield 86, 3) := by decide +kernel
theorem dX7_come_164 : decode cX7_come 164 = .ok (.iload 4, 2) := by decide +kernel
theorem dX7_come_166 : decode cX7_come 166 = .ok (.iconst 1, 1) := by decide +kernel
theorem dX7_come_167 : decode cX7_come 167 = .ok (.iadd, 1) := by decide +kernel
theorem dX7_come_168 : decode cX7_come 168 = .ok (.baload, 1) := by decide +kernel
theorem dX7_come_169 : decode cX7_come 169 = .ok (.ifCond .ne 8, 3) := by decide +kernel
theorem dX7_come_172 : decode cX7_come 172 = .ok (.iload 6, 2) := by decide +kernel
theorem dX7_come_174 : decode cX7_come 174 = .ok (.ifCond .eq 7, 3) := by decide +kernel
theorem dX7_come_177 : decode cX7_come 177 = .ok (.iconst 1, 1) := by decide +kernel
theorem dX7_come_178 : decode cX7_come 178 = .ok (.goto 4, 3) := by decide +kernel
theorem dX7_come_181 : decode cX7_come 181 = .ok (.iconst 0, 1) := by decide +kernel
theorem dX7_come_182 : decode cX7_come 182 = .ok (.bastore, 1) := by decide +kernel
theorem dX7_come_183 : decode cX7_come 183 = .ok (.aload_n 0, 1) := by decide +kernel
theorem dX7_come_184 : decode cX7_come 184 = .ok (.getfield 86, 3) := by decide +kernel
theorem dX7_come_187 : decode cX7_come 187 = .ok (.aload_n 0, 1) := by decide +kernel
theorem dX7_come_188 : decode cX7_come 188 = .ok (.getfield 22, 3) := by decide +kernel
theorem dX7_come_191 : decode cX7_come 191 = .ok (.iload 5, 2) := by decide +kernel
theorem dX7_come_193 : decode cX7_come 193 = .ok (.iaload, 1) := by decide +kernel
theorem dX7_come_194 : decode cX7_come 194 = .ok (.aload_n 0, 1) := by decide +kernel
theorem dX7_come_195 : decode cX7_come 195 = .ok (.getfield 86, 3) := by decide +kernel
theorem dX7_come_198 : decode cX7_come 198 = .ok (.aload_n 0, 1) := by decide +kernel
theorem dX7_come_199 : decode cX7_come 199 = .ok (.getfield 22, 3) := by decide +kernel
theorem dX7_come_202 : decode cX7_come 202 = .ok (.iload 5, 2) := by decide +kernel
theorem dX7_come_204 : decode cX7_come 204 = .ok (.iaload, 1) := by decide +kernel
theorem dX7_come_205 : decode cX7_come 205 = .ok (.baload, 1) := by decide +kernel
theorem dX7_come_206 : decode cX7_come 206 = .ok (.ifCond .ne 12, 3) := by decide +kernel
theorem dX7_come_209 : decode cX7_come 209 = .ok (.aload_n 0, 1) := by decide +kernel
theorem dX7_come_210 : decode cX7_come 210 = .ok (.iload 5, 2) := by decide +kernel
theorem dX7_come_212 : decode cX7_come 212 = .ok (.invokevirtual 154, 3) := by decide +kernel
theorem dX7_come_215 : decode cX7_come 215 = .ok (.ifCond .eq 7, 3) := by decide +kernel
theorem dX7_come_218 : decode cX7_come 218 = .ok (.iconst 1, 1) := by decide +kernel
theorem dX7_come_219 : decode cX7_come 219 = .ok (.goto 4, 3) := by decide +kernel
theorem dX7_come_222 : decode cX7_come 222 = .ok (.iconst 0, 1) := by decide +kernel
theorem dX7_come_223 : decode cX7_come 223 = .ok (.bastore, 1) := by decide +kernel
theorem dX7_come_224 : decode cX7_come 224 = .ok (.iinc 4 1, 3) := by decide +kernel
theorem dX7_come_227 : decode cX7_come 227 = .ok (.goto (-180), 3) := by decide +kernel
theorem dX7_come_230 : decode cX7_come 230 = .ok (.goto (-192), 3) := by decide +kernel
theorem dX7_come_233 : decode cX7_come 233 = .ok (.return_, 1) := by decide +kernel
theorem dX7_told_0 : decode cX7_told 0 = .ok (.aload_n 0, 1) := by decide +kernel
theorem dX7_told_1 : decode cX7_told 1 = .ok (.iload_n 1, 1) := by decide +kernel
theorem dX7_told_2 : decode cX7_told 2 = .ok (.invokevirtual 142, 3) := by decide +kernel
theorem dX7_told_5 : decode cX7_told 5 = .ok (.ifCond .eq 28, 3) := by decide +kernel
theorem dX7_told_8 : decode cX7_told 8 = .ok (.iload_n 2, 1) := by decide +kernel
theorem dX7_told_9 : decode cX7_told 9 = .ok (.iconst 0, 1) := by decide +kernel
theorem dX7_told_10 : decode cX7_told 10 = .ok (.aload_n 0, 1) := by decide +kernel
theorem dX7_told_11 : decode cX7_told 11 = .ok (.getfield 7, 3) := by decide +kernel
theorem dX7_told_14 : decode cX7_told 14 = .ok (.iload_n 1, 1) := by decide +kernel
theorem dX7_told_15 : decode cX7_told 15 = .ok (.iaload, 1) := by decide +kernel
theorem dX7_told_16 : decode cX7_told 16 = .ok (.iconst 1, 1) := by decide +kernel
theorem dX7_told_17 : decode cX7_told 17 = .ok (.isub, 1) := by decide +kernel
theorem dX7_told_18 : decode cX7_told 18 = .ok (.invokestatic 138, 3) := by decide +kernel
theorem dX7_told_21 : decode cX7_told 21 = .ok (.ifCond .eq 12, 3) := by decide +kernel
theorem dX7_told_24 : decode cX7_told 24 = .ok (.iload_n 3, 1) := by decide +kernel
theorem dX7_told_25 : decode cX7_told 25 = .ok (.iconst 0, 1) := by decide +kernel
theorem dX7_told_26 : decode cX7_told 26 = .ok (.iconst 5, 1) := by decide +kernel
theorem dX7_told_27 : decode cX7_told 27 = .ok (.invokestatic 138, 3) := by decide +kernel
theorem dX7_told_30 : decode cX7_told 30 = .ok (.ifCond .ne 6, 3) := by decide +kernel
theorem dX7_told_33 : decode cX7_told 33 = .ok (.bipush (-2), 2) := by decide +kernel
theorem dX7_told_35 : decode cX7_told 35 = .ok (.ireturn, 1) := by decide +kernel
theorem dX7_told_36 : decode cX7_told 36 = .ok (.bipush 60, 2) := by decide +kernel
theorem dX7_told_38 : decode cX7_told 38 = .ok (.iload_n 1, 1) := by decide +kernel
theorem dX7_told_39 : decode cX7_told 39 = .ok (.imul, 1) := by decide +kernel
theorem dX7_told_40 : decode cX7_told 40 = .ok (.iload_n 2, 1) := by decide +kernel
theorem dX7_told_41 : decode cX7_told 41 = .ok (.iadd, 1) := by decide +kernel
theorem dX7_told_42 : decode cX7_told 42 = .ok (.istore 4, 2) := by decide +kernel
theorem dX7_told_44 : decode cX7_told 44 = .ok (.iload_n 3, 1) := by decide +kernel
theorem dX7_told_45 : decode cX7_told 45 = .ok (.iconst 4, 1) := by decide +kernel
theorem dX7_told_46 : decode cX7_told 46 = .ok (.if_icmp .ge 55, 3) := by decide +kernel
theorem dX7_told_49 : decode cX7_told 49 = .ok (.iload_n 3, 1) := by decide +kernel
theorem dX7_told_50 : decode cX7_told 50 = .ok (.ifCond .ne 13, 3) := by decide +kernel
theorem dX7_told_53 : decode cX7_told 53 = .ok (.aload_n 0, 1) := by decide +kernel
theorem dX7_told_54 : decode cX7_told 54 = .ok (.getfield 13, 3) := by decide +kernel
theorem dX7_told_57 : decode cX7_told 57 = .ok (.iload 4, 2) := by decide +kernel
theorem dX7_told_59 : decode cX7_told 59 = .ok (.iaload, 1) := by decide +kernel
theorem dX7_told_60 : decode cX7_told 60 = .ok (.goto 40, 3) := by decide +kernel
theorem dX7_told_63 : decode cX7_told 63 = .ok (.iload_n 3, 1) := by decide +kernel
theorem dX7_told_64 : decode cX7_told 64 = .ok (.iconst 1, 1) := by decide +kernel
theorem dX7_told_65 : decode cX7_told 65 = .ok (.if_icmp .ne 13, 3) := by decide +kernel
theorem dX7_told_68 : decode cX7_told 68 = .ok (.aload_n 0, 1) := by decide +kernel
theorem dX7_told_69 : decode cX7_told 69 = .ok (.getfield 16, 3) := by decide +kernel
theorem dX7_told_72 : decode cX7_told 72 = .ok (.iload 4, 2) := by decide +kernel
theorem dX7_told_74 : decode cX7_told 74 = .ok (.iaload, 1) := by decide +kernel
theorem dX7_told_75 : decode cX7_told 75 = .ok (.goto 25, 3) := by decide +kernel
theorem dX7_told_78 : decode cX7_told 78 = .ok (.iload_n 3, 1) := by decide +kernel
theorem dX7_told_79 : decode cX7_told 79 = .ok (.iconst 2, 1) := by decide +kernel
theorem dX7_told_80 : decode cX7_told 80 = .ok (.if_icmp .ne 13, 3) := by decide +kernel
theorem dX7_told_83 : decode cX7_told 83 = .ok (.aload_n 0, 1) := by decide +kernel
theorem dX7_told_84 : decode cX7_told 84 = .ok (.getfield 19, 3) := by decide +kernel
theorem dX7_told_87 : decode cX7_told 87 = .ok (.iload 4, 2) := by decide +kernel
theorem dX7_told_89 : decode cX7_told 89 = .ok (.iaload, 1) := by decide +kernel
theorem dX7_told_90 : decode cX7_told 90 = .ok (.goto 10, 3) := by decide +kernel
theorem dX7_told_93 : decode cX7_told 93 = .ok (.aload_n 0, 1) := by decide +kernel
theorem dX7_told_94 : decode cX7_told 94 = .ok (.getfield 22, 3) := by decide +kernel
theorem dX7_told_97 : decode cX7_told 97 = .ok (.iload 4, 2) := by decide +kernel
theorem dX7_told_99 : decode cX7_told 99 = .ok (.iaload, 1) := by decide +kernel
theorem dX7_told_100 : decode cX7_told 100 = .ok (.ireturn, 1) := by decide +kernel
theorem dX7_told_101 : decode cX7_told 101 = .ok (.aload_n 0, 1) := by decide +kernel
theorem dX7_told_102 : decode cX7_told 102 = .ok (.iload_n 1, 1) := by decide +kernel
theorem dX7_told_103 : decode cX7_told 103 = .ok (.invokevirtual 184, 3) := by decide +kernel
theorem dX7_told_106 : decode cX7_told 106 = .ok (.ifCond .ne 5, 3) := by decide +kernel
theorem dX7_told_109 : decode cX7_told 109 = .ok (.iconst (-1), 1) := by decide +kernel
theorem dX7_told_110 : decode cX7_told 110 = .ok (.ireturn, 1) := by decide +kernel
theorem dX7_told_111 : decode cX7_told 111 = .ok (.iload_n 3, 1) := by decide +kernel
theorem dX7_told_112 : decode cX7_told 112 = .ok (.iconst 5, 1) := by decide +kernel
theorem dX7_told_113 : decode cX7_told 113 = .ok (.if_icmp .ne 23, 3) := by decide +kernel
theorem dX7_told_116 : decode cX7_told 116 = .ok (.aload_n 0, 1) := by decide +kernel
theorem dX7_told_117 : decode cX7_told 117 = .ok (.iload_n 1, 1) := by decide +kernel
theorem dX7_told_118 : decode cX7_told 118 = .ok (.invokevirtual 187, 3) := by decide +kernel
theorem dX7_told_121 : decode cX7_told 121 = .ok (.aload_n 0, 1) := by decide +kernel
theorem dX7_told_122 : decode cX7_told 122 = .ok (.getfield 86, 3) := by decide +kernel
theorem dX7_told_125 : decode cX7_told 125 = .ok (.iload_n 2, 1) := by decide +kernel
theorem dX7_told_126 : decode cX7_told 126 = .ok (.baload, 1) := by decide +kernel
theorem dX7_told_127 : decode cX7_told 127 = .ok (.ifCond .eq 7, 3) := by decide +kernel
theorem dX7_told_130 : decode cX7_told 130 = .ok (.iconst 1, 1) := by decide +kernel
theorem dX7_told_131 : decode cX7_told 131 = .ok (.goto 4, 3) := by decide +kernel
theorem dX7_told_134 : decode cX7_told 134 = .ok (.iconst 0, 1) := by decide +kernel
theorem dX7_told_135 : decode cX7_told 135 = .ok (.ireturn, 1) := by decide +kernel
theorem dX7_told_136 : decode cX7_told 136 = .ok (.aload_n 0, 1) := by decide +kernel
theorem dX7_told_137 : decode cX7_told 137 = .ok (.iload_n 1, 1) := by decide +kernel
theorem dX7_told_138 : decode cX7_told 138 = .ok (.invokevirtual 191, 3) := by decide +kernel
theorem dX7_told_141 : decode cX7_told 141 = .ok (.iconst (-1), 1) := by decide +kernel
theorem dX7_told_142 : decode cX7_told 142 = .ok (.istore 5, 2) := by decide +kernel
theorem dX7_told_144 : decode cX7_told 144 = .ok (.iconst 0, 1) := by decide +kernel
theorem dX7_told_145 : decode cX7_told 145 = .ok (.istore 6, 2) := by decide +kernel
theorem dX7_told_147 : decode cX7_told 147 = .ok (.iload 6, 2) := by decide +kernel
theorem dX7_told_149 : decode cX7_told 149 = .ok (.aload_n 0, 1) := by decide +kernel
theorem dX7_told_150 : decode cX7_told 150 = .ok (.getfield 160, 3) := by decide +kernel
theorem dX7_told_153 : decode cX7_told 153 = .ok (.if_icmp .ge 133, 3) := by decide +kernel
theorem dX7_told_156 : decode cX7_told 156 = .ok (.aload_n 0, 1) := by decide +kernel
theorem dX7_told_157 : decode cX7_told 157 = .ok (.getfield 41, 3) := by decide +kernel
theorem dX7_told_160 : decode cX7_told 160 = .ok (.iload 6, 2) := by decide +kernel
theorem dX7_told_162 : decode cX7_told 162 = .ok (.iaload, 1) := by decide +kernel
theorem dX7_told_163 : decode cX7_told 163 = .ok (.istore 7, 2) := by decide +kernel
theorem dX7_told_165 : decode cX7_told 165 = .ok (.iload 7, 2) := by decide +kernel
theorem dX7_told_167 : decode cX7_told 167 = .ok (.ifCond .eq 27, 3) := by decide +kernel
theorem dX7_told_170 : decode cX7_told 170 = .ok (.iload 7, 2) := by decide +kernel
theorem dX7_told_172 : decode cX7_told 172 = .ok (.iconst 5, 1) := by decide +kernel
theorem dX7_told_173 : decode cX7_told 173 = .ok (.if_icmp .gt 21, 3) := by decide +kernel
theorem dX7_told_176 : decode cX7_told 176 = .ok (.iload 7, 2) := by decide +kernel
theorem dX7_told_178 : decode cX7_told 178 = .ok (.iconst 1, 1) := by decide +kernel
theorem dX7_told_179 : decode cX7_told 179 = .ok (.if_icmp .eq 15, 3) := by decide +kernel
theorem dX7_told_182 : decode cX7_told 182 = .ok (.iload 7, 2) := by decide +kernel
theorem dX7_told_184 : decode cX7_told 184 = .ok (.iconst 2, 1) := by decide +kernel
theorem dX7_told_185 : decode cX7_told 185 = .ok (.if_icmp .eq 9, 3) := by decide +kernel
theorem dX7_told_188 : decode cX7_told 188 = .ok (.iload 7, 2) := by decide +kernel
theorem dX7_told_190 : decode cX7_told 190 = .ok (.iconst 4, 1) := by decide +kernel
theorem dX7_told_191 : decode cX7_told 191 = .ok (.if_icmp .ne 7, 3) := by decide +kernel
theorem dX7_told_194 : decode cX7_told 194 = .ok (.iconst 1, 1) := by decide +kernel
theorem dX7_told_195 : decode cX7_told 195 = .ok (.goto 4, 3) := by decide +kernel
theorem dX7_told_198 : decode cX7_told 198 = .ok (.iconst 0, 1) := by decide +kernel
theorem dX7_told_199 : decode cX7_told 199 = .ok (.istore 8, 2) := by decide +kernel
theorem dX7_told_201 : decode cX7_told 201 = .ok (.iload 8, 2) := by decide +kernel
theorem dX7_told_203 : decode cX7_told 203 = .ok (.ifCond .eq 14, 3) := by decide +kernel
theorem dX7_told_206 : decode cX7_told 206 = .ok (.aload_n 0, 1) := by decide +kernel
theorem dX7_told_207 : decode cX7_told 207 = .ok (.getfield 44, 3) := by decide +kernel
theorem dX7_told_210 : decode cX7_told 210 = .ok (.iload 6, 2) := by decide +kernel
theorem dX7_told_212 : decode cX7_told 212 = .ok (.iaload, 1) := by decide +kernel
theorem dX7_told_213 : decode cX7_told 213 = .ok (.iload_n 2, 1) := by decide +kernel
theorem dX7_told_214 : decode cX7_told 214 = .ok (.if_icmp .eq 45, 3) := by decide +kernel
theorem dX7_told_217 : decode cX7_told 217 = .ok (.iload 7, 2) := by decide +kernel
theorem dX7_told_219 : decode cX7_told 219 = .ok (.iconst 3, 1) := by decide +kernel
theorem dX7_told_220 : decode cX7_told 220 = .ok (.iconst 5, 1) := by decide +kernel
theorem dX7_told_221 : decode cX7_told 221 = .ok (.invokestatic 138, 3) := by decide +kernel
theorem dX7_told_224 : decode cX7_told 224 = .ok (.ifCond .eq 16, 3) := by decide +kernel
theorem dX7_told_227 : decode cX7_told 227 = .ok (.aload_n 0, 1) := by decide +kernel
theorem dX7_told_228 : decode cX7_told 228 = .ok (.getfield 47, 3) := by decide +kernel
theorem dX7_told_231 : decode cX7_told 231 = .ok (.iload 6, 2) := by decide +kernel
theorem dX7_told_233 : decode cX7_told 233 = .ok (.iaload, 1) := by decide +kernel
theorem dX7_told_234 : decode cX7_told 234 = .ok (.iconst 1, 1) := by decide +kernel
theorem dX7_told_235 : decode cX7_told 235 = .ok (.isub, 1) := by decide +kernel
theorem dX7_told_236 : decode cX7_told 236 = .ok (.iload_n 2, 1) := by decide +kernel
theorem dX7_told_237 : decode cX7_told 237 = .ok (.if_icmp .eq 22, 3) := by decide +kernel
theorem dX7_told_240 : decode cX7_told 240 = .ok (.iload 7, 2) := by decide +kernel
theorem dX7_told_242 : decode cX7_told 242 = .ok (.iconst 2, 1) := by decide +kernel
theorem dX7_told_243 : decode cX7_told 243 = .ok (.if_icmp .ne 20, 3) := by decide +kernel
theorem dX7_told_246 : decode cX7_told 246 = .ok (.aload_n 0, 1) := by decide +kernel
theorem dX7_told_247 : decode cX7_told 247 = .ok (.getfield 62, 3) := by decide +kernel
theorem dX7_told_250 : decode cX7_told 250 = .ok (.iload 6, 2) := by decide +kernel
theorem dX7_told_252 : decode cX7_told 252 = .ok (.iaload, 1) := by decide +kernel
theorem dX7_told_253 : decode cX7_told 253 = .ok (.iconst 1, 1) := by decide +kernel
theorem dX7_told_254 : decode cX7_told 254 = .ok (.isub, 1) := by decide +kernel
theorem dX7_told_255 : decode cX7_told 255 = .ok (.iload_n 2, 1) := by decide +kernel
theorem dX7_told_256 : decode cX7_told 256 = .ok (.if_icmp .ne 7, 3) := by decide +kernel
theorem dX7_told_259 : decode cX7_told 259 = .ok (.iconst 1, 1) := by decide +kernel
theorem dX7_told_260 : decode cX7_told 260 = .ok (.goto 4, 3) := by decide +kernel
theorem dX7_told_263 : decode cX7_told 263 = .ok (.iconst 0, 1) := by decide +kernel
theorem dX7_told_264 : decode cX7_told 264 = .ok (.istore 9, 2) := by decide +kernel
theorem dX7_told_266 : decode cX7_told 266 = .ok (.iload 9, 2) := by decide +kernel
theorem dX7_told_268 : decode cX7_told 268 = .ok (.ifCond .eq 8, 3) := by decide +kernel
theorem dX7_told_271 : decode cX7_told 271 = .ok (.iload 6, 2) := by decide +kernel
theorem dX7_told_273 : decode cX7_told 273 = .ok (.goto 5, 3) := by decide +kernel
theorem dX7_told_276 : decode cX7_told 276 = .ok (.iload 5, 2) := by decide +kernel
theorem dX7_told_278 : decode cX7_told 278 = .ok (.istore 5, 2) := by decide +kernel
theorem dX7_told_280 : decode cX7_told 280 = .ok (.iinc 6 1, 3) := by decide +kernel
theorem dX7_told_283 : decode cX7_told 283 = .ok (.goto (-136), 3) := by decide +kernel
theorem dX7_told_286 : decode cX7_told 286 = .ok (.iload 5, 2) := by decide +kernel
theorem dX7_told_288 : decode cX7_told 288 = .ok (.ireturn, 1) := by decide +kernel
theorem dX7_areLike_0 : decode cX7_areLike 0 = .ok (.aload_n 0, 1) := by decide +kernel
theorem dX7_areLike_1 : decode cX7_areLike 1 = .ok (.getfield 7, 3) := by decide +kernel
theorem dX7_areLike_4 : decode cX7_areLike 4 = .ok (.iload_n 1, 1) := by decide +kernel
theorem dX7_areLike_5 : decode cX7_areLike 5 = .ok (.iaload, 1) := by decide +kernel
theorem dX7_areLike_6 : decode cX7_areLike 6 = .ok (.aload_n 0, 1) := by decide +kernel
theorem dX7_areLike_7 : decode cX7_areLike 7 = .ok (.getfield 7, 3) := by decide +kernel
theorem dX7_areLike_10 : decode cX7_areLike 10 = .ok (.iload_n 2, 1) := by decide +kernel
theorem dX7_areLike_11 : decode cX7_areLike 11 = .ok (.iaload, 1) := by decide +kernel
theorem dX7_areLike_12 : decode cX7_areLike 12 = .ok (.if_icmp .ne 7, 3) := by decide +kernel
theorem dX7_areLike_15 : decode cX7_areLike 15 = .ok (.iconst 1, 1) := by decide +kernel
theorem dX7_areLike_16 : decode cX7_areLike 16 = .ok (.goto 4, 3) := by decide +kernel
theorem dX7_areLike_19 : decode cX7_areLike 19 = .ok (.iconst 0, 1) := by decide +kernel
theorem dX7_areLike_20 : decode cX7_areLike 20 = .ok (.istore_n 3, 1) := by decide +kernel
theorem dX7_areLike_21 : decode cX7_areLike 21 = .ok (.iconst 0, 1) := by decide +kernel
theorem dX7_areLike_22 : decode cX7_areLike 22 = .ok (.istore 4, 2) := by decide +kernel
theorem dX7_areLike_24 : decode cX7_areLike 24 = .ok (.iload 4, 2) := by decide +kernel
theorem dX7_areLike_26 : decode cX7_areLike 26 = .ok (.aload_n 0, 1) := by decide +kernel
theorem dX7_areLike_27 : decode cX7_areLike 27 = .ok (.getfield 7, 3) := by decide +kernel
theorem dX7_areLike_30 : decode cX7_areLike 30 = .ok (.iload_n 1, 1) := by decide +kernel
theorem dX7_areLike_31 : decode cX7_areLike 31 = .ok (.iaload, 1) := by decide +kernel
theorem dX7_areLike_32 : decode cX7_areLike 32 = .ok (.if_icmp .ge 105, 3) := by decide +kernel
theorem dX7_areLike_35 : decode cX7_areLike 35 = .ok (.iload_n 3, 1) := by decide +kernel
theorem dX7_areLike_36 : decode cX7_areLike 36 = .ok (.ifCond .eq 101, 3) := by decide +kernel
theorem dX7_areLike_39 : decode cX7_areLike 39 = .ok (.bipush 60, 2) := by decide +kernel
theorem dX7_areLike_41 : decode cX7_areLike 41 = .ok (.iload_n 1, 1) := by decide +kernel
theorem dX7_areLike_42 : decode cX7_areLike 42 = .ok (.imul, 1) := by decide +kernel
theorem dX7_areLike_43 : decode cX7_areLike 43 = .ok (.iload 4, 2) := by decide +kernel
theorem dX7_areLike_45 : decode cX7_areLike 45 = .ok (.iadd, 1) := by decide +kernel
theorem dX7_areLike_46 : decode cX7_areLike 46 = .ok (.istore 5, 2) := by decide +kernel
theorem dX7_areLike_48 : decode cX7_areLike 48 = .ok (.bipush 60, 2) := by decide +kernel
theorem dX7_areLike_50 : decode cX7_areLike 50 = .ok (.iload_n 2, 1) := by decide +kernel
theorem dX7_areLike_51 : decode cX7_areLike 51 = .ok (.imul, 1) := by decide +kernel
theorem dX7_areLike_52 : decode cX7_areLike 52 = .ok (.iload 4, 2) := by decide +kernel
theorem dX7_areLike_54 : decode cX7_areLike 54 = .ok (.iadd, 1) := by decide +kernel
theorem dX7_areLike_55 : decode cX7_areLike 55 = .ok (.istore 6, 2) := by decide +kernel
theorem dX7_areLike_57 : decode cX7_areLike 57 = .ok (.aload_n 0, 1) := by decide +kernel
theorem dX7_areLike_58 : decode cX7_areLike 58 = .ok (.getfield 13, 3) := by decide +kernel
theorem dX7_areLike_61 : decode cX7_areLike 61 = .ok (.iload 5, 2) := by decide +kernel
theorem dX7_areLike_63 : decode cX7_areLike 63 = .ok (.iaload, 1) := by decide +kernel
theorem dX7_areLike_64 : decode cX7_areLike 64 = .ok (.aload_n 0, 1) := by decide +kernel
theorem dX7_areLike_65 : decode cX7_areLike 65 = .ok (.getfield 13, 3) := by decide +kernel
theorem dX7_areLike_68 : decode cX7_areLike 68 = .ok (.iload 6, 2) := by decide +kernel
theorem dX7_areLike_70 : decode cX7_areLike 70 = .ok (.iaload, 1) := by decide +kernel
theorem dX7_areLike_71 : decode cX7_areLike 71 = .ok (.if_icmp .ne 58, 3) := by decide +kernel
theorem dX7_areLike_74 : decode cX7_areLike 74 = .ok (.aload_n 0, 1) := by decide +kernel
theorem dX7_areLike_75 : decode cX7_areLike 75 = .ok (.getfield 16, 3) := by decide +kernel
theorem dX7_areLike_78 : decode cX7_areLike 78 = .ok (.iload 5, 2) := by decide +kernel
theorem dX7_areLike_80 : decode cX7_areLike 80 = .ok (.iaload, 1) := by decide +kernel
theorem dX7_areLike_81 : decode cX7_areLike 81 = .ok (.aload_n 0, 1) := by decide +kernel
theorem dX7_areLike_82 : decode cX7_areLike 82 = .ok (.getfield 16, 3) := by decide +kernel
theorem dX7_areLike_85 : decode cX7_areLike 85 = .ok (.iload 6, 2) := by decide +kernel
theorem dX7_areLike_87 : decode cX7_areLike 87 = .ok (.iaload, 1) := by decide +kernel
theorem dX7_areLike_88 : decode cX7_areLike 88 = .ok (.if_icmp .ne 41, 3) := by decide +kernel
theorem dX7_areLike_91 : decode cX7_areLike 91 = .ok (.aload_n 0, 1) := by decide +kernel
theorem dX7_areLike_92 : decode cX7_areLike 92 = .ok (.getfield 19, 3) := by decide +kernel
theorem dX7_areLike_95 : decode cX7_areLike 95 = .ok (.iload 5, 2) := by decide +kernel
theorem dX7_areLike_97 : decode cX7_areLike 97 = .ok (.iaload, 1) := by decide +kernel
theorem dX7_areLike_98 : decode cX7_areLike 98 = .ok (.aload_n 0, 1) := by decide +kernel
theorem dX7_areLike_99 : decode cX7_areLike 99 = .ok (.getfield 19, 3) := by decide +kernel
theorem dX7_areLike_102 : decode cX7_areLike 102 = .ok (.iload 6, 2) := by decide +kernel
theorem dX7_areLike_104 : decode cX7_areLike 104 = .ok (.iaload, 1) := by decide +kernel
theorem dX7_areLike_105 : decode cX7_areLike 105 = .ok (.if_icmp .ne 24, 3) := by decide +kernel
theorem dX7_areLike_108 : decode cX7_areLike 108 = .ok (.aload_n 0, 1) := by decide +kernel
theorem dX7_areLike_109 : decode cX7_areLike 109 = .ok (.getfield 22, 3) := by decide +kernel
theorem dX7_areLike_112 : decode cX7_areLike 112 = .ok (.iload 5, 2) := by decide +kernel
theorem dX7_areLike_114 : decode cX7_areLike 114 = .ok (.iaload, 1) := by decide +kernel
theorem dX7_areLike_115 : decode cX7_areLike 115 = .ok (.aload_n 0, 1) := by decide +kernel
theorem dX7_areLike_116 : decode cX7_areLike 116 = .ok (.getfield 22, 3) := by decide +kernel
theorem dX7_areLike_119 : decode cX7_areLike 119 = .ok (.iload 6, 2) := by decide +kernel
theorem dX7_areLike_121 : decode cX7_areLike 121 = .ok (.iaload, 1) := by decide +kernel
theorem dX7_areLike_122 : decode cX7_areLike 122 = .ok (.if_icmp .ne 7, 3) := by decide +kernel
theorem dX7_areLike_125 : decode cX7_areLike 125 = .ok (.iconst 1, 1) := by decide +kernel
theorem dX7_areLike_126 : decode cX7_areLike 126 = .ok (.goto 4, 3) := by decide +kernel
theorem dX7_areLike_129 : decode cX7_areLike 129 = .ok (.iconst 0, 1) := by decide +kernel
theorem dX7_areLike_130 : decode cX7_areLike 130 = .ok (.istore_n 3, 1) := by decide +kernel
theorem dX7_areLike_131 : decode cX7_areLike 131 = .ok (.iinc 4 1, 3) := by decide +kernel
theorem dX7_areLike_134 : decode cX7_areLike 134 = .ok (.goto (-110), 3) := by decide +kernel
theorem dX7_areLike_137 : decode cX7_areLike 137 = .ok (.iload_n 3, 1) := by decide +kernel
theorem dX7_areLike_138 : decode cX7_areLike 138 = .ok (.ireturn, 1) := by decide +kernel
theorem dX7_doesCall_0 : decode cX7_doesCall 0 = .ok (.iconst 0, 1) := by decide +kernel
theorem dX7_doesCall_1 : decode cX7_doesCall 1 = .ok (.istore_n 3, 1) := by decide +kernel
theorem dX7_doesCall_2 : decode cX7_doesCall 2 = .ok (.bipush 60, 2) := by decide +kernel
theorem dX7_doesCall_4 : decode cX7_doesCall 4 = .ok (.iload_n 1, 1) := by decide +kernel
theorem dX7_doesCall_5 : decode cX7_doesCall 5 = .ok (.imul, 1) := by decide +kernel
theorem dX7_doesCall_6 : decode cX7_doesCall 6 = .ok (.istore 4, 2) := by decide +kernel
theorem dX7_doesCall_8 : decode cX7_doesCall 8 = .ok (.iload 4, 2) := by decide +kernel
theorem dX7_doesCall_10 : decode cX7_doesCall 10 = .ok (.bipush 60, 2) := by decide +kernel
theorem dX7_doesCall_12 : decode cX7_doesCall 12 = .ok (.iload_n 1, 1) := by decide +kernel
theorem dX7_doesCall_13 : decode cX7_doesCall 13 = .ok (.imul, 1) := by decide +kernel
theorem dX7_doesCall_14 : decode cX7_doesCall 14 = .ok (.aload_n 0, 1) := by decide +kernel
theorem dX7_doesCall_15 : decode cX7_doesCall 15 = .ok (.getfield 7, 3) := by decide +kernel
theorem dX7_doesCall_18 : decode cX7_doesCall 18 = .ok (.iload_n 1, 1) := by decide +kernel
theorem dX7_doesCall_19 : decode cX7_doesCall 19 = .ok (.iaload, 1) := by decide +kernel
theorem dX7_doesCall_20 : decode cX7_doesCall 20 = .ok (.iadd, 1) := by decide +kernel
theorem dX7_doesCall_21 : decode cX7_doesCall 21 = .ok (.if_icmp .ge 41, 3) := by decide +kernel
theorem dX7_doesCall_24 : decode cX7_doesCall 24 = .ok (.iload_n 3, 1) := by decide +kernel
theorem dX7_doesCall_25 : decode cX7_doesCall 25 = .ok (.ifCond .ne 25, 3) := by decide +kernel
theorem dX7_doesCall_28 : decode cX7_doesCall 28 = .ok (.aload_n 0, 1) := by decide +kernel
theorem dX7_doesCall_29 : decode cX7_doesCall 29 = .ok (.getfield 13, 3) := by decide +kernel
theorem dX7_doesCall_32 : decode cX7_doesCall 32 = .ok (.iload 4, 2) := by decide +kernel
theorem dX7_doesCall_34 : decode cX7_doesCall 34 = .ok (.iaload, 1) := by decide +kernel
theorem dX7_doesCall_35 : decode cX7_doesCall 35 = .ok (.iconst 5, 1) := by decide +kernel
theorem dX7_doesCall_36 : decode cX7_doesCall 36 = .ok (.if_icmp .ne 18, 3) := by decide +kernel
theorem dX7_doesCall_39 : decode cX7_doesCall 39 = .ok (.aload_n 0, 1) := by decide +kernel
theorem dX7_doesCall_40 : decode cX7_doesCall 40 = .ok (.getfield 16, 3) := by decide +kernel
theorem dX7_doesCall_43 : decode cX7_doesCall 43 = .ok (.iload 4, 2) := by decide +kernel
theorem dX7_doesCall_45 : decode cX7_doesCall 45 = .ok (.iaload, 1) := by decide +kernel
theorem dX7_doesCall_46 : decode cX7_doesCall 46 = .ok (.iload_n 2, 1) := by decide +kernel
theorem dX7_doesCall_47 : decode cX7_doesCall 47 = .ok (.if_icmp .ne 7, 3) := by decide +kernel
theorem dX7_doesCall_50 : decode cX7_doesCall 50 = .ok (.iconst 1, 1) := by decide +kernel
theorem dX7_doesCall_51 : decode cX7_doesCall 51 = .ok (.goto 4, 3) := by decide +kernel
theorem dX7_doesCall_54 : decode cX7_doesCall 54 = .ok (.iconst 0, 1) := by decide +kernel
theorem dX7_doesCall_55 : decode cX7_doesCall 55 = .ok (.istore_n 3, 1) := by decide +kernel
theorem dX7_doesCall_56 : decode cX7_doesCall 56 = .ok (.iinc 4 1, 3) := by decide +kernel
theorem dX7_doesCall_59 : decode cX7_doesCall 59 = .ok (.goto (-51), 3) := by decide +kernel
theorem dX7_doesCall_62 : decode cX7_doesCall 62 = .ok (.iload_n 3, 1) := by decide +kernel
theorem dX7_doesCall_63 : decode cX7_doesCall 63 = .ok (.ireturn, 1) := by decide +kernel
theorem dX7_depthOf_0 : decode cX7_depthOf 0 = .ok (.iconst 1, 1) := by decide +kernel
theorem dX7_depthOf_1 : decode cX7_depthOf 1 = .ok (.istore_n 2, 1) := by decide +kernel
theorem dX7_depthOf_2 : decode cX7_depthOf 2 = .ok (.aload_n 0, 1) := by decide +kernel
theorem dX7_depthOf_3 : decode cX7_depthOf 3 = .ok (.getfield 50, 3) := by decide +kernel
theorem dX7_depthOf_6 : decode cX7_depthOf 6 = .ok (.iload_n 1, 1) := by decide +kernel
theorem dX7_depthOf_7 : decode cX7_depthOf 7 = .ok (.iaload, 1) := by decide +kernel
theorem dX7_depthOf_8 : decode cX7_depthOf 8 = .ok (.istore_n 3, 1) := by decide +kernel
theorem dX7_depthOf_9 : decode cX7_depthOf 9 = .ok (.iload_n 3, 1) := by decide +kernel
theorem dX7_depthOf_10 : decode cX7_depthOf 10 = .ok (.iconst (-1), 1) := by decide +kernel
theorem dX7_depthOf_11 : decode cX7_depthOf 11 = .ok (.if_icmp .eq 16, 3) := by decide +kernel
theorem dX7_depthOf_14 : decode cX7_depthOf 14 = .ok (.iinc 2 1, 3) := by decide +kernel
theorem dX7_depthOf_17 : decode cX7_depthOf 17 = .ok (.aload_n 0, 1) := by decide +kernel
theorem dX7_depthOf_18 : decode cX7_depthOf 18 = .ok (.getfield 50, 3) := by decide +kernel
theorem dX7_depthOf_21 : decode cX7_depthOf 21 = .ok (.iload_n 3, 1) := by decide +kernel
theorem dX7_depthOf_22 : decode cX7_depthOf 22 = .ok (.iaload, 1) := by decide +kernel
theorem dX7_depthOf_23 : decode cX7_depthOf 23 = .ok (.istore_n 3, 1) := by decide +kernel
theorem dX7_depthOf_24 : decode cX7_depthOf 24 = .ok (.goto (-15), 3) := by decide +kernel
theorem dX7_depthOf_27 : decode cX7_depthOf 27 = .ok (.iload_n 2, 1) := by decide +kernel
theorem dX7_depthOf_28 : decode cX7_depthOf 28 = .ok (.ireturn, 1) := by decide +kernel
theorem dX7_of_0 : decode cX7_of 0 = .ok (.aload_n 0, 1) := by decide +kernel
theorem dX7_of_1 : decode cX7_of 1 = .ok (.iload_n 1, 1) := by decide +kernel
theorem dX7_of_2 : decode cX7_of 2 = .ok (.invokevirtual 142, 3) := by decide +kernel
theorem dX7_of_5 : decode cX7_of 5 = .ok (.ifCond .eq 13, 3) := by decide +kernel
theorem dX7_of_8 : decode cX7_of 8 = .ok (.iload_n 2, 1) := by decide +kernel
theorem dX7_of_9 : decode cX7_of 9 = .ok (.iconst 0, 1) := by decide +kernel
theorem dX7_of_10 : decode cX7_of 10 = .ok (.bipush 7, 2) := by decide +kernel
theorem dX7_of_12 : decode cX7_of 12 = .ok (.invokestatic 138, 3) := by decide +kernel
theorem dX7_of_15 : decode cX7_of 15 = .ok (.ifCond .ne 6, 3) := by decide +kernel
theorem dX7_of_18 : decode cX7_of 18 = .ok (.bipush (-2), 2) := by decide +kernel
theorem dX7_of_20 : decode cX7_of 20 = .ok (.ireturn, 1) := by decide +kernel
theorem dX7_of_21 : decode cX7_of 21 = .ok (.iload_n 2, 1) := by decide +kernel
theorem dX7_of_22 : decode cX7_of 22 = .ok (.ifCond .ne 10, 3) := by decide +kernel
theorem dX7_of_25 : decode cX7_of 25 = .ok (.aload_n 0, 1) := by decide +kernel
theorem dX7_of_26 : decode cX7_of 26 = .ok (.getfield 7, 3) := by decide +kernel
theorem dX7_of_29 : decode cX7_of 29 = .ok (.iload_n 1, 1) := by decide +kernel
theorem dX7_of_30 : decode cX7_of 30 = .ok (.iaload, 1) := by decide +kernel
theorem dX7_of_31 : decode cX7_of 31 = .ok (.ireturn, 1) := by decide +kernel
theorem dX7_of_32 : decode cX7_of 32 = .ok (.iload_n 2, 1) := by decide +kernel
theorem dX7_of_33 : decode cX7_of 33 = .ok (.iconst 1, 1) := by decide +kernel
theorem dX7_of_34 : decode cX7_of 34 = .ok (.if_icmp .ne 17, 3) := by decide +kernel
theorem dX7_of_37 : decode cX7_of 37 = .ok (.aload_n 0, 1) := by decide +kernel
theorem dX7_of_38 : decode cX7_of 38 = .ok (.iload_n 1, 1) := by decide +kernel
theorem dX7_of_39 : decode cX7_of 39 = .ok (.invokevirtual 184, 3) := by decide +kernel
theorem dX7_of_42 : decode cX7_of 42 = .ok (.ifCond .eq 7, 3) := by decide +kernel
theorem dX7_of_45 : decode cX7_of 45 = .ok (.iconst 1, 1) := by decide +kernel
theorem dX7_of_46 : decode cX7_of 46 = .ok (.goto 4, 3) := by decide +kernel
theorem dX7_of_49 : decode cX7_of 49 = .ok (.iconst 0, 1) := by decide +kernel
theorem dX7_of_50 : decode cX7_of 50 = .ok (.ireturn, 1) := by decide +kernel
theorem dX7_of_51 : decode cX7_of 51 = .ok (.iload_n 2, 1) := by decide +kernel
theorem dX7_of_52 : decode cX7_of 52 = .ok (.iconst 2, 1) := by decide +kernel
theorem dX7_of_53 : decode cX7_of 53 = .ok (.if_icmp .ne 22, 3) := by decide +kernel
theorem dX7_of_56 : decode cX7_of 56 = .ok (.iconst 0, 1) := by decide +kernel
theorem dX7_of_57 : decode cX7_of 57 = .ok (.istore_n 3, 1) := by decide +kernel
theorem dX7_of_58 : decode cX7_of 58 = .ok (.aload_n 0, 1) := by decide +kernel
theorem dX7_of_59 : decode cX7_of 59 = .ok (.iload_n 3, 1) := by decide +kernel
theorem dX7_of_60 : decode cX7_of 60 = .ok (.iload_n 1, 1) := by decide +kernel
theorem dX7_of_61 : decode cX7_of 61 = .ok (.invokevirtual 194, 3) := by decide +kernel
theorem dX7_of_64 : decode cX7_of 64 = .ok (.ifCond .ne 9, 3) := by decide +kernel
theorem dX7_of_67 : decode cX7_of 67 = .ok (.iinc 3 1, 3) := by decide +kernel
theorem dX7_of_70 : decode cX7_of 70 = .ok (.goto (-12), 3) := by decide +kernel
theorem dX7_of_73 : decode cX7_of 73 = .ok (.iload_n 3, 1) := by decide +kernel
theorem dX7_of_74 : decode cX7_of 74 = .ok (.ireturn, 1) := by decide +kernel
theorem dX7_of_75 : decode cX7_of 75 = .ok (.aload_n 0, 1) := by decide +kernel
theorem dX7_of_76 : decode cX7_of 76 = .ok (.iload_n 1, 1) := by decide +kernel
theorem dX7_of_77 : decode cX7_of 77 = .ok (.invokevirtual 184, 3) := by decide +kernel
theorem dX7_of_80 : decode cX7_of 80 = .ok (.ifCond .ne 5, 3) := by decide +kernel
theorem dX7_of_83 : decode cX7_of 83 = .ok (.iconst (-1), 1) := by decide +kernel
theorem dX7_of_84 : decode cX7_of 84 = .ok (.ireturn, 1) := by decide +kernel
theorem dX7_of_85 : decode cX7_of 85 = .ok (.aload_n 0, 1) := by decide +kernel
theorem dX7_of_86 : decode cX7_of 86 = .ok (.iload_n 1, 1) := by decide +kernel
theorem dX7_of_87 : decode cX7_of 87 = .ok (.invokevirtual 191, 3) := by decide +kernel
theorem dX7_of_90 : decode cX7_of 90 = .ok (.iconst 0, 1) := by decide +kernel
theorem dX7_of_91 : decode cX7_of 91 = .ok (.istore_n 3, 1) := by decide +kernel
theorem dX7_of_92 : decode cX7_of 92 = .ok (.iload_n 2, 1) := by decide +kernel
theorem dX7_of_93 : decode cX7_of 93 = .ok (.iconst 3, 1) := by decide +kernel
theorem dX7_of_94 : decode cX7_of 94 = .ok (.if_icmp .ne 8, 3) := by decide +kernel
theorem dX7_of_97 : decode cX7_of 97 = .ok (.aload_n 0, 1) := by decide +kernel
theorem dX7_of_98 : decode cX7_of 98 = .ok (.getfield 160, 3) := by decide +kernel
theorem dX7_of_101 : decode cX7_of 101 = .ok (.ireturn, 1) := by decide +kernel
theorem dX7_of_102 : decode cX7_of 102 = .ok (.iload_n 2, 1) := by decide +kernel
theorem dX7_of_103 : decode cX7_of 103 = .ok (.iconst 4, 1) := by decide +kernel
theorem dX7_of_104 : decode cX7_of 104 = .ok (.if_icmp .ne 55, 3) := by decide +kernel
theorem dX7_of_107 : decode cX7_of 107 = .ok (.iconst 0, 1) := by decide +kernel
theorem dX7_of_108 : decode cX7_of 108 = .ok (.istore 4, 2) := by decide +kernel
theorem dX7_of_110 : decode cX7_of 110 = .ok (.iload 4, 2) := by decide +kernel
theorem dX7_of_112 : decode cX7_of 112 = .ok (.aload_n 0, 1) := by decide +kernel
theorem dX7_of_113 : decode cX7_of 113 = .ok (.getfield 160, 3) := by decide +kernel
theorem dX7_of_116 : decode cX7_of 116 = .ok (.if_icmp .ge 41, 3) := by decide +kernel
theorem dX7_of_119 : decode cX7_of 119 = .ok (.iload_n 3, 1) := by decide +kernel
theorem dX7_of_120 : decode cX7_of 120 = .ok (.aload_n 0, 1) := by decide +kernel
theorem dX7_of_121 : decode cX7_of 121 = .ok (.getfield 41, 3) := by decide +kernel
theorem dX7_of_124 : decode cX7_of 124 = .ok (.iload 4, 2) := by decide +kernel
theorem dX7_of_126 : decode cX7_of 126 = .ok (.iaload, 1) := by decide +kernel
theorem dX7_of_127 : decode cX7_of 127 = .ok (.bipush 8, 2) := by decide +kernel
theorem dX7_of_129 : decode cX7_of 129 = .ok (.if_icmp .eq 15, 3) := by decide +kernel
theorem dX7_of_132 : decode cX7_of 132 = .ok (.aload_n 0, 1) := by decide +kernel
theorem dX7_of_133 : decode cX7_of 133 = .ok (.getfield 41, 3) := by decide +kernel
theorem dX7_of_136 : decode cX7_of 136 = .ok (.iload 4, 2) := by decide +kernel
theorem dX7_of_138 : decode cX7_of 138 = .ok (.iaload, 1) := by decide +kernel
theorem dX7_of_139 : decode cX7_of 139 = .ok (.bipush 11, 2) := by decide +kernel
theorem dX7_of_141 : decode cX7_of 141 = .ok (.if_icmp .ne 7, 3) := by decide +kernel
theorem dX7_of_144 : decode cX7_of 144 = .ok (.iconst 1, 1) := by decide +kernel
theorem dX7_of_145 : decode cX7_of 145 = .ok (.goto 4, 3) := by decide +kernel
theorem dX7_of_148 : decode cX7_of 148 = .ok (.iconst 0, 1) := by decide +kernel
theorem dX7_of_149 : decode cX7_of 149 = .ok (.iadd, 1) := by decide +kernel
theorem dX7_of_150 : decode cX7_of 150 = .ok (.istore_n 3, 1) := by decide +kernel
theorem dX7_of_151 : decode cX7_of 151 = .ok (.iinc 4 1, 3) := by decide +kernel
theorem dX7_of_154 : decode cX7_of 154 = .ok (.goto (-44), 3) := by decide +kernel
theorem dX7_of_157 : decode cX7_of 157 = .ok (.iload_n 3, 1) := by decide +kernel
theorem dX7_of_158 : decode cX7_of 158 = .ok (.ireturn, 1) := by decide +kernel
theorem dX7_of_159 : decode cX7_of 159 = .ok (.iload_n 2, 1) := by decide +kernel
theorem dX7_of_160 : decode cX7_of 160 = .ok (.iconst 5, 1) := by decide +kernel
theorem dX7_of_161 : decode cX7_of 161 = .ok (.if_icmp .ne 48, 3) := by decide +kernel
theorem dX7_of_164 : decode cX7_of 164 = .ok (.aload_n 0, 1) := by decide +kernel
theorem dX7_of_165 : decode cX7_of 165 = .ok (.iload_n 1, 1) := by decide +kernel
theorem dX7_of_166 : decode cX7_of 166 = .ok (.invokevirtual 187, 3) := by decide +kernel
theorem dX7_of_169 : decode cX7_of 169 = .ok (.iconst 0, 1) := by decide +kernel
theorem dX7_of_170 : decode cX7_of 170 = .ok (.istore 4, 2) := by decide +kernel
theorem dX7_of_172 : decode cX7_of 172 = .ok (.iload 4, 2) := by decide +kernel
theorem dX7_of_174 : decode cX7_of 174 = .ok (.aload_n 0, 1) := by decide +kernel
theorem dX7_of_175 : decode cX7_of 175 = .ok (.getfield 7, 3) := by decide +kernel
theorem dX7_of_178 : decode cX7_of 178 = .ok (.iload_n 1, 1) := by decide +kernel
theorem dX7_of_179 : decode cX7_of 179 = .ok (.iaload, 1) := by decide +kernel
theorem dX7_of_180 : decode cX7_of 180 = .ok (.if_icmp .ge 27, 3) := by decide +kernel
theorem dX7_of_183 : decode cX7_of 183 = .ok (.iload_n 3, 1) := by decide +kernel
theorem dX7_of_184 : decode cX7_of 184 = .ok (.aload_n 0, 1) := by decide +kernel
theorem dX7_of_185 : decode cX7_of 185 = .ok (.getfield 86, 3) := by decide +kernel
theorem dX7_of_188 : decode cX7_of 188 = .ok (.iload 4, 2) := by decide +kernel
theorem dX7_of_190 : decode cX7_of 190 = .ok (.baload, 1) := by decide +kernel
theorem dX7_of_191 : decode cX7_of 191 = .ok (.ifCond .eq 7, 3) := by decide +kernel
theorem dX7_of_194 : decode cX7_of 194 = .ok (.iconst 0, 1) := by decide +kernel
theorem dX7_of_195 : decode cX7_of 195 = .ok (.goto 4, 3) := by decide +kernel
theorem dX7_of_198 : decode cX7_of 198 = .ok (.iconst 1, 1) := by decide +kernel
theorem dX7_of_199 : decode cX7_of 199 = .ok (.iadd, 1) := by decide +kernel
theorem dX7_of_200 : decode cX7_of 200 = .ok (.istore_n 3, 1) := by decide +kernel
theorem dX7_of_201 : decode cX7_of 201 = .ok (.iinc 4 1, 3) := by decide +kernel
theorem dX7_of_204 : decode cX7_of 204 = .ok (.goto (-32), 3) := by decide +kernel
theorem dX7_of_207 : decode cX7_of 207 = .ok (.iload_n 3, 1) := by decide +kernel
theorem dX7_of_208 : decode cX7_of 208 = .ok (.ireturn, 1) := by decide +kernel
theorem dX7_of_209 : decode cX7_of 209 = .ok (.iload_n 2, 1) := by decide +kernel
theorem dX7_of_210 : decode cX7_of 210 = .ok (.bipush 6, 2) := by decide +kernel
theorem dX7_of_212 : decode cX7_of 212 = .ok (.if_icmp .ne 67, 3) := by decide +kernel
theorem dX7_of_215 : decode cX7_of 215 = .ok (.iconst 1, 1) := by decide +kernel
theorem dX7_of_216 : decode cX7_of 216 = .ok (.istore_n 3, 1) := by decide +kernel
theorem dX7_of_217 : decode cX7_of 217 = .ok (.iconst 0, 1) := by decide +kernel
theorem dX7_of_218 : decode cX7_of 218 = .ok (.istore 4, 2) := by decide +kernel
theorem dX7_of_220 : decode cX7_of 220 = .ok (.iload 4, 2) := by decide +kernel
theorem dX7_of_222 : decode cX7_of 222 = .ok (.aload_n 0, 1) := by decide +kernel
theorem dX7_of_223 : decode cX7_of 223 = .ok (.getfield 160, 3) := by decide +kernel
theorem dX7_of_226 : decode cX7_of 226 = .ok (.if_icmp .ge 51, 3) := by decide +kernel
theorem dX7_of_229 : decode cX7_of 229 = .ok (.aload_n 0, 1) := by decide +kernel
theorem dX7_of_230 : decode cX7_of 230 = .ok (.iload 4, 2) := by decide +kernel
theorem dX7_of_232 : decode cX7_of 232 = .ok (.invokevirtual 198, 3) := by decide +kernel
theorem dX7_of_235 : decode cX7_of 235 = .ok (.aload_n 0, 1) := by decide +kernel
theorem dX7_of_236 : decode cX7_of 236 = .ok (.getfield 41, 3) := by decide +kernel
theorem dX7_of_239 : decode cX7_of 239 = .ok (.iload 4, 2) := by decide +kernel
theorem dX7_of_241 : decode cX7_of 241 = .ok (.iaload, 1) := by decide +kernel
theorem dX7_of_242 : decode cX7_of 242 = .ok (.iconst 1, 1) := by decide +kernel
theorem dX7_of_243 : decode cX7_of 243 = .ok (.iconst 5, 1) := by decide +kernel
theorem dX7_of_244 : decode cX7_of 244 = .ok (.invokestatic 138, 3) := by decide +kernel
theorem dX7_of_247 : decode cX7_of 247 = .ok (.ifCond .eq 7, 3) := by decide +kernel
theorem dX7_of_250 : decode cX7_of 250 = .ok (.iconst 1, 1) := by decide +kernel
theorem dX7_of_251 : decode cX7_of 251 = .ok (.goto 4, 3) := by decide +kernel
theorem dX7_of_254 : decode cX7_of 254 = .ok (.iconst 0, 1) := by decide +kernel
theorem dX7_of_255 : decode cX7_of 255 = .ok (.iadd, 1) := by decide +kernel
theorem dX7_of_256 : decode cX7_of 256 = .ok (.istore 5, 2) := by decide +kernel
theorem dX7_of_258 : decode cX7_of 258 = .ok (.iload 5, 2) := by decide +kernel
theorem dX7_of_260 : decode cX7_of 260 = .ok (.iload_n 3, 1) := by decide +kernel
theorem dX7_of_261 : decode cX7_of 261 = .ok (.if_icmp .le 8, 3) := by decide +kernel
theorem dX7_of_264 : decode cX7_of 264 = .ok (.iload 5, 2) := by decide +kernel
theorem dX7_of_266 : decode cX7_of 266 = .ok (.goto 4, 3) := by decide +kernel
theorem dX7_of_269 : decode cX7_of 269 = .ok (.iload_n 3, 1) := by decide +kernel
theorem dX7_of_270 : decode cX7_of 270 = .ok (.istore_n 3, 1) := by decide +kernel
theorem dX7_of_271 : decode cX7_of 271 = .ok (.iinc 4 1, 3) := by decide +kernel
theorem dX7_of_274 : decode cX7_of 274 = .ok (.goto (-54), 3) := by decide +kernel
theorem dX7_of_277 : decode cX7_of 277 = .ok (.iload_n 3, 1) := by decide +kernel
theorem dX7_of_278 : decode cX7_of 278 = .ok (.ireturn, 1) := by decide +kernel
theorem dX7_of_279 : decode cX7_of 279 = .ok (.iconst 0, 1) := by decide +kernel
theorem dX7_of_280 : decode cX7_of 280 = .ok (.istore 4, 2) := by decide +kernel
theorem dX7_of_282 : decode cX7_of 282 = .ok (.iload 4, 2) := by decide +kernel
theorem dX7_of_284 : decode cX7_of 284 = .ok (.aload_n 0, 1) := by decide +kernel
theorem dX7_of_285 : decode cX7_of 285 = .ok (.getfield 135, 3) := by decide +kernel
theorem dX7_of_288 : decode cX7_of 288 = .ok (.if_icmp .ge 27, 3) := by decide +kernel
theorem dX7_of_291 : decode cX7_of 291 = .ok (.iload_n 3, 1) := by decide +kernel
theorem dX7_of_292 : decode cX7_of 292 = .ok (.aload_n 0, 1) := by decide +kernel
theorem dX7_of_293 : decode cX7_of 293 = .ok (.iload 4, 2) := by decide +kernel
theorem dX7_of_295 : decode cX7_of 295 = .ok (.iload_n 1, 1) := by decide +kernel
theorem dX7_of_296 : decode cX7_of 296 = .ok (.invokevirtual 202, 3) := by decide +kernel
theorem dX7_of_299 : decode cX7_of 299 = .ok (.ifCond .eq 7, 3) := by decide +kernel
theorem dX7_of_302 : decode cX7_of 302 = .ok (.iconst 1, 1) := by decide +kernel
theorem dX7_of_303 : decode cX7_of 303 = .ok (.goto 4, 3) := by decide +kernel
theorem dX7_of_306 : decode cX7_of 306 = .ok (.iconst 0, 1) := by decide +kernel
theorem dX7_of_307 : decode cX7_of 307 = .ok (.iadd, 1) := by decide +kernel
theorem dX7_of_308 : decode cX7_of 308 = .ok (.istore_n 3, 1) := by decide +kernel
theorem dX7_of_309 : decode cX7_of 309 = .ok (.iinc 4 1, 3) := by decide +kernel
theorem dX7_of_312 : decode cX7_of 312 = .ok (.goto (-30), 3) := by decide +kernel
theorem dX7_of_315 : decode cX7_of 315 = .ok (.iload_n 3, 1) := by decide +kernel
theorem dX7_of_316 : decode cX7_of 316 = .ok (.ireturn, 1) := by decide +kernel
theorem dX7_isWithin_0 : decode cX7_isWithin 0 = .ok (.iconst 0, 1) := by decide +kernel
theorem dX7_isWithin_1 : decode cX7_isWithin 1 = .ok (.istore_n 3, 1) := by decide +kernel
theorem dX7_isWithin_2 : decode cX7_isWithin 2 = .ok (.aload_n 0, 1) := by decide +kernel
theorem dX7_isWithin_3 : decode cX7_isWithin 3 = .ok (.getfield 50, 3) := by decide +kernel
theorem dX7_isWithin_6 : decode cX7_isWithin 6 = .ok (.iload_n 1, 1) := by decide +kernel
theorem dX7_isWithin_7 : decode cX7_isWithin 7 = .ok (.iaload, 1) := by decide +kernel
theorem dX7_isWithin_8 : decode cX7_isWithin 8 = .ok (.istore 4, 2) := by decide +kernel
theorem dX7_isWithin_10 : decode cX7_isWithin 10 = .ok (.iload 4, 2) := by decide +kernel
theorem dX7_isWithin_12 : decode cX7_isWithin 12 = .ok (.iconst (-1), 1) := by decide +kernel
theorem dX7_isWithin_13 : decode cX7_isWithin 13 = .ok (.if_icmp .eq 31, 3) := by decide +kernel
theorem dX7_isWithin_16 : decode cX7_isWithin 16 = .ok (.iload_n 3, 1) := by decide +kernel
theorem dX7_isWithin_17 : decode cX7_isWithin 17 = .ok (.ifCond .ne 9, 3) := by decide +kernel
theorem dX7_isWithin_20 : decode cX7_isWithin 20 = .ok (.iload 4, 2) := by decide +kernel
theorem dX7_isWithin_22 : decode cX7_isWithin 22 = .ok (.iload_n 2, 1) := by decide +kernel
theorem dX7_isWithin_23 : decode cX7_isWithin 23 = .ok (.if_icmp .ne 7, 3) := by decide +kernel
theorem dX7_isWithin_26 : decode cX7_isWithin 26 = .ok (.iconst 1, 1) := by decide +kernel
theorem dX7_isWithin_27 : decode cX7_isWithin 27 = .ok (.goto 4, 3) := by decide +kernel
theorem dX7_isWithin_30 : decode cX7_isWithin 30 = .ok (.iconst 0, 1) := by decide +kernel
theorem dX7_isWithin_31 : decode cX7_isWithin 31 = .ok (.istore_n 3, 1) := by decide +kernel
theorem dX7_isWithin_32 : decode cX7_isWithin 32 = .ok (.aload_n 0, 1) := by decide +kernel
theorem dX7_isWithin_33 : decode cX7_isWithin 33 = .ok (.getfield 50, 3) := by decide +kernel
theorem dX7_isWithin_36 : decode cX7_isWithin 36 = .ok (.iload 4, 2) := by decide +kernel
theorem dX7_isWithin_38 : decode cX7_isWithin 38 = .ok (.iaload, 1) := by decide +kernel
theorem dX7_isWithin_39 : decode cX7_isWithin 39 = .ok (.istore 4, 2) := by decide +kernel
theorem dX7_isWithin_41 : decode cX7_isWithin 41 = .ok (.goto (-31), 3) := by decide +kernel
theorem dX7_isWithin_44 : decode cX7_isWithin 44 = .ok (.iload_n 3, 1) := by decide +kernel
theorem dX7_isWithin_45 : decode cX7_isWithin 45 = .ok (.ireturn, 1) := by decide +kernel
theorem dX7_statement_0 : decode cX7_statement 0 = .ok (.aload_n 0, 1) := by decide +kernel
theorem dX7_statement_1 : decode cX7_statement 1 = .ok (.iload_n 1, 1) := by decide +kernel
theorem dX7_statement_2 : decode cX7_statement 2 = .ok (.invokevirtual 142, 3) := by decide +kernel
theorem dX7_statement_5 : decode cX7_statement 5 = .ok (.ifCond .eq 12, 3) := by decide +kernel
theorem dX7_statement_8 : decode cX7_statement 8 = .ok (.iload_n 3, 1) := by decide +kernel
theorem dX7_statement_9 : decode cX7_statement 9 = .ok (.iconst 0, 1) := by decide +kernel
theorem dX7_statement_10 : decode cX7_statement 10 = .ok (.iconst 5, 1) := by decide +kernel
theorem dX7_statement_11 : decode cX7_statement 11 = .ok (.invokestatic 138, 3) := by decide +kernel
theorem dX7_statement_14 : decode cX7_statement 14 = .ok (.ifCond .ne 6, 3) := by decide +kernel
theorem dX7_statement_17 : decode cX7_statement 17 = .ok (.bipush (-2), 2) := by decide +kernel
theorem dX7_statement_19 : decode cX7_statement 19 = .ok (.ireturn, 1) := by decide +kernel
theorem dX7_statement_20 : decode cX7_statement 20 = .ok (.aload_n 0, 1) := by decide +kernel
theorem dX7_statement_21 : decode cX7_statement 21 = .ok (.iload_n 1, 1) := by decide +kernel
theorem dX7_statement_22 : decode cX7_statement 22 = .ok (.invokevirtual 184, 3) := by decide +kernel
theorem dX7_statement_25 : decode cX7_statement 25 = .ok (.ifCond .ne 6, 3) := by decide +kernel
theorem dX7_statement_28 : decode cX7_statement 28 = .ok (.bipush (-3), 2) := by decide +kernel
theorem dX7_statement_30 : decode cX7_statement 30 = .ok (.ireturn, 1) := by decide +kernel
theorem dX7_statement_31 : decode cX7_statement 31 = .ok (.aload_n 0, 1) := by decide +kernel
theorem dX7_statement_32 : decode cX7_statement 32 = .ok (.iload_n 1, 1) := by decide +kernel
theorem dX7_statement_33 : decode cX7_statement 33 = .ok (.invokevirtual 191, 3) := by decide +kernel
theorem dX7_statement_36 : decode cX7_statement 36 = .ok (.iload_n 2, 1) := by decide +kernel
theorem dX7_statement_37 : decode cX7_statement 37 = .ok (.iconst 0, 1) := by decide +kernel
theorem dX7_statement_38 : decode cX7_statement 38 = .ok (.aload_n 0, 1) := by decide +kernel
theorem dX7_statement_39 : decode cX7_statement 39 = .ok (.getfield 160, 3) := by decide +kernel
theorem dX7_statement_42 : decode cX7_statement 42 = .ok (.iconst 1, 1) := by decide +kernel
theorem dX7_statement_43 : decode cX7_statement 43 = .ok (.isub, 1) := by decide +kernel
theorem dX7_statement_44 : decode cX7_statement 44 = .ok (.invokestatic 138, 3) := by decide +kernel
theorem dX7_statement_47 : decode cX7_statement 47 = .ok (.ifCond .ne 6, 3) := by decide +kernel
theorem dX7_statement_50 : decode cX7_statement 50 = .ok (.bipush (-2), 2) := by decide +kernel
theorem dX7_statement_52 : decode cX7_statement 52 = .ok (.ireturn, 1) := by decide +kernel
theorem dX7_statement_53 : decode cX7_statement 53 = .ok (.iload_n 3, 1) := by decide +kernel
theorem dX7_statement_54 : decode cX7_statement 54 = .ok (.iconst 5, 1) := by decide +kernel
theorem dX7_statement_55 : decode cX7_statement 55 = .ok (.if_icmp .ge 65, 3) := by decide +kernel
theorem dX7_statement_58 : decode cX7_statement 58 = .ok (.iload_n 3, 1) := by decide +kernel
theorem dX7_statement_59 : decode cX7_statement 59 = .ok (.ifCond .ne 12, 3) := by decide +kernel
theorem dX7_statement_62 : decode cX7_statement 62 = .ok (.aload_n 0, 1) := by decide +kernel
theorem dX7_statement_63 : decode cX7_statement 63 = .ok (.getfield 41, 3) := by decide +kernel
theorem dX7_statement_66 : decode cX7_statement 66 = .ok (.iload_n 2, 1) := by decide +kernel
theorem dX7_statement_67 : decode cX7_statement 67 = .ok (.iaload, 1) := by decide +kernel
theorem dX7_statement_68 : decode cX7_statement 68 = .ok (.goto 51, 3) := by decide +kernel
theorem dX7_statement_71 : decode cX7_statement 71 = .ok (.iload_n 3, 1) := by decide +kernel
theorem dX7_statement_72 : decode cX7_statement 72 = .ok (.iconst 1, 1) := by decide +kernel
theorem dX7_statement_73 : decode cX7_statement 73 = .ok (.if_icmp .ne 12, 3) := by decide +kernel
theorem dX7_statement_76 : decode cX7_statement 76 = .ok (.aload_n 0, 1) := by decide +kernel
theorem dX7_statement_77 : decode cX7_statement 77 = .ok (.getfield 44, 3) := by decide +kernel
theorem dX7_statement_80 : decode cX7_statement 80 = .ok (.iload_n 2, 1) := by decide +kernel
theorem dX7_statement_81 : decode cX7_statement 81 = .ok (.iaload, 1) := by decide +kernel
theorem dX7_statement_82 : decode cX7_statement 82 = .ok (.goto 37, 3) := by decide +kernel
theorem dX7_statement_85 : decode cX7_statement 85 = .ok (.iload_n 3, 1) := by decide +kernel
theorem dX7_statement_86 : decode cX7_statement 86 = .ok (.iconst 2, 1) := by decide +kernel
theorem dX7_statement_87 : decode cX7_statement 87 = .ok (.if_icmp .ne 12, 3) := by decide +kernel
theorem dX7_statement_90 : decode cX7_statement 90 = .ok (.aload_n 0, 1) := by decide +kernel
theorem dX7_statement_91 : decode cX7_statement 91 = .ok (.getfield 47, 3) := by decide +kernel
theorem dX7_statement_94 : decode cX7_statement 94 = .ok (.iload_n 2, 1) := by decide +kernel
theorem dX7_statement_95 : decode cX7_statement 95 = .ok (.iaload, 1) := by decide +kernel
theorem dX7_statement_96 : decode cX7_statement 96 = .ok (.goto 23, 3) := by decide +kernel
theorem dX7_statement_99 : decode cX7_statement 99 = .ok (.iload_n 3, 1) := by decide +kernel
theorem dX7_statement_100 : decode cX7_statement 100 = .ok (.iconst 3, 1) := by decide +kernel
theorem dX7_statement_101 : decode cX7_statement 101 = .ok (.if_icmp .ne 12, 3) := by decide +kernel
theorem dX7_statement_104 : decode cX7_statement 104 = .ok (.aload_n 0, 1) := by decide +kernel
theorem dX7_statement_105 : decode cX7_statement 105 = .ok (.getfield 50, 3) := by decide +kernel
theorem dX7_statement_108 : decode cX7_statement 108 = .ok (.iload_n 2, 1) := by decide +kernel
theorem dX7_statement_109 : decode cX7_statement 109 = .ok (.iaload, 1) := by decide +kernel
theorem dX7_statement_110 : decode cX7_statement 110 = .ok (.goto 9, 3) := by decide +kernel
theorem dX7_statement_113 : decode cX7_statement 113 = .ok (.aload_n 0, 1) := by decide +kernel
theorem dX7_statement_114 : decode cX7_statement 114 = .ok (.getfield 53, 3) := by decide +kernel
theorem dX7_statement_117 : decode cX7_statement 117 = .ok (.iload_n 2, 1) := by decide +kernel
theorem dX7_statement_118 : decode cX7_statement 118 = .ok (.iaload, 1) := by decide +kernel
theorem dX7_statement_119 : decode cX7_statement 119 = .ok (.ireturn, 1) := by decide +kernel
theorem dX7_statement_120 : decode cX7_statement 120 = .ok (.iconst 0, 1) := by decide +kernel
theorem dX7_statement_121 : decode cX7_statement 121 = .ok (.istore 4, 2) := by decide +kernel
theorem dX7_statement_123 : decode cX7_statement 123 = .ok (.iconst 0, 1) := by decide +kernel
theorem dX7_statement_124 : decode cX7_statement 124 = .ok (.istore 5, 2) := by decide +kernel
theorem dX7_statement_126 : decode cX7_statement 126 = .ok (.iload 5, 2) := by decide +kernel
theorem dX7_statement_128 : decode cX7_statement 128 = .ok (.aload_n 0, 1) := by decide +kernel
theorem dX7_statement_129 : decode cX7_statement 129 = .ok (.getfield 160, 3) := by decide +kernel
theorem dX7_statement_132 : decode cX7_statement 132 = .ok (.if_icmp .ge 29, 3) := by decide +kernel
theorem dX7_statement_135 : decode cX7_statement 135 = .ok (.iload 4, 2) := by decide +kernel
theorem dX7_statement_137 : decode cX7_statement 137 = .ok (.aload_n 0, 1) := by decide +kernel
theorem dX7_statement_138 : decode cX7_statement 138 = .ok (.iload 5, 2) := by decide +kernel
theorem dX7_statement_140 : decode cX7_statement 140 = .ok (.iload_n 2, 1) := by decide +kernel
theorem dX7_statement_141 : decode cX7_statement 141 = .ok (.invokevirtual 205, 3) := by decide +kernel
theorem dX7_statement_144 : decode cX7_statement 144 = .ok (.ifCond .eq 7, 3) := by decide +kernel
theorem dX7_statement_147 : decode cX7_statement 147 = .ok (.iconst 1, 1) := by decide +kernel
theorem dX7_statement_148 : decode cX7_statement 148 = .ok (.goto 4, 3) := by decide +kernel
theorem dX7_statement_151 : decode cX7_statement 151 = .ok (.iconst 0, 1) := by decide +kernel
theorem dX7_statement_152 : decode cX7_statement 152 = .ok (.iadd, 1) := by decide +kernel
theorem dX7_statement_153 : decode cX7_statement 153 = .ok (.istore 4, 2) := by decide +kernel
theorem dX7_statement_155 : decode cX7_statement 155 = .ok (.iinc 5 1, 3) := by decide +kernel
theorem dX7_statement_158 : decode cX7_statement 158 = .ok (.goto (-32), 3) := by decide +kernel
theorem dX7_statement_161 : decode cX7_statement 161 = .ok (.iload 4, 2) := by decide +kernel
theorem dX7_statement_163 : decode cX7_statement 163 = .ok (.ireturn, 1) := by decide +kernel
theorem dX7_countIn_0 : decode cX7_countIn 0 = .ok (.iconst 0, 1) := by decide +kernel
theorem dX7_countIn_1 : decode cX7_countIn 1 = .ok (.istore_n 3, 1) := by decide +kernel
theorem dX7_countIn_2 : decode cX7_countIn 2 = .ok (.iconst 0, 1) := by decide +kernel
theorem dX7_countIn_3 : decode cX7_countIn 3 = .ok (.istore 4, 2) := by decide +kernel
theorem dX7_countIn_5 : decode cX7_countIn 5 = .ok (.iload 4, 2) := by decide +kernel
theorem dX7_countIn_7 : decode cX7_countIn 7 = .ok (.aload_n 0, 1) := by decide +kernel
theorem dX7_countIn_8 : decode cX7_countIn 8 = .ok (.getfield 160, 3) := by decide +kernel
theorem dX7_countIn_11 : decode cX7_countIn 11 = .ok (.if_icmp .ge 44, 3) := by decide +kernel
theorem dX7_countIn_14 : decode cX7_countIn 14 = .ok (.iload_n 3, 1) := by decide +kernel
theorem dX7_countIn_15 : decode cX7_countIn 15 = .ok (.aload_n 0, 1) := by decide +kernel
theorem dX7_countIn_16 : decode cX7_countIn 16 = .ok (.getfield 50, 3) := by decide +kernel
theorem dX7_countIn_19 : decode cX7_countIn 19 = .ok (.iload 4, 2) := by decide +kernel
theorem dX7_countIn_21 : decode cX7_countIn 21 = .ok (.iaload, 1) := by decide +kernel
theorem dX7_countIn_22 : decode cX7_countIn 22 = .ok (.iload_n 1, 1) := by decide +kernel
theorem dX7_countIn_23 : decode cX7_countIn 23 = .ok (.if_icmp .ne 23, 3) := by decide +kernel
theorem dX7_countIn_26 : decode cX7_countIn 26 = .ok (.iload_n 1, 1) := by decide +kernel
theorem dX7_countIn_27 : decode cX7_countIn 27 = .ok (.iconst (-1), 1) := by decide +kernel
theorem dX7_countIn_28 : decode cX7_countIn 28 = .ok (.if_icmp .eq 14, 3) := by decide +kernel
theorem dX7_countIn_31 : decode cX7_countIn 31 = .ok (.aload_n 0, 1) := by decide +kernel
theorem dX7_countIn_32 : decode cX7_countIn 32 = .ok (.getfield 53, 3) := by decide +kernel
theorem dX7_countIn_35 : decode cX7_countIn 35 = .ok (.iload 4, 2) := by decide +kernel
theorem dX7_countIn_37 : decode cX7_countIn 37 = .ok (.iaload, 1) := by decide +kernel
theorem dX7_countIn_38 : decode cX7_countIn 38 = .ok (.iload_n 2, 1) := by decide +kernel
theorem dX7_countIn_39 : decode cX7_countIn 39 = .ok (.if_icmp .ne 7, 3) := by decide +kernel
theorem dX7_countIn_42 : decode cX7_countIn 42 = .ok (.iconst 1, 1) := by decide +kernel
theorem dX7_countIn_43 : decode cX7_countIn 43 = .ok (.goto 4, 3) := by decide +kernel
theorem dX7_countIn_46 : decode cX7_countIn 46 = .ok (.iconst 0, 1) := by decide +kernel
theorem dX7_countIn_47 : decode cX7_countIn 47 = .ok (.iadd, 1) := by decide +kernel
theorem dX7_countIn_48 : decode cX7_countIn 48 = .ok (.istore_n 3, 1) := by decide +kernel
theorem dX7_countIn_49 : decode cX7_countIn 49 = .ok (.iinc 4 1, 3) := by decide +kernel
theorem dX7_countIn_52 : decode cX7_countIn 52 = .ok (.goto (-47), 3) := by decide +kernel
theorem dX7_countIn_55 : decode cX7_countIn 55 = .ok (.iload_n 3, 1) := by decide +kernel
theorem dX7_countIn_56 : decode cX7_countIn 56 = .ok (.ireturn, 1) := by decide +kernel
theorem dX7_tell_0 : decode cX7_tell 0 = .ok (.aload_n 0, 1) := by decide +kernel
theorem dX7_tell_1 : decode cX7_tell 1 = .ok (.getfield 83, 3) := by decide +kernel
theorem dX7_tell_4 : decode cX7_tell 4 = .ok (.aload_n 0, 1) := by decide +kernel
theorem dX7_tell_5 : decode cX7_tell 5 = .ok (.getfield 208, 3) := by decide +kernel
theorem dX7_tell_8 : decode cX7_tell 8 = .ok (.iload_n 1, 1) := by decide +kernel
theorem dX7_tell_9 : decode cX7_tell 9 = .ok (.iastore, 1) := by decide +kernel
theorem dX7_tell_10 : decode cX7_tell 10 = .ok (.aload_n 0, 1) := by decide +kernel
theorem dX7_tell_11 : decode cX7_tell 11 = .ok (.dup, 1) := by decide +kernel
theorem dX7_tell_12 : decode cX7_tell 12 = .ok (.getfield 208, 3) := by decide +kernel
theorem dX7_tell_15 : decode cX7_tell 15 = .ok (.iconst 1, 1) := by decide +kernel
theorem dX7_tell_16 : decode cX7_tell 16 = .ok (.iadd, 1) := by decide +kernel
theorem dX7_tell_17 : decode cX7_tell 17 = .ok (.putfield 208, 3) := by decide +kernel
theorem dX7_tell_20 : decode cX7_tell 20 = .ok (.return_, 1) := by decide +kernel
theorem dX7_tellAll_0 : decode cX7_tellAll 0 = .ok (.aload_n 0, 1) := by decide +kernel
theorem dX7_tellAll_1 : decode cX7_tellAll 1 = .ok (.iconst 0, 1) := by decide +kernel
theorem dX7_tellAll_2 : decode cX7_tellAll 2 = .ok (.putfield 208, 3) := by decide +kernel
theorem dX7_tellAll_5 : decode cX7_tellAll 5 = .ok (.aload_n 0, 1) := by decide +kernel
theorem dX7_tellAll_6 : decode cX7_tellAll 6 = .ok (.aload_n 0, 1) := by decide +kernel
theorem dX7_tellAll_7 : decode cX7_tellAll 7 = .ok (.iconst (-1), 1) := by decide +kernel
theorem dX7_tellAll_8 : decode cX7_tellAll 8 = .ok (.iconst 0, 1) := by decide +kernel
theorem dX7_tellAll_9 : decode cX7_tellAll 9 = .ok (.invokevirtual 211, 3) := by decide +kernel
theorem dX7_tellAll_12 : decode cX7_tellAll 12 = .ok (.invokevirtual 215, 3) := by decide +kernel
theorem dX7_tellAll_15 : decode cX7_tellAll 15 = .ok (.iconst 0, 1) := by decide +kernel
theorem dX7_tellAll_16 : decode cX7_tellAll 16 = .ok (.istore_n 1, 1) := by decide +kernel
theorem dX7_tellAll_17 : decode cX7_tellAll 17 = .ok (.iload_n 1, 1) := by decide +kernel
theorem dX7_tellAll_18 : decode cX7_tellAll 18 = .ok (.aload_n 0, 1) := by decide +kernel
theorem dX7_tellAll_19 : decode cX7_tellAll 19 = .ok (.getfield 160, 3) := by decide +kernel
theorem dX7_tellAll_22 : decode cX7_tellAll 22 = .ok (.if_icmp .ge 117, 3) := by decide +kernel
theorem dX7_tellAll_25 : decode cX7_tellAll 25 = .ok (.aload_n 0, 1) := by decide +kernel
theorem dX7_tellAll_26 : decode cX7_tellAll 26 = .ok (.iload_n 1, 1) := by decide +kernel
theorem dX7_tellAll_27 : decode cX7_tellAll 27 = .ok (.invokevirtual 218, 3) := by decide +kernel
theorem dX7_tellAll_30 : decode cX7_tellAll 30 = .ok (.aload_n 0, 1) := by decide +kernel
theorem dX7_tellAll_31 : decode cX7_tellAll 31 = .ok (.getfield 41, 3) := by decide +kernel
theorem dX7_tellAll_34 : decode cX7_tellAll 34 = .ok (.iload_n 1, 1) := by decide +kernel
theorem dX7_tellAll_35 : decode cX7_tellAll 35 = .ok (.iaload, 1) := by decide +kernel
theorem dX7_tellAll_36 : decode cX7_tellAll 36 = .ok (.istore_n 2, 1) := by decide +kernel
theorem dX7_tellAll_37 : decode cX7_tellAll 37 = .ok (.aload_n 0, 1) := by decide +kernel
theorem dX7_tellAll_38 : decode cX7_tellAll 38 = .ok (.iload_n 2, 1) := by decide +kernel
theorem dX7_tellAll_39 : decode cX7_tellAll 39 = .ok (.invokevirtual 215, 3) := by decide +kernel
theorem dX7_tellAll_42 : decode cX7_tellAll 42 = .ok (.iload_n 2, 1) := by decide +kernel
theorem dX7_tellAll_43 : decode cX7_tellAll 43 = .ok (.ifCond .ne 13, 3) := by decide +kernel
theorem dX7_tellAll_46 : decode cX7_tellAll 46 = .ok (.aload_n 0, 1) := by decide +kernel
theorem dX7_tellAll_47 : decode cX7_tellAll 47 = .ok (.aload_n 0, 1) := by decide +kernel
theorem dX7_tellAll_48 : decode cX7_tellAll 48 = .ok (.getfield 62, 3) := by decide +kernel
theorem dX7_tellAll_51 : decode cX7_tellAll 51 = .ok (.iload_n 1, 1) := by decide +kernel
theorem dX7_tellAll_52 : decode cX7_tellAll 52 = .ok (.iaload, 1) := by decide +kernel
theorem dX7_tellAll_53 : decode cX7_tellAll 53 = .ok (.invokevirtual 215, 3) := by decide +kernel
theorem dX7_tellAll_56 : decode cX7_tellAll 56 = .ok (.iload_n 2, 1) := by decide +kernel
theorem dX7_tellAll_57 : decode cX7_tellAll 57 = .ok (.iconst 3, 1) := by decide +kernel
theorem dX7_tellAll_58 : decode cX7_tellAll 58 = .ok (.if_icmp .eq 34, 3) := by decide +kernel
theorem dX7_tellAll_61 : decode cX7_tellAll 61 = .ok (.iload_n 2, 1) := by decide +kernel
theorem dX7_tellAll_62 : decode cX7_tellAll 62 = .ok (.bipush 6, 2) := by decide +kernel
theorem dX7_tellAll_64 : decode cX7_tellAll 64 = .ok (.bipush 8, 2) := by decide +kernel
theorem dX7_tellAll_66 : decode cX7_tellAll 66 = .ok (.invokestatic 138, 3) := by decide +kernel
theorem dX7_tellAll_69 : decode cX7_tellAll 69 = .ok (.ifCond .ne 23, 3) := by decide +kernel
theorem dX7_tellAll_72 : decode cX7_tellAll 72 = .ok (.aload_n 0, 1) := by decide +kernel
theorem dX7_tellAll_73 : decode cX7_tellAll 73 = .ok (.aload_n 0, 1) := by decide +kernel
theorem dX7_tellAll_74 : decode cX7_tellAll 74 = .ok (.getfield 56, 3) := by decide +kernel
theorem dX7_tellAll_77 : decode cX7_tellAll 77 = .ok (.iload_n 1, 1) := by decide +kernel
theorem dX7_tellAll_78 : decode cX7_tellAll 78 = .ok (.iaload, 1) := by decide +kernel
theorem dX7_tellAll_79 : decode cX7_tellAll 79 = .ok (.invokevirtual 215, 3) := by decide +kernel
theorem dX7_tellAll_82 : decode cX7_tellAll 82 = .ok (.aload_n 0, 1) := by decide +kernel
theorem dX7_tellAll_83 : decode cX7_tellAll 83 = .ok (.aload_n 0, 1) := by decide +kernel
theorem dX7_tellAll_84 : decode cX7_tellAll 84 = .ok (.getfield 59, 3) := by decide +kernel
theorem dX7_tellAll_87 : decode cX7_tellAll 87 = .ok (.iload_n 1, 1) := by decide +kernel
theorem dX7_tellAll_88 : decode cX7_tellAll 88 = .ok (.iaload, 1) := by decide +kernel
theorem dX7_tellAll_89 : decode cX7_tellAll 89 = .ok (.invokevirtual 215, 3) := by decide +kernel
theorem dX7_tellAll_92 : decode cX7_tellAll 92 = .ok (.iload_n 2, 1) := by decide +kernel
theorem dX7_tellAll_93 : decode cX7_tellAll 93 = .ok (.bipush 8, 2) := by decide +kernel
theorem dX7_tellAll_95 : decode cX7_tellAll 95 = .ok (.if_icmp .eq 9, 3) := by decide +kernel
theorem dX7_tellAll_98 : decode cX7_tellAll 98 = .ok (.iload_n 2, 1) := by decide +kernel
theorem dX7_tellAll_99 : decode cX7_tellAll 99 = .ok (.bipush 11, 2) := by decide +kernel
theorem dX7_tellAll_101 : decode cX7_tellAll 101 = .ok (.if_icmp .ne 13, 3) := by decide +kernel
theorem dX7_tellAll_104 : decode cX7_tellAll 104 = .ok (.aload_n 0, 1) := by decide +kernel
theorem dX7_tellAll_105 : decode cX7_tellAll 105 = .ok (.aload_n 0, 1) := by decide +kernel
theorem dX7_tellAll_106 : decode cX7_tellAll 106 = .ok (.getfield 62, 3) := by decide +kernel
theorem dX7_tellAll_109 : decode cX7_tellAll 109 = .ok (.iload_n 1, 1) := by decide +kernel
theorem dX7_tellAll_110 : decode cX7_tellAll 110 = .ok (.iaload, 1) := by decide +kernel
theorem dX7_tellAll_111 : decode cX7_tellAll 111 = .ok (.invokevirtual 215, 3) := by decide +kernel
theorem dX7_tellAll_114 : decode cX7_tellAll 114 = .ok (.iload_n 2, 1) := by decide +kernel
theorem dX7_tellAll_115 : decode cX7_tellAll 115 = .ok (.iconst 1, 1) := by decide +kernel
theorem dX7_tellAll_116 : decode cX7_tellAll 116 = .ok (.iconst 5, 1) := by decide +kernel
theorem dX7_tellAll_117 : decode cX7_tellAll 117 = .ok (.invokestatic 138, 3) := by decide +kernel
theorem dX7_tellAll_120 : decode cX7_tellAll 120 = .ok (.ifCond .eq 13, 3) := by decide +kernel
theorem dX7_tellAll_123 : decode cX7_tellAll 123 = .ok (.aload_n 0, 1) := by decide +kernel
theorem dX7_tellAll_124 : decode cX7_tellAll 124 = .ok (.aload_n 0, 1) := by decide +kernel
theorem dX7_tellAll_125 : decode cX7_tellAll 125 = .ok (.iload_n 1, 1) := by decide +kernel
theorem dX7_tellAll_126 : decode cX7_tellAll 126 = .ok (.iconst 0, 1) := by decide +kernel
theorem dX7_tellAll_127 : decode cX7_tellAll 127 = .ok (.invokevirtual 211, 3) := by decide +kernel
theorem dX7_tellAll_130 : decode cX7_tellAll 130 = .ok (.invokevirtual 215, 3) := by decide +kernel
theorem dX7_tellAll_133 : decode cX7_tellAll 133 = .ok (.iinc 1 1, 3) := by decide +kernel
theorem dX7_tellAll_136 : decode cX7_tellAll 136 = .ok (.goto (-119), 3) := by decide +kernel
theorem dX7_tellAll_139 : decode cX7_tellAll 139 = .ok (.aload_n 0, 1) := by decide +kernel
theorem dX7_tellAll_140 : decode cX7_tellAll 140 = .ok (.aload_n 0, 1) := by decide +kernel
theorem dX7_tellAll_141 : decode cX7_tellAll 141 = .ok (.getfield 160, 3) := by decide +kernel
theorem dX7_tellAll_144 : decode cX7_tellAll 144 = .ok (.invokevirtual 218, 3) := by decide +kernel
theorem dX7_tellAll_147 : decode cX7_tellAll 147 = .ok (.return_, 1) := by decide +kernel
theorem dX7_closeBodies_0 : decode cX7_closeBodies 0 = .ok (.iload_n 1, 1) := by decide +kernel
theorem dX7_closeBodies_1 : decode cX7_closeBodies 1 = .ok (.ifCond .ne 8, 3) := by decide +kernel
theorem dX7_closeBodies_4 : decode cX7_closeBodies 4 = .ok (.aload_n 0, 1) := by decide +kernel
theorem dX7_closeBodies_5 : decode cX7_closeBodies 5 = .ok (.iconst 0, 1) := by decide +kernel
theorem dX7_closeBodies_6 : decode cX7_closeBodies 6 = .ok (.putfield 221, 3) := by decide +kernel
theorem dX7_closeBodies_9 : decode cX7_closeBodies 9 = .ok (.iload_n 1, 1) := by decide +kernel
theorem dX7_closeBodies_10 : decode cX7_closeBodies 10 = .ok (.ifCond .le 37, 3) := by decide +kernel
theorem dX7_closeBodies_13 : decode cX7_closeBodies 13 = .ok (.aload_n 0, 1) := by decide +kernel
theorem dX7_closeBodies_14 : decode cX7_closeBodies 14 = .ok (.getfield 41, 3) := by decide +kernel
theorem dX7_closeBodies_17 : decode cX7_closeBodies 17 = .ok (.iload_n 1, 1) := by decide +kernel
theorem dX7_closeBodies_18 : decode cX7_closeBodies 18 = .ok (.iconst 1, 1) := by decide +kernel
theorem dX7_closeBodies_19 : decode cX7_closeBodies 19 = .ok (.isub, 1) := by decide +kernel
theorem dX7_closeBodies_20 : decode cX7_closeBodies 20 = .ok (.iaload, 1) := by decide +kernel
theorem dX7_closeBodies_21 : decode cX7_closeBodies 21 = .ok (.iconst 2, 1) := by decide +kernel
theorem dX7_closeBodies_22 : decode cX7_closeBodies 22 = .ok (.if_icmp .ne 25, 3) := by decide +kernel
theorem dX7_closeBodies_25 : decode cX7_closeBodies 25 = .ok (.aload_n 0, 1) := by decide +kernel
theorem dX7_closeBodies_26 : decode cX7_closeBodies 26 = .ok (.getfield 90, 3) := by decide +kernel
theorem dX7_closeBodies_29 : decode cX7_closeBodies 29 = .ok (.aload_n 0, 1) := by decide +kernel
theorem dX7_closeBodies_30 : decode cX7_closeBodies 30 = .ok (.getfield 221, 3) := by decide +kernel
theorem dX7_closeBodies_33 : decode cX7_closeBodies 33 = .ok (.iload_n 1, 1) := by decide +kernel
theorem dX7_closeBodies_34 : decode cX7_closeBodies 34 = .ok (.iconst 1, 1) := by decide +kernel
theorem dX7_closeBodies_35 : decode cX7_closeBodies 35 = .ok (.isub, 1) := by decide +kernel
theorem dX7_closeBodies_36 : decode cX7_closeBodies 36 = .ok (.iastore, 1) := by decide +kernel
theorem dX7_closeBodies_37 : decode cX7_closeBodies 37 = .ok (.aload_n 0, 1) := by decide +kernel
theorem dX7_closeBodies_38 : decode cX7_closeBodies 38 = .ok (.dup, 1) := by decide +kernel
theorem dX7_closeBodies_39 : decode cX7_closeBodies 39 = .ok (.getfield 221, 3) := by decide +kernel
theorem dX7_closeBodies_42 : decode cX7_closeBodies 42 = .ok (.iconst 1, 1) := by decide +kernel
theorem dX7_closeBodies_43 : decode cX7_closeBodies 43 = .ok (.iadd, 1) := by decide +kernel
theorem dX7_closeBodies_44 : decode cX7_closeBodies 44 = .ok (.putfield 221, 3) := by decide +kernel
theorem dX7_closeBodies_47 : decode cX7_closeBodies 47 = .ok (.aload_n 0, 1) := by decide +kernel
theorem dX7_closeBodies_48 : decode cX7_closeBodies 48 = .ok (.getfield 221, 3) := by decide +kernel
theorem dX7_closeBodies_51 : decode cX7_closeBodies 51 = .ok (.ifCond .le 7, 3) := by decide +kernel
theorem dX7_closeBodies_54 : decode cX7_closeBodies 54 = .ok (.iconst 1, 1) := by decide +kernel
theorem dX7_closeBodies_55 : decode cX7_closeBodies 55 = .ok (.goto 4, 3) := by decide +kernel
theorem dX7_closeBodies_58 : decode cX7_closeBodies 58 = .ok (.iconst 0, 1) := by decide +kernel
theorem dX7_closeBodies_59 : decode cX7_closeBodies 59 = .ok (.istore_n 2, 1) := by decide +kernel
theorem dX7_closeBodies_60 : decode cX7_closeBodies 60 = .ok (.iload_n 2, 1) := by decide +kernel
theorem dX7_closeBodies_61 : decode cX7_closeBodies 61 = .ok (.ifCond .eq 132, 3) := by decide +kernel
theorem dX7_closeBodies_64 : decode cX7_closeBodies 64 = .ok (.aload_n 0, 1) := by decide +kernel
theorem dX7_closeBodies_65 : decode cX7_closeBodies 65 = .ok (.getfield 90, 3) := by decide +kernel
theorem dX7_closeBodies_68 : decode cX7_closeBodies 68 = .ok (.aload_n 0, 1) := by decide +kernel
theorem dX7_closeBodies_69 : decode cX7_closeBodies 69 = .ok (.getfield 221, 3) := by decide +kernel
theorem dX7_closeBodies_72 : decode cX7_closeBodies 72 = .ok (.iconst 1, 1) := by decide +kernel
theorem dX7_closeBodies_73 : decode cX7_closeBodies 73 = .ok (.isub, 1) := by decide +kernel
theorem dX7_closeBodies_74 : decode cX7_closeBodies 74 = .ok (.iaload, 1) := by decide +kernel
theorem dX7_closeBodies_75 : decode cX7_closeBodies 75 = .ok (.istore_n 3, 1) := by decide +kernel
theorem dX7_closeBodies_76 : decode cX7_closeBodies 76 = .ok (.iload_n 1, 1) := by decide +kernel
theorem dX7_closeBodies_77 : decode cX7_closeBodies 77 = .ok (.istore 4, 2) := by decide +kernel
theorem dX7_closeBodies_79 : decode cX7_closeBodies 79 = .ok (.iload_n 1, 1) := by decide +kernel
theorem dX7_closeBodies_80 : decode cX7_closeBodies 80 = .ok (.aload_n 0, 1) := by decide +kernel
theorem dX7_closeBodies_81 : decode cX7_closeBodies 81 = .ok (.getfield 160, 3) := by decide +kernel
theorem dX7_closeBodies_84 : decode cX7_closeBodies 84 = .ok (.if_icmp .ge 32, 3) := by decide +kernel
theorem dX7_closeBodies_87 : decode cX7_closeBodies 87 = .ok (.iload 4, 2) := by decide +kernel
theorem dX7_closeBodies_89 : decode cX7_closeBodies 89 = .ok (.iconst (-1), 1) := by decide +kernel
theorem dX7_closeBodies_90 : decode cX7_closeBodies 90 = .ok (.if_icmp .eq 26, 3) := by decide +kernel
theorem dX7_closeBodies_93 : decode cX7_closeBodies 93 = .ok (.aload_n 0, 1) := by decide +kernel
theorem dX7_closeBodies_94 : decode cX7_closeBodies 94 = .ok (.getfield 50, 3) := by decide +kernel
theorem dX7_closeBodies_97 : decode cX7_closeBodies 97 = .ok (.iload 4, 2) := by decide +kernel
theorem dX7_closeBodies_99 : decode cX7_closeBodies 99 = .ok (.iaload, 1) := by decide +kernel
theorem dX7_closeBodies_100 : decode cX7_closeBodies 100 = .ok (.iload_n 3, 1) := by decide +kernel
theorem dX7_closeBodies_101 : decode cX7_closeBodies 101 = .ok (.if_icmp .eq 15, 3) := by decide +kernel
theorem dX7_closeBodies_104 : decode cX7_closeBodies 104 = .ok (.aload_n 0, 1) := by decide +kernel
theorem dX7_closeBodies_105 : decode cX7_closeBodies 105 = .ok (.getfield 50, 3) := by decide +kernel
theorem dX7_closeBodies_108 : decode cX7_closeBodies 108 = .ok (.iload 4, 2) := by decide +kernel
theorem dX7_closeBodies_110 : decode cX7_closeBodies 110 = .ok (.iaload, 1) := by decide +kernel
theorem dX7_closeBodies_111 : decode cX7_closeBodies 111 = .ok (.istore 4, 2) := by decide +kernel
theorem dX7_closeBodies_113 : decode cX7_closeBodies 113 = .ok (.goto (-34), 3) := by decide +kernel
theorem dX7_closeBodies_116 : decode cX7_closeBodies 116 = .ok (.iload_n 1, 1) := by decide +kernel
theorem dX7_closeBodies_117 : decode cX7_closeBodies 117 = .ok (.aload_n 0, 1) := by decide +kernel
theorem dX7_closeBodies_118 : decode cX7_closeBodies 118 = .ok (.getfield 160, 3) := by decide +kernel
theorem dX7_closeBodies_121 : decode cX7_closeBodies 121 = .ok (.if_icmp .ge 23, 3) := by decide +kernel
theorem dX7_closeBodies_124 : decode cX7_closeBodies 124 = .ok (.iload 4, 2) := by decide +kernel
theorem dX7_closeBodies_126 : decode cX7_closeBodies 126 = .ok (.iconst (-1), 1) := by decide +kernel
theorem dX7_closeBodies_127 : decode cX7_closeBodies 127 = .ok (.if_icmp .eq 17, 3) := by decide +kernel
theorem dX7_closeBodies_130 : decode cX7_closeBodies 130 = .ok (.aload_n 0, 1) := by decide +kernel
theorem dX7_closeBodies_131 : decode cX7_closeBodies 131 = .ok (.getfield 53, 3) := by decide +kernel
theorem dX7_closeBodies_134 : decode cX7_closeBodies 134 = .ok (.iload 4, 2) := by decide +kernel
theorem dX7_closeBodies_136 : decode cX7_closeBodies 136 = .ok (.iaload, 1) := by decide +kernel
theorem dX7_closeBodies_137 : decode cX7_closeBodies 137 = .ok (.ifCond .ne 7, 3) := by decide +kernel
theorem dX7_closeBodies_140 : decode cX7_closeBodies 140 = .ok (.iconst 1, 1) := by decide +kernel
theorem dX7_closeBodies_141 : decode cX7_closeBodies 141 = .ok (.goto 4, 3) := by decide +kernel
theorem dX7_closeBodies_144 : decode cX7_closeBodies 144 = .ok (.iconst 0, 1) := by decide +kernel
theorem dX7_closeBodies_145 : decode cX7_closeBodies 145 = .ok (.istore 5, 2) := by decide +kernel
theorem dX7_closeBodies_147 : decode cX7_closeBodies 147 = .ok (.iload 5, 2) := by decide +kernel
theorem dX7_closeBodies_149 : decode cX7_closeBodies 149 = .ok (.ifCond .ne 23, 3) := by decide +kernel
theorem dX7_closeBodies_152 : decode cX7_closeBodies 152 = .ok (.aload_n 0, 1) := by decide +kernel
theorem dX7_closeBodies_153 : decode cX7_closeBodies 153 = .ok (.aload_n 0, 1) := by decide +kernel
theorem dX7_closeBodies_154 : decode cX7_closeBodies 154 = .ok (.iload_n 3, 1) := by decide +kernel
theorem dX7_closeBodies_155 : decode cX7_closeBodies 155 = .ok (.iconst 1, 1) := by decide +kernel
theorem dX7_closeBodies_156 : decode cX7_closeBodies 156 = .ok (.invokevirtual 211, 3) := by decide +kernel
theorem dX7_closeBodies_159 : decode cX7_closeBodies 159 = .ok (.invokevirtual 215, 3) := by decide +kernel
theorem dX7_closeBodies_162 : decode cX7_closeBodies 162 = .ok (.aload_n 0, 1) := by decide +kernel
theorem dX7_closeBodies_163 : decode cX7_closeBodies 163 = .ok (.dup, 1) := by decide +kernel
theorem dX7_closeBodies_164 : decode cX7_closeBodies 164 = .ok (.getfield 221, 3) := by decide +kernel
theorem dX7_closeBodies_167 : decode cX7_closeBodies 167 = .ok (.iconst 1, 1) := by decide +kernel
theorem dX7_closeBodies_168 : decode cX7_closeBodies 168 = .ok (.isub, 1) := by decide +kernel
theorem dX7_closeBodies_169 : decode cX7_closeBodies 169 = .ok (.putfield 221, 3) := by decide +kernel
theorem dX7_closeBodies_172 : decode cX7_closeBodies 172 = .ok (.iload 5, 2) := by decide +kernel
theorem dX7_closeBodies_174 : decode cX7_closeBodies 174 = .ok (.ifCond .ne 14, 3) := by decide +kernel
theorem dX7_closeBodies_177 : decode cX7_closeBodies 177 = .ok (.aload_n 0, 1) := by decide +kernel
theorem dX7_closeBodies_178 : decode cX7_closeBodies 178 = .ok (.getfield 221, 3) := by decide +kernel
theorem dX7_closeBodies_181 : decode cX7_closeBodies 181 = .ok (.ifCond .le 7, 3) := by decide +kernel
theorem dX7_closeBodies_184 : decode cX7_closeBodies 184 = .ok (.iconst 1, 1) := by decide +kernel
theorem dX7_closeBodies_185 : decode cX7_closeBodies 185 = .ok (.goto 4, 3) := by decide +kernel
theorem dX7_closeBodies_188 : decode cX7_closeBodies 188 = .ok (.iconst 0, 1) := by decide +kernel
theorem dX7_closeBodies_189 : decode cX7_closeBodies 189 = .ok (.istore_n 2, 1) := by decide +kernel
theorem dX7_closeBodies_190 : decode cX7_closeBodies 190 = .ok (.goto (-130), 3) := by decide +kernel
theorem dX7_closeBodies_193 : decode cX7_closeBodies 193 = .ok (.return_, 1) := by decide +kernel
theorem dX7_text_0 : decode cX7_text 0 = .ok (.aload_n 0, 1) := by decide +kernel
theorem dX7_text_1 : decode cX7_text 1 = .ok (.iload_n 1, 1) := by decide +kernel
theorem dX7_text_2 : decode cX7_text 2 = .ok (.invokevirtual 142, 3) := by decide +kernel
theorem dX7_text_5 : decode cX7_text 5 = .ok (.ifCond .eq 8, 3) := by decide +kernel
theorem dX7_text_8 : decode cX7_text 8 = .ok (.iload_n 2, 1) := by decide +kernel
theorem dX7_text_9 : decode cX7_text 9 = .ok (.iconst (-1), 1) := by decide +kernel
theorem dX7_text_10 : decode cX7_text 10 = .ok (.if_icmp .ge 6, 3) := by decide +kernel
theorem dX7_text_13 : decode cX7_text 13 = .ok (.bipush (-2), 2) := by decide +kernel
theorem dX7_text_15 : decode cX7_text 15 = .ok (.ireturn, 1) := by decide +kernel
theorem dX7_text_16 : decode cX7_text 16 = .ok (.aload_n 0, 1) := by decide +kernel
theorem dX7_text_17 : decode cX7_text 17 = .ok (.iload_n 1, 1) := by decide +kernel
theorem dX7_text_18 : decode cX7_text 18 = .ok (.invokevirtual 184, 3) := by decide +kernel
theorem dX7_text_21 : decode cX7_text 21 = .ok (.ifCond .ne 6, 3) := by decide +kernel
theorem dX7_text_24 : decode cX7_text 24 = .ok (.bipush (-3), 2) := by decide +kernel
theorem dX7_text_26 : decode cX7_text 26 = .ok (.ireturn, 1) := by decide +kernel
theorem dX7_text_27 : decode cX7_text 27 = .ok (.aload_n 0, 1) := by decide +kernel
theorem dX7_text_28 : decode cX7_text 28 = .ok (.iload_n 1, 1) := by decide +kernel
theorem dX7_text_29 : decode cX7_text 29 = .ok (.invokevirtual 191, 3) := by decide +kernel
theorem dX7_text_32 : decode cX7_text 32 = .ok (.aload_n 0, 1) := by decide +kernel
theorem dX7_text_33 : decode cX7_text 33 = .ok (.invokevirtual 224, 3) := by decide +kernel
theorem dX7_text_36 : decode cX7_text 36 = .ok (.iload_n 2, 1) := by decide +kernel
theorem dX7_text_37 : decode cX7_text 37 = .ok (.iconst (-1), 1) := by decide +kernel
theorem dX7_text_38 : decode cX7_text 38 = .ok (.if_icmp .ne 10, 3) := by decide +kernel
theorem dX7_text_41 : decode cX7_text 41 = .ok (.aload_n 0, 1) := by decide +kernel
theorem dX7_text_42 : decode cX7_text 42 = .ok (.getfield 208, 3) := by decide +kernel
theorem dX7_text_45 : decode cX7_text 45 = .ok (.goto 28, 3) := by decide +kernel
theorem dX7_text_48 : decode cX7_text 48 = .ok (.iload_n 2, 1) := by decide +kernel
theorem dX7_text_49 : decode cX7_text 49 = .ok (.iconst 0, 1) := by decide +kernel
theorem dX7_text_50 : decode cX7_text 50 = .ok (.aload_n 0, 1) := by decide +kernel
theorem dX7_text_51 : decode cX7_text 51 = .ok (.getfield 208, 3) := by decide +kernel
theorem dX7_text_54 : decode cX7_text 54 = .ok (.iconst 1, 1) := by decide +kernel
theorem dX7_text_55 : decode cX7_text 55 = .ok (.isub, 1) := by decide +kernel
theorem dX7_text_56 : decode cX7_text 56 = .ok (.invokestatic 138, 3) := by decide +kernel
theorem dX7_text_59 : decode cX7_text 59 = .ok (.ifCond .eq 12, 3) := by decide +kernel
theorem dX7_text_62 : decode cX7_text 62 = .ok (.aload_n 0, 1) := by decide +kernel
theorem dX7_text_63 : decode cX7_text 63 = .ok (.getfield 83, 3) := by decide +kernel
theorem dX7_text_66 : decode cX7_text 66 = .ok (.iload_n 2, 1) := by decide +kernel
theorem dX7_text_67 : decode cX7_text 67 = .ok (.iaload, 1) := by decide +kernel
theorem dX7_text_68 : decode cX7_text 68 = .ok (.goto 5, 3) := by decide +kernel
theorem dX7_text_71 : decode cX7_text 71 = .ok (.bipush (-2), 2) := by decide +kernel
theorem dX7_text_73 : decode cX7_text 73 = .ok (.ireturn, 1) := by decide +kernel
theorem dX7_feed_0 : decode cX7_feed 0 = .ok (.aload_n 0, 1) := by decide +kernel
theorem dX7_feed_1 : decode cX7_feed 1 = .ok (.getfield 227, 3) := by decide +kernel
theorem dX7_feed_4 : decode cX7_feed 4 = .ok (.sipush 300, 3) := by decide +kernel
theorem dX7_feed_7 : decode cX7_feed 7 = .ok (.if_icmp .ne 6, 3) := by decide +kernel
theorem dX7_feed_10 : decode cX7_feed 10 = .ok (.bipush (-4), 2) := by decide +kernel
theorem dX7_feed_12 : decode cX7_feed 12 = .ok (.ireturn, 1) := by decide +kernel
theorem dX7_feed_13 : decode cX7_feed 13 = .ok (.aload_n 0, 1) := by decide +kernel
theorem dX7_feed_14 : decode cX7_feed 14 = .ok (.getfield 28, 3) := by decide +kernel
theorem dX7_feed_17 : decode cX7_feed 17 = .ok (.aload_n 0, 1) := by decide +kernel
theorem dX7_feed_18 : decode cX7_feed 18 = .ok (.getfield 227, 3) := by decide +kernel
theorem dX7_feed_21 : decode cX7_feed 21 = .ok (.iload_n 1, 1) := by decide +kernel
theorem dX7_feed_22 : decode cX7_feed 22 = .ok (.iastore, 1) := by decide +kernel
theorem dX7_feed_23 : decode cX7_feed 23 = .ok (.aload_n 0, 1) := by decide +kernel
theorem dX7_feed_24 : decode cX7_feed 24 = .ok (.dup, 1) := by decide +kernel
theorem dX7_feed_25 : decode cX7_feed 25 = .ok (.getfield 227, 3) := by decide +kernel
theorem dX7_feed_28 : decode cX7_feed 28 = .ok (.iconst 1, 1) := by decide +kernel
theorem dX7_feed_29 : decode cX7_feed 29 = .ok (.iadd, 1) := by decide +kernel
theorem dX7_feed_30 : decode cX7_feed 30 = .ok (.putfield 227, 3) := by decide +kernel
theorem dX7_feed_33 : decode cX7_feed 33 = .ok (.aload_n 0, 1) := by decide +kernel
theorem dX7_feed_34 : decode cX7_feed 34 = .ok (.getfield 227, 3) := by decide +kernel
theorem dX7_feed_37 : decode cX7_feed 37 = .ok (.ireturn, 1) := by decide +kernel
theorem dX7_copy_0 : decode cX7_copy 0 = .ok (.aload_n 0, 1) := by decide +kernel
theorem dX7_copy_1 : decode cX7_copy 1 = .ok (.iload_n 1, 1) := by decide +kernel
theorem dX7_copy_2 : decode cX7_copy 2 = .ok (.invokevirtual 142, 3) := by decide +kernel
theorem dX7_copy_5 : decode cX7_copy 5 = .ok (.ifCond .ne 6, 3) := by decide +kernel
theorem dX7_copy_8 : decode cX7_copy 8 = .ok (.bipush (-2), 2) := by decide +kernel
theorem dX7_copy_10 : decode cX7_copy 10 = .ok (.ireturn, 1) := by decide +kernel
theorem dX7_copy_11 : decode cX7_copy 11 = .ok (.aload_n 0, 1) := by decide +kernel
theorem dX7_copy_12 : decode cX7_copy 12 = .ok (.iload_n 1, 1) := by decide +kernel
theorem dX7_copy_13 : decode cX7_copy 13 = .ok (.invokevirtual 184, 3) := by decide +kernel
theorem dX7_copy_16 : decode cX7_copy 16 = .ok (.ifCond .ne 6, 3) := by decide +kernel
theorem dX7_copy_19 : decode cX7_copy 19 = .ok (.bipush (-3), 2) := by decide +kernel
theorem dX7_copy_21 : decode cX7_copy 21 = .ok (.ireturn, 1) := by decide +kernel
theorem dX7_copy_22 : decode cX7_copy 22 = .ok (.aload_n 0, 1) := by decide +kernel
theorem dX7_copy_23 : decode cX7_copy 23 = .ok (.iload_n 1, 1) := by decide +kernel
theorem dX7_copy_24 : decode cX7_copy 24 = .ok (.invokevirtual 191, 3) := by decide +kernel
theorem dX7_copy_27 : decode cX7_copy 27 = .ok (.aload_n 0, 1) := by decide +kernel
theorem dX7_copy_28 : decode cX7_copy 28 = .ok (.invokevirtual 224, 3) := by decide +kernel
theorem dX7_copy_31 : decode cX7_copy 31 = .ok (.aload_n 0, 1) := by decide +kernel
theorem dX7_copy_32 : decode cX7_copy 32 = .ok (.getfield 227, 3) := by decide +kernel
theorem dX7_copy_35 : decode cX7_copy 35 = .ok (.aload_n 0, 1) := by decide +kernel
theorem dX7_copy_36 : decode cX7_copy 36 = .ok (.getfield 208, 3) := by decide +kernel
theorem dX7_copy_39 : decode cX7_copy 39 = .ok (.iadd, 1) := by decide +kernel
theorem dX7_copy_40 : decode cX7_copy 40 = .ok (.sipush 300, 3) := by decide +kernel
theorem dX7_copy_43 : decode cX7_copy 43 = .ok (.if_icmp .le 6, 3) := by decide +kernel
theorem dX7_copy_46 : decode cX7_copy 46 = .ok (.bipush (-4), 2) := by decide +kernel
theorem dX7_copy_48 : decode cX7_copy 48 = .ok (.ireturn, 1) := by decide +kernel
theorem dX7_copy_49 : decode cX7_copy 49 = .ok (.iconst 0, 1) := by decide +kernel
theorem dX7_copy_50 : decode cX7_copy 50 = .ok (.istore_n 2, 1) := by decide +kernel
theorem dX7_copy_51 : decode cX7_copy 51 = .ok (.iload_n 2, 1) := by decide +kernel
theorem dX7_copy_52 : decode cX7_copy 52 = .ok (.aload_n 0, 1) := by decide +kernel
theorem dX7_copy_53 : decode cX7_copy 53 = .ok (.getfield 208, 3) := by decide +kernel
theorem dX7_copy_56 : decode cX7_copy 56 = .ok (.if_icmp .ge 26, 3) := by decide +kernel
theorem dX7_copy_59 : decode cX7_copy 59 = .ok (.aload_n 0, 1) := by decide +kernel
theorem dX7_copy_60 : decode cX7_copy 60 = .ok (.getfield 28, 3) := by decide +kernel
theorem dX7_copy_63 : decode cX7_copy 63 = .ok (.aload_n 0, 1) := by decide +kernel
theorem dX7_copy_64 : decode cX7_copy 64 = .ok (.getfield 227, 3) := by decide +kernel
theorem dX7_copy_67 : decode cX7_copy 67 = .ok (.iload_n 2, 1) := by decide +kernel
theorem dX7_copy_68 : decode cX7_copy 68 = .ok (.iadd, 1) := by decide +kernel
theorem dX7_copy_69 : decode cX7_copy 69 = .ok (.aload_n 0, 1) := by decide +kernel
theorem dX7_copy_70 : decode cX7_copy 70 = .ok (.getfield 83, 3) := by decide +kernel
theorem dX7_copy_73 : decode cX7_copy 73 = .ok (.iload_n 2, 1) := by decide +kernel
theorem dX7_copy_74 : decode cX7_copy 74 = .ok (.iaload, 1) := by decide +kernel
theorem dX7_copy_75 : decode cX7_copy 75 = .ok (.iastore, 1) := by decide +kernel
theorem dX7_copy_76 : decode cX7_copy 76 = .ok (.iinc 2 1, 3) := by decide +kernel
theorem dX7_copy_79 : decode cX7_copy 79 = .ok (.goto (-28), 3) := by decide +kernel
theorem dX7_copy_82 : decode cX7_copy 82 = .ok (.aload_n 0, 1) := by decide +kernel
theorem dX7_copy_83 : decode cX7_copy 83 = .ok (.dup, 1) := by decide +kernel
theorem dX7_copy_84 : decode cX7_copy 84 = .ok (.getfield 227, 3) := by decide +kernel
theorem dX7_copy_87 : decode cX7_copy 87 = .ok (.aload_n 0, 1) := by decide +kernel
theorem dX7_copy_88 : decode cX7_copy 88 = .ok (.getfield 208, 3) := by decide +kernel
theorem dX7_copy_91 : decode cX7_copy 91 = .ok (.iadd, 1) := by decide +kernel
theorem dX7_copy_92 : decode cX7_copy 92 = .ok (.putfield 227, 3) := by decide +kernel
theorem dX7_copy_95 : decode cX7_copy 95 = .ok (.aload_n 0, 1) := by decide +kernel
theorem dX7_copy_96 : decode cX7_copy 96 = .ok (.getfield 227, 3) := by decide +kernel
theorem dX7_copy_99 : decode cX7_copy 99 = .ok (.ireturn, 1) := by decide +kernel
theorem dX7_clear_0 : decode cX7_clear 0 = .ok (.aload_n 0, 1) := by decide +kernel
theorem dX7_clear_1 : decode cX7_clear 1 = .ok (.getfield 227, 3) := by decide +kernel
theorem dX7_clear_4 : decode cX7_clear 4 = .ok (.istore_n 1, 1) := by decide +kernel
theorem dX7_clear_5 : decode cX7_clear 5 = .ok (.aload_n 0, 1) := by decide +kernel
theorem dX7_clear_6 : decode cX7_clear 6 = .ok (.iconst 0, 1) := by decide +kernel
theorem dX7_clear_7 : decode cX7_clear 7 = .ok (.putfield 227, 3) := by decide +kernel
theorem dX7_clear_10 : decode cX7_clear 10 = .ok (.iload_n 1, 1) := by decide +kernel
theorem dX7_clear_11 : decode cX7_clear 11 = .ok (.ireturn, 1) := by decide +kernel
theorem dX7_next_0 : decode cX7_next 0 = .ok (.aload_n 0, 1) := by decide +kernel
theorem dX7_next_1 : decode cX7_next 1 = .ok (.getfield 230, 3) := by decide +kernel
theorem dX7_next_4 : decode cX7_next 4 = .ok (.ifCond .eq 5, 3) := by decide +kernel
theorem dX7_next_7 : decode cX7_next 7 = .ok (.iconst 0, 1) := by decide +kernel
theorem dX7_next_8 : decode cX7_next 8 = .ok (.ireturn, 1) := by decide +kernel
theorem dX7_next_9 : decode cX7_next 9 = .ok (.aload_n 0, 1) := by decide +kernel
theorem dX7_next_10 : decode cX7_next 10 = .ok (.getfield 233, 3) := by decide +kernel
theorem dX7_next_13 : decode cX7_next 13 = .ok (.aload_n 0, 1) := by decide +kernel
theorem dX7_next_14 : decode cX7_next 14 = .ok (.getfield 227, 3) := by decide +kernel
theorem dX7_next_17 : decode cX7_next 17 = .ok (.if_icmp .ne 10, 3) := by decide +kernel
theorem dX7_next_20 : decode cX7_next 20 = .ok (.aload_n 0, 1) := by decide +kernel
theorem dX7_next_21 : decode cX7_next 21 = .ok (.iconst 1, 1) := by decide +kernel
theorem dX7_next_22 : decode cX7_next 22 = .ok (.putfield 230, 3) := by decide +kernel
theorem dX7_next_25 : decode cX7_next 25 = .ok (.iconst 0, 1) := by decide +kernel
theorem dX7_next_26 : decode cX7_next 26 = .ok (.ireturn, 1) := by decide +kernel
theorem dX7_next_27 : decode cX7_next 27 = .ok (.aload_n 0, 1) := by decide +kernel
theorem dX7_next_28 : decode cX7_next 28 = .ok (.dup, 1) := by decide +kernel
theorem dX7_next_29 : decode cX7_next 29 = .ok (.getfield 233, 3) := by decide +kernel
theorem dX7_next_32 : decode cX7_next 32 = .ok (.iconst 1, 1) := by decide +kernel
theorem dX7_next_33 : decode cX7_next 33 = .ok (.iadd, 1) := by decide +kernel
theorem dX7_next_34 : decode cX7_next 34 = .ok (.putfield 233, 3) := by decide +kernel
theorem dX7_next_37 : decode cX7_next 37 = .ok (.aload_n 0, 1) := by decide +kernel
theorem dX7_next_38 : decode cX7_next 38 = .ok (.getfield 28, 3) := by decide +kernel
theorem dX7_next_41 : decode cX7_next 41 = .ok (.aload_n 0, 1) := by decide +kernel
theorem dX7_next_42 : decode cX7_next 42 = .ok (.getfield 233, 3) := by decide +kernel
theorem dX7_next_45 : decode cX7_next 45 = .ok (.iconst 1, 1) := by decide +kernel
theorem dX7_next_46 : decode cX7_next 46 = .ok (.isub, 1) := by decide +kernel
theorem dX7_next_47 : decode cX7_next 47 = .ok (.iaload, 1) := by decide +kernel
theorem dX7_next_48 : decode cX7_next 48 = .ok (.ireturn, 1) := by decide +kernel
theorem dX7_wrong_0 : decode cX7_wrong 0 = .ok (.aload_n 0, 1) := by decide +kernel
theorem dX7_wrong_1 : decode cX7_wrong 1 = .ok (.getfield 230, 3) := by decide +kernel
theorem dX7_wrong_4 : decode cX7_wrong 4 = .ok (.ifCond .ne 18, 3) := by decide +kernel
theorem dX7_wrong_7 : decode cX7_wrong 7 = .ok (.aload_n 0, 1) := by decide +kernel
theorem dX7_wrong_8 : decode cX7_wrong 8 = .ok (.iload_n 1, 1) := by decide +kernel
theorem dX7_wrong_9 : decode cX7_wrong 9 = .ok (.putfield 230, 3) := by decide +kernel
theorem dX7_wrong_12 : decode cX7_wrong 12 = .ok (.aload_n 0, 1) := by decide +kernel
theorem dX7_wrong_13 : decode cX7_wrong 13 = .ok (.dup, 1) := by decide +kernel
theorem dX7_wrong_14 : decode cX7_wrong 14 = .ok (.getfield 233, 3) := by decide +kernel
theorem dX7_wrong_17 : decode cX7_wrong 17 = .ok (.iconst 1, 1) := by decide +kernel
theorem dX7_wrong_18 : decode cX7_wrong 18 = .ok (.isub, 1) := by decide +kernel
theorem dX7_wrong_19 : decode cX7_wrong 19 = .ok (.putfield 233, 3) := by decide +kernel
theorem dX7_wrong_22 : decode cX7_wrong 22 = .ok (.return_, 1) := by decide +kernel
theorem dX7_make_0 : decode cX7_make 0 = .ok (.aload_n 0, 1) := by decide +kernel
theorem dX7_make_1 : decode cX7_make 1 = .ok (.getfield 236, 3) := by decide +kernel
theorem dX7_make_4 : decode cX7_make 4 = .ok (.sipush 400, 3) := by decide +kernel
theorem dX7_make_7 : decode cX7_make 7 = .ok (.if_icmp .ge 64, 3) := by decide +kernel
theorem dX7_make_10 : decode cX7_make 10 = .ok (.aload_n 0, 1) := by decide +kernel
theorem dX7_make_11 : decode cX7_make 11 = .ok (.getfield 93, 3) := by decide +kernel
theorem dX7_make_14 : decode cX7_make 14 = .ok (.aload_n 0, 1) := by decide +kernel
theorem dX7_make_15 : decode cX7_make 15 = .ok (.getfield 236, 3) := by decide +kernel
theorem dX7_make_18 : decode cX7_make 18 = .ok (.iload_n 1, 1) := by decide +kernel
theorem dX7_make_19 : decode cX7_make 19 = .ok (.iastore, 1) := by decide +kernel
theorem dX7_make_20 : decode cX7_make 20 = .ok (.aload_n 0, 1) := by decide +kernel
theorem dX7_make_21 : decode cX7_make 21 = .ok (.getfield 96, 3) := by decide +kernel
theorem dX7_make_24 : decode cX7_make 24 = .ok (.aload_n 0, 1) := by decide +kernel
theorem dX7_make_25 : decode cX7_make 25 = .ok (.getfield 236, 3) := by decide +kernel
theorem dX7_make_28 : decode cX7_make 28 = .ok (.iload_n 2, 1) := by decide +kernel
theorem dX7_make_29 : decode cX7_make 29 = .ok (.iastore, 1) := by decide +kernel
theorem dX7_make_30 : decode cX7_make 30 = .ok (.aload_n 0, 1) := by decide +kernel
theorem dX7_make_31 : decode cX7_make 31 = .ok (.getfield 99, 3) := by decide +kernel
theorem dX7_make_34 : decode cX7_make 34 = .ok (.aload_n 0, 1) := by decide +kernel
theorem dX7_make_35 : decode cX7_make 35 = .ok (.getfield 236, 3) := by decide +kernel
theorem dX7_make_38 : decode cX7_make 38 = .ok (.iload_n 3, 1) := by decide +kernel
theorem dX7_make_39 : decode cX7_make 39 = .ok (.iastore, 1) := by decide +kernel
theorem dX7_make_40 : decode cX7_make 40 = .ok (.aload_n 0, 1) := by decide +kernel
theorem dX7_make_41 : decode cX7_make 41 = .ok (.getfield 102, 3) := by decide +kernel
theorem dX7_make_44 : decode cX7_make 44 = .ok (.aload_n 0, 1) := by decide +kernel
theorem dX7_make_45 : decode cX7_make 45 = .ok (.getfield 236, 3) := by decide +kernel
theorem dX7_make_48 : decode cX7_make 48 = .ok (.iload 4, 2) := by decide +kernel
theorem dX7_make_50 : decode cX7_make 50 = .ok (.iastore, 1) := by decide +kernel
theorem dX7_make_51 : decode cX7_make 51 = .ok (.aload_n 0, 1) := by decide +kernel
theorem dX7_make_52 : decode cX7_make 52 = .ok (.getfield 105, 3) := by decide +kernel
theorem dX7_make_55 : decode cX7_make 55 = .ok (.aload_n 0, 1) := by decide +kernel
theorem dX7_make_56 : decode cX7_make 56 = .ok (.getfield 236, 3) := by decide +kernel
theorem dX7_make_59 : decode cX7_make 59 = .ok (.iconst 0, 1) := by decide +kernel
theorem dX7_make_60 : decode cX7_make 60 = .ok (.iastore, 1) := by decide +kernel
theorem dX7_make_61 : decode cX7_make 61 = .ok (.aload_n 0, 1) := by decide +kernel
theorem dX7_make_62 : decode cX7_make 62 = .ok (.dup, 1) := by decide +kernel
theorem dX7_make_63 : decode cX7_make 63 = .ok (.getfield 236, 3) := by decide +kernel
theorem dX7_make_66 : decode cX7_make 66 = .ok (.iconst 1, 1) := by decide +kernel
theorem dX7_make_67 : decode cX7_make 67 = .ok (.iadd, 1) := by decide +kernel
theorem dX7_make_68 : decode cX7_make 68 = .ok (.putfield 236, 3) := by decide +kernel
theorem dX7_make_71 : decode cX7_make 71 = .ok (.return_, 1) := by decide +kernel
theorem dX7_testing_0 : decode cX7_testing 0 = .ok (.aload_n 0, 1) := by decide +kernel
theorem dX7_testing_1 : decode cX7_testing 1 = .ok (.invokevirtual 239, 3) := by decide +kernel
theorem dX7_testing_4 : decode cX7_testing 4 = .ok (.istore_n 2, 1) := by decide +kernel
theorem dX7_testing_5 : decode cX7_testing 5 = .ok (.iload_n 2, 1) := by decide +kernel
theorem dX7_testing_6 : decode cX7_testing 6 = .ok (.iconst 0, 1) := by decide +kernel
theorem dX7_testing_7 : decode cX7_testing 7 = .ok (.iload_n 1, 1) := by decide +kernel
theorem dX7_testing_8 : decode cX7_testing 8 = .ok (.ifCond .ne 7, 3) := by decide +kernel
theorem dX7_testing_11 : decode cX7_testing 11 = .ok (.iconst 3, 1) := by decide +kernel
theorem dX7_testing_12 : decode cX7_testing 12 = .ok (.goto 4, 3) := by decide +kernel
theorem dX7_testing_15 : decode cX7_testing 15 = .ok (.iconst 5, 1) := by decide +kernel
theorem dX7_testing_16 : decode cX7_testing 16 = .ok (.invokestatic 138, 3) := by decide +kernel
theorem dX7_testing_19 : decode cX7_testing 19 = .ok (.ifCond .ne 8, 3) := by decide +kernel
theorem dX7_testing_22 : decode cX7_testing 22 = .ok (.aload_n 0, 1) := by decide +kernel
theorem dX7_testing_23 : decode cX7_testing 23 = .ok (.iconst 4, 1) := by decide +kernel
theorem dX7_testing_24 : decode cX7_testing 24 = .ok (.invokevirtual 243, 3) := by decide +kernel
theorem dX7_testing_27 : decode cX7_testing 27 = .ok (.iload_n 2, 1) := by decide +kernel
theorem dX7_testing_28 : decode cX7_testing 28 = .ok (.ireturn, 1) := by decide +kernel
theorem dX7_beginBody_0 : decode cX7_beginBody 0 = .ok (.aload_n 0, 1) := by decide +kernel
theorem dX7_beginBody_1 : decode cX7_beginBody 1 = .ok (.invokevirtual 239, 3) := by decide +kernel
theorem dX7_beginBody_4 : decode cX7_beginBody 4 = .ok (.istore 5, 2) := by decide +kernel
theorem dX7_beginBody_6 : decode cX7_beginBody 6 = .ok (.aload_n 0, 1) := by decide +kernel
theorem dX7_beginBody_7 : decode cX7_beginBody 7 = .ok (.getfield 230, 3) := by decide +kernel
theorem dX7_beginBody_10 : decode cX7_beginBody 10 = .ok (.ifCond .ne 20, 3) := by decide +kernel
theorem dX7_beginBody_13 : decode cX7_beginBody 13 = .ok (.aload_n 0, 1) := by decide +kernel
theorem dX7_beginBody_14 : decode cX7_beginBody 14 = .ok (.getfield 246, 3) := by decide +kernel
theorem dX7_beginBody_17 : decode cX7_beginBody 17 = .ok (.bipush 61, 2) := by decide +kernel
theorem dX7_beginBody_19 : decode cX7_beginBody 19 = .ok (.if_icmp .ne 11, 3) := by decide +kernel
theorem dX7_beginBody_22 : decode cX7_beginBody 22 = .ok (.aload_n 0, 1) := by decide +kernel
theorem dX7_beginBody_23 : decode cX7_beginBody 23 = .ok (.iconst 2, 1) := by decide +kernel
theorem dX7_beginBody_24 : decode cX7_beginBody 24 = .ok (.invokevirtual 243, 3) := by decide +kernel
theorem dX7_beginBody_27 : decode cX7_beginBody 27 = .ok (.goto 13, 3) := by decide +kernel
theorem dX7_beginBody_30 : decode cX7_beginBody 30 = .ok (.iload 5, 2) := by decide +kernel
theorem dX7_beginBody_32 : decode cX7_beginBody 32 = .ok (.ifCond .ge 8, 3) := by decide +kernel
theorem dX7_beginBody_35 : decode cX7_beginBody 35 = .ok (.aload_n 0, 1) := by decide +kernel
theorem dX7_beginBody_36 : decode cX7_beginBody 36 = .ok (.iconst 3, 1) := by decide +kernel
theorem dX7_beginBody_37 : decode cX7_beginBody 37 = .ok (.invokevirtual 243, 3) := by decide +kernel
theorem dX7_beginBody_40 : decode cX7_beginBody 40 = .ok (.aload_n 0, 1) := by decide +kernel
theorem dX7_beginBody_41 : decode cX7_beginBody 41 = .ok (.getfield 230, 3) := by decide +kernel
theorem dX7_beginBody_44 : decode cX7_beginBody 44 = .ok (.ifCond .ne 78, 3) := by decide +kernel
theorem dX7_beginBody_47 : decode cX7_beginBody 47 = .ok (.aload_n 0, 1) := by decide +kernel
theorem dX7_beginBody_48 : decode cX7_beginBody 48 = .ok (.getfield 111, 3) := by decide +kernel
theorem dX7_beginBody_51 : decode cX7_beginBody 51 = .ok (.aload_n 0, 1) := by decide +kernel
theorem dX7_beginBody_52 : decode cX7_beginBody 52 = .ok (.getfield 246, 3) := by decide +kernel
theorem dX7_beginBody_55 : decode cX7_beginBody 55 = .ok (.iload 5, 2) := by decide +kernel
theorem dX7_beginBody_57 : decode cX7_beginBody 57 = .ok (.iastore, 1) := by decide +kernel
theorem dX7_beginBody_58 : decode cX7_beginBody 58 = .ok (.aload_n 0, 1) := by decide +kernel
theorem dX7_beginBody_59 : decode cX7_beginBody 59 = .ok (.getfield 114, 3) := by decide +kernel
theorem dX7_beginBody_62 : decode cX7_beginBody 62 = .ok (.aload_n 0, 1) := by decide +kernel
theorem dX7_beginBody_63 : decode cX7_beginBody 63 = .ok (.getfield 246, 3) := by decide +kernel
theorem dX7_beginBody_66 : decode cX7_beginBody 66 = .ok (.iload_n 1, 1) := by decide +kernel
theorem dX7_beginBody_67 : decode cX7_beginBody 67 = .ok (.iastore, 1) := by decide +kernel
theorem dX7_beginBody_68 : decode cX7_beginBody 68 = .ok (.aload_n 0, 1) := by decide +kernel
theorem dX7_beginBody_69 : decode cX7_beginBody 69 = .ok (.getfield 117, 3) := by decide +kernel
theorem dX7_beginBody_72 : decode cX7_beginBody 72 = .ok (.aload_n 0, 1) := by decide +kernel
theorem dX7_beginBody_73 : decode cX7_beginBody 73 = .ok (.getfield 246, 3) := by decide +kernel
theorem dX7_beginBody_76 : decode cX7_beginBody 76 = .ok (.aload_n 0, 1) := by decide +kernel
theorem dX7_beginBody_77 : decode cX7_beginBody 77 = .ok (.getfield 236, 3) := by decide +kernel
theorem dX7_beginBody_80 : decode cX7_beginBody 80 = .ok (.iastore, 1) := by decide +kernel
theorem dX7_beginBody_81 : decode cX7_beginBody 81 = .ok (.aload_n 0, 1) := by decide +kernel
theorem dX7_beginBody_82 : decode cX7_beginBody 82 = .ok (.getfield 120, 3) := by decide +kernel
theorem dX7_beginBody_85 : decode cX7_beginBody 85 = .ok (.aload_n 0, 1) := by decide +kernel
theorem dX7_beginBody_86 : decode cX7_beginBody 86 = .ok (.getfield 246, 3) := by decide +kernel
theorem dX7_beginBody_89 : decode cX7_beginBody 89 = .ok (.iload_n 2, 1) := by decide +kernel
theorem dX7_beginBody_90 : decode cX7_beginBody 90 = .ok (.iastore, 1) := by decide +kernel
theorem dX7_beginBody_91 : decode cX7_beginBody 91 = .ok (.aload_n 0, 1) := by decide +kernel
theorem dX7_beginBody_92 : decode cX7_beginBody 92 = .ok (.getfield 123, 3) := by decide +kernel
theorem dX7_beginBody_95 : decode cX7_beginBody 95 = .ok (.aload_n 0, 1) := by decide +kernel
theorem dX7_beginBody_96 : decode cX7_beginBody 96 = .ok (.getfield 246, 3) := by decide +kernel
theorem dX7_beginBody_99 : decode cX7_beginBody 99 = .ok (.iload_n 3, 1) := by decide +kernel
theorem dX7_beginBody_100 : decode cX7_beginBody 100 = .ok (.iastore, 1) := by decide +kernel
theorem dX7_beginBody_101 : decode cX7_beginBody 101 = .ok (.aload_n 0, 1) := by decide +kernel
theorem dX7_beginBody_102 : decode cX7_beginBody 102 = .ok (.getfield 126, 3) := by decide +kernel
theorem dX7_beginBody_105 : decode cX7_beginBody 105 = .ok (.aload_n 0, 1) := by decide +kernel
theorem dX7_beginBody_106 : decode cX7_beginBody 106 = .ok (.getfield 246, 3) := by decide +kernel
theorem dX7_beginBody_109 : decode cX7_beginBody 109 = .ok (.iload 4, 2) := by decide +kernel
theorem dX7_beginBody_111 : decode cX7_beginBody 111 = .ok (.iastore, 1) := by decide +kernel
theorem dX7_beginBody_112 : decode cX7_beginBody 112 = .ok (.aload_n 0, 1) := by decide +kernel
theorem dX7_beginBody_113 : decode cX7_beginBody 113 = .ok (.dup, 1) := by decide +kernel
theorem dX7_beginBody_114 : decode cX7_beginBody 114 = .ok (.getfield 246, 3) := by decide +kernel
theorem dX7_beginBody_117 : decode cX7_beginBody 117 = .ok (.iconst 1, 1) := by decide +kernel
theorem dX7_beginBody_118 : decode cX7_beginBody 118 = .ok (.iadd, 1) := by decide +kernel
theorem dX7_beginBody_119 : decode cX7_beginBody 119 = .ok (.putfield 246, 3) := by decide +kernel
theorem dX7_beginBody_122 : decode cX7_beginBody 122 = .ok (.return_, 1) := by decide +kernel
theorem dX7_innermost_0 : decode cX7_innermost 0 = .ok (.iconst (-1), 1) := by decide +kernel
theorem dX7_innermost_1 : decode cX7_innermost 1 = .ok (.istore_n 1, 1) := by decide +kernel
theorem dX7_innermost_2 : decode cX7_innermost 2 = .ok (.iconst 0, 1) := by decide +kernel
theorem dX7_innermost_3 : decode cX7_innermost 3 = .ok (.istore_n 2, 1) := by decide +kernel
theorem dX7_innermost_4 : decode cX7_innermost 4 = .ok (.iload_n 2, 1) := by decide +kernel
theorem dX7_innermost_5 : decode cX7_innermost 5 = .ok (.aload_n 0, 1) := by decide +kernel
theorem dX7_innermost_6 : decode cX7_innermost 6 = .ok (.getfield 246, 3) := by decide +kernel
theorem dX7_innermost_9 : decode cX7_innermost 9 = .ok (.if_icmp .ge 29, 3) := by decide +kernel
theorem dX7_innermost_12 : decode cX7_innermost 12 = .ok (.aload_n 0, 1) := by decide +kernel
theorem dX7_innermost_13 : decode cX7_innermost 13 = .ok (.getfield 114, 3) := by decide +kernel
theorem dX7_innermost_16 : decode cX7_innermost 16 = .ok (.iload_n 2, 1) := by decide +kernel
theorem dX7_innermost_17 : decode cX7_innermost 17 = .ok (.iaload, 1) := by decide +kernel
theorem dX7_innermost_18 : decode cX7_innermost 18 = .ok (.iconst 3, 1) := by decide +kernel
theorem dX7_innermost_19 : decode cX7_innermost 19 = .ok (.iconst 5, 1) := by decide +kernel
theorem dX7_innermost_20 : decode cX7_innermost 20 = .ok (.invokestatic 138, 3) := by decide +kernel
theorem dX7_innermost_23 : decode cX7_innermost 23 = .ok (.ifCond .eq 7, 3) := by decide +kernel
theorem dX7_innermost_26 : decode cX7_innermost 26 = .ok (.iload_n 2, 1) := by decide +kernel
theorem dX7_innermost_27 : decode cX7_innermost 27 = .ok (.goto 4, 3) := by decide +kernel
theorem dX7_innermost_30 : decode cX7_innermost 30 = .ok (.iload_n 1, 1) := by decide +kernel
theorem dX7_innermost_31 : decode cX7_innermost 31 = .ok (.istore_n 1, 1) := by decide +kernel
theorem dX7_innermost_32 : decode cX7_innermost 32 = .ok (.iinc 2 1, 3) := by decide +kernel
theorem dX7_innermost_35 : decode cX7_innermost 35 = .ok (.goto (-31), 3) := by decide +kernel
theorem dX7_innermost_38 : decode cX7_innermost 38 = .ok (.iload_n 1, 1) := by decide +kernel
theorem dX7_innermost_39 : decode cX7_innermost 39 = .ok (.ireturn, 1) := by decide +kernel
theorem dX7_leave_0 : decode cX7_leave 0 = .ok (.aload_n 0, 1) := by decide +kernel
theorem dX7_leave_1 : decode cX7_leave 1 = .ok (.iload_n 2, 1) := by decide +kernel
theorem dX7_leave_2 : decode cX7_leave 2 = .ok (.ifCond .eq 7, 3) := by decide +kernel
theorem dX7_leave_5 : decode cX7_leave 5 = .ok (.iconst 3, 1) := by decide +kernel
theorem dX7_leave_6 : decode cX7_leave 6 = .ok (.goto 4, 3) := by decide +kernel
theorem dX7_leave_9 : decode cX7_leave 9 = .ok (.iconst 2, 1) := by decide +kernel
theorem dX7_leave_10 : decode cX7_leave 10 = .ok (.iload_n 3, 1) := by decide +kernel
theorem dX7_leave_11 : decode cX7_leave 11 = .ok (.iload 4, 2) := by decide +kernel
theorem dX7_leave_13 : decode cX7_leave 13 = .ok (.iconst 0, 1) := by decide +kernel
theorem dX7_leave_14 : decode cX7_leave 14 = .ok (.invokevirtual 249, 3) := by decide +kernel
theorem dX7_leave_17 : decode cX7_leave 17 = .ok (.aload_n 0, 1) := by decide +kernel
theorem dX7_leave_18 : decode cX7_leave 18 = .ok (.getfield 105, 3) := by decide +kernel
theorem dX7_leave_21 : decode cX7_leave 21 = .ok (.aload_n 0, 1) := by decide +kernel
theorem dX7_leave_22 : decode cX7_leave 22 = .ok (.getfield 236, 3) := by decide +kernel
theorem dX7_leave_25 : decode cX7_leave 25 = .ok (.iconst 1, 1) := by decide +kernel
theorem dX7_leave_26 : decode cX7_leave 26 = .ok (.isub, 1) := by decide +kernel
theorem dX7_leave_27 : decode cX7_leave 27 = .ok (.iload_n 1, 1) := by decide +kernel
theorem dX7_leave_28 : decode cX7_leave 28 = .ok (.iastore, 1) := by decide +kernel
theorem dX7_leave_29 : decode cX7_leave 29 = .ok (.aload_n 0, 1) := by decide +kernel
theorem dX7_leave_30 : decode cX7_leave 30 = .ok (.getfield 108, 3) := by decide +kernel
theorem dX7_leave_33 : decode cX7_leave 33 = .ok (.aload_n 0, 1) := by decide +kernel
theorem dX7_leave_34 : decode cX7_leave 34 = .ok (.getfield 236, 3) := by decide +kernel
theorem dX7_leave_37 : decode cX7_leave 37 = .ok (.iconst 1, 1) := by decide +kernel
theorem dX7_leave_38 : decode cX7_leave 38 = .ok (.isub, 1) := by decide +kernel
theorem dX7_leave_39 : decode cX7_leave 39 = .ok (.aload_n 0, 1) := by decide +kernel
theorem dX7_leave_40 : decode cX7_leave 40 = .ok (.invokevirtual 253, 3) := by decide +kernel
theorem dX7_leave_43 : decode cX7_leave 43 = .ok (.iastore, 1) := by decide +kernel
theorem dX7_leave_44 : decode cX7_leave 44 = .ok (.return_, 1) := by decide +kernel
theorem dX7_writeAct_0 : decode cX7_writeAct 0 = .ok (.aload_n 0, 1) := by decide +kernel
theorem dX7_writeAct_1 : decode cX7_writeAct 1 = .ok (.invokevirtual 239, 3) := by decide +kernel
theorem dX7_writeAct_4 : decode cX7_writeAct 4 = .ok (.istore_n 1, 1) := by decide +kernel
theorem dX7_writeAct_5 : decode cX7_writeAct 5 = .ok (.aload_n 0, 1) := by decide +kernel
theorem dX7_writeAct_6 : decode cX7_writeAct 6 = .ok (.getfield 230, 3) := by decide +kernel
theorem dX7_writeAct_9 : decode cX7_writeAct 9 = .ok (.ifCond .ne 27, 3) := by decide +kernel
theorem dX7_writeAct_12 : decode cX7_writeAct 12 = .ok (.iload_n 1, 1) := by decide +kernel
theorem dX7_writeAct_13 : decode cX7_writeAct 13 = .ok (.ifCond .eq 23, 3) := by decide +kernel
theorem dX7_writeAct_16 : decode cX7_writeAct 16 = .ok (.iload_n 1, 1) := by decide +kernel
theorem dX7_writeAct_17 : decode cX7_writeAct 17 = .ok (.iconst 1, 1) := by decide +kernel
theorem dX7_writeAct_18 : decode cX7_writeAct 18 = .ok (.if_icmp .eq 18, 3) := by decide +kernel
theorem dX7_writeAct_21 : decode cX7_writeAct 21 = .ok (.iload_n 1, 1) := by decide +kernel
theorem dX7_writeAct_22 : decode cX7_writeAct 22 = .ok (.iconst 4, 1) := by decide +kernel
theorem dX7_writeAct_23 : decode cX7_writeAct 23 = .ok (.if_icmp .eq 13, 3) := by decide +kernel
theorem dX7_writeAct_26 : decode cX7_writeAct 26 = .ok (.iload_n 1, 1) := by decide +kernel
theorem dX7_writeAct_27 : decode cX7_writeAct 27 = .ok (.iconst 5, 1) := by decide +kernel
theorem dX7_writeAct_28 : decode cX7_writeAct 28 = .ok (.if_icmp .eq 8, 3) := by decide +kernel
theorem dX7_writeAct_31 : decode cX7_writeAct 31 = .ok (.aload_n 0, 1) := by decide +kernel
theorem dX7_writeAct_32 : decode cX7_writeAct 32 = .ok (.iconst 4, 1) := by decide +kernel
theorem dX7_writeAct_33 : decode cX7_writeAct 33 = .ok (.invokevirtual 243, 3) := by decide +kernel
theorem dX7_writeAct_36 : decode cX7_writeAct 36 = .ok (.aload_n 0, 1) := by decide +kernel
theorem dX7_writeAct_37 : decode cX7_writeAct 37 = .ok (.invokevirtual 239, 3) := by decide +kernel
theorem dX7_writeAct_40 : decode cX7_writeAct 40 = .ok (.istore_n 2, 1) := by decide +kernel
theorem dX7_writeAct_41 : decode cX7_writeAct 41 = .ok (.aload_n 0, 1) := by decide +kernel
theorem dX7_writeAct_42 : decode cX7_writeAct 42 = .ok (.getfield 230, 3) := by decide +kernel
theorem dX7_writeAct_45 : decode cX7_writeAct 45 = .ok (.ifCond .ne 30, 3) := by decide +kernel
theorem dX7_writeAct_48 : decode cX7_writeAct 48 = .ok (.iload_n 1, 1) := by decide +kernel
theorem dX7_writeAct_49 : decode cX7_writeAct 49 = .ok (.iconst 4, 1) := by decide +kernel
theorem dX7_writeAct_50 : decode cX7_writeAct 50 = .ok (.if_icmp .ne 10, 3) := by decide +kernel
theorem dX7_writeAct_53 : decode cX7_writeAct 53 = .ok (.iload_n 2, 1) := by decide +kernel
theorem dX7_writeAct_54 : decode cX7_writeAct 54 = .ok (.ifCond .eq 21, 3) := by decide +kernel
theorem dX7_writeAct_57 : decode cX7_writeAct 57 = .ok (.goto 13, 3) := by decide +kernel
theorem dX7_writeAct_60 : decode cX7_writeAct 60 = .ok (.iload_n 1, 1) := by decide +kernel
theorem dX7_writeAct_61 : decode cX7_writeAct 61 = .ok (.iload_n 2, 1) := by decide +kernel
theorem dX7_writeAct_62 : decode cX7_writeAct 62 = .ok (.iconst 0, 1) := by decide +kernel
theorem dX7_writeAct_63 : decode cX7_writeAct 63 = .ok (.iconst 0, 1) := by decide +kernel
theorem dX7_writeAct_64 : decode cX7_writeAct 64 = .ok (.invokestatic 146, 3) := by decide +kernel
theorem dX7_writeAct_67 : decode cX7_writeAct 67 = .ok (.ifCond .ne 8, 3) := by decide +kernel
theorem dX7_writeAct_70 : decode cX7_writeAct 70 = .ok (.aload_n 0, 1) := by decide +kernel
theorem dX7_writeAct_71 : decode cX7_writeAct 71 = .ok (.iconst 4, 1) := by decide +kernel
theorem dX7_writeAct_72 : decode cX7_writeAct 72 = .ok (.invokevirtual 243, 3) := by decide +kernel
theorem dX7_writeAct_75 : decode cX7_writeAct 75 = .ok (.aload_n 0, 1) := by decide +kernel
theorem dX7_writeAct_76 : decode cX7_writeAct 76 = .ok (.invokevirtual 239, 3) := by decide +kernel
theorem dX7_writeAct_79 : decode cX7_writeAct 79 = .ok (.istore_n 3, 1) := by decide +kernel
theorem dX7_writeAct_80 : decode cX7_writeAct 80 = .ok (.aload_n 0, 1) := by decide +kernel
theorem dX7_writeAct_81 : decode cX7_writeAct 81 = .ok (.getfield 230, 3) := by decide +kernel
theorem dX7_writeAct_84 : decode cX7_writeAct 84 = .ok (.ifCond .ne 17, 3) := by decide +kernel
theorem dX7_writeAct_87 : decode cX7_writeAct 87 = .ok (.iload_n 1, 1) := by decide +kernel
theorem dX7_writeAct_88 : decode cX7_writeAct 88 = .ok (.iconst 1, 1) := by decide +kernel
theorem dX7_writeAct_89 : decode cX7_writeAct 89 = .ok (.if_icmp .eq 12, 3) := by decide +kernel
theorem dX7_writeAct_92 : decode cX7_writeAct 92 = .ok (.iload_n 3, 1) := by decide +kernel
theorem dX7_writeAct_93 : decode cX7_writeAct 93 = .ok (.ifCond .eq 8, 3) := by decide +kernel
theorem dX7_writeAct_96 : decode cX7_writeAct 96 = .ok (.aload_n 0, 1) := by decide +kernel
theorem dX7_writeAct_97 : decode cX7_writeAct 97 = .ok (.iconst 4, 1) := by decide +kernel
theorem dX7_writeAct_98 : decode cX7_writeAct 98 = .ok (.invokevirtual 243, 3) := by decide +kernel
theorem dX7_writeAct_101 : decode cX7_writeAct 101 = .ok (.aload_n 0, 1) := by decide +kernel
theorem dX7_writeAct_102 : decode cX7_writeAct 102 = .ok (.iload_n 1, 1) := by decide +kernel
theorem dX7_writeAct_103 : decode cX7_writeAct 103 = .ok (.iload_n 2, 1) := by decide +kernel
theorem dX7_writeAct_104 : decode cX7_writeAct 104 = .ok (.iload_n 3, 1) := by decide +kernel
theorem dX7_writeAct_105 : decode cX7_writeAct 105 = .ok (.iconst 0, 1) := by decide +kernel
theorem dX7_writeAct_106 : decode cX7_writeAct 106 = .ok (.invokevirtual 249, 3) := by decide +kernel
theorem dX7_writeAct_109 : decode cX7_writeAct 109 = .ok (.return_, 1) := by decide +kernel
