theorem dX11_fits_71 : decode cX11_fits 71 = .ok (.invokevirtual 123, 3) := by decide +kernel
theorem dX11_fits_74 : decode cX11_fits 74 = .ok (.ifCond .eq 55, 3) := by decide +kernel
theorem dX11_fits_77 : decode cX11_fits 77 = .ok (.aload_n 0, 1) := by decide +kernel
theorem dX11_fits_78 : decode cX11_fits 78 = .ok (.iload 5, 2) := by decide +kernel
theorem dX11_fits_80 : decode cX11_fits 80 = .ok (.iload_n 1, 1) := by decide +kernel
theorem dX11_fits_81 : decode cX11_fits 81 = .ok (.invokevirtual 123, 3) := by decide +kernel
theorem dX11_fits_84 : decode cX11_fits 84 = .ok (.ifCond .eq 45, 3) := by decide +kernel
theorem dX11_fits_87 : decode cX11_fits 87 = .ok (.iload_n 3, 1) := by decide +kernel
theorem dX11_fits_88 : decode cX11_fits 88 = .ok (.iload 6, 2) := by decide +kernel
theorem dX11_fits_90 : decode cX11_fits 90 = .ok (.ifCond .eq 30, 3) := by decide +kernel
theorem dX11_fits_93 : decode cX11_fits 93 = .ok (.iload_n 2, 1) := by decide +kernel
theorem dX11_fits_94 : decode cX11_fits 94 = .ok (.iload 6, 2) := by decide +kernel
theorem dX11_fits_96 : decode cX11_fits 96 = .ok (.if_icmp .eq 24, 3) := by decide +kernel
theorem dX11_fits_99 : decode cX11_fits 99 = .ok (.iload_n 2, 1) := by decide +kernel
theorem dX11_fits_100 : decode cX11_fits 100 = .ok (.iload 6, 2) := by decide +kernel
theorem dX11_fits_102 : decode cX11_fits 102 = .ok (.isub, 1) := by decide +kernel
theorem dX11_fits_103 : decode cX11_fits 103 = .ok (.invokestatic 229, 3) := by decide +kernel
theorem dX11_fits_106 : decode cX11_fits 106 = .ok (.aload_n 0, 1) := by decide +kernel
theorem dX11_fits_107 : decode cX11_fits 107 = .ok (.iload 5, 2) := by decide +kernel
theorem dX11_fits_109 : decode cX11_fits 109 = .ok (.iconst 3, 1) := by decide +kernel
theorem dX11_fits_110 : decode cX11_fits 110 = .ok (.invokevirtual 94, 3) := by decide +kernel
theorem dX11_fits_113 : decode cX11_fits 113 = .ok (.if_icmp .gt 7, 3) := by decide +kernel
theorem dX11_fits_116 : decode cX11_fits 116 = .ok (.iconst 1, 1) := by decide +kernel
theorem dX11_fits_117 : decode cX11_fits 117 = .ok (.goto 4, 3) := by decide +kernel
theorem dX11_fits_120 : decode cX11_fits 120 = .ok (.iconst 0, 1) := by decide +kernel
theorem dX11_fits_121 : decode cX11_fits 121 = .ok (.iadd, 1) := by decide +kernel
theorem dX11_fits_122 : decode cX11_fits 122 = .ok (.istore_n 3, 1) := by decide +kernel
theorem dX11_fits_123 : decode cX11_fits 123 = .ok (.iinc 6 1, 3) := by decide +kernel
theorem dX11_fits_126 : decode cX11_fits 126 = .ok (.goto (-71), 3) := by decide +kernel
theorem dX11_fits_129 : decode cX11_fits 129 = .ok (.iinc 5 1, 3) := by decide +kernel
theorem dX11_fits_132 : decode cX11_fits 132 = .ok (.goto (-96), 3) := by decide +kernel
theorem dX11_fits_135 : decode cX11_fits 135 = .ok (.iinc 4 1, 3) := by decide +kernel
theorem dX11_fits_138 : decode cX11_fits 138 = .ok (.goto (-117), 3) := by decide +kernel
theorem dX11_fits_141 : decode cX11_fits 141 = .ok (.iload_n 3, 1) := by decide +kernel
theorem dX11_fits_142 : decode cX11_fits 142 = .ok (.ireturn, 1) := by decide +kernel
theorem dX11_sortRuns_0 : decode cX11_sortRuns 0 = .ok (.iconst 0, 1) := by decide +kernel
theorem dX11_sortRuns_1 : decode cX11_sortRuns 1 = .ok (.istore_n 2, 1) := by decide +kernel
theorem dX11_sortRuns_2 : decode cX11_sortRuns 2 = .ok (.iconst 0, 1) := by decide +kernel
theorem dX11_sortRuns_3 : decode cX11_sortRuns 3 = .ok (.istore_n 3, 1) := by decide +kernel
theorem dX11_sortRuns_4 : decode cX11_sortRuns 4 = .ok (.iload_n 3, 1) := by decide +kernel
theorem dX11_sortRuns_5 : decode cX11_sortRuns 5 = .ok (.aload_n 0, 1) := by decide +kernel
theorem dX11_sortRuns_6 : decode cX11_sortRuns 6 = .ok (.getfield 103, 3) := by decide +kernel
theorem dX11_sortRuns_9 : decode cX11_sortRuns 9 = .ok (.if_icmp .gt 66, 3) := by decide +kernel
theorem dX11_sortRuns_12 : decode cX11_sortRuns 12 = .ok (.iconst 0, 1) := by decide +kernel
theorem dX11_sortRuns_13 : decode cX11_sortRuns 13 = .ok (.istore 4, 2) := by decide +kernel
theorem dX11_sortRuns_15 : decode cX11_sortRuns 15 = .ok (.iload 4, 2) := by decide +kernel
theorem dX11_sortRuns_17 : decode cX11_sortRuns 17 = .ok (.aload_n 0, 1) := by decide +kernel
theorem dX11_sortRuns_18 : decode cX11_sortRuns 18 = .ok (.getfield 116, 3) := by decide +kernel
theorem dX11_sortRuns_21 : decode cX11_sortRuns 21 = .ok (.if_icmp .ge 48, 3) := by decide +kernel
theorem dX11_sortRuns_24 : decode cX11_sortRuns 24 = .ok (.aload_n 0, 1) := by decide +kernel
theorem dX11_sortRuns_25 : decode cX11_sortRuns 25 = .ok (.getfield 17, 3) := by decide +kernel
theorem dX11_sortRuns_28 : decode cX11_sortRuns 28 = .ok (.iconst 3, 1) := by decide +kernel
theorem dX11_sortRuns_29 : decode cX11_sortRuns 29 = .ok (.iload 4, 2) := by decide +kernel
theorem dX11_sortRuns_31 : decode cX11_sortRuns 31 = .ok (.imul, 1) := by decide +kernel
theorem dX11_sortRuns_32 : decode cX11_sortRuns 32 = .ok (.iconst 1, 1) := by decide +kernel
theorem dX11_sortRuns_33 : decode cX11_sortRuns 33 = .ok (.iadd, 1) := by decide +kernel
theorem dX11_sortRuns_34 : decode cX11_sortRuns 34 = .ok (.iaload, 1) := by decide +kernel
theorem dX11_sortRuns_35 : decode cX11_sortRuns 35 = .ok (.iload_n 1, 1) := by decide +kernel
theorem dX11_sortRuns_36 : decode cX11_sortRuns 36 = .ok (.if_icmp .ne 27, 3) := by decide +kernel
theorem dX11_sortRuns_39 : decode cX11_sortRuns 39 = .ok (.aload_n 0, 1) := by decide +kernel
theorem dX11_sortRuns_40 : decode cX11_sortRuns 40 = .ok (.getfield 17, 3) := by decide +kernel
theorem dX11_sortRuns_43 : decode cX11_sortRuns 43 = .ok (.iconst 3, 1) := by decide +kernel
theorem dX11_sortRuns_44 : decode cX11_sortRuns 44 = .ok (.iload 4, 2) := by decide +kernel
theorem dX11_sortRuns_46 : decode cX11_sortRuns 46 = .ok (.imul, 1) := by decide +kernel
theorem dX11_sortRuns_47 : decode cX11_sortRuns 47 = .ok (.iaload, 1) := by decide +kernel
theorem dX11_sortRuns_48 : decode cX11_sortRuns 48 = .ok (.iload_n 3, 1) := by decide +kernel
theorem dX11_sortRuns_49 : decode cX11_sortRuns 49 = .ok (.if_icmp .ne 14, 3) := by decide +kernel
theorem dX11_sortRuns_52 : decode cX11_sortRuns 52 = .ok (.aload_n 0, 1) := by decide +kernel
theorem dX11_sortRuns_53 : decode cX11_sortRuns 53 = .ok (.getfield 38, 3) := by decide +kernel
theorem dX11_sortRuns_56 : decode cX11_sortRuns 56 = .ok (.iload_n 2, 1) := by decide +kernel
theorem dX11_sortRuns_57 : decode cX11_sortRuns 57 = .ok (.iload 4, 2) := by decide +kernel
theorem dX11_sortRuns_59 : decode cX11_sortRuns 59 = .ok (.iastore, 1) := by decide +kernel
theorem dX11_sortRuns_60 : decode cX11_sortRuns 60 = .ok (.iinc 2 1, 3) := by decide +kernel
theorem dX11_sortRuns_63 : decode cX11_sortRuns 63 = .ok (.iinc 4 1, 3) := by decide +kernel
theorem dX11_sortRuns_66 : decode cX11_sortRuns 66 = .ok (.goto (-51), 3) := by decide +kernel
theorem dX11_sortRuns_69 : decode cX11_sortRuns 69 = .ok (.iinc 3 1, 3) := by decide +kernel
theorem dX11_sortRuns_72 : decode cX11_sortRuns 72 = .ok (.goto (-68), 3) := by decide +kernel
theorem dX11_sortRuns_75 : decode cX11_sortRuns 75 = .ok (.iload_n 2, 1) := by decide +kernel
theorem dX11_sortRuns_76 : decode cX11_sortRuns 76 = .ok (.ireturn, 1) := by decide +kernel
theorem dX11_jump_0 : decode cX11_jump 0 = .ok (.iload_n 1, 1) := by decide +kernel
theorem dX11_jump_1 : decode cX11_jump 1 = .ok (.invokestatic 119, 3) := by decide +kernel
theorem dX11_jump_4 : decode cX11_jump 4 = .ok (.ifCond .eq 12, 3) := by decide +kernel
theorem dX11_jump_7 : decode cX11_jump 7 = .ok (.iload_n 2, 1) := by decide +kernel
theorem dX11_jump_8 : decode cX11_jump 8 = .ok (.iconst 0, 1) := by decide +kernel
theorem dX11_jump_9 : decode cX11_jump 9 = .ok (.iconst 2, 1) := by decide +kernel
theorem dX11_jump_10 : decode cX11_jump 10 = .ok (.invokestatic 87, 3) := by decide +kernel
theorem dX11_jump_13 : decode cX11_jump 13 = .ok (.ifCond .ne 7, 3) := by decide +kernel
theorem dX11_jump_16 : decode cX11_jump 16 = .ok (.ldc2_w 285, 3) := by decide +kernel
theorem dX11_jump_19 : decode cX11_jump 19 = .ok (.lreturn, 1) := by decide +kernel
theorem dX11_jump_20 : decode cX11_jump 20 = .ok (.aload_n 0, 1) := by decide +kernel
theorem dX11_jump_21 : decode cX11_jump 21 = .ok (.iload_n 1, 1) := by decide +kernel
theorem dX11_jump_22 : decode cX11_jump 22 = .ok (.invokevirtual 287, 3) := by decide +kernel
theorem dX11_jump_25 : decode cX11_jump 25 = .ok (.istore_n 3, 1) := by decide +kernel
theorem dX11_jump_26 : decode cX11_jump 26 = .ok (.iload_n 3, 1) := by decide +kernel
theorem dX11_jump_27 : decode cX11_jump 27 = .ok (.iconst 2, 1) := by decide +kernel
theorem dX11_jump_28 : decode cX11_jump 28 = .ok (.if_icmp .ge 7, 3) := by decide +kernel
theorem dX11_jump_31 : decode cX11_jump 31 = .ok (.ldc2_w 285, 3) := by decide +kernel
theorem dX11_jump_34 : decode cX11_jump 34 = .ok (.lreturn, 1) := by decide +kernel
theorem dX11_jump_35 : decode cX11_jump 35 = .ok (.aload_n 0, 1) := by decide +kernel
theorem dX11_jump_36 : decode cX11_jump 36 = .ok (.iload_n 1, 1) := by decide +kernel
theorem dX11_jump_37 : decode cX11_jump 37 = .ok (.iconst 0, 1) := by decide +kernel
theorem dX11_jump_38 : decode cX11_jump 38 = .ok (.sipush 999, 3) := by decide +kernel
theorem dX11_jump_41 : decode cX11_jump 41 = .ok (.invokevirtual 279, 3) := by decide +kernel
theorem dX11_jump_44 : decode cX11_jump 44 = .ok (.i2l, 1) := by decide +kernel
theorem dX11_jump_45 : decode cX11_jump 45 = .ok (.lstore 4, 2) := by decide +kernel
theorem dX11_jump_47 : decode cX11_jump 47 = .ok (.lconst 0, 1) := by decide +kernel
theorem dX11_jump_48 : decode cX11_jump 48 = .ok (.lstore 6, 2) := by decide +kernel
theorem dX11_jump_50 : decode cX11_jump 50 = .ok (.lconst 0, 1) := by decide +kernel
theorem dX11_jump_51 : decode cX11_jump 51 = .ok (.lstore 8, 2) := by decide +kernel
theorem dX11_jump_53 : decode cX11_jump 53 = .ok (.lconst 1, 1) := by decide +kernel
theorem dX11_jump_54 : decode cX11_jump 54 = .ok (.lstore 10, 2) := by decide +kernel
theorem dX11_jump_56 : decode cX11_jump 56 = .ok (.iconst 0, 1) := by decide +kernel
theorem dX11_jump_57 : decode cX11_jump 57 = .ok (.istore 12, 2) := by decide +kernel
theorem dX11_jump_59 : decode cX11_jump 59 = .ok (.iconst 1, 1) := by decide +kernel
theorem dX11_jump_60 : decode cX11_jump 60 = .ok (.istore 13, 2) := by decide +kernel
theorem dX11_jump_62 : decode cX11_jump 62 = .ok (.iload 13, 2) := by decide +kernel
theorem dX11_jump_64 : decode cX11_jump 64 = .ok (.iload_n 3, 1) := by decide +kernel
theorem dX11_jump_65 : decode cX11_jump 65 = .ok (.if_icmp .ge 129, 3) := by decide +kernel
theorem dX11_jump_68 : decode cX11_jump 68 = .ok (.lload 6, 2) := by decide +kernel
theorem dX11_jump_70 : decode cX11_jump 70 = .ok (.aload_n 0, 1) := by decide +kernel
theorem dX11_jump_71 : decode cX11_jump 71 = .ok (.getfield 17, 3) := by decide +kernel
theorem dX11_jump_74 : decode cX11_jump 74 = .ok (.iconst 3, 1) := by decide +kernel
theorem dX11_jump_75 : decode cX11_jump 75 = .ok (.aload_n 0, 1) := by decide +kernel
theorem dX11_jump_76 : decode cX11_jump 76 = .ok (.getfield 38, 3) := by decide +kernel
theorem dX11_jump_79 : decode cX11_jump 79 = .ok (.iload 13, 2) := by decide +kernel
theorem dX11_jump_81 : decode cX11_jump 81 = .ok (.iconst 1, 1) := by decide +kernel
theorem dX11_jump_82 : decode cX11_jump 82 = .ok (.isub, 1) := by decide +kernel
theorem dX11_jump_83 : decode cX11_jump 83 = .ok (.iaload, 1) := by decide +kernel
theorem dX11_jump_84 : decode cX11_jump 84 = .ok (.imul, 1) := by decide +kernel
theorem dX11_jump_85 : decode cX11_jump 85 = .ok (.iconst 2, 1) := by decide +kernel
theorem dX11_jump_86 : decode cX11_jump 86 = .ok (.iadd, 1) := by decide +kernel
theorem dX11_jump_87 : decode cX11_jump 87 = .ok (.iaload, 1) := by decide +kernel
theorem dX11_jump_88 : decode cX11_jump 88 = .ok (.i2l, 1) := by decide +kernel
theorem dX11_jump_89 : decode cX11_jump 89 = .ok (.ladd, 1) := by decide +kernel
theorem dX11_jump_90 : decode cX11_jump 90 = .ok (.lstore 6, 2) := by decide +kernel
theorem dX11_jump_92 : decode cX11_jump 92 = .ok (.lload 4, 2) := by decide +kernel
theorem dX11_jump_94 : decode cX11_jump 94 = .ok (.lload 6, 2) := by decide +kernel
theorem dX11_jump_96 : decode cX11_jump 96 = .ok (.lsub, 1) := by decide +kernel
theorem dX11_jump_97 : decode cX11_jump 97 = .ok (.iload 13, 2) := by decide +kernel
theorem dX11_jump_99 : decode cX11_jump 99 = .ok (.i2l, 1) := by decide +kernel
theorem dX11_jump_100 : decode cX11_jump 100 = .ok (.lmul, 1) := by decide +kernel
theorem dX11_jump_101 : decode cX11_jump 101 = .ok (.lload 6, 2) := by decide +kernel
theorem dX11_jump_103 : decode cX11_jump 103 = .ok (.iload_n 3, 1) := by decide +kernel
theorem dX11_jump_104 : decode cX11_jump 104 = .ok (.iload 13, 2) := by decide +kernel
theorem dX11_jump_106 : decode cX11_jump 106 = .ok (.isub, 1) := by decide +kernel
theorem dX11_jump_107 : decode cX11_jump 107 = .ok (.i2l, 1) := by decide +kernel
theorem dX11_jump_108 : decode cX11_jump 108 = .ok (.lmul, 1) := by decide +kernel
theorem dX11_jump_109 : decode cX11_jump 109 = .ok (.lsub, 1) := by decide +kernel
theorem dX11_jump_110 : decode cX11_jump 110 = .ok (.lstore 14, 2) := by decide +kernel
theorem dX11_jump_112 : decode cX11_jump 112 = .ok (.iload 13, 2) := by decide +kernel
theorem dX11_jump_114 : decode cX11_jump 114 = .ok (.i2l, 1) := by decide +kernel
theorem dX11_jump_115 : decode cX11_jump 115 = .ok (.iload_n 3, 1) := by decide +kernel
theorem dX11_jump_116 : decode cX11_jump 116 = .ok (.iload 13, 2) := by decide +kernel
theorem dX11_jump_118 : decode cX11_jump 118 = .ok (.isub, 1) := by decide +kernel
theorem dX11_jump_119 : decode cX11_jump 119 = .ok (.i2l, 1) := by decide +kernel
theorem dX11_jump_120 : decode cX11_jump 120 = .ok (.lmul, 1) := by decide +kernel
theorem dX11_jump_121 : decode cX11_jump 121 = .ok (.lstore 16, 2) := by decide +kernel
theorem dX11_jump_123 : decode cX11_jump 123 = .ok (.lload 14, 2) := by decide +kernel
theorem dX11_jump_125 : decode cX11_jump 125 = .ok (.lconst 0, 1) := by decide +kernel
theorem dX11_jump_126 : decode cX11_jump 126 = .ok (.lcmp, 1) := by decide +kernel
theorem dX11_jump_127 : decode cX11_jump 127 = .ok (.ifCond .ge 9, 3) := by decide +kernel
theorem dX11_jump_130 : decode cX11_jump 130 = .ok (.lload 14, 2) := by decide +kernel
theorem dX11_jump_132 : decode cX11_jump 132 = .ok (.lneg, 1) := by decide +kernel
theorem dX11_jump_133 : decode cX11_jump 133 = .ok (.goto 5, 3) := by decide +kernel
theorem dX11_jump_136 : decode cX11_jump 136 = .ok (.lload 14, 2) := by decide +kernel
theorem dX11_jump_138 : decode cX11_jump 138 = .ok (.lstore 18, 2) := by decide +kernel
theorem dX11_jump_140 : decode cX11_jump 140 = .ok (.lload 8, 2) := by decide +kernel
theorem dX11_jump_142 : decode cX11_jump 142 = .ok (.lconst 0, 1) := by decide +kernel
theorem dX11_jump_143 : decode cX11_jump 143 = .ok (.lcmp, 1) := by decide +kernel
theorem dX11_jump_144 : decode cX11_jump 144 = .ok (.ifCond .ge 9, 3) := by decide +kernel
theorem dX11_jump_147 : decode cX11_jump 147 = .ok (.lload 8, 2) := by decide +kernel
theorem dX11_jump_149 : decode cX11_jump 149 = .ok (.lneg, 1) := by decide +kernel
theorem dX11_jump_150 : decode cX11_jump 150 = .ok (.goto 5, 3) := by decide +kernel
theorem dX11_jump_153 : decode cX11_jump 153 = .ok (.lload 8, 2) := by decide +kernel
theorem dX11_jump_155 : decode cX11_jump 155 = .ok (.lstore 20, 2) := by decide +kernel
theorem dX11_jump_157 : decode cX11_jump 157 = .ok (.iload 12, 2) := by decide +kernel
theorem dX11_jump_159 : decode cX11_jump 159 = .ok (.ifCond .eq 17, 3) := by decide +kernel
theorem dX11_jump_162 : decode cX11_jump 162 = .ok (.lload 18, 2) := by decide +kernel
theorem dX11_jump_164 : decode cX11_jump 164 = .ok (.lload 10, 2) := by decide +kernel
theorem dX11_jump_166 : decode cX11_jump 166 = .ok (.lmul, 1) := by decide +kernel
theorem dX11_jump_167 : decode cX11_jump 167 = .ok (.lload 20, 2) := by decide +kernel
theorem dX11_jump_169 : decode cX11_jump 169 = .ok (.lload 16, 2) := by decide +kernel
theorem dX11_jump_171 : decode cX11_jump 171 = .ok (.lmul, 1) := by decide +kernel
theorem dX11_jump_172 : decode cX11_jump 172 = .ok (.lcmp, 1) := by decide +kernel
theorem dX11_jump_173 : decode cX11_jump 173 = .ok (.ifCond .le 15, 3) := by decide +kernel
theorem dX11_jump_176 : decode cX11_jump 176 = .ok (.iload 13, 2) := by decide +kernel
theorem dX11_jump_178 : decode cX11_jump 178 = .ok (.istore 12, 2) := by decide +kernel
theorem dX11_jump_180 : decode cX11_jump 180 = .ok (.lload 14, 2) := by decide +kernel
theorem dX11_jump_182 : decode cX11_jump 182 = .ok (.lstore 8, 2) := by decide +kernel
theorem dX11_jump_184 : decode cX11_jump 184 = .ok (.lload 16, 2) := by decide +kernel
theorem dX11_jump_186 : decode cX11_jump 186 = .ok (.lstore 10, 2) := by decide +kernel
theorem dX11_jump_188 : decode cX11_jump 188 = .ok (.iinc 13 1, 3) := by decide +kernel
theorem dX11_jump_191 : decode cX11_jump 191 = .ok (.goto (-129), 3) := by decide +kernel
theorem dX11_jump_194 : decode cX11_jump 194 = .ok (.aload_n 0, 1) := by decide +kernel
theorem dX11_jump_195 : decode cX11_jump 195 = .ok (.lload 8, 2) := by decide +kernel
theorem dX11_jump_197 : decode cX11_jump 197 = .ok (.lload 10, 2) := by decide +kernel
theorem dX11_jump_199 : decode cX11_jump 199 = .ok (.invokevirtual 257, 3) := by decide +kernel
theorem dX11_jump_202 : decode cX11_jump 202 = .ok (.iload_n 2, 1) := by decide +kernel
theorem dX11_jump_203 : decode cX11_jump 203 = .ok (.ifCond .ne 21, 3) := by decide +kernel
theorem dX11_jump_206 : decode cX11_jump 206 = .ok (.aload_n 0, 1) := by decide +kernel
theorem dX11_jump_207 : decode cX11_jump 207 = .ok (.getfield 17, 3) := by decide +kernel
theorem dX11_jump_210 : decode cX11_jump 210 = .ok (.iconst 3, 1) := by decide +kernel
theorem dX11_jump_211 : decode cX11_jump 211 = .ok (.aload_n 0, 1) := by decide +kernel
theorem dX11_jump_212 : decode cX11_jump 212 = .ok (.getfield 38, 3) := by decide +kernel
theorem dX11_jump_215 : decode cX11_jump 215 = .ok (.iload 12, 2) := by decide +kernel
theorem dX11_jump_217 : decode cX11_jump 217 = .ok (.iaload, 1) := by decide +kernel
theorem dX11_jump_218 : decode cX11_jump 218 = .ok (.imul, 1) := by decide +kernel
theorem dX11_jump_219 : decode cX11_jump 219 = .ok (.iaload, 1) := by decide +kernel
theorem dX11_jump_220 : decode cX11_jump 220 = .ok (.i2l, 1) := by decide +kernel
theorem dX11_jump_221 : decode cX11_jump 221 = .ok (.goto 19, 3) := by decide +kernel
theorem dX11_jump_224 : decode cX11_jump 224 = .ok (.iload_n 2, 1) := by decide +kernel
theorem dX11_jump_225 : decode cX11_jump 225 = .ok (.iconst 1, 1) := by decide +kernel
theorem dX11_jump_226 : decode cX11_jump 226 = .ok (.if_icmp .ne 10, 3) := by decide +kernel
theorem dX11_jump_229 : decode cX11_jump 229 = .ok (.aload_n 0, 1) := by decide +kernel
theorem dX11_jump_230 : decode cX11_jump 230 = .ok (.getfield 241, 3) := by decide +kernel
theorem dX11_jump_233 : decode cX11_jump 233 = .ok (.goto 7, 3) := by decide +kernel
theorem dX11_jump_236 : decode cX11_jump 236 = .ok (.aload_n 0, 1) := by decide +kernel
theorem dX11_jump_237 : decode cX11_jump 237 = .ok (.getfield 244, 3) := by decide +kernel
theorem dX11_jump_240 : decode cX11_jump 240 = .ok (.lreturn, 1) := by decide +kernel
theorem dX11_month_0 : decode cX11_month 0 = .ok (.iload_n 1, 1) := by decide +kernel
theorem dX11_month_1 : decode cX11_month 1 = .ok (.iconst 0, 1) := by decide +kernel
theorem dX11_month_2 : decode cX11_month 2 = .ok (.bipush 33, 2) := by decide +kernel
theorem dX11_month_4 : decode cX11_month 4 = .ok (.invokestatic 87, 3) := by decide +kernel
theorem dX11_month_7 : decode cX11_month 7 = .ok (.ifCond .eq 17, 3) := by decide +kernel
theorem dX11_month_10 : decode cX11_month 10 = .ok (.iload_n 2, 1) := by decide +kernel
theorem dX11_month_11 : decode cX11_month 11 = .ok (.invokestatic 119, 3) := by decide +kernel
theorem dX11_month_14 : decode cX11_month 14 = .ok (.ifCond .eq 10, 3) := by decide +kernel
theorem dX11_month_17 : decode cX11_month 17 = .ok (.iload_n 3, 1) := by decide +kernel
theorem dX11_month_18 : decode cX11_month 18 = .ok (.invokestatic 119, 3) := by decide +kernel
theorem dX11_month_21 : decode cX11_month 21 = .ok (.ifCond .ne 7, 3) := by decide +kernel
theorem dX11_month_24 : decode cX11_month 24 = .ok (.ldc2_w 285, 3) := by decide +kernel
theorem dX11_month_27 : decode cX11_month 27 = .ok (.lreturn, 1) := by decide +kernel
theorem dX11_month_28 : decode cX11_month 28 = .ok (.aload_n 0, 1) := by decide +kernel
theorem dX11_month_29 : decode cX11_month 29 = .ok (.iload_n 2, 1) := by decide +kernel
theorem dX11_month_30 : decode cX11_month 30 = .ok (.bipush 30, 2) := by decide +kernel
theorem dX11_month_32 : decode cX11_month 32 = .ok (.iload_n 1, 1) := by decide +kernel
theorem dX11_month_33 : decode cX11_month 33 = .ok (.imul, 1) := by decide +kernel
theorem dX11_month_34 : decode cX11_month 34 = .ok (.bipush 30, 2) := by decide +kernel
theorem dX11_month_36 : decode cX11_month 36 = .ok (.iload_n 1, 1) := by decide +kernel
theorem dX11_month_37 : decode cX11_month 37 = .ok (.imul, 1) := by decide +kernel
theorem dX11_month_38 : decode cX11_month 38 = .ok (.bipush 29, 2) := by decide +kernel
theorem dX11_month_40 : decode cX11_month 40 = .ok (.iadd, 1) := by decide +kernel
theorem dX11_month_41 : decode cX11_month 41 = .ok (.invokevirtual 279, 3) := by decide +kernel
theorem dX11_month_44 : decode cX11_month 44 = .ok (.istore 4, 2) := by decide +kernel
theorem dX11_month_46 : decode cX11_month 46 = .ok (.aload_n 0, 1) := by decide +kernel
theorem dX11_month_47 : decode cX11_month 47 = .ok (.getfield 276, 3) := by decide +kernel
theorem dX11_month_50 : decode cX11_month 50 = .ok (.ifCond .ne 7, 3) := by decide +kernel
theorem dX11_month_53 : decode cX11_month 53 = .ok (.ldc2_w 285, 3) := by decide +kernel
theorem dX11_month_56 : decode cX11_month 56 = .ok (.lreturn, 1) := by decide +kernel
theorem dX11_month_57 : decode cX11_month 57 = .ok (.aload_n 0, 1) := by decide +kernel
theorem dX11_month_58 : decode cX11_month 58 = .ok (.iload 4, 2) := by decide +kernel
theorem dX11_month_60 : decode cX11_month 60 = .ok (.i2l, 1) := by decide +kernel
theorem dX11_month_61 : decode cX11_month 61 = .ok (.aload_n 0, 1) := by decide +kernel
theorem dX11_month_62 : decode cX11_month 62 = .ok (.getfield 276, 3) := by decide +kernel
theorem dX11_month_65 : decode cX11_month 65 = .ok (.i2l, 1) := by decide +kernel
theorem dX11_month_66 : decode cX11_month 66 = .ok (.invokevirtual 257, 3) := by decide +kernel
theorem dX11_month_69 : decode cX11_month 69 = .ok (.iload_n 3, 1) := by decide +kernel
theorem dX11_month_70 : decode cX11_month 70 = .ok (.ifCond .ne 10, 3) := by decide +kernel
theorem dX11_month_73 : decode cX11_month 73 = .ok (.aload_n 0, 1) := by decide +kernel
theorem dX11_month_74 : decode cX11_month 74 = .ok (.getfield 241, 3) := by decide +kernel
theorem dX11_month_77 : decode cX11_month 77 = .ok (.goto 7, 3) := by decide +kernel
theorem dX11_month_80 : decode cX11_month 80 = .ok (.aload_n 0, 1) := by decide +kernel
theorem dX11_month_81 : decode cX11_month 81 = .ok (.getfield 244, 3) := by decide +kernel
theorem dX11_month_84 : decode cX11_month 84 = .ok (.lreturn, 1) := by decide +kernel
theorem dX11_emit_0 : decode cX11_emit 0 = .ok (.aload_n 0, 1) := by decide +kernel
theorem dX11_emit_1 : decode cX11_emit 1 = .ok (.getfield 41, 3) := by decide +kernel
theorem dX11_emit_4 : decode cX11_emit 4 = .ok (.aload_n 0, 1) := by decide +kernel
theorem dX11_emit_5 : decode cX11_emit 5 = .ok (.getfield 290, 3) := by decide +kernel
theorem dX11_emit_8 : decode cX11_emit 8 = .ok (.iload_n 1, 1) := by decide +kernel
theorem dX11_emit_9 : decode cX11_emit 9 = .ok (.iastore, 1) := by decide +kernel
theorem dX11_emit_10 : decode cX11_emit 10 = .ok (.aload_n 0, 1) := by decide +kernel
theorem dX11_emit_11 : decode cX11_emit 11 = .ok (.dup, 1) := by decide +kernel
theorem dX11_emit_12 : decode cX11_emit 12 = .ok (.getfield 290, 3) := by decide +kernel
theorem dX11_emit_15 : decode cX11_emit 15 = .ok (.iconst 1, 1) := by decide +kernel
theorem dX11_emit_16 : decode cX11_emit 16 = .ok (.iadd, 1) := by decide +kernel
theorem dX11_emit_17 : decode cX11_emit 17 = .ok (.putfield 290, 3) := by decide +kernel
theorem dX11_emit_20 : decode cX11_emit 20 = .ok (.return_, 1) := by decide +kernel
theorem dX11_top_0 : decode cX11_top 0 = .ok (.aload_n 0, 1) := by decide +kernel
theorem dX11_top_1 : decode cX11_top 1 = .ok (.getfield 293, 3) := by decide +kernel
theorem dX11_top_4 : decode cX11_top 4 = .ok (.ifCond .ne 7, 3) := by decide +kernel
theorem dX11_top_7 : decode cX11_top 7 = .ok (.iconst 0, 1) := by decide +kernel
theorem dX11_top_8 : decode cX11_top 8 = .ok (.goto 14, 3) := by decide +kernel
theorem dX11_top_11 : decode cX11_top 11 = .ok (.aload_n 0, 1) := by decide +kernel
theorem dX11_top_12 : decode cX11_top 12 = .ok (.getfield 44, 3) := by decide +kernel
theorem dX11_top_15 : decode cX11_top 15 = .ok (.aload_n 0, 1) := by decide +kernel
theorem dX11_top_16 : decode cX11_top 16 = .ok (.getfield 293, 3) := by decide +kernel
theorem dX11_top_19 : decode cX11_top 19 = .ok (.iconst 1, 1) := by decide +kernel
theorem dX11_top_20 : decode cX11_top 20 = .ok (.isub, 1) := by decide +kernel
theorem dX11_top_21 : decode cX11_top 21 = .ok (.iaload, 1) := by decide +kernel
theorem dX11_top_22 : decode cX11_top 22 = .ok (.ireturn, 1) := by decide +kernel
theorem dX11_pend_0 : decode cX11_pend 0 = .ok (.aload_n 0, 1) := by decide +kernel
theorem dX11_pend_1 : decode cX11_pend 1 = .ok (.getfield 44, 3) := by decide +kernel
theorem dX11_pend_4 : decode cX11_pend 4 = .ok (.aload_n 0, 1) := by decide +kernel
theorem dX11_pend_5 : decode cX11_pend 5 = .ok (.getfield 293, 3) := by decide +kernel
theorem dX11_pend_8 : decode cX11_pend 8 = .ok (.iload_n 1, 1) := by decide +kernel
theorem dX11_pend_9 : decode cX11_pend 9 = .ok (.iastore, 1) := by decide +kernel
theorem dX11_pend_10 : decode cX11_pend 10 = .ok (.aload_n 0, 1) := by decide +kernel
theorem dX11_pend_11 : decode cX11_pend 11 = .ok (.dup, 1) := by decide +kernel
theorem dX11_pend_12 : decode cX11_pend 12 = .ok (.getfield 293, 3) := by decide +kernel
theorem dX11_pend_15 : decode cX11_pend 15 = .ok (.iconst 1, 1) := by decide +kernel
theorem dX11_pend_16 : decode cX11_pend 16 = .ok (.iadd, 1) := by decide +kernel
theorem dX11_pend_17 : decode cX11_pend 17 = .ok (.putfield 293, 3) := by decide +kernel
theorem dX11_pend_20 : decode cX11_pend 20 = .ok (.return_, 1) := by decide +kernel
theorem dX11_binds_0 : decode cX11_binds 0 = .ok (.iload_n 0, 1) := by decide +kernel
theorem dX11_binds_1 : decode cX11_binds 1 = .ok (.lookupswitch 85 #[(30042, 75), (30043, 77), (30045, 77), (30060, 79), (30061, 79), (30062, 79), (40000, 81), (40001, 83)], 75) := by decide +kernel
theorem dX11_binds_76 : decode cX11_binds 76 = .ok (.iconst 5, 1) := by decide +kernel
theorem dX11_binds_77 : decode cX11_binds 77 = .ok (.ireturn, 1) := by decide +kernel
theorem dX11_binds_78 : decode cX11_binds 78 = .ok (.iconst 4, 1) := by decide +kernel
theorem dX11_binds_79 : decode cX11_binds 79 = .ok (.ireturn, 1) := by decide +kernel
theorem dX11_binds_80 : decode cX11_binds 80 = .ok (.iconst 3, 1) := by decide +kernel
theorem dX11_binds_81 : decode cX11_binds 81 = .ok (.ireturn, 1) := by decide +kernel
theorem dX11_binds_82 : decode cX11_binds 82 = .ok (.iconst 2, 1) := by decide +kernel
theorem dX11_binds_83 : decode cX11_binds 83 = .ok (.ireturn, 1) := by decide +kernel
theorem dX11_binds_84 : decode cX11_binds 84 = .ok (.iconst 1, 1) := by decide +kernel
theorem dX11_binds_85 : decode cX11_binds 85 = .ok (.ireturn, 1) := by decide +kernel
theorem dX11_binds_86 : decode cX11_binds 86 = .ok (.iconst 0, 1) := by decide +kernel
theorem dX11_binds_87 : decode cX11_binds 87 = .ok (.ireturn, 1) := by decide +kernel
theorem dX11_settle_0 : decode cX11_settle 0 = .ok (.aload_n 0, 1) := by decide +kernel
theorem dX11_settle_1 : decode cX11_settle 1 = .ok (.invokevirtual 296, 3) := by decide +kernel
theorem dX11_settle_4 : decode cX11_settle 4 = .ok (.invokestatic 299, 3) := by decide +kernel
theorem dX11_settle_7 : decode cX11_settle 7 = .ok (.iload_n 1, 1) := by decide +kernel
theorem dX11_settle_8 : decode cX11_settle 8 = .ok (.if_icmp .lt 24, 3) := by decide +kernel
theorem dX11_settle_11 : decode cX11_settle 11 = .ok (.aload_n 0, 1) := by decide +kernel
theorem dX11_settle_12 : decode cX11_settle 12 = .ok (.aload_n 0, 1) := by decide +kernel
theorem dX11_settle_13 : decode cX11_settle 13 = .ok (.invokevirtual 296, 3) := by decide +kernel
theorem dX11_settle_16 : decode cX11_settle 16 = .ok (.invokevirtual 302, 3) := by decide +kernel
theorem dX11_settle_19 : decode cX11_settle 19 = .ok (.aload_n 0, 1) := by decide +kernel
theorem dX11_settle_20 : decode cX11_settle 20 = .ok (.dup, 1) := by decide +kernel
theorem dX11_settle_21 : decode cX11_settle 21 = .ok (.getfield 293, 3) := by decide +kernel
theorem dX11_settle_24 : decode cX11_settle 24 = .ok (.iconst 1, 1) := by decide +kernel
theorem dX11_settle_25 : decode cX11_settle 25 = .ok (.isub, 1) := by decide +kernel
theorem dX11_settle_26 : decode cX11_settle 26 = .ok (.putfield 293, 3) := by decide +kernel
theorem dX11_settle_29 : decode cX11_settle 29 = .ok (.goto (-29), 3) := by decide +kernel
theorem dX11_settle_32 : decode cX11_settle 32 = .ok (.return_, 1) := by decide +kernel
theorem dX11_ends_0 : decode cX11_ends 0 = .ok (.aload_n 0, 1) := by decide +kernel
theorem dX11_ends_1 : decode cX11_ends 1 = .ok (.invokevirtual 296, 3) := by decide +kernel
theorem dX11_ends_4 : decode cX11_ends 4 = .ok (.iload_n 1, 1) := by decide +kernel
theorem dX11_ends_5 : decode cX11_ends 5 = .ok (.if_icmp .ne 31, 3) := by decide +kernel
theorem dX11_ends_8 : decode cX11_ends 8 = .ok (.aload_n 0, 1) := by decide +kernel
theorem dX11_ends_9 : decode cX11_ends 9 = .ok (.iload_n 1, 1) := by decide +kernel
theorem dX11_ends_10 : decode cX11_ends 10 = .ok (.invokevirtual 302, 3) := by decide +kernel
theorem dX11_ends_13 : decode cX11_ends 13 = .ok (.aload_n 0, 1) := by decide +kernel
theorem dX11_ends_14 : decode cX11_ends 14 = .ok (.dup, 1) := by decide +kernel
theorem dX11_ends_15 : decode cX11_ends 15 = .ok (.getfield 293, 3) := by decide +kernel
theorem dX11_ends_18 : decode cX11_ends 18 = .ok (.iconst 1, 1) := by decide +kernel
theorem dX11_ends_19 : decode cX11_ends 19 = .ok (.isub, 1) := by decide +kernel
theorem dX11_ends_20 : decode cX11_ends 20 = .ok (.putfield 293, 3) := by decide +kernel
theorem dX11_ends_23 : decode cX11_ends 23 = .ok (.aload_n 0, 1) := by decide +kernel
theorem dX11_ends_24 : decode cX11_ends 24 = .ok (.dup, 1) := by decide +kernel
theorem dX11_ends_25 : decode cX11_ends 25 = .ok (.getfield 306, 3) := by decide +kernel
theorem dX11_ends_28 : decode cX11_ends 28 = .ok (.iconst 1, 1) := by decide +kernel
theorem dX11_ends_29 : decode cX11_ends 29 = .ok (.isub, 1) := by decide +kernel
theorem dX11_ends_30 : decode cX11_ends 30 = .ok (.putfield 306, 3) := by decide +kernel
theorem dX11_ends_33 : decode cX11_ends 33 = .ok (.goto (-33), 3) := by decide +kernel
theorem dX11_ends_36 : decode cX11_ends 36 = .ok (.return_, 1) := by decide +kernel
theorem dX11_opens_0 : decode cX11_opens 0 = .ok (.aload_n 0, 1) := by decide +kernel
theorem dX11_opens_1 : decode cX11_opens 1 = .ok (.aload_n 0, 1) := by decide +kernel
theorem dX11_opens_2 : decode cX11_opens 2 = .ok (.getfield 306, 3) := by decide +kernel
theorem dX11_opens_5 : decode cX11_opens 5 = .ok (.iconst 4, 1) := by decide +kernel
theorem dX11_opens_6 : decode cX11_opens 6 = .ok (.if_icmp .ge 7, 3) := by decide +kernel
theorem dX11_opens_9 : decode cX11_opens 9 = .ok (.iconst 1, 1) := by decide +kernel
theorem dX11_opens_10 : decode cX11_opens 10 = .ok (.goto 4, 3) := by decide +kernel
theorem dX11_opens_13 : decode cX11_opens 13 = .ok (.iconst 0, 1) := by decide +kernel
theorem dX11_opens_14 : decode cX11_opens 14 = .ok (.putfield 173, 3) := by decide +kernel
theorem dX11_opens_17 : decode cX11_opens 17 = .ok (.aload_n 0, 1) := by decide +kernel
theorem dX11_opens_18 : decode cX11_opens 18 = .ok (.getfield 173, 3) := by decide +kernel
theorem dX11_opens_21 : decode cX11_opens 21 = .ok (.ifCond .eq 22, 3) := by decide +kernel
theorem dX11_opens_24 : decode cX11_opens 24 = .ok (.aload_n 0, 1) := by decide +kernel
theorem dX11_opens_25 : decode cX11_opens 25 = .ok (.dup, 1) := by decide +kernel
theorem dX11_opens_26 : decode cX11_opens 26 = .ok (.getfield 306, 3) := by decide +kernel
theorem dX11_opens_29 : decode cX11_opens 29 = .ok (.iconst 1, 1) := by decide +kernel
theorem dX11_opens_30 : decode cX11_opens 30 = .ok (.iadd, 1) := by decide +kernel
theorem dX11_opens_31 : decode cX11_opens 31 = .ok (.putfield 306, 3) := by decide +kernel
theorem dX11_opens_34 : decode cX11_opens 34 = .ok (.aload_n 0, 1) := by decide +kernel
theorem dX11_opens_35 : decode cX11_opens 35 = .ok (.iload_n 1, 1) := by decide +kernel
theorem dX11_opens_36 : decode cX11_opens 36 = .ok (.invokevirtual 309, 3) := by decide +kernel
theorem dX11_opens_39 : decode cX11_opens 39 = .ok (.aload_n 0, 1) := by decide +kernel
theorem dX11_opens_40 : decode cX11_opens 40 = .ok (.invokevirtual 177, 3) := by decide +kernel
theorem dX11_opens_43 : decode cX11_opens 43 = .ok (.return_, 1) := by decide +kernel
theorem dX11_factHere_0 : decode cX11_factHere 0 = .ok (.aload_n 0, 1) := by decide +kernel
theorem dX11_factHere_1 : decode cX11_factHere 1 = .ok (.ldc2_w 312, 3) := by decide +kernel
theorem dX11_factHere_4 : decode cX11_factHere 4 = .ok (.invokevirtual 180, 3) := by decide +kernel
theorem dX11_factHere_7 : decode cX11_factHere 7 = .ok (.ifCond .eq 7, 3) := by decide +kernel
theorem dX11_factHere_10 : decode cX11_factHere 10 = .ok (.iconst 0, 1) := by decide +kernel
theorem dX11_factHere_11 : decode cX11_factHere 11 = .ok (.goto 89, 3) := by decide +kernel
theorem dX11_factHere_14 : decode cX11_factHere 14 = .ok (.aload_n 0, 1) := by decide +kernel
theorem dX11_factHere_15 : decode cX11_factHere 15 = .ok (.ldc2_w 314, 3) := by decide +kernel
theorem dX11_factHere_18 : decode cX11_factHere 18 = .ok (.invokevirtual 180, 3) := by decide +kernel
theorem dX11_factHere_21 : decode cX11_factHere 21 = .ok (.ifCond .eq 7, 3) := by decide +kernel
theorem dX11_factHere_24 : decode cX11_factHere 24 = .ok (.iconst 1, 1) := by decide +kernel
theorem dX11_factHere_25 : decode cX11_factHere 25 = .ok (.goto 75, 3) := by decide +kernel
theorem dX11_factHere_28 : decode cX11_factHere 28 = .ok (.aload_n 0, 1) := by decide +kernel
theorem dX11_factHere_29 : decode cX11_factHere 29 = .ok (.ldc2_w 316, 3) := by decide +kernel
theorem dX11_factHere_32 : decode cX11_factHere 32 = .ok (.invokevirtual 180, 3) := by decide +kernel
theorem dX11_factHere_35 : decode cX11_factHere 35 = .ok (.ifCond .eq 7, 3) := by decide +kernel
theorem dX11_factHere_38 : decode cX11_factHere 38 = .ok (.iconst 2, 1) := by decide +kernel
theorem dX11_factHere_39 : decode cX11_factHere 39 = .ok (.goto 61, 3) := by decide +kernel
theorem dX11_factHere_42 : decode cX11_factHere 42 = .ok (.aload_n 0, 1) := by decide +kernel
theorem dX11_factHere_43 : decode cX11_factHere 43 = .ok (.ldc2_w 318, 3) := by decide +kernel
theorem dX11_factHere_46 : decode cX11_factHere 46 = .ok (.invokevirtual 180, 3) := by decide +kernel
theorem dX11_factHere_49 : decode cX11_factHere 49 = .ok (.ifCond .eq 7, 3) := by decide +kernel
theorem dX11_factHere_52 : decode cX11_factHere 52 = .ok (.iconst 3, 1) := by decide +kernel
theorem dX11_factHere_53 : decode cX11_factHere 53 = .ok (.goto 47, 3) := by decide +kernel
theorem dX11_factHere_56 : decode cX11_factHere 56 = .ok (.aload_n 0, 1) := by decide +kernel
theorem dX11_factHere_57 : decode cX11_factHere 57 = .ok (.ldc2_w 320, 3) := by decide +kernel
theorem dX11_factHere_60 : decode cX11_factHere 60 = .ok (.invokevirtual 180, 3) := by decide +kernel
theorem dX11_factHere_63 : decode cX11_factHere 63 = .ok (.ifCond .eq 7, 3) := by decide +kernel
theorem dX11_factHere_66 : decode cX11_factHere 66 = .ok (.iconst 4, 1) := by decide +kernel
theorem dX11_factHere_67 : decode cX11_factHere 67 = .ok (.goto 33, 3) := by decide +kernel
theorem dX11_factHere_70 : decode cX11_factHere 70 = .ok (.aload_n 0, 1) := by decide +kernel
theorem dX11_factHere_71 : decode cX11_factHere 71 = .ok (.ldc2_w 322, 3) := by decide +kernel
theorem dX11_factHere_74 : decode cX11_factHere 74 = .ok (.invokevirtual 180, 3) := by decide +kernel
theorem dX11_factHere_77 : decode cX11_factHere 77 = .ok (.ifCond .eq 7, 3) := by decide +kernel
theorem dX11_factHere_80 : decode cX11_factHere 80 = .ok (.iconst 5, 1) := by decide +kernel
theorem dX11_factHere_81 : decode cX11_factHere 81 = .ok (.goto 19, 3) := by decide +kernel
theorem dX11_factHere_84 : decode cX11_factHere 84 = .ok (.aload_n 0, 1) := by decide +kernel
theorem dX11_factHere_85 : decode cX11_factHere 85 = .ok (.ldc2_w 324, 3) := by decide +kernel
theorem dX11_factHere_88 : decode cX11_factHere 88 = .ok (.invokevirtual 180, 3) := by decide +kernel
theorem dX11_factHere_91 : decode cX11_factHere 91 = .ok (.ifCond .eq 8, 3) := by decide +kernel
theorem dX11_factHere_94 : decode cX11_factHere 94 = .ok (.bipush 6, 2) := by decide +kernel
theorem dX11_factHere_96 : decode cX11_factHere 96 = .ok (.goto 4, 3) := by decide +kernel
theorem dX11_factHere_99 : decode cX11_factHere 99 = .ok (.iconst (-1), 1) := by decide +kernel
theorem dX11_factHere_100 : decode cX11_factHere 100 = .ok (.ireturn, 1) := by decide +kernel
theorem dX11_beginOne_0 : decode cX11_beginOne 0 = .ok (.aload_n 0, 1) := by decide +kernel
theorem dX11_beginOne_1 : decode cX11_beginOne 1 = .ok (.iconst 0, 1) := by decide +kernel
theorem dX11_beginOne_2 : decode cX11_beginOne 2 = .ok (.putfield 326, 3) := by decide +kernel
theorem dX11_beginOne_5 : decode cX11_beginOne 5 = .ok (.aload_n 0, 1) := by decide +kernel
theorem dX11_beginOne_6 : decode cX11_beginOne 6 = .ok (.ldc2_w 329, 3) := by decide +kernel
theorem dX11_beginOne_9 : decode cX11_beginOne 9 = .ok (.invokevirtual 180, 3) := by decide +kernel
theorem dX11_beginOne_12 : decode cX11_beginOne 12 = .ok (.ifCond .eq 13, 3) := by decide +kernel
theorem dX11_beginOne_15 : decode cX11_beginOne 15 = .ok (.aload_n 0, 1) := by decide +kernel
theorem dX11_beginOne_16 : decode cX11_beginOne 16 = .ok (.ldc_w 331, 3) := by decide +kernel
theorem dX11_beginOne_19 : decode cX11_beginOne 19 = .ok (.invokevirtual 332, 3) := by decide +kernel
theorem dX11_beginOne_22 : decode cX11_beginOne 22 = .ok (.goto 27, 3) := by decide +kernel
theorem dX11_beginOne_25 : decode cX11_beginOne 25 = .ok (.aload_n 0, 1) := by decide +kernel
theorem dX11_beginOne_26 : decode cX11_beginOne 26 = .ok (.bipush 40, 2) := by decide +kernel
theorem dX11_beginOne_28 : decode cX11_beginOne 28 = .ok (.invokevirtual 188, 3) := by decide +kernel
theorem dX11_beginOne_31 : decode cX11_beginOne 31 = .ok (.ifCond .eq 13, 3) := by decide +kernel
theorem dX11_beginOne_34 : decode cX11_beginOne 34 = .ok (.aload_n 0, 1) := by decide +kernel
theorem dX11_beginOne_35 : decode cX11_beginOne 35 = .ok (.ldc_w 335, 3) := by decide +kernel
theorem dX11_beginOne_38 : decode cX11_beginOne 38 = .ok (.invokevirtual 332, 3) := by decide +kernel
theorem dX11_beginOne_41 : decode cX11_beginOne 41 = .ok (.goto 8, 3) := by decide +kernel
theorem dX11_beginOne_44 : decode cX11_beginOne 44 = .ok (.aload_n 0, 1) := by decide +kernel
theorem dX11_beginOne_45 : decode cX11_beginOne 45 = .ok (.iconst 1, 1) := by decide +kernel
theorem dX11_beginOne_46 : decode cX11_beginOne 46 = .ok (.putfield 336, 3) := by decide +kernel
theorem dX11_beginOne_49 : decode cX11_beginOne 49 = .ok (.return_, 1) := by decide +kernel
theorem dX11_beginAt_0 : decode cX11_beginAt 0 = .ok (.aload_n 0, 1) := by decide +kernel
theorem dX11_beginAt_1 : decode cX11_beginAt 1 = .ok (.bipush 45, 2) := by decide +kernel
theorem dX11_beginAt_3 : decode cX11_beginAt 3 = .ok (.invokevirtual 188, 3) := by decide +kernel
theorem dX11_beginAt_6 : decode cX11_beginAt 6 = .ok (.ifCond .eq 11, 3) := by decide +kernel
theorem dX11_beginAt_9 : decode cX11_beginAt 9 = .ok (.aload_n 0, 1) := by decide +kernel
theorem dX11_beginAt_10 : decode cX11_beginAt 10 = .ok (.ldc_w 339, 3) := by decide +kernel
theorem dX11_beginAt_13 : decode cX11_beginAt 13 = .ok (.invokevirtual 332, 3) := by decide +kernel
theorem dX11_beginAt_16 : decode cX11_beginAt 16 = .ok (.return_, 1) := by decide +kernel
theorem dX11_beginAt_17 : decode cX11_beginAt 17 = .ok (.aload_n 0, 1) := by decide +kernel
theorem dX11_beginAt_18 : decode cX11_beginAt 18 = .ok (.aload_n 0, 1) := by decide +kernel
theorem dX11_beginAt_19 : decode cX11_beginAt 19 = .ok (.invokevirtual 184, 3) := by decide +kernel
theorem dX11_beginAt_22 : decode cX11_beginAt 22 = .ok (.ifCond .ne 10, 3) := by decide +kernel
theorem dX11_beginAt_25 : decode cX11_beginAt 25 = .ok (.aload_n 0, 1) := by decide +kernel
theorem dX11_beginAt_26 : decode cX11_beginAt 26 = .ok (.invokevirtual 340, 3) := by decide +kernel
theorem dX11_beginAt_29 : decode cX11_beginAt 29 = .ok (.ifCond .lt 7, 3) := by decide +kernel
theorem dX11_beginAt_32 : decode cX11_beginAt 32 = .ok (.iconst 1, 1) := by decide +kernel
theorem dX11_beginAt_33 : decode cX11_beginAt 33 = .ok (.goto 4, 3) := by decide +kernel
theorem dX11_beginAt_36 : decode cX11_beginAt 36 = .ok (.iconst 0, 1) := by decide +kernel
theorem dX11_beginAt_37 : decode cX11_beginAt 37 = .ok (.putfield 173, 3) := by decide +kernel
theorem dX11_beginAt_40 : decode cX11_beginAt 40 = .ok (.aload_n 0, 1) := by decide +kernel
theorem dX11_beginAt_41 : decode cX11_beginAt 41 = .ok (.getfield 173, 3) := by decide +kernel
theorem dX11_beginAt_44 : decode cX11_beginAt 44 = .ok (.ifCond .eq 56, 3) := by decide +kernel
theorem dX11_beginAt_47 : decode cX11_beginAt 47 = .ok (.aload_n 0, 1) := by decide +kernel
theorem dX11_beginAt_48 : decode cX11_beginAt 48 = .ok (.aload_n 0, 1) := by decide +kernel
theorem dX11_beginAt_49 : decode cX11_beginAt 49 = .ok (.invokevirtual 184, 3) := by decide +kernel
theorem dX11_beginAt_52 : decode cX11_beginAt 52 = .ok (.ifCond .eq 10, 3) := by decide +kernel
theorem dX11_beginAt_55 : decode cX11_beginAt 55 = .ok (.aload_n 0, 1) := by decide +kernel
theorem dX11_beginAt_56 : decode cX11_beginAt 56 = .ok (.getfield 164, 3) := by decide +kernel
theorem dX11_beginAt_59 : decode cX11_beginAt 59 = .ok (.goto 11, 3) := by decide +kernel
theorem dX11_beginAt_62 : decode cX11_beginAt 62 = .ok (.sipush 20000, 3) := by decide +kernel
theorem dX11_beginAt_65 : decode cX11_beginAt 65 = .ok (.aload_n 0, 1) := by decide +kernel
theorem dX11_beginAt_66 : decode cX11_beginAt 66 = .ok (.invokevirtual 340, 3) := by decide +kernel
theorem dX11_beginAt_69 : decode cX11_beginAt 69 = .ok (.iadd, 1) := by decide +kernel
theorem dX11_beginAt_70 : decode cX11_beginAt 70 = .ok (.invokevirtual 302, 3) := by decide +kernel
theorem dX11_beginAt_73 : decode cX11_beginAt 73 = .ok (.aload_n 0, 1) := by decide +kernel
theorem dX11_beginAt_74 : decode cX11_beginAt 74 = .ok (.ldc_w 339, 3) := by decide +kernel
theorem dX11_beginAt_77 : decode cX11_beginAt 77 = .ok (.invokevirtual 343, 3) := by decide +kernel
theorem dX11_beginAt_80 : decode cX11_beginAt 80 = .ok (.aload_n 0, 1) := by decide +kernel
theorem dX11_beginAt_81 : decode cX11_beginAt 81 = .ok (.aload_n 0, 1) := by decide +kernel
theorem dX11_beginAt_82 : decode cX11_beginAt 82 = .ok (.getfield 326, 3) := by decide +kernel
theorem dX11_beginAt_85 : decode cX11_beginAt 85 = .ok (.ifCond .eq 7, 3) := by decide +kernel
theorem dX11_beginAt_88 : decode cX11_beginAt 88 = .ok (.iconst 3, 1) := by decide +kernel
theorem dX11_beginAt_89 : decode cX11_beginAt 89 = .ok (.goto 4, 3) := by decide +kernel
theorem dX11_beginAt_92 : decode cX11_beginAt 92 = .ok (.iconst 2, 1) := by decide +kernel
theorem dX11_beginAt_93 : decode cX11_beginAt 93 = .ok (.putfield 336, 3) := by decide +kernel
theorem dX11_beginAt_96 : decode cX11_beginAt 96 = .ok (.aload_n 0, 1) := by decide +kernel
theorem dX11_beginAt_97 : decode cX11_beginAt 97 = .ok (.invokevirtual 177, 3) := by decide +kernel
theorem dX11_beginAt_100 : decode cX11_beginAt 100 = .ok (.return_, 1) := by decide +kernel
theorem dX11_goOnAt_0 : decode cX11_goOnAt 0 = .ok (.aload_n 0, 1) := by decide +kernel
theorem dX11_goOnAt_1 : decode cX11_goOnAt 1 = .ok (.getfield 157, 3) := by decide +kernel
theorem dX11_goOnAt_4 : decode cX11_goOnAt 4 = .ok (.iconst 3, 1) := by decide +kernel
theorem dX11_goOnAt_5 : decode cX11_goOnAt 5 = .ok (.if_icmp .ne 17, 3) := by decide +kernel
theorem dX11_goOnAt_8 : decode cX11_goOnAt 8 = .ok (.sipush 30000, 3) := by decide +kernel
theorem dX11_goOnAt_11 : decode cX11_goOnAt 11 = .ok (.aload_n 0, 1) := by decide +kernel
theorem dX11_goOnAt_12 : decode cX11_goOnAt 12 = .ok (.getfield 164, 3) := by decide +kernel
theorem dX11_goOnAt_15 : decode cX11_goOnAt 15 = .ok (.iadd, 1) := by decide +kernel
theorem dX11_goOnAt_16 : decode cX11_goOnAt 16 = .ok (.invokestatic 299, 3) := by decide +kernel
theorem dX11_goOnAt_19 : decode cX11_goOnAt 19 = .ok (.goto 4, 3) := by decide +kernel
theorem dX11_goOnAt_22 : decode cX11_goOnAt 22 = .ok (.iconst 0, 1) := by decide +kernel
theorem dX11_goOnAt_23 : decode cX11_goOnAt 23 = .ok (.istore_n 1, 1) := by decide +kernel
theorem dX11_goOnAt_24 : decode cX11_goOnAt 24 = .ok (.iload_n 1, 1) := by decide +kernel
theorem dX11_goOnAt_25 : decode cX11_goOnAt 25 = .ok (.iconst 4, 1) := by decide +kernel
theorem dX11_goOnAt_26 : decode cX11_goOnAt 26 = .ok (.if_icmp .ge 16, 3) := by decide +kernel
theorem dX11_goOnAt_29 : decode cX11_goOnAt 29 = .ok (.iload_n 1, 1) := by decide +kernel
theorem dX11_goOnAt_30 : decode cX11_goOnAt 30 = .ok (.iconst 3, 1) := by decide +kernel
theorem dX11_goOnAt_31 : decode cX11_goOnAt 31 = .ok (.if_icmp .ne 70, 3) := by decide +kernel
theorem dX11_goOnAt_34 : decode cX11_goOnAt 34 = .ok (.aload_n 0, 1) := by decide +kernel
theorem dX11_goOnAt_35 : decode cX11_goOnAt 35 = .ok (.getfield 336, 3) := by decide +kernel
theorem dX11_goOnAt_38 : decode cX11_goOnAt 38 = .ok (.iconst 2, 1) := by decide +kernel
theorem dX11_goOnAt_39 : decode cX11_goOnAt 39 = .ok (.if_icmp .ne 62, 3) := by decide +kernel
theorem dX11_goOnAt_42 : decode cX11_goOnAt 42 = .ok (.aload_n 0, 1) := by decide +kernel
theorem dX11_goOnAt_43 : decode cX11_goOnAt 43 = .ok (.iload_n 1, 1) := by decide +kernel
theorem dX11_goOnAt_44 : decode cX11_goOnAt 44 = .ok (.iconst 3, 1) := by decide +kernel
theorem dX11_goOnAt_45 : decode cX11_goOnAt 45 = .ok (.if_icmp .ne 7, 3) := by decide +kernel
theorem dX11_goOnAt_48 : decode cX11_goOnAt 48 = .ok (.iconst 4, 1) := by decide +kernel
theorem dX11_goOnAt_49 : decode cX11_goOnAt 49 = .ok (.goto 4, 3) := by decide +kernel
theorem dX11_goOnAt_52 : decode cX11_goOnAt 52 = .ok (.iload_n 1, 1) := by decide +kernel
theorem dX11_goOnAt_53 : decode cX11_goOnAt 53 = .ok (.invokevirtual 345, 3) := by decide +kernel
theorem dX11_goOnAt_56 : decode cX11_goOnAt 56 = .ok (.aload_n 0, 1) := by decide +kernel
theorem dX11_goOnAt_57 : decode cX11_goOnAt 57 = .ok (.aload_n 0, 1) := by decide +kernel
theorem dX11_goOnAt_58 : decode cX11_goOnAt 58 = .ok (.getfield 326, 3) := by decide +kernel
theorem dX11_goOnAt_61 : decode cX11_goOnAt 61 = .ok (.ifCond .ne 8, 3) := by decide +kernel
theorem dX11_goOnAt_64 : decode cX11_goOnAt 64 = .ok (.iload_n 1, 1) := by decide +kernel
theorem dX11_goOnAt_65 : decode cX11_goOnAt 65 = .ok (.iconst 3, 1) := by decide +kernel
theorem dX11_goOnAt_66 : decode cX11_goOnAt 66 = .ok (.if_icmp .ne 7, 3) := by decide +kernel
theorem dX11_goOnAt_69 : decode cX11_goOnAt 69 = .ok (.iconst 1, 1) := by decide +kernel
theorem dX11_goOnAt_70 : decode cX11_goOnAt 70 = .ok (.goto 4, 3) := by decide +kernel
theorem dX11_goOnAt_73 : decode cX11_goOnAt 73 = .ok (.iconst 0, 1) := by decide +kernel
theorem dX11_goOnAt_74 : decode cX11_goOnAt 74 = .ok (.putfield 326, 3) := by decide +kernel
theorem dX11_goOnAt_77 : decode cX11_goOnAt 77 = .ok (.aload_n 0, 1) := by decide +kernel
theorem dX11_goOnAt_78 : decode cX11_goOnAt 78 = .ok (.sipush 30000, 3) := by decide +kernel
theorem dX11_goOnAt_81 : decode cX11_goOnAt 81 = .ok (.aload_n 0, 1) := by decide +kernel
theorem dX11_goOnAt_82 : decode cX11_goOnAt 82 = .ok (.getfield 164, 3) := by decide +kernel
theorem dX11_goOnAt_85 : decode cX11_goOnAt 85 = .ok (.iadd, 1) := by decide +kernel
theorem dX11_goOnAt_86 : decode cX11_goOnAt 86 = .ok (.invokevirtual 309, 3) := by decide +kernel
theorem dX11_goOnAt_89 : decode cX11_goOnAt 89 = .ok (.aload_n 0, 1) := by decide +kernel
theorem dX11_goOnAt_90 : decode cX11_goOnAt 90 = .ok (.iconst 1, 1) := by decide +kernel
theorem dX11_goOnAt_91 : decode cX11_goOnAt 91 = .ok (.putfield 336, 3) := by decide +kernel
theorem dX11_goOnAt_94 : decode cX11_goOnAt 94 = .ok (.aload_n 0, 1) := by decide +kernel
theorem dX11_goOnAt_95 : decode cX11_goOnAt 95 = .ok (.invokevirtual 177, 3) := by decide +kernel
theorem dX11_goOnAt_98 : decode cX11_goOnAt 98 = .ok (.goto 36, 3) := by decide +kernel
theorem dX11_goOnAt_101 : decode cX11_goOnAt 101 = .ok (.aload_n 0, 1) := by decide +kernel
theorem dX11_goOnAt_102 : decode cX11_goOnAt 102 = .ok (.getfield 336, 3) := by decide +kernel
theorem dX11_goOnAt_105 : decode cX11_goOnAt 105 = .ok (.iconst 2, 1) := by decide +kernel
theorem dX11_goOnAt_106 : decode cX11_goOnAt 106 = .ok (.if_icmp .ne 11, 3) := by decide +kernel
theorem dX11_goOnAt_109 : decode cX11_goOnAt 109 = .ok (.aload_n 0, 1) := by decide +kernel
theorem dX11_goOnAt_110 : decode cX11_goOnAt 110 = .ok (.iconst 0, 1) := by decide +kernel
theorem dX11_goOnAt_111 : decode cX11_goOnAt 111 = .ok (.putfield 173, 3) := by decide +kernel
theorem dX11_goOnAt_114 : decode cX11_goOnAt 114 = .ok (.goto 20, 3) := by decide +kernel
theorem dX11_goOnAt_117 : decode cX11_goOnAt 117 = .ok (.aload_n 0, 1) := by decide +kernel
theorem dX11_goOnAt_118 : decode cX11_goOnAt 118 = .ok (.iconst 3, 1) := by decide +kernel
theorem dX11_goOnAt_119 : decode cX11_goOnAt 119 = .ok (.invokevirtual 345, 3) := by decide +kernel
theorem dX11_goOnAt_122 : decode cX11_goOnAt 122 = .ok (.aload_n 0, 1) := by decide +kernel
theorem dX11_goOnAt_123 : decode cX11_goOnAt 123 = .ok (.ldc_w 331, 3) := by decide +kernel
theorem dX11_goOnAt_126 : decode cX11_goOnAt 126 = .ok (.invokevirtual 343, 3) := by decide +kernel
theorem dX11_goOnAt_129 : decode cX11_goOnAt 129 = .ok (.aload_n 0, 1) := by decide +kernel
theorem dX11_goOnAt_130 : decode cX11_goOnAt 130 = .ok (.iconst 4, 1) := by decide +kernel
theorem dX11_goOnAt_131 : decode cX11_goOnAt 131 = .ok (.putfield 336, 3) := by decide +kernel
theorem dX11_goOnAt_134 : decode cX11_goOnAt 134 = .ok (.return_, 1) := by decide +kernel
theorem dX11_goOnEnded_0 : decode cX11_goOnEnded 0 = .ok (.aload_n 0, 1) := by decide +kernel
theorem dX11_goOnEnded_1 : decode cX11_goOnEnded 1 = .ok (.ldc2_w 208, 3) := by decide +kernel
theorem dX11_goOnEnded_4 : decode cX11_goOnEnded 4 = .ok (.invokevirtual 180, 3) := by decide +kernel
theorem dX11_goOnEnded_7 : decode cX11_goOnEnded 7 = .ok (.istore_n 1, 1) := by decide +kernel
theorem dX11_goOnEnded_8 : decode cX11_goOnEnded 8 = .ok (.iload_n 1, 1) := by decide +kernel
theorem dX11_goOnEnded_9 : decode cX11_goOnEnded 9 = .ok (.ifCond .ne 13, 3) := by decide +kernel
theorem dX11_goOnEnded_12 : decode cX11_goOnEnded 12 = .ok (.aload_n 0, 1) := by decide +kernel
theorem dX11_goOnEnded_13 : decode cX11_goOnEnded 13 = .ok (.ldc2_w 348, 3) := by decide +kernel
theorem dX11_goOnEnded_16 : decode cX11_goOnEnded 16 = .ok (.invokevirtual 180, 3) := by decide +kernel
theorem dX11_goOnEnded_19 : decode cX11_goOnEnded 19 = .ok (.ifCond .eq 43, 3) := by decide +kernel
theorem dX11_goOnEnded_22 : decode cX11_goOnEnded 22 = .ok (.aload_n 0, 1) := by decide +kernel
theorem dX11_goOnEnded_23 : decode cX11_goOnEnded 23 = .ok (.iload_n 1, 1) := by decide +kernel
theorem dX11_goOnEnded_24 : decode cX11_goOnEnded 24 = .ok (.ifCond .eq 7, 3) := by decide +kernel
theorem dX11_goOnEnded_27 : decode cX11_goOnEnded 27 = .ok (.iconst 2, 1) := by decide +kernel
theorem dX11_goOnEnded_28 : decode cX11_goOnEnded 28 = .ok (.goto 4, 3) := by decide +kernel
theorem dX11_goOnEnded_31 : decode cX11_goOnEnded 31 = .ok (.iconst 1, 1) := by decide +kernel
theorem dX11_goOnEnded_32 : decode cX11_goOnEnded 32 = .ok (.invokevirtual 345, 3) := by decide +kernel
theorem dX11_goOnEnded_35 : decode cX11_goOnEnded 35 = .ok (.aload_n 0, 1) := by decide +kernel
theorem dX11_goOnEnded_36 : decode cX11_goOnEnded 36 = .ok (.iload_n 1, 1) := by decide +kernel
theorem dX11_goOnEnded_37 : decode cX11_goOnEnded 37 = .ok (.ifCond .eq 9, 3) := by decide +kernel
theorem dX11_goOnEnded_40 : decode cX11_goOnEnded 40 = .ok (.ldc_w 350, 3) := by decide +kernel
theorem dX11_goOnEnded_43 : decode cX11_goOnEnded 43 = .ok (.goto 6, 3) := by decide +kernel
theorem dX11_goOnEnded_46 : decode cX11_goOnEnded 46 = .ok (.ldc_w 351, 3) := by decide +kernel
theorem dX11_goOnEnded_49 : decode cX11_goOnEnded 49 = .ok (.invokevirtual 309, 3) := by decide +kernel
theorem dX11_goOnEnded_52 : decode cX11_goOnEnded 52 = .ok (.aload_n 0, 1) := by decide +kernel
theorem dX11_goOnEnded_53 : decode cX11_goOnEnded 53 = .ok (.iconst 0, 1) := by decide +kernel
theorem dX11_goOnEnded_54 : decode cX11_goOnEnded 54 = .ok (.putfield 336, 3) := by decide +kernel
theorem dX11_goOnEnded_57 : decode cX11_goOnEnded 57 = .ok (.aload_n 0, 1) := by decide +kernel
theorem dX11_goOnEnded_58 : decode cX11_goOnEnded 58 = .ok (.invokevirtual 177, 3) := by decide +kernel
theorem dX11_goOnEnded_61 : decode cX11_goOnEnded 61 = .ok (.return_, 1) := by decide +kernel
theorem dX11_goOnEnded_62 : decode cX11_goOnEnded 62 = .ok (.aload_n 0, 1) := by decide +kernel
theorem dX11_goOnEnded_63 : decode cX11_goOnEnded 63 = .ok (.iconst 1, 1) := by decide +kernel
theorem dX11_goOnEnded_64 : decode cX11_goOnEnded 64 = .ok (.invokevirtual 345, 3) := by decide +kernel
theorem dX11_goOnEnded_67 : decode cX11_goOnEnded 67 = .ok (.aload_n 0, 1) := by decide +kernel
theorem dX11_goOnEnded_68 : decode cX11_goOnEnded 68 = .ok (.aload_n 0, 1) := by decide +kernel
theorem dX11_goOnEnded_69 : decode cX11_goOnEnded 69 = .ok (.bipush 41, 2) := by decide +kernel
theorem dX11_goOnEnded_71 : decode cX11_goOnEnded 71 = .ok (.invokevirtual 188, 3) := by decide +kernel
theorem dX11_goOnEnded_74 : decode cX11_goOnEnded 74 = .ok (.ifCond .eq 17, 3) := by decide +kernel
theorem dX11_goOnEnded_77 : decode cX11_goOnEnded 77 = .ok (.aload_n 0, 1) := by decide +kernel
theorem dX11_goOnEnded_78 : decode cX11_goOnEnded 78 = .ok (.invokevirtual 296, 3) := by decide +kernel
theorem dX11_goOnEnded_81 : decode cX11_goOnEnded 81 = .ok (.ldc_w 335, 3) := by decide +kernel
theorem dX11_goOnEnded_84 : decode cX11_goOnEnded 84 = .ok (.if_icmp .ne 7, 3) := by decide +kernel
theorem dX11_goOnEnded_87 : decode cX11_goOnEnded 87 = .ok (.iconst 1, 1) := by decide +kernel
theorem dX11_goOnEnded_88 : decode cX11_goOnEnded 88 = .ok (.goto 4, 3) := by decide +kernel
theorem dX11_goOnEnded_91 : decode cX11_goOnEnded 91 = .ok (.iconst 0, 1) := by decide +kernel
theorem dX11_goOnEnded_92 : decode cX11_goOnEnded 92 = .ok (.putfield 173, 3) := by decide +kernel
theorem dX11_goOnEnded_95 : decode cX11_goOnEnded 95 = .ok (.aload_n 0, 1) := by decide +kernel
theorem dX11_goOnEnded_96 : decode cX11_goOnEnded 96 = .ok (.getfield 173, 3) := by decide +kernel
theorem dX11_goOnEnded_99 : decode cX11_goOnEnded 99 = .ok (.ifCond .eq 34, 3) := by decide +kernel
theorem dX11_goOnEnded_102 : decode cX11_goOnEnded 102 = .ok (.aload_n 0, 1) := by decide +kernel
theorem dX11_goOnEnded_103 : decode cX11_goOnEnded 103 = .ok (.dup, 1) := by decide +kernel
theorem dX11_goOnEnded_104 : decode cX11_goOnEnded 104 = .ok (.getfield 293, 3) := by decide +kernel
theorem dX11_goOnEnded_107 : decode cX11_goOnEnded 107 = .ok (.iconst 1, 1) := by decide +kernel
theorem dX11_goOnEnded_108 : decode cX11_goOnEnded 108 = .ok (.isub, 1) := by decide +kernel
theorem dX11_goOnEnded_109 : decode cX11_goOnEnded 109 = .ok (.putfield 293, 3) := by decide +kernel
theorem dX11_goOnEnded_112 : decode cX11_goOnEnded 112 = .ok (.aload_n 0, 1) := by decide +kernel
theorem dX11_goOnEnded_113 : decode cX11_goOnEnded 113 = .ok (.dup, 1) := by decide +kernel
theorem dX11_goOnEnded_114 : decode cX11_goOnEnded 114 = .ok (.getfield 306, 3) := by decide +kernel
theorem dX11_goOnEnded_117 : decode cX11_goOnEnded 117 = .ok (.iconst 1, 1) := by decide +kernel
theorem dX11_goOnEnded_118 : decode cX11_goOnEnded 118 = .ok (.isub, 1) := by decide +kernel
theorem dX11_goOnEnded_119 : decode cX11_goOnEnded 119 = .ok (.putfield 306, 3) := by decide +kernel
theorem dX11_goOnEnded_122 : decode cX11_goOnEnded 122 = .ok (.aload_n 0, 1) := by decide +kernel
theorem dX11_goOnEnded_123 : decode cX11_goOnEnded 123 = .ok (.ldc_w 331, 3) := by decide +kernel
theorem dX11_goOnEnded_126 : decode cX11_goOnEnded 126 = .ok (.invokevirtual 343, 3) := by decide +kernel
theorem dX11_goOnEnded_129 : decode cX11_goOnEnded 129 = .ok (.aload_n 0, 1) := by decide +kernel
theorem dX11_goOnEnded_130 : decode cX11_goOnEnded 130 = .ok (.invokevirtual 177, 3) := by decide +kernel
theorem dX11_goOnEnded_133 : decode cX11_goOnEnded 133 = .ok (.return_, 1) := by decide +kernel
theorem dX11_wantRule_0 : decode cX11_wantRule 0 = .ok (.aload_n 0, 1) := by decide +kernel
theorem dX11_wantRule_1 : decode cX11_wantRule 1 = .ok (.iconst 0, 1) := by decide +kernel
theorem dX11_wantRule_2 : decode cX11_wantRule 2 = .ok (.putfield 293, 3) := by decide +kernel
theorem dX11_wantRule_5 : decode cX11_wantRule 5 = .ok (.aload_n 0, 1) := by decide +kernel
theorem dX11_wantRule_6 : decode cX11_wantRule 6 = .ok (.iconst 0, 1) := by decide +kernel
theorem dX11_wantRule_7 : decode cX11_wantRule 7 = .ok (.putfield 290, 3) := by decide +kernel
theorem dX11_wantRule_10 : decode cX11_wantRule 10 = .ok (.aload_n 0, 1) := by decide +kernel
theorem dX11_wantRule_11 : decode cX11_wantRule 11 = .ok (.iconst 0, 1) := by decide +kernel
theorem dX11_wantRule_12 : decode cX11_wantRule 12 = .ok (.putfield 306, 3) := by decide +kernel
theorem dX11_wantRule_15 : decode cX11_wantRule 15 = .ok (.aload_n 0, 1) := by decide +kernel
theorem dX11_wantRule_16 : decode cX11_wantRule 16 = .ok (.iconst 0, 1) := by decide +kernel
theorem dX11_wantRule_17 : decode cX11_wantRule 17 = .ok (.putfield 336, 3) := by decide +kernel
theorem dX11_wantRule_20 : decode cX11_wantRule 20 = .ok (.aload_n 0, 1) := by decide +kernel
theorem dX11_wantRule_21 : decode cX11_wantRule 21 = .ok (.getfield 173, 3) := by decide +kernel
theorem dX11_wantRule_24 : decode cX11_wantRule 24 = .ok (.ifCond .eq 84, 3) := by decide +kernel
theorem dX11_wantRule_27 : decode cX11_wantRule 27 = .ok (.aload_n 0, 1) := by decide +kernel
theorem dX11_wantRule_28 : decode cX11_wantRule 28 = .ok (.getfield 157, 3) := by decide +kernel
theorem dX11_wantRule_31 : decode cX11_wantRule 31 = .ok (.ifCond .ne 11, 3) := by decide +kernel
theorem dX11_wantRule_34 : decode cX11_wantRule 34 = .ok (.aload_n 0, 1) := by decide +kernel
theorem dX11_wantRule_35 : decode cX11_wantRule 35 = .ok (.getfield 336, 3) := by decide +kernel
theorem dX11_wantRule_38 : decode cX11_wantRule 38 = .ok (.iconst 3, 1) := by decide +kernel
theorem dX11_wantRule_39 : decode cX11_wantRule 39 = .ok (.if_icmp .ne 69, 3) := by decide +kernel
theorem dX11_wantRule_42 : decode cX11_wantRule 42 = .ok (.aload_n 0, 1) := by decide +kernel
theorem dX11_wantRule_43 : decode cX11_wantRule 43 = .ok (.getfield 336, 3) := by decide +kernel
theorem dX11_wantRule_46 : decode cX11_wantRule 46 = .ok (.tableswitch 55 0 4 #[34, 41, 55, 55, 48], 34) := by decide +kernel
theorem dX11_wantRule_80 : decode cX11_wantRule 80 = .ok (.aload_n 0, 1) := by decide +kernel
theorem dX11_wantRule_81 : decode cX11_wantRule 81 = .ok (.invokevirtual 352, 3) := by decide +kernel
theorem dX11_wantRule_84 : decode cX11_wantRule 84 = .ok (.goto (-64), 3) := by decide +kernel
theorem dX11_wantRule_87 : decode cX11_wantRule 87 = .ok (.aload_n 0, 1) := by decide +kernel
theorem dX11_wantRule_88 : decode cX11_wantRule 88 = .ok (.invokevirtual 355, 3) := by decide +kernel
theorem dX11_wantRule_91 : decode cX11_wantRule 91 = .ok (.goto (-71), 3) := by decide +kernel
theorem dX11_wantRule_94 : decode cX11_wantRule 94 = .ok (.aload_n 0, 1) := by decide +kernel
theorem dX11_wantRule_95 : decode cX11_wantRule 95 = .ok (.invokevirtual 358, 3) := by decide +kernel
theorem dX11_wantRule_98 : decode cX11_wantRule 98 = .ok (.goto (-78), 3) := by decide +kernel
theorem dX11_wantRule_101 : decode cX11_wantRule 101 = .ok (.aload_n 0, 1) := by decide +kernel
theorem dX11_wantRule_102 : decode cX11_wantRule 102 = .ok (.invokevirtual 361, 3) := by decide +kernel
theorem dX11_wantRule_105 : decode cX11_wantRule 105 = .ok (.goto (-85), 3) := by decide +kernel
theorem dX11_wantRule_108 : decode cX11_wantRule 108 = .ok (.aload_n 0, 1) := by decide +kernel
theorem dX11_wantRule_109 : decode cX11_wantRule 109 = .ok (.getfield 173, 3) := by decide +kernel
theorem dX11_wantRule_112 : decode cX11_wantRule 112 = .ok (.ifCond .eq 32, 3) := by decide +kernel
theorem dX11_wantRule_115 : decode cX11_wantRule 115 = .ok (.aload_n 0, 1) := by decide +kernel
theorem dX11_wantRule_116 : decode cX11_wantRule 116 = .ok (.iconst 1, 1) := by decide +kernel
theorem dX11_wantRule_117 : decode cX11_wantRule 117 = .ok (.invokevirtual 345, 3) := by decide +kernel
theorem dX11_wantRule_120 : decode cX11_wantRule 120 = .ok (.aload_n 0, 1) := by decide +kernel
theorem dX11_wantRule_121 : decode cX11_wantRule 121 = .ok (.aload_n 0, 1) := by decide +kernel
theorem dX11_wantRule_122 : decode cX11_wantRule 122 = .ok (.getfield 336, 3) := by decide +kernel
theorem dX11_wantRule_125 : decode cX11_wantRule 125 = .ok (.iconst 4, 1) := by decide +kernel
theorem dX11_wantRule_126 : decode cX11_wantRule 126 = .ok (.if_icmp .ne 14, 3) := by decide +kernel
theorem dX11_wantRule_129 : decode cX11_wantRule 129 = .ok (.aload_n 0, 1) := by decide +kernel
theorem dX11_wantRule_130 : decode cX11_wantRule 130 = .ok (.getfield 293, 3) := by decide +kernel
theorem dX11_wantRule_133 : decode cX11_wantRule 133 = .ok (.ifCond .ne 7, 3) := by decide +kernel
theorem dX11_wantRule_136 : decode cX11_wantRule 136 = .ok (.iconst 1, 1) := by decide +kernel
theorem dX11_wantRule_137 : decode cX11_wantRule 137 = .ok (.goto 4, 3) := by decide +kernel
theorem dX11_wantRule_140 : decode cX11_wantRule 140 = .ok (.iconst 0, 1) := by decide +kernel
theorem dX11_wantRule_141 : decode cX11_wantRule 141 = .ok (.putfield 173, 3) := by decide +kernel
theorem dX11_wantRule_144 : decode cX11_wantRule 144 = .ok (.return_, 1) := by decide +kernel
theorem dX11_house_0 : decode cX11_house 0 = .ok (.aload_n 0, 1) := by decide +kernel
theorem dX11_house_1 : decode cX11_house 1 = .ok (.getfield 364, 3) := by decide +kernel
theorem dX11_house_4 : decode cX11_house 4 = .ok (.bipush 8, 2) := by decide +kernel
theorem dX11_house_6 : decode cX11_house 6 = .ok (.if_icmp .ne 6, 3) := by decide +kernel
theorem dX11_house_9 : decode cX11_house 9 = .ok (.bipush (-2), 2) := by decide +kernel
theorem dX11_house_11 : decode cX11_house 11 = .ok (.ireturn, 1) := by decide +kernel
theorem dX11_house_12 : decode cX11_house 12 = .ok (.aload_n 0, 1) := by decide +kernel
theorem dX11_house_13 : decode cX11_house 13 = .ok (.invokevirtual 210, 3) := by decide +kernel
theorem dX11_house_16 : decode cX11_house 16 = .ok (.aload_n 0, 1) := by decide +kernel
theorem dX11_house_17 : decode cX11_house 17 = .ok (.invokevirtual 367, 3) := by decide +kernel
theorem dX11_house_20 : decode cX11_house 20 = .ok (.aload_n 0, 1) := by decide +kernel
theorem dX11_house_21 : decode cX11_house 21 = .ok (.iconst 0, 1) := by decide +kernel
theorem dX11_house_22 : decode cX11_house 22 = .ok (.putfield 137, 3) := by decide +kernel
theorem dX11_house_25 : decode cX11_house 25 = .ok (.aload_n 0, 1) := by decide +kernel
theorem dX11_house_26 : decode cX11_house 26 = .ok (.getfield 173, 3) := by decide +kernel
theorem dX11_house_29 : decode cX11_house 29 = .ok (.ifCond .ne 11, 3) := by decide +kernel
theorem dX11_house_32 : decode cX11_house 32 = .ok (.bipush (-100), 2) := by decide +kernel
theorem dX11_house_34 : decode cX11_house 34 = .ok (.aload_n 0, 1) := by decide +kernel
theorem dX11_house_35 : decode cX11_house 35 = .ok (.getfield 145, 3) := by decide +kernel
theorem dX11_house_38 : decode cX11_house 38 = .ok (.isub, 1) := by decide +kernel
theorem dX11_house_39 : decode cX11_house 39 = .ok (.ireturn, 1) := by decide +kernel
theorem dX11_house_40 : decode cX11_house 40 = .ok (.aload_n 0, 1) := by decide +kernel
theorem dX11_house_41 : decode cX11_house 41 = .ok (.getfield 23, 3) := by decide +kernel
theorem dX11_house_44 : decode cX11_house 44 = .ok (.aload_n 0, 1) := by decide +kernel
theorem dX11_house_45 : decode cX11_house 45 = .ok (.getfield 364, 3) := by decide +kernel
theorem dX11_house_48 : decode cX11_house 48 = .ok (.aload_n 0, 1) := by decide +kernel
theorem dX11_house_49 : decode cX11_house 49 = .ok (.getfield 290, 3) := by decide +kernel
theorem dX11_house_52 : decode cX11_house 52 = .ok (.iastore, 1) := by decide +kernel
theorem dX11_house_53 : decode cX11_house 53 = .ok (.iconst 0, 1) := by decide +kernel
theorem dX11_house_54 : decode cX11_house 54 = .ok (.istore_n 1, 1) := by decide +kernel
theorem dX11_house_55 : decode cX11_house 55 = .ok (.iload_n 1, 1) := by decide +kernel
theorem dX11_house_56 : decode cX11_house 56 = .ok (.aload_n 0, 1) := by decide +kernel
theorem dX11_house_57 : decode cX11_house 57 = .ok (.getfield 290, 3) := by decide +kernel
theorem dX11_house_60 : decode cX11_house 60 = .ok (.if_icmp .ge 30, 3) := by decide +kernel
theorem dX11_house_63 : decode cX11_house 63 = .ok (.aload_n 0, 1) := by decide +kernel
theorem dX11_house_64 : decode cX11_house 64 = .ok (.getfield 26, 3) := by decide +kernel
theorem dX11_house_67 : decode cX11_house 67 = .ok (.sipush 200, 3) := by decide +kernel
theorem dX11_house_70 : decode cX11_house 70 = .ok (.aload_n 0, 1) := by decide +kernel
theorem dX11_house_71 : decode cX11_house 71 = .ok (.getfield 364, 3) := by decide +kernel
theorem dX11_house_74 : decode cX11_house 74 = .ok (.imul, 1) := by decide +kernel
theorem dX11_house_75 : decode cX11_house 75 = .ok (.iload_n 1, 1) := by decide +kernel
theorem dX11_house_76 : decode cX11_house 76 = .ok (.iadd, 1) := by decide +kernel
theorem dX11_house_77 : decode cX11_house 77 = .ok (.aload_n 0, 1) := by decide +kernel
theorem dX11_house_78 : decode cX11_house 78 = .ok (.getfield 41, 3) := by decide +kernel
theorem dX11_house_81 : decode cX11_house 81 = .ok (.iload_n 1, 1) := by decide +kernel
theorem dX11_house_82 : decode cX11_house 82 = .ok (.iaload, 1) := by decide +kernel
theorem dX11_house_83 : decode cX11_house 83 = .ok (.iastore, 1) := by decide +kernel
theorem dX11_house_84 : decode cX11_house 84 = .ok (.iinc 1 1, 3) := by decide +kernel
theorem dX11_house_87 : decode cX11_house 87 = .ok (.goto (-32), 3) := by decide +kernel
theorem dX11_house_90 : decode cX11_house 90 = .ok (.aload_n 0, 1) := by decide +kernel
theorem dX11_house_91 : decode cX11_house 91 = .ok (.dup, 1) := by decide +kernel
theorem dX11_house_92 : decode cX11_house 92 = .ok (.getfield 364, 3) := by decide +kernel
theorem dX11_house_95 : decode cX11_house 95 = .ok (.iconst 1, 1) := by decide +kernel
theorem dX11_house_96 : decode cX11_house 96 = .ok (.iadd, 1) := by decide +kernel
theorem dX11_house_97 : decode cX11_house 97 = .ok (.putfield 364, 3) := by decide +kernel
theorem dX11_house_100 : decode cX11_house 100 = .ok (.aload_n 0, 1) := by decide +kernel
theorem dX11_house_101 : decode cX11_house 101 = .ok (.getfield 364, 3) := by decide +kernel
theorem dX11_house_104 : decode cX11_house 104 = .ok (.iconst 1, 1) := by decide +kernel
theorem dX11_house_105 : decode cX11_house 105 = .ok (.isub, 1) := by decide +kernel
theorem dX11_house_106 : decode cX11_house 106 = .ok (.ireturn, 1) := by decide +kernel
theorem dX11_factOf_0 : decode cX11_factOf 0 = .ok (.iload_n 1, 1) := by decide +kernel
theorem dX11_factOf_1 : decode cX11_factOf 1 = .ok (.tableswitch 137 0 5 #[39, 44, 49, 77, 110, 115], 39) := by decide +kernel
theorem dX11_factOf_40 : decode cX11_factOf 40 = .ok (.aload_n 0, 1) := by decide +kernel
theorem dX11_factOf_41 : decode cX11_factOf 41 = .ok (.getfield 103, 3) := by decide +kernel
theorem dX11_factOf_44 : decode cX11_factOf 44 = .ok (.ireturn, 1) := by decide +kernel
theorem dX11_factOf_45 : decode cX11_factOf 45 = .ok (.aload_n 0, 1) := by decide +kernel
theorem dX11_factOf_46 : decode cX11_factOf 46 = .ok (.getfield 116, 3) := by decide +kernel
theorem dX11_factOf_49 : decode cX11_factOf 49 = .ok (.ireturn, 1) := by decide +kernel
theorem dX11_factOf_50 : decode cX11_factOf 50 = .ok (.aload_n 0, 1) := by decide +kernel
theorem dX11_factOf_51 : decode cX11_factOf 51 = .ok (.iconst 0, 1) := by decide +kernel
theorem dX11_factOf_52 : decode cX11_factOf 52 = .ok (.iconst 0, 1) := by decide +kernel
theorem dX11_factOf_53 : decode cX11_factOf 53 = .ok (.sipush 999, 3) := by decide +kernel
theorem dX11_factOf_56 : decode cX11_factOf 56 = .ok (.invokevirtual 279, 3) := by decide +kernel
theorem dX11_factOf_59 : decode cX11_factOf 59 = .ok (.istore_n 2, 1) := by decide +kernel
theorem dX11_factOf_60 : decode cX11_factOf 60 = .ok (.aload_n 0, 1) := by decide +kernel
theorem dX11_factOf_61 : decode cX11_factOf 61 = .ok (.getfield 276, 3) := by decide +kernel
theorem dX11_factOf_64 : decode cX11_factOf 64 = .ok (.ifCond .ne 7, 3) := by decide +kernel
theorem dX11_factOf_67 : decode cX11_factOf 67 = .ok (.iconst 0, 1) := by decide +kernel
theorem dX11_factOf_68 : decode cX11_factOf 68 = .ok (.goto 9, 3) := by decide +kernel
theorem dX11_factOf_71 : decode cX11_factOf 71 = .ok (.iload_n 2, 1) := by decide +kernel
theorem dX11_factOf_72 : decode cX11_factOf 72 = .ok (.aload_n 0, 1) := by decide +kernel
theorem dX11_factOf_73 : decode cX11_factOf 73 = .ok (.getfield 276, 3) := by decide +kernel
theorem dX11_factOf_76 : decode cX11_factOf 76 = .ok (.idiv, 1) := by decide +kernel
theorem dX11_factOf_77 : decode cX11_factOf 77 = .ok (.ireturn, 1) := by decide +kernel
theorem dX11_factOf_78 : decode cX11_factOf 78 = .ok (.iconst 0, 1) := by decide +kernel
theorem dX11_factOf_79 : decode cX11_factOf 79 = .ok (.istore_n 3, 1) := by decide +kernel
theorem dX11_factOf_80 : decode cX11_factOf 80 = .ok (.iconst 0, 1) := by decide +kernel
theorem dX11_factOf_81 : decode cX11_factOf 81 = .ok (.istore 4, 2) := by decide +kernel
theorem dX11_factOf_83 : decode cX11_factOf 83 = .ok (.iload 4, 2) := by decide +kernel
theorem dX11_factOf_85 : decode cX11_factOf 85 = .ok (.aload_n 0, 1) := by decide +kernel
theorem dX11_factOf_86 : decode cX11_factOf 86 = .ok (.getfield 84, 3) := by decide +kernel
theorem dX11_factOf_89 : decode cX11_factOf 89 = .ok (.if_icmp .ge 20, 3) := by decide +kernel
theorem dX11_factOf_92 : decode cX11_factOf 92 = .ok (.iload_n 3, 1) := by decide +kernel
theorem dX11_factOf_93 : decode cX11_factOf 93 = .ok (.aload_n 0, 1) := by decide +kernel
theorem dX11_factOf_94 : decode cX11_factOf 94 = .ok (.iload 4, 2) := by decide +kernel
theorem dX11_factOf_96 : decode cX11_factOf 96 = .ok (.bipush 6, 2) := by decide +kernel
theorem dX11_factOf_98 : decode cX11_factOf 98 = .ok (.invokevirtual 94, 3) := by decide +kernel
theorem dX11_factOf_101 : decode cX11_factOf 101 = .ok (.iadd, 1) := by decide +kernel
theorem dX11_factOf_102 : decode cX11_factOf 102 = .ok (.istore_n 3, 1) := by decide +kernel
theorem dX11_factOf_103 : decode cX11_factOf 103 = .ok (.iinc 4 1, 3) := by decide +kernel
theorem dX11_factOf_106 : decode cX11_factOf 106 = .ok (.goto (-23), 3) := by decide +kernel
theorem dX11_factOf_109 : decode cX11_factOf 109 = .ok (.iload_n 3, 1) := by decide +kernel
theorem dX11_factOf_110 : decode cX11_factOf 110 = .ok (.ireturn, 1) := by decide +kernel
theorem dX11_factOf_111 : decode cX11_factOf 111 = .ok (.aload_n 0, 1) := by decide +kernel
theorem dX11_factOf_112 : decode cX11_factOf 112 = .ok (.getfield 134, 3) := by decide +kernel
theorem dX11_factOf_115 : decode cX11_factOf 115 = .ok (.ireturn, 1) := by decide +kernel
theorem dX11_factOf_116 : decode cX11_factOf 116 = .ok (.aload_n 0, 1) := by decide +kernel
theorem dX11_factOf_117 : decode cX11_factOf 117 = .ok (.invokevirtual 238, 3) := by decide +kernel
theorem dX11_factOf_120 : decode cX11_factOf 120 = .ok (.istore 4, 2) := by decide +kernel
theorem dX11_factOf_122 : decode cX11_factOf 122 = .ok (.iload 4, 2) := by decide +kernel
theorem dX11_factOf_124 : decode cX11_factOf 124 = .ok (.ifCond .ge 7, 3) := by decide +kernel
theorem dX11_factOf_127 : decode cX11_factOf 127 = .ok (.iconst 0, 1) := by decide +kernel
theorem dX11_factOf_128 : decode cX11_factOf 128 = .ok (.goto 9, 3) := by decide +kernel
theorem dX11_factOf_131 : decode cX11_factOf 131 = .ok (.aload_n 0, 1) := by decide +kernel
theorem dX11_factOf_132 : decode cX11_factOf 132 = .ok (.iload 4, 2) := by decide +kernel
theorem dX11_factOf_134 : decode cX11_factOf 134 = .ok (.invokevirtual 235, 3) := by decide +kernel
theorem dX11_factOf_137 : decode cX11_factOf 137 = .ok (.ireturn, 1) := by decide +kernel
theorem dX11_factOf_138 : decode cX11_factOf 138 = .ok (.iconst 0, 1) := by decide +kernel
theorem dX11_factOf_139 : decode cX11_factOf 139 = .ok (.ireturn, 1) := by decide +kernel
theorem dX11_fact_0 : decode cX11_fact 0 = .ok (.iload_n 1, 1) := by decide +kernel
theorem dX11_fact_1 : decode cX11_fact 1 = .ok (.iconst 0, 1) := by decide +kernel
theorem dX11_fact_2 : decode cX11_fact 2 = .ok (.bipush 6, 2) := by decide +kernel
theorem dX11_fact_4 : decode cX11_fact 4 = .ok (.invokestatic 87, 3) := by decide +kernel
theorem dX11_fact_7 : decode cX11_fact 7 = .ok (.ifCond .eq 11, 3) := by decide +kernel
theorem dX11_fact_10 : decode cX11_fact 10 = .ok (.aload_n 0, 1) := by decide +kernel
theorem dX11_fact_11 : decode cX11_fact 11 = .ok (.iload_n 1, 1) := by decide +kernel
theorem dX11_fact_12 : decode cX11_fact 12 = .ok (.invokevirtual 370, 3) := by decide +kernel
theorem dX11_fact_15 : decode cX11_fact 15 = .ok (.goto 5, 3) := by decide +kernel
theorem dX11_fact_18 : decode cX11_fact 18 = .ok (.ldc 102, 2) := by decide +kernel
theorem dX11_fact_20 : decode cX11_fact 20 = .ok (.ireturn, 1) := by decide +kernel
theorem dX11_findFacts_0 : decode cX11_findFacts 0 = .ok (.iconst 0, 1) := by decide +kernel
theorem dX11_findFacts_1 : decode cX11_findFacts 1 = .ok (.istore_n 1, 1) := by decide +kernel
theorem dX11_findFacts_2 : decode cX11_findFacts 2 = .ok (.iload_n 1, 1) := by decide +kernel
theorem dX11_findFacts_3 : decode cX11_findFacts 3 = .ok (.bipush 7, 2) := by decide +kernel
theorem dX11_findFacts_5 : decode cX11_findFacts 5 = .ok (.if_icmp .ge 20, 3) := by decide +kernel
theorem dX11_findFacts_8 : decode cX11_findFacts 8 = .ok (.aload_n 0, 1) := by decide +kernel
theorem dX11_findFacts_9 : decode cX11_findFacts 9 = .ok (.getfield 50, 3) := by decide +kernel
theorem dX11_findFacts_12 : decode cX11_findFacts 12 = .ok (.iload_n 1, 1) := by decide +kernel
theorem dX11_findFacts_13 : decode cX11_findFacts 13 = .ok (.aload_n 0, 1) := by decide +kernel
theorem dX11_findFacts_14 : decode cX11_findFacts 14 = .ok (.iload_n 1, 1) := by decide +kernel
theorem dX11_findFacts_15 : decode cX11_findFacts 15 = .ok (.invokevirtual 370, 3) := by decide +kernel
theorem dX11_findFacts_18 : decode cX11_findFacts 18 = .ok (.iastore, 1) := by decide +kernel
theorem dX11_findFacts_19 : decode cX11_findFacts 19 = .ok (.iinc 1 1, 3) := by decide +kernel
theorem dX11_findFacts_22 : decode cX11_findFacts 22 = .ok (.goto (-20), 3) := by decide +kernel
theorem dX11_findFacts_25 : decode cX11_findFacts 25 = .ok (.return_, 1) := by decide +kernel
theorem dX11_joined_0 : decode cX11_joined 0 = .ok (.iload_n 0, 1) := by decide +kernel
theorem dX11_joined_1 : decode cX11_joined 1 = .ok (.lookupswitch 129 #[(30042, 95), (30043, 99), (30045, 103), (30060, 107), (30061, 118), (40000, 67), (40001, 81)], 67) := by decide +kernel
theorem dX11_joined_68 : decode cX11_joined 68 = .ok (.iload_n 1, 1) := by decide +kernel
theorem dX11_joined_69 : decode cX11_joined 69 = .ok (.ifCond .eq 11, 3) := by decide +kernel
theorem dX11_joined_72 : decode cX11_joined 72 = .ok (.iload_n 2, 1) := by decide +kernel
theorem dX11_joined_73 : decode cX11_joined 73 = .ok (.ifCond .eq 7, 3) := by decide +kernel
theorem dX11_joined_76 : decode cX11_joined 76 = .ok (.iconst 1, 1) := by decide +kernel
theorem dX11_joined_77 : decode cX11_joined 77 = .ok (.goto 4, 3) := by decide +kernel
theorem dX11_joined_80 : decode cX11_joined 80 = .ok (.iconst 0, 1) := by decide +kernel
theorem dX11_joined_81 : decode cX11_joined 81 = .ok (.ireturn, 1) := by decide +kernel
theorem dX11_joined_82 : decode cX11_joined 82 = .ok (.iload_n 1, 1) := by decide +kernel
theorem dX11_joined_83 : decode cX11_joined 83 = .ok (.ifCond .ne 7, 3) := by decide +kernel
theorem dX11_joined_86 : decode cX11_joined 86 = .ok (.iload_n 2, 1) := by decide +kernel
theorem dX11_joined_87 : decode cX11_joined 87 = .ok (.ifCond .eq 7, 3) := by decide +kernel
theorem dX11_joined_90 : decode cX11_joined 90 = .ok (.iconst 1, 1) := by decide +kernel
theorem dX11_joined_91 : decode cX11_joined 91 = .ok (.goto 4, 3) := by decide +kernel
theorem dX11_joined_94 : decode cX11_joined 94 = .ok (.iconst 0, 1) := by decide +kernel
theorem dX11_joined_95 : decode cX11_joined 95 = .ok (.ireturn, 1) := by decide +kernel
theorem dX11_joined_96 : decode cX11_joined 96 = .ok (.iload_n 1, 1) := by decide +kernel
theorem dX11_joined_97 : decode cX11_joined 97 = .ok (.iload_n 2, 1) := by decide +kernel
theorem dX11_joined_98 : decode cX11_joined 98 = .ok (.imul, 1) := by decide +kernel
theorem dX11_joined_99 : decode cX11_joined 99 = .ok (.ireturn, 1) := by decide +kernel
theorem dX11_joined_100 : decode cX11_joined 100 = .ok (.iload_n 1, 1) := by decide +kernel
theorem dX11_joined_101 : decode cX11_joined 101 = .ok (.iload_n 2, 1) := by decide +kernel
theorem dX11_joined_102 : decode cX11_joined 102 = .ok (.iadd, 1) := by decide +kernel
theorem dX11_joined_103 : decode cX11_joined 103 = .ok (.ireturn, 1) := by decide +kernel
theorem dX11_joined_104 : decode cX11_joined 104 = .ok (.iload_n 1, 1) := by decide +kernel
theorem dX11_joined_105 : decode cX11_joined 105 = .ok (.iload_n 2, 1) := by decide +kernel
theorem dX11_joined_106 : decode cX11_joined 106 = .ok (.isub, 1) := by decide +kernel
theorem dX11_joined_107 : decode cX11_joined 107 = .ok (.ireturn, 1) := by decide +kernel
theorem dX11_joined_108 : decode cX11_joined 108 = .ok (.iload_n 1, 1) := by decide +kernel
theorem dX11_joined_109 : decode cX11_joined 109 = .ok (.iload_n 2, 1) := by decide +kernel
theorem dX11_joined_110 : decode cX11_joined 110 = .ok (.if_icmp .ge 7, 3) := by decide +kernel
theorem dX11_joined_113 : decode cX11_joined 113 = .ok (.iconst 1, 1) := by decide +kernel
theorem dX11_joined_114 : decode cX11_joined 114 = .ok (.goto 4, 3) := by decide +kernel
theorem dX11_joined_117 : decode cX11_joined 117 = .ok (.iconst 0, 1) := by decide +kernel
theorem dX11_joined_118 : decode cX11_joined 118 = .ok (.ireturn, 1) := by decide +kernel
theorem dX11_joined_119 : decode cX11_joined 119 = .ok (.iload_n 1, 1) := by decide +kernel
theorem dX11_joined_120 : decode cX11_joined 120 = .ok (.iload_n 2, 1) := by decide +kernel
theorem dX11_joined_121 : decode cX11_joined 121 = .ok (.if_icmp .ne 7, 3) := by decide +kernel
theorem dX11_joined_124 : decode cX11_joined 124 = .ok (.iconst 1, 1) := by decide +kernel
theorem dX11_joined_125 : decode cX11_joined 125 = .ok (.goto 4, 3) := by decide +kernel
theorem dX11_joined_128 : decode cX11_joined 128 = .ok (.iconst 0, 1) := by decide +kernel
theorem dX11_joined_129 : decode cX11_joined 129 = .ok (.ireturn, 1) := by decide +kernel
theorem dX11_joined_130 : decode cX11_joined 130 = .ok (.iload_n 1, 1) := by decide +kernel
theorem dX11_joined_131 : decode cX11_joined 131 = .ok (.iload_n 2, 1) := by decide +kernel
theorem dX11_joined_132 : decode cX11_joined 132 = .ok (.if_icmp .le 7, 3) := by decide +kernel
theorem dX11_joined_135 : decode cX11_joined 135 = .ok (.iconst 1, 1) := by decide +kernel
theorem dX11_joined_136 : decode cX11_joined 136 = .ok (.goto 4, 3) := by decide +kernel
theorem dX11_joined_139 : decode cX11_joined 139 = .ok (.iconst 0, 1) := by decide +kernel
theorem dX11_joined_140 : decode cX11_joined 140 = .ok (.ireturn, 1) := by decide +kernel
theorem dX11_isSo_0 : decode cX11_isSo 0 = .ok (.aload_n 0, 1) := by decide +kernel
theorem dX11_isSo_1 : decode cX11_isSo 1 = .ok (.getfield 50, 3) := by decide +kernel
theorem dX11_isSo_4 : decode cX11_isSo 4 = .ok (.bipush 6, 2) := by decide +kernel
theorem dX11_isSo_6 : decode cX11_isSo 6 = .ok (.iload_n 2, 1) := by decide +kernel
theorem dX11_isSo_7 : decode cX11_isSo 7 = .ok (.iastore, 1) := by decide +kernel
theorem dX11_isSo_8 : decode cX11_isSo 8 = .ok (.iconst 0, 1) := by decide +kernel
theorem dX11_isSo_9 : decode cX11_isSo 9 = .ok (.istore_n 3, 1) := by decide +kernel
theorem dX11_isSo_10 : decode cX11_isSo 10 = .ok (.sipush 200, 3) := by decide +kernel
theorem dX11_isSo_13 : decode cX11_isSo 13 = .ok (.iload_n 1, 1) := by decide +kernel
theorem dX11_isSo_14 : decode cX11_isSo 14 = .ok (.imul, 1) := by decide +kernel
theorem dX11_isSo_15 : decode cX11_isSo 15 = .ok (.istore 4, 2) := by decide +kernel
theorem dX11_isSo_17 : decode cX11_isSo 17 = .ok (.iload 4, 2) := by decide +kernel
theorem dX11_isSo_19 : decode cX11_isSo 19 = .ok (.sipush 200, 3) := by decide +kernel
theorem dX11_isSo_22 : decode cX11_isSo 22 = .ok (.iload_n 1, 1) := by decide +kernel
theorem dX11_isSo_23 : decode cX11_isSo 23 = .ok (.imul, 1) := by decide +kernel
theorem dX11_isSo_24 : decode cX11_isSo 24 = .ok (.aload_n 0, 1) := by decide +kernel
theorem dX11_isSo_25 : decode cX11_isSo 25 = .ok (.getfield 23, 3) := by decide +kernel
theorem dX11_isSo_28 : decode cX11_isSo 28 = .ok (.iload_n 1, 1) := by decide +kernel
theorem dX11_isSo_29 : decode cX11_isSo 29 = .ok (.iaload, 1) := by decide +kernel
theorem dX11_isSo_30 : decode cX11_isSo 30 = .ok (.iadd, 1) := by decide +kernel
theorem dX11_isSo_31 : decode cX11_isSo 31 = .ok (.if_icmp .ge 150, 3) := by decide +kernel
theorem dX11_isSo_34 : decode cX11_isSo 34 = .ok (.aload_n 0, 1) := by decide +kernel
theorem dX11_isSo_35 : decode cX11_isSo 35 = .ok (.getfield 26, 3) := by decide +kernel
theorem dX11_isSo_38 : decode cX11_isSo 38 = .ok (.iload 4, 2) := by decide +kernel
theorem dX11_isSo_40 : decode cX11_isSo 40 = .ok (.iaload, 1) := by decide +kernel
theorem dX11_isSo_41 : decode cX11_isSo 41 = .ok (.istore 5, 2) := by decide +kernel
theorem dX11_isSo_43 : decode cX11_isSo 43 = .ok (.iload 5, 2) := by decide +kernel
theorem dX11_isSo_45 : decode cX11_isSo 45 = .ok (.ldc_w 331, 3) := by decide +kernel
theorem dX11_isSo_48 : decode cX11_isSo 48 = .ok (.if_icmp .ne 24, 3) := by decide +kernel
theorem dX11_isSo_51 : decode cX11_isSo 51 = .ok (.aload_n 0, 1) := by decide +kernel
theorem dX11_isSo_52 : decode cX11_isSo 52 = .ok (.getfield 47, 3) := by decide +kernel
theorem dX11_isSo_55 : decode cX11_isSo 55 = .ok (.iload_n 3, 1) := by decide +kernel
theorem dX11_isSo_56 : decode cX11_isSo 56 = .ok (.iconst 1, 1) := by decide +kernel
theorem dX11_isSo_57 : decode cX11_isSo 57 = .ok (.isub, 1) := by decide +kernel
theorem dX11_isSo_58 : decode cX11_isSo 58 = .ok (.iconst 1, 1) := by decide +kernel
theorem dX11_isSo_59 : decode cX11_isSo 59 = .ok (.aload_n 0, 1) := by decide +kernel
theorem dX11_isSo_60 : decode cX11_isSo 60 = .ok (.getfield 47, 3) := by decide +kernel
theorem dX11_isSo_63 : decode cX11_isSo 63 = .ok (.iload_n 3, 1) := by decide +kernel
theorem dX11_isSo_64 : decode cX11_isSo 64 = .ok (.iconst 1, 1) := by decide +kernel
theorem dX11_isSo_65 : decode cX11_isSo 65 = .ok (.isub, 1) := by decide +kernel
theorem dX11_isSo_66 : decode cX11_isSo 66 = .ok (.iaload, 1) := by decide +kernel
theorem dX11_isSo_67 : decode cX11_isSo 67 = .ok (.isub, 1) := by decide +kernel
theorem dX11_isSo_68 : decode cX11_isSo 68 = .ok (.iastore, 1) := by decide +kernel
theorem dX11_isSo_69 : decode cX11_isSo 69 = .ok (.goto 106, 3) := by decide +kernel
theorem dX11_isSo_72 : decode cX11_isSo 72 = .ok (.iload 5, 2) := by decide +kernel
theorem dX11_isSo_74 : decode cX11_isSo 74 = .ok (.ldc_w 339, 3) := by decide +kernel
theorem dX11_isSo_77 : decode cX11_isSo 77 = .ok (.if_icmp .ne 24, 3) := by decide +kernel
theorem dX11_isSo_80 : decode cX11_isSo 80 = .ok (.aload_n 0, 1) := by decide +kernel
theorem dX11_isSo_81 : decode cX11_isSo 81 = .ok (.getfield 47, 3) := by decide +kernel
theorem dX11_isSo_84 : decode cX11_isSo 84 = .ok (.iload_n 3, 1) := by decide +kernel
theorem dX11_isSo_85 : decode cX11_isSo 85 = .ok (.iconst 1, 1) := by decide +kernel
theorem dX11_isSo_86 : decode cX11_isSo 86 = .ok (.isub, 1) := by decide +kernel
theorem dX11_isSo_87 : decode cX11_isSo 87 = .ok (.iconst 0, 1) := by decide +kernel
theorem dX11_isSo_88 : decode cX11_isSo 88 = .ok (.aload_n 0, 1) := by decide +kernel
theorem dX11_isSo_89 : decode cX11_isSo 89 = .ok (.getfield 47, 3) := by decide +kernel
theorem dX11_isSo_92 : decode cX11_isSo 92 = .ok (.iload_n 3, 1) := by decide +kernel
theorem dX11_isSo_93 : decode cX11_isSo 93 = .ok (.iconst 1, 1) := by decide +kernel
theorem dX11_isSo_94 : decode cX11_isSo 94 = .ok (.isub, 1) := by decide +kernel
theorem dX11_isSo_95 : decode cX11_isSo 95 = .ok (.iaload, 1) := by decide +kernel
theorem dX11_isSo_96 : decode cX11_isSo 96 = .ok (.isub, 1) := by decide +kernel
theorem dX11_isSo_97 : decode cX11_isSo 97 = .ok (.iastore, 1) := by decide +kernel
theorem dX11_isSo_98 : decode cX11_isSo 98 = .ok (.goto 77, 3) := by decide +kernel
theorem dX11_isSo_101 : decode cX11_isSo 101 = .ok (.iload 5, 2) := by decide +kernel
theorem dX11_isSo_103 : decode cX11_isSo 103 = .ok (.sipush 30000, 3) := by decide +kernel
theorem dX11_isSo_106 : decode cX11_isSo 106 = .ok (.if_icmp .lt 36, 3) := by decide +kernel
theorem dX11_isSo_109 : decode cX11_isSo 109 = .ok (.iinc 3 (-1), 3) := by decide +kernel
theorem dX11_isSo_112 : decode cX11_isSo 112 = .ok (.aload_n 0, 1) := by decide +kernel
theorem dX11_isSo_113 : decode cX11_isSo 113 = .ok (.getfield 47, 3) := by decide +kernel
theorem dX11_isSo_116 : decode cX11_isSo 116 = .ok (.iload_n 3, 1) := by decide +kernel
theorem dX11_isSo_117 : decode cX11_isSo 117 = .ok (.iconst 1, 1) := by decide +kernel
theorem dX11_isSo_118 : decode cX11_isSo 118 = .ok (.isub, 1) := by decide +kernel
theorem dX11_isSo_119 : decode cX11_isSo 119 = .ok (.iload 5, 2) := by decide +kernel
theorem dX11_isSo_121 : decode cX11_isSo 121 = .ok (.aload_n 0, 1) := by decide +kernel
theorem dX11_isSo_122 : decode cX11_isSo 122 = .ok (.getfield 47, 3) := by decide +kernel
theorem dX11_isSo_125 : decode cX11_isSo 125 = .ok (.iload_n 3, 1) := by decide +kernel
theorem dX11_isSo_126 : decode cX11_isSo 126 = .ok (.iconst 1, 1) := by decide +kernel
theorem dX11_isSo_127 : decode cX11_isSo 127 = .ok (.isub, 1) := by decide +kernel
theorem dX11_isSo_128 : decode cX11_isSo 128 = .ok (.iaload, 1) := by decide +kernel
theorem dX11_isSo_129 : decode cX11_isSo 129 = .ok (.aload_n 0, 1) := by decide +kernel
theorem dX11_isSo_130 : decode cX11_isSo 130 = .ok (.getfield 47, 3) := by decide +kernel
theorem dX11_isSo_133 : decode cX11_isSo 133 = .ok (.iload_n 3, 1) := by decide +kernel
theorem dX11_isSo_134 : decode cX11_isSo 134 = .ok (.iaload, 1) := by decide +kernel
theorem dX11_isSo_135 : decode cX11_isSo 135 = .ok (.invokestatic 373, 3) := by decide +kernel
theorem dX11_isSo_138 : decode cX11_isSo 138 = .ok (.iastore, 1) := by decide +kernel
theorem dX11_isSo_139 : decode cX11_isSo 139 = .ok (.goto 36, 3) := by decide +kernel
theorem dX11_isSo_142 : decode cX11_isSo 142 = .ok (.aload_n 0, 1) := by decide +kernel
theorem dX11_isSo_143 : decode cX11_isSo 143 = .ok (.getfield 47, 3) := by decide +kernel
theorem dX11_isSo_146 : decode cX11_isSo 146 = .ok (.iload_n 3, 1) := by decide +kernel
theorem dX11_isSo_147 : decode cX11_isSo 147 = .ok (.iload 5, 2) := by decide +kernel
theorem dX11_isSo_149 : decode cX11_isSo 149 = .ok (.sipush 20000, 3) := by decide +kernel
theorem dX11_isSo_152 : decode cX11_isSo 152 = .ok (.if_icmp .lt 17, 3) := by decide +kernel
theorem dX11_isSo_155 : decode cX11_isSo 155 = .ok (.aload_n 0, 1) := by decide +kernel
theorem dX11_isSo_156 : decode cX11_isSo 156 = .ok (.getfield 50, 3) := by decide +kernel
theorem dX11_isSo_159 : decode cX11_isSo 159 = .ok (.iload 5, 2) := by decide +kernel
theorem dX11_isSo_161 : decode cX11_isSo 161 = .ok (.sipush 20000, 3) := by decide +kernel
theorem dX11_isSo_164 : decode cX11_isSo 164 = .ok (.isub, 1) := by decide +kernel
theorem dX11_isSo_165 : decode cX11_isSo 165 = .ok (.iaload, 1) := by decide +kernel
theorem dX11_isSo_166 : decode cX11_isSo 166 = .ok (.goto 5, 3) := by decide +kernel
theorem dX11_isSo_169 : decode cX11_isSo 169 = .ok (.iload 5, 2) := by decide +kernel
theorem dX11_isSo_171 : decode cX11_isSo 171 = .ok (.iastore, 1) := by decide +kernel
theorem dX11_isSo_172 : decode cX11_isSo 172 = .ok (.iinc 3 1, 3) := by decide +kernel
theorem dX11_isSo_175 : decode cX11_isSo 175 = .ok (.iinc 4 1, 3) := by decide +kernel
theorem dX11_isSo_178 : decode cX11_isSo 178 = .ok (.goto (-161), 3) := by decide +kernel
theorem dX11_isSo_181 : decode cX11_isSo 181 = .ok (.aload_n 0, 1) := by decide +kernel
theorem dX11_isSo_182 : decode cX11_isSo 182 = .ok (.getfield 47, 3) := by decide +kernel
theorem dX11_isSo_185 : decode cX11_isSo 185 = .ok (.iconst 0, 1) := by decide +kernel
theorem dX11_isSo_186 : decode cX11_isSo 186 = .ok (.iaload, 1) := by decide +kernel
theorem dX11_isSo_187 : decode cX11_isSo 187 = .ok (.ifCond .eq 7, 3) := by decide +kernel
theorem dX11_isSo_190 : decode cX11_isSo 190 = .ok (.iconst 1, 1) := by decide +kernel
theorem dX11_isSo_191 : decode cX11_isSo 191 = .ok (.goto 4, 3) := by decide +kernel
theorem dX11_isSo_194 : decode cX11_isSo 194 = .ok (.iconst 0, 1) := by decide +kernel
theorem dX11_isSo_195 : decode cX11_isSo 195 = .ok (.ireturn, 1) := by decide +kernel
theorem dX11_holds_0 : decode cX11_holds 0 = .ok (.iload_n 1, 1) := by decide +kernel
theorem dX11_holds_1 : decode cX11_holds 1 = .ok (.iconst 0, 1) := by decide +kernel
theorem dX11_holds_2 : decode cX11_holds 2 = .ok (.aload_n 0, 1) := by decide +kernel
theorem dX11_holds_3 : decode cX11_holds 3 = .ok (.getfield 364, 3) := by decide +kernel
theorem dX11_holds_6 : decode cX11_holds 6 = .ok (.iconst 1, 1) := by decide +kernel
theorem dX11_holds_7 : decode cX11_holds 7 = .ok (.isub, 1) := by decide +kernel
theorem dX11_holds_8 : decode cX11_holds 8 = .ok (.invokestatic 87, 3) := by decide +kernel
theorem dX11_holds_11 : decode cX11_holds 11 = .ok (.ifCond .eq 13, 3) := by decide +kernel
theorem dX11_holds_14 : decode cX11_holds 14 = .ok (.iload_n 2, 1) := by decide +kernel
theorem dX11_holds_15 : decode cX11_holds 15 = .ok (.iconst 0, 1) := by decide +kernel
theorem dX11_holds_16 : decode cX11_holds 16 = .ok (.bipush 8, 2) := by decide +kernel
theorem dX11_holds_18 : decode cX11_holds 18 = .ok (.invokestatic 87, 3) := by decide +kernel
theorem dX11_holds_21 : decode cX11_holds 21 = .ok (.ifCond .ne 5, 3) := by decide +kernel
theorem dX11_holds_24 : decode cX11_holds 24 = .ok (.iconst (-1), 1) := by decide +kernel
theorem dX11_holds_25 : decode cX11_holds 25 = .ok (.ireturn, 1) := by decide +kernel
theorem dX11_holds_26 : decode cX11_holds 26 = .ok (.aload_n 0, 1) := by decide +kernel
theorem dX11_holds_27 : decode cX11_holds 27 = .ok (.invokevirtual 376, 3) := by decide +kernel
theorem dX11_holds_30 : decode cX11_holds 30 = .ok (.aload_n 0, 1) := by decide +kernel
theorem dX11_holds_31 : decode cX11_holds 31 = .ok (.iload_n 1, 1) := by decide +kernel
theorem dX11_holds_32 : decode cX11_holds 32 = .ok (.iload_n 2, 1) := by decide +kernel
theorem dX11_holds_33 : decode cX11_holds 33 = .ok (.invokevirtual 379, 3) := by decide +kernel
theorem dX11_holds_36 : decode cX11_holds 36 = .ok (.ifCond .eq 7, 3) := by decide +kernel
theorem dX11_holds_39 : decode cX11_holds 39 = .ok (.iconst 1, 1) := by decide +kernel
theorem dX11_holds_40 : decode cX11_holds 40 = .ok (.goto 4, 3) := by decide +kernel
theorem dX11_holds_43 : decode cX11_holds 43 = .ok (.iconst 0, 1) := by decide +kernel
theorem dX11_holds_44 : decode cX11_holds 44 = .ok (.ireturn, 1) := by decide +kernel
theorem dX11_sign_0 : decode cX11_sign 0 = .ok (.aload_n 0, 1) := by decide +kernel
theorem dX11_sign_1 : decode cX11_sign 1 = .ok (.invokevirtual 376, 3) := by decide +kernel
theorem dX11_sign_4 : decode cX11_sign 4 = .ok (.iconst 0, 1) := by decide +kernel
theorem dX11_sign_5 : decode cX11_sign 5 = .ok (.istore_n 1, 1) := by decide +kernel
theorem dX11_sign_6 : decode cX11_sign 6 = .ok (.iconst 0, 1) := by decide +kernel
theorem dX11_sign_7 : decode cX11_sign 7 = .ok (.istore_n 2, 1) := by decide +kernel
theorem dX11_sign_8 : decode cX11_sign 8 = .ok (.iconst 1, 1) := by decide +kernel
theorem dX11_sign_9 : decode cX11_sign 9 = .ok (.istore_n 3, 1) := by decide +kernel
theorem dX11_sign_10 : decode cX11_sign 10 = .ok (.iload_n 3, 1) := by decide +kernel
theorem dX11_sign_11 : decode cX11_sign 11 = .ok (.ifCond .eq 57, 3) := by decide +kernel
theorem dX11_sign_14 : decode cX11_sign 14 = .ok (.iconst 0, 1) := by decide +kernel
theorem dX11_sign_15 : decode cX11_sign 15 = .ok (.istore_n 3, 1) := by decide +kernel
theorem dX11_sign_16 : decode cX11_sign 16 = .ok (.iconst 0, 1) := by decide +kernel
theorem dX11_sign_17 : decode cX11_sign 17 = .ok (.istore 4, 2) := by decide +kernel
theorem dX11_sign_19 : decode cX11_sign 19 = .ok (.iload 4, 2) := by decide +kernel
theorem dX11_sign_21 : decode cX11_sign 21 = .ok (.aload_n 0, 1) := by decide +kernel
theorem dX11_sign_22 : decode cX11_sign 22 = .ok (.getfield 364, 3) := by decide +kernel
theorem dX11_sign_25 : decode cX11_sign 25 = .ok (.if_icmp .ge 40, 3) := by decide +kernel
theorem dX11_sign_28 : decode cX11_sign 28 = .ok (.iload_n 1, 1) := by decide +kernel
theorem dX11_sign_29 : decode cX11_sign 29 = .ok (.iload 4, 2) := by decide +kernel
theorem dX11_sign_31 : decode cX11_sign 31 = .ok (.ishr, 1) := by decide +kernel
theorem dX11_sign_32 : decode cX11_sign 32 = .ok (.iconst 1, 1) := by decide +kernel
theorem dX11_sign_33 : decode cX11_sign 33 = .ok (.iand, 1) := by decide +kernel
theorem dX11_sign_34 : decode cX11_sign 34 = .ok (.ifCond .ne 25, 3) := by decide +kernel
theorem dX11_sign_37 : decode cX11_sign 37 = .ok (.aload_n 0, 1) := by decide +kernel
theorem dX11_sign_38 : decode cX11_sign 38 = .ok (.iload 4, 2) := by decide +kernel
theorem dX11_sign_40 : decode cX11_sign 40 = .ok (.iload_n 2, 1) := by decide +kernel
theorem dX11_sign_41 : decode cX11_sign 41 = .ok (.invokevirtual 379, 3) := by decide +kernel
theorem dX11_sign_44 : decode cX11_sign 44 = .ok (.ifCond .eq 15, 3) := by decide +kernel
theorem dX11_sign_47 : decode cX11_sign 47 = .ok (.iload_n 1, 1) := by decide +kernel
theorem dX11_sign_48 : decode cX11_sign 48 = .ok (.iconst 1, 1) := by decide +kernel
theorem dX11_sign_49 : decode cX11_sign 49 = .ok (.iload 4, 2) := by decide +kernel
theorem dX11_sign_51 : decode cX11_sign 51 = .ok (.ishl, 1) := by decide +kernel
theorem dX11_sign_52 : decode cX11_sign 52 = .ok (.ior, 1) := by decide +kernel
theorem dX11_sign_53 : decode cX11_sign 53 = .ok (.istore_n 1, 1) := by decide +kernel
theorem dX11_sign_54 : decode cX11_sign 54 = .ok (.iinc 2 1, 3) := by decide +kernel
theorem dX11_sign_57 : decode cX11_sign 57 = .ok (.iconst 1, 1) := by decide +kernel
theorem dX11_sign_58 : decode cX11_sign 58 = .ok (.istore_n 3, 1) := by decide +kernel
theorem dX11_sign_59 : decode cX11_sign 59 = .ok (.iinc 4 1, 3) := by decide +kernel
theorem dX11_sign_62 : decode cX11_sign 62 = .ok (.goto (-43), 3) := by decide +kernel
theorem dX11_sign_65 : decode cX11_sign 65 = .ok (.goto (-55), 3) := by decide +kernel
theorem dX11_sign_68 : decode cX11_sign 68 = .ok (.iload_n 1, 1) := by decide +kernel
theorem dX11_sign_69 : decode cX11_sign 69 = .ok (.ireturn, 1) := by decide +kernel
theorem dX11_prove_0 : decode cX11_prove 0 = .ok (.iload_n 1, 1) := by decide +kernel
theorem dX11_prove_1 : decode cX11_prove 1 = .ok (.invokestatic 119, 3) := by decide +kernel
theorem dX11_prove_4 : decode cX11_prove 4 = .ok (.ifCond .ne 5, 3) := by decide +kernel
theorem dX11_prove_7 : decode cX11_prove 7 = .ok (.iconst (-1), 1) := by decide +kernel
theorem dX11_prove_8 : decode cX11_prove 8 = .ok (.ireturn, 1) := by decide +kernel
theorem dX11_prove_9 : decode cX11_prove 9 = .ok (.aload_n 0, 1) := by decide +kernel
theorem dX11_prove_10 : decode cX11_prove 10 = .ok (.iconst 0, 1) := by decide +kernel
theorem dX11_prove_11 : decode cX11_prove 11 = .ok (.putfield 382, 3) := by decide +kernel
theorem dX11_prove_14 : decode cX11_prove 14 = .ok (.iconst 0, 1) := by decide +kernel
theorem dX11_prove_15 : decode cX11_prove 15 = .ok (.istore_n 2, 1) := by decide +kernel
theorem dX11_prove_16 : decode cX11_prove 16 = .ok (.iconst 0, 1) := by decide +kernel
theorem dX11_prove_17 : decode cX11_prove 17 = .ok (.istore_n 3, 1) := by decide +kernel
theorem dX11_prove_18 : decode cX11_prove 18 = .ok (.iload_n 3, 1) := by decide +kernel
theorem dX11_prove_19 : decode cX11_prove 19 = .ok (.aload_n 0, 1) := by decide +kernel
theorem dX11_prove_20 : decode cX11_prove 20 = .ok (.getfield 84, 3) := by decide +kernel
theorem dX11_prove_23 : decode cX11_prove 23 = .ok (.if_icmp .ge 80, 3) := by decide +kernel
theorem dX11_prove_26 : decode cX11_prove 26 = .ok (.aload_n 0, 1) := by decide +kernel
theorem dX11_prove_27 : decode cX11_prove 27 = .ok (.iload_n 3, 1) := by decide +kernel
theorem dX11_prove_28 : decode cX11_prove 28 = .ok (.iload_n 1, 1) := by decide +kernel
theorem dX11_prove_29 : decode cX11_prove 29 = .ok (.invokevirtual 123, 3) := by decide +kernel
theorem dX11_prove_32 : decode cX11_prove 32 = .ok (.ifCond .eq 65, 3) := by decide +kernel
theorem dX11_prove_35 : decode cX11_prove 35 = .ok (.iload_n 2, 1) := by decide +kernel
theorem dX11_prove_36 : decode cX11_prove 36 = .ok (.aload_n 0, 1) := by decide +kernel
theorem dX11_prove_37 : decode cX11_prove 37 = .ok (.iload_n 3, 1) := by decide +kernel
theorem dX11_prove_38 : decode cX11_prove 38 = .ok (.invokevirtual 127, 3) := by decide +kernel
theorem dX11_prove_41 : decode cX11_prove 41 = .ok (.iadd, 1) := by decide +kernel
theorem dX11_prove_42 : decode cX11_prove 42 = .ok (.istore_n 2, 1) := by decide +kernel
theorem dX11_prove_43 : decode cX11_prove 43 = .ok (.aload_n 0, 1) := by decide +kernel
theorem dX11_prove_44 : decode cX11_prove 44 = .ok (.getfield 53, 3) := by decide +kernel
theorem dX11_prove_47 : decode cX11_prove 47 = .ok (.iconst 3, 1) := by decide +kernel
theorem dX11_prove_48 : decode cX11_prove 48 = .ok (.aload_n 0, 1) := by decide +kernel
theorem dX11_prove_49 : decode cX11_prove 49 = .ok (.getfield 382, 3) := by decide +kernel
theorem dX11_prove_52 : decode cX11_prove 52 = .ok (.imul, 1) := by decide +kernel
theorem dX11_prove_53 : decode cX11_prove 53 = .ok (.iload_n 3, 1) := by decide +kernel
theorem dX11_prove_54 : decode cX11_prove 54 = .ok (.iastore, 1) := by decide +kernel
theorem dX11_prove_55 : decode cX11_prove 55 = .ok (.aload_n 0, 1) := by decide +kernel
theorem dX11_prove_56 : decode cX11_prove 56 = .ok (.getfield 53, 3) := by decide +kernel
theorem dX11_prove_59 : decode cX11_prove 59 = .ok (.iconst 3, 1) := by decide +kernel
theorem dX11_prove_60 : decode cX11_prove 60 = .ok (.aload_n 0, 1) := by decide +kernel
theorem dX11_prove_61 : decode cX11_prove 61 = .ok (.getfield 382, 3) := by decide +kernel
theorem dX11_prove_64 : decode cX11_prove 64 = .ok (.imul, 1) := by decide +kernel
theorem dX11_prove_65 : decode cX11_prove 65 = .ok (.iconst 1, 1) := by decide +kernel
theorem dX11_prove_66 : decode cX11_prove 66 = .ok (.iadd, 1) := by decide +kernel
theorem dX11_prove_67 : decode cX11_prove 67 = .ok (.aload_n 0, 1) := by decide +kernel
theorem dX11_prove_68 : decode cX11_prove 68 = .ok (.iload_n 3, 1) := by decide +kernel
theorem dX11_prove_69 : decode cX11_prove 69 = .ok (.invokevirtual 127, 3) := by decide +kernel
theorem dX11_prove_72 : decode cX11_prove 72 = .ok (.iastore, 1) := by decide +kernel
theorem dX11_prove_73 : decode cX11_prove 73 = .ok (.aload_n 0, 1) := by decide +kernel
theorem dX11_prove_74 : decode cX11_prove 74 = .ok (.getfield 53, 3) := by decide +kernel
theorem dX11_prove_77 : decode cX11_prove 77 = .ok (.iconst 3, 1) := by decide +kernel
theorem dX11_prove_78 : decode cX11_prove 78 = .ok (.aload_n 0, 1) := by decide +kernel
theorem dX11_prove_79 : decode cX11_prove 79 = .ok (.getfield 382, 3) := by decide +kernel
theorem dX11_prove_82 : decode cX11_prove 82 = .ok (.imul, 1) := by decide +kernel
theorem dX11_prove_83 : decode cX11_prove 83 = .ok (.iconst 2, 1) := by decide +kernel
theorem dX11_prove_84 : decode cX11_prove 84 = .ok (.iadd, 1) := by decide +kernel
theorem dX11_prove_85 : decode cX11_prove 85 = .ok (.iload_n 2, 1) := by decide +kernel
theorem dX11_prove_86 : decode cX11_prove 86 = .ok (.iastore, 1) := by decide +kernel
theorem dX11_prove_87 : decode cX11_prove 87 = .ok (.aload_n 0, 1) := by decide +kernel
theorem dX11_prove_88 : decode cX11_prove 88 = .ok (.dup, 1) := by decide +kernel
theorem dX11_prove_89 : decode cX11_prove 89 = .ok (.getfield 382, 3) := by decide +kernel
theorem dX11_prove_92 : decode cX11_prove 92 = .ok (.iconst 1, 1) := by decide +kernel
theorem dX11_prove_93 : decode cX11_prove 93 = .ok (.iadd, 1) := by decide +kernel
theorem dX11_prove_94 : decode cX11_prove 94 = .ok (.putfield 382, 3) := by decide +kernel
theorem dX11_prove_97 : decode cX11_prove 97 = .ok (.iinc 3 1, 3) := by decide +kernel
theorem dX11_prove_100 : decode cX11_prove 100 = .ok (.goto (-82), 3) := by decide +kernel
theorem dX11_prove_103 : decode cX11_prove 103 = .ok (.aload_n 0, 1) := by decide +kernel
theorem dX11_prove_104 : decode cX11_prove 104 = .ok (.getfield 382, 3) := by decide +kernel
theorem dX11_prove_107 : decode cX11_prove 107 = .ok (.ireturn, 1) := by decide +kernel
theorem dX11_isRow_0 : decode cX11_isRow 0 = .ok (.iload_n 1, 1) := by decide +kernel
theorem dX11_isRow_1 : decode cX11_isRow 1 = .ok (.iconst 0, 1) := by decide +kernel
theorem dX11_isRow_2 : decode cX11_isRow 2 = .ok (.aload_n 0, 1) := by decide +kernel
theorem dX11_isRow_3 : decode cX11_isRow 3 = .ok (.getfield 382, 3) := by decide +kernel
theorem dX11_isRow_6 : decode cX11_isRow 6 = .ok (.iconst 1, 1) := by decide +kernel
theorem dX11_isRow_7 : decode cX11_isRow 7 = .ok (.isub, 1) := by decide +kernel
theorem dX11_isRow_8 : decode cX11_isRow 8 = .ok (.invokestatic 87, 3) := by decide +kernel
theorem dX11_isRow_11 : decode cX11_isRow 11 = .ok (.ifCond .eq 16, 3) := by decide +kernel
theorem dX11_isRow_14 : decode cX11_isRow 14 = .ok (.iload_n 2, 1) := by decide +kernel
theorem dX11_isRow_15 : decode cX11_isRow 15 = .ok (.iconst 0, 1) := by decide +kernel
theorem dX11_isRow_16 : decode cX11_isRow 16 = .ok (.iconst 2, 1) := by decide +kernel
theorem dX11_isRow_17 : decode cX11_isRow 17 = .ok (.invokestatic 87, 3) := by decide +kernel
theorem dX11_isRow_20 : decode cX11_isRow 20 = .ok (.ifCond .eq 7, 3) := by decide +kernel
theorem dX11_isRow_23 : decode cX11_isRow 23 = .ok (.iconst 1, 1) := by decide +kernel
theorem dX11_isRow_24 : decode cX11_isRow 24 = .ok (.goto 4, 3) := by decide +kernel
theorem dX11_isRow_27 : decode cX11_isRow 27 = .ok (.iconst 0, 1) := by decide +kernel
theorem dX11_isRow_28 : decode cX11_isRow 28 = .ok (.ireturn, 1) := by decide +kernel
theorem dX11_row_0 : decode cX11_row 0 = .ok (.aload_n 0, 1) := by decide +kernel
theorem dX11_row_1 : decode cX11_row 1 = .ok (.iload_n 1, 1) := by decide +kernel
theorem dX11_row_2 : decode cX11_row 2 = .ok (.iload_n 2, 1) := by decide +kernel
theorem dX11_row_3 : decode cX11_row 3 = .ok (.invokevirtual 385, 3) := by decide +kernel
theorem dX11_row_6 : decode cX11_row 6 = .ok (.ifCond .eq 16, 3) := by decide +kernel
theorem dX11_row_9 : decode cX11_row 9 = .ok (.aload_n 0, 1) := by decide +kernel
theorem dX11_row_10 : decode cX11_row 10 = .ok (.getfield 53, 3) := by decide +kernel
theorem dX11_row_13 : decode cX11_row 13 = .ok (.iconst 3, 1) := by decide +kernel
theorem dX11_row_14 : decode cX11_row 14 = .ok (.iload_n 1, 1) := by decide +kernel
theorem dX11_row_15 : decode cX11_row 15 = .ok (.imul, 1) := by decide +kernel
theorem dX11_row_16 : decode cX11_row 16 = .ok (.iload_n 2, 1) := by decide +kernel
theorem dX11_row_17 : decode cX11_row 17 = .ok (.iadd, 1) := by decide +kernel
theorem dX11_row_18 : decode cX11_row 18 = .ok (.iaload, 1) := by decide +kernel
theorem dX11_row_19 : decode cX11_row 19 = .ok (.goto 5, 3) := by decide +kernel
theorem dX11_row_22 : decode cX11_row 22 = .ok (.ldc 102, 2) := by decide +kernel
theorem dX11_row_24 : decode cX11_row 24 = .ok (.ireturn, 1) := by decide +kernel
theorem dX11_alterRow_0 : decode cX11_alterRow 0 = .ok (.aload_n 0, 1) := by decide +kernel
theorem dX11_alterRow_1 : decode cX11_alterRow 1 = .ok (.iload_n 1, 1) := by decide +kernel
theorem dX11_alterRow_2 : decode cX11_alterRow 2 = .ok (.iload_n 2, 1) := by decide +kernel
theorem dX11_alterRow_3 : decode cX11_alterRow 3 = .ok (.invokevirtual 385, 3) := by decide +kernel
theorem dX11_alterRow_6 : decode cX11_alterRow 6 = .ok (.ifCond .ne 6, 3) := by decide +kernel
theorem dX11_alterRow_9 : decode cX11_alterRow 9 = .ok (.ldc 102, 2) := by decide +kernel
theorem dX11_alterRow_11 : decode cX11_alterRow 11 = .ok (.ireturn, 1) := by decide +kernel
theorem dX11_alterRow_12 : decode cX11_alterRow 12 = .ok (.aload_n 0, 1) := by decide +kernel
theorem dX11_alterRow_13 : decode cX11_alterRow 13 = .ok (.getfield 53, 3) := by decide +kernel
theorem dX11_alterRow_16 : decode cX11_alterRow 16 = .ok (.iconst 3, 1) := by decide +kernel
theorem dX11_alterRow_17 : decode cX11_alterRow 17 = .ok (.iload_n 1, 1) := by decide +kernel
theorem dX11_alterRow_18 : decode cX11_alterRow 18 = .ok (.imul, 1) := by decide +kernel
theorem dX11_alterRow_19 : decode cX11_alterRow 19 = .ok (.iload_n 2, 1) := by decide +kernel
theorem dX11_alterRow_20 : decode cX11_alterRow 20 = .ok (.iadd, 1) := by decide +kernel
theorem dX11_alterRow_21 : decode cX11_alterRow 21 = .ok (.iaload, 1) := by decide +kernel
theorem dX11_alterRow_22 : decode cX11_alterRow 22 = .ok (.istore 4, 2) := by decide +kernel
theorem dX11_alterRow_24 : decode cX11_alterRow 24 = .ok (.aload_n 0, 1) := by decide +kernel
theorem dX11_alterRow_25 : decode cX11_alterRow 25 = .ok (.getfield 53, 3) := by decide +kernel
theorem dX11_alterRow_28 : decode cX11_alterRow 28 = .ok (.iconst 3, 1) := by decide +kernel
theorem dX11_alterRow_29 : decode cX11_alterRow 29 = .ok (.iload_n 1, 1) := by decide +kernel
theorem dX11_alterRow_30 : decode cX11_alterRow 30 = .ok (.imul, 1) := by decide +kernel
theorem dX11_alterRow_31 : decode cX11_alterRow 31 = .ok (.iload_n 2, 1) := by decide +kernel
theorem dX11_alterRow_32 : decode cX11_alterRow 32 = .ok (.iadd, 1) := by decide +kernel
theorem dX11_alterRow_33 : decode cX11_alterRow 33 = .ok (.iload_n 3, 1) := by decide +kernel
theorem dX11_alterRow_34 : decode cX11_alterRow 34 = .ok (.iastore, 1) := by decide +kernel
theorem dX11_alterRow_35 : decode cX11_alterRow 35 = .ok (.iload 4, 2) := by decide +kernel
theorem dX11_alterRow_37 : decode cX11_alterRow 37 = .ok (.ireturn, 1) := by decide +kernel
theorem dX11_judge_0 : decode cX11_judge 0 = .ok (.iload_n 1, 1) := by decide +kernel
theorem dX11_judge_1 : decode cX11_judge 1 = .ok (.invokestatic 119, 3) := by decide +kernel
theorem dX11_judge_4 : decode cX11_judge 4 = .ok (.ifCond .ne 5, 3) := by decide +kernel
theorem dX11_judge_7 : decode cX11_judge 7 = .ok (.iconst (-1), 1) := by decide +kernel
theorem dX11_judge_8 : decode cX11_judge 8 = .ok (.ireturn, 1) := by decide +kernel
theorem dX11_judge_9 : decode cX11_judge 9 = .ok (.iconst 0, 1) := by decide +kernel
theorem dX11_judge_10 : decode cX11_judge 10 = .ok (.istore_n 2, 1) := by decide +kernel
theorem dX11_judge_11 : decode cX11_judge 11 = .ok (.iconst 0, 1) := by decide +kernel
theorem dX11_judge_12 : decode cX11_judge 12 = .ok (.istore_n 3, 1) := by decide +kernel
theorem dX11_judge_13 : decode cX11_judge 13 = .ok (.iconst 0, 1) := by decide +kernel
theorem dX11_judge_14 : decode cX11_judge 14 = .ok (.istore 4, 2) := by decide +kernel
theorem dX11_judge_16 : decode cX11_judge 16 = .ok (.iload 4, 2) := by decide +kernel
theorem dX11_judge_18 : decode cX11_judge 18 = .ok (.aload_n 0, 1) := by decide +kernel
theorem dX11_judge_19 : decode cX11_judge 19 = .ok (.getfield 84, 3) := by decide +kernel
theorem dX11_judge_22 : decode cX11_judge 22 = .ok (.if_icmp .ge 96, 3) := by decide +kernel
theorem dX11_judge_25 : decode cX11_judge 25 = .ok (.aload_n 0, 1) := by decide +kernel
theorem dX11_judge_26 : decode cX11_judge 26 = .ok (.iload 4, 2) := by decide +kernel
theorem dX11_judge_28 : decode cX11_judge 28 = .ok (.iload_n 1, 1) := by decide +kernel
theorem dX11_judge_29 : decode cX11_judge 29 = .ok (.invokevirtual 123, 3) := by decide +kernel
theorem dX11_judge_32 : decode cX11_judge 32 = .ok (.ifCond .ne 6, 3) := by decide +kernel
theorem dX11_judge_35 : decode cX11_judge 35 = .ok (.goto 77, 3) := by decide +kernel
theorem dX11_judge_38 : decode cX11_judge 38 = .ok (.iload_n 2, 1) := by decide +kernel
theorem dX11_judge_39 : decode cX11_judge 39 = .ok (.aload_n 0, 1) := by decide +kernel
theorem dX11_judge_40 : decode cX11_judge 40 = .ok (.getfield 382, 3) := by decide +kernel
theorem dX11_judge_43 : decode cX11_judge 43 = .ok (.if_icmp .ne 7, 3) := by decide +kernel
theorem dX11_judge_46 : decode cX11_judge 46 = .ok (.sipush 222, 3) := by decide +kernel
theorem dX11_judge_49 : decode cX11_judge 49 = .ok (.ireturn, 1) := by decide +kernel
theorem dX11_judge_50 : decode cX11_judge 50 = .ok (.iload_n 3, 1) := by decide +kernel
theorem dX11_judge_51 : decode cX11_judge 51 = .ok (.aload_n 0, 1) := by decide +kernel
theorem dX11_judge_52 : decode cX11_judge 52 = .ok (.iload 4, 2) := by decide +kernel
theorem dX11_judge_54 : decode cX11_judge 54 = .ok (.invokevirtual 127, 3) := by decide +kernel
theorem dX11_judge_57 : decode cX11_judge 57 = .ok (.iadd, 1) := by decide +kernel
theorem dX11_judge_58 : decode cX11_judge 58 = .ok (.istore_n 3, 1) := by decide +kernel
theorem dX11_judge_59 : decode cX11_judge 59 = .ok (.aload_n 0, 1) := by decide +kernel
theorem dX11_judge_60 : decode cX11_judge 60 = .ok (.getfield 53, 3) := by decide +kernel
theorem dX11_judge_63 : decode cX11_judge 63 = .ok (.iconst 3, 1) := by decide +kernel
theorem dX11_judge_64 : decode cX11_judge 64 = .ok (.iload_n 2, 1) := by decide +kernel
theorem dX11_judge_65 : decode cX11_judge 65 = .ok (.imul, 1) := by decide +kernel
theorem dX11_judge_66 : decode cX11_judge 66 = .ok (.iaload, 1) := by decide +kernel
theorem dX11_judge_67 : decode cX11_judge 67 = .ok (.iload 4, 2) := by decide +kernel
theorem dX11_judge_69 : decode cX11_judge 69 = .ok (.if_icmp .ne 36, 3) := by decide +kernel
theorem dX11_judge_72 : decode cX11_judge 72 = .ok (.aload_n 0, 1) := by decide +kernel
theorem dX11_judge_73 : decode cX11_judge 73 = .ok (.getfield 53, 3) := by decide +kernel
theorem dX11_judge_76 : decode cX11_judge 76 = .ok (.iconst 3, 1) := by decide +kernel
theorem dX11_judge_77 : decode cX11_judge 77 = .ok (.iload_n 2, 1) := by decide +kernel
theorem dX11_judge_78 : decode cX11_judge 78 = .ok (.imul, 1) := by decide +kernel
theorem dX11_judge_79 : decode cX11_judge 79 = .ok (.iconst 1, 1) := by decide +kernel
theorem dX11_judge_80 : decode cX11_judge 80 = .ok (.iadd, 1) := by decide +kernel
theorem dX11_judge_81 : decode cX11_judge 81 = .ok (.iaload, 1) := by decide +kernel
theorem dX11_judge_82 : decode cX11_judge 82 = .ok (.aload_n 0, 1) := by decide +kernel
theorem dX11_judge_83 : decode cX11_judge 83 = .ok (.iload 4, 2) := by decide +kernel
theorem dX11_judge_85 : decode cX11_judge 85 = .ok (.invokevirtual 127, 3) := by decide +kernel
theorem dX11_judge_88 : decode cX11_judge 88 = .ok (.if_icmp .ne 17, 3) := by decide +kernel
theorem dX11_judge_91 : decode cX11_judge 91 = .ok (.aload_n 0, 1) := by decide +kernel
theorem dX11_judge_92 : decode cX11_judge 92 = .ok (.getfield 53, 3) := by decide +kernel
theorem dX11_judge_95 : decode cX11_judge 95 = .ok (.iconst 3, 1) := by decide +kernel
theorem dX11_judge_96 : decode cX11_judge 96 = .ok (.iload_n 2, 1) := by decide +kernel
theorem dX11_judge_97 : decode cX11_judge 97 = .ok (.imul, 1) := by decide +kernel
theorem dX11_judge_98 : decode cX11_judge 98 = .ok (.iconst 2, 1) := by decide +kernel
theorem dX11_judge_99 : decode cX11_judge 99 = .ok (.iadd, 1) := by decide +kernel
theorem dX11_judge_100 : decode cX11_judge 100 = .ok (.iaload, 1) := by decide +kernel
theorem dX11_judge_101 : decode cX11_judge 101 = .ok (.iload_n 3, 1) := by decide +kernel
theorem dX11_judge_102 : decode cX11_judge 102 = .ok (.if_icmp .eq 7, 3) := by decide +kernel
theorem dX11_judge_105 : decode cX11_judge 105 = .ok (.iload_n 2, 1) := by decide +kernel
theorem dX11_judge_106 : decode cX11_judge 106 = .ok (.iconst 1, 1) := by decide +kernel
theorem dX11_judge_107 : decode cX11_judge 107 = .ok (.iadd, 1) := by decide +kernel
theorem dX11_judge_108 : decode cX11_judge 108 = .ok (.ireturn, 1) := by decide +kernel
theorem dX11_judge_109 : decode cX11_judge 109 = .ok (.iinc 2 1, 3) := by decide +kernel
theorem dX11_judge_112 : decode cX11_judge 112 = .ok (.iinc 4 1, 3) := by decide +kernel
theorem dX11_judge_115 : decode cX11_judge 115 = .ok (.goto (-99), 3) := by decide +kernel
theorem dX11_judge_118 : decode cX11_judge 118 = .ok (.iload_n 2, 1) := by decide +kernel
theorem dX11_judge_119 : decode cX11_judge 119 = .ok (.aload_n 0, 1) := by decide +kernel
theorem dX11_judge_120 : decode cX11_judge 120 = .ok (.getfield 382, 3) := by decide +kernel
theorem dX11_judge_123 : decode cX11_judge 123 = .ok (.if_icmp .ge 9, 3) := by decide +kernel
theorem dX11_judge_126 : decode cX11_judge 126 = .ok (.iload_n 2, 1) := by decide +kernel
theorem dX11_judge_127 : decode cX11_judge 127 = .ok (.iconst 1, 1) := by decide +kernel
theorem dX11_judge_128 : decode cX11_judge 128 = .ok (.iadd, 1) := by decide +kernel
theorem dX11_judge_129 : decode cX11_judge 129 = .ok (.goto 4, 3) := by decide +kernel
theorem dX11_judge_132 : decode cX11_judge 132 = .ok (.iconst 0, 1) := by decide +kernel
theorem dX11_judge_133 : decode cX11_judge 133 = .ok (.ireturn, 1) := by decide +kernel
theorem dX11_isShelf_0 : decode cX11_isShelf 0 = .ok (.iload_n 0, 1) := by decide +kernel
theorem dX11_isShelf_1 : decode cX11_isShelf 1 = .ok (.iconst 0, 1) := by decide +kernel
theorem dX11_isShelf_2 : decode cX11_isShelf 2 = .ok (.iconst 3, 1) := by decide +kernel
theorem dX11_isShelf_3 : decode cX11_isShelf 3 = .ok (.invokestatic 87, 3) := by decide +kernel
theorem dX11_isShelf_6 : decode cX11_isShelf 6 = .ok (.ireturn, 1) := by decide +kernel
theorem dX11_sheet_0 : decode cX11_sheet 0 = .ok (.iload_n 1, 1) := by decide +kernel
theorem dX11_sheet_1 : decode cX11_sheet 1 = .ok (.invokestatic 388, 3) := by decide +kernel
theorem dX11_sheet_4 : decode cX11_sheet 4 = .ok (.ifCond .eq 22, 3) := by decide +kernel
theorem dX11_sheet_7 : decode cX11_sheet 7 = .ok (.iload_n 2, 1) := by decide +kernel
theorem dX11_sheet_8 : decode cX11_sheet 8 = .ok (.iconst (-1), 1) := by decide +kernel
theorem dX11_sheet_9 : decode cX11_sheet 9 = .ok (.iconst 3, 1) := by decide +kernel
theorem dX11_sheet_10 : decode cX11_sheet 10 = .ok (.invokestatic 87, 3) := by decide +kernel
theorem dX11_sheet_13 : decode cX11_sheet 13 = .ok (.ifCond .eq 13, 3) := by decide +kernel
theorem dX11_sheet_16 : decode cX11_sheet 16 = .ok (.iload_n 2, 1) := by decide +kernel
theorem dX11_sheet_17 : decode cX11_sheet 17 = .ok (.ifCond .lt 11, 3) := by decide +kernel
theorem dX11_sheet_20 : decode cX11_sheet 20 = .ok (.iload_n 3, 1) := by decide +kernel
theorem dX11_sheet_21 : decode cX11_sheet 21 = .ok (.bipush 40, 2) := by decide +kernel
theorem dX11_sheet_23 : decode cX11_sheet 23 = .ok (.if_icmp .le 5, 3) := by decide +kernel
theorem dX11_sheet_26 : decode cX11_sheet 26 = .ok (.iconst (-1), 1) := by decide +kernel
theorem dX11_sheet_27 : decode cX11_sheet 27 = .ok (.ireturn, 1) := by decide +kernel
theorem dX11_sheet_28 : decode cX11_sheet 28 = .ok (.iload_n 2, 1) := by decide +kernel
theorem dX11_sheet_29 : decode cX11_sheet 29 = .ok (.ifCond .lt 10, 3) := by decide +kernel
theorem dX11_sheet_32 : decode cX11_sheet 32 = .ok (.iload_n 3, 1) := by decide +kernel
theorem dX11_sheet_33 : decode cX11_sheet 33 = .ok (.ifCond .ge 6, 3) := by decide +kernel
theorem dX11_sheet_36 : decode cX11_sheet 36 = .ok (.bipush (-14), 2) := by decide +kernel
theorem dX11_sheet_38 : decode cX11_sheet 38 = .ok (.ireturn, 1) := by decide +kernel
theorem dX11_sheet_39 : decode cX11_sheet 39 = .ok (.aload_n 0, 1) := by decide +kernel
theorem dX11_sheet_40 : decode cX11_sheet 40 = .ok (.getfield 56, 3) := by decide +kernel
theorem dX11_sheet_43 : decode cX11_sheet 43 = .ok (.iload_n 1, 1) := by decide +kernel
theorem dX11_sheet_44 : decode cX11_sheet 44 = .ok (.iload_n 2, 1) := by decide +kernel
theorem dX11_sheet_45 : decode cX11_sheet 45 = .ok (.iastore, 1) := by decide +kernel
theorem dX11_sheet_46 : decode cX11_sheet 46 = .ok (.aload_n 0, 1) := by decide +kernel
theorem dX11_sheet_47 : decode cX11_sheet 47 = .ok (.getfield 59, 3) := by decide +kernel
theorem dX11_sheet_50 : decode cX11_sheet 50 = .ok (.iload_n 1, 1) := by decide +kernel
theorem dX11_sheet_51 : decode cX11_sheet 51 = .ok (.iload_n 2, 1) := by decide +kernel
theorem dX11_sheet_52 : decode cX11_sheet 52 = .ok (.ifCond .ge 7, 3) := by decide +kernel
theorem dX11_sheet_55 : decode cX11_sheet 55 = .ok (.iconst 0, 1) := by decide +kernel
theorem dX11_sheet_56 : decode cX11_sheet 56 = .ok (.goto 4, 3) := by decide +kernel
theorem dX11_sheet_59 : decode cX11_sheet 59 = .ok (.iload_n 3, 1) := by decide +kernel
theorem dX11_sheet_60 : decode cX11_sheet 60 = .ok (.iastore, 1) := by decide +kernel
theorem dX11_sheet_61 : decode cX11_sheet 61 = .ok (.iconst 0, 1) := by decide +kernel
theorem dX11_sheet_62 : decode cX11_sheet 62 = .ok (.istore 4, 2) := by decide +kernel
theorem dX11_sheet_64 : decode cX11_sheet 64 = .ok (.iload 4, 2) := by decide +kernel
theorem dX11_sheet_66 : decode cX11_sheet 66 = .ok (.bipush 40, 2) := by decide +kernel
theorem dX11_sheet_68 : decode cX11_sheet 68 = .ok (.if_icmp .ge 22, 3) := by decide +kernel
theorem dX11_sheet_71 : decode cX11_sheet 71 = .ok (.aload_n 0, 1) := by decide +kernel
theorem dX11_sheet_72 : decode cX11_sheet 72 = .ok (.getfield 62, 3) := by decide +kernel
theorem dX11_sheet_75 : decode cX11_sheet 75 = .ok (.bipush 40, 2) := by decide +kernel
theorem dX11_sheet_77 : decode cX11_sheet 77 = .ok (.iload_n 1, 1) := by decide +kernel
theorem dX11_sheet_78 : decode cX11_sheet 78 = .ok (.imul, 1) := by decide +kernel
theorem dX11_sheet_79 : decode cX11_sheet 79 = .ok (.iload 4, 2) := by decide +kernel
theorem dX11_sheet_81 : decode cX11_sheet 81 = .ok (.iadd, 1) := by decide +kernel
theorem dX11_sheet_82 : decode cX11_sheet 82 = .ok (.lconst 0, 1) := by decide +kernel
theorem dX11_sheet_83 : decode cX11_sheet 83 = .ok (.lastore, 1) := by decide +kernel
theorem dX11_sheet_84 : decode cX11_sheet 84 = .ok (.iinc 4 1, 3) := by decide +kernel
theorem dX11_sheet_87 : decode cX11_sheet 87 = .ok (.goto (-23), 3) := by decide +kernel
theorem dX11_sheet_90 : decode cX11_sheet 90 = .ok (.iconst 1, 1) := by decide +kernel
theorem dX11_sheet_91 : decode cX11_sheet 91 = .ok (.ireturn, 1) := by decide +kernel
theorem dX11_put_0 : decode cX11_put 0 = .ok (.iload_n 1, 1) := by decide +kernel
theorem dX11_put_1 : decode cX11_put 1 = .ok (.invokestatic 388, 3) := by decide +kernel
theorem dX11_put_4 : decode cX11_put 4 = .ok (.ifCond .ne 5, 3) := by decide +kernel
theorem dX11_put_7 : decode cX11_put 7 = .ok (.iconst (-1), 1) := by decide +kernel
theorem dX11_put_8 : decode cX11_put 8 = .ok (.ireturn, 1) := by decide +kernel
theorem dX11_put_9 : decode cX11_put 9 = .ok (.aload_n 0, 1) := by decide +kernel
theorem dX11_put_10 : decode cX11_put 10 = .ok (.getfield 56, 3) := by decide +kernel
theorem dX11_put_13 : decode cX11_put 13 = .ok (.iload_n 1, 1) := by decide +kernel
theorem dX11_put_14 : decode cX11_put 14 = .ok (.iaload, 1) := by decide +kernel
theorem dX11_put_15 : decode cX11_put 15 = .ok (.ifCond .ge 6, 3) := by decide +kernel
theorem dX11_put_18 : decode cX11_put 18 = .ok (.bipush (-11), 2) := by decide +kernel
theorem dX11_put_20 : decode cX11_put 20 = .ok (.ireturn, 1) := by decide +kernel
theorem dX11_put_21 : decode cX11_put 21 = .ok (.iload_n 2, 1) := by decide +kernel
theorem dX11_put_22 : decode cX11_put 22 = .ok (.iconst 0, 1) := by decide +kernel
theorem dX11_put_23 : decode cX11_put 23 = .ok (.aload_n 0, 1) := by decide +kernel
theorem dX11_put_24 : decode cX11_put 24 = .ok (.getfield 59, 3) := by decide +kernel
theorem dX11_put_27 : decode cX11_put 27 = .ok (.iload_n 1, 1) := by decide +kernel
theorem dX11_put_28 : decode cX11_put 28 = .ok (.iaload, 1) := by decide +kernel
theorem dX11_put_29 : decode cX11_put 29 = .ok (.iconst 1, 1) := by decide +kernel
theorem dX11_put_30 : decode cX11_put 30 = .ok (.isub, 1) := by decide +kernel
theorem dX11_put_31 : decode cX11_put 31 = .ok (.invokestatic 87, 3) := by decide +kernel
theorem dX11_put_34 : decode cX11_put 34 = .ok (.ifCond .ne 6, 3) := by decide +kernel
theorem dX11_put_37 : decode cX11_put 37 = .ok (.bipush (-12), 2) := by decide +kernel
theorem dX11_put_39 : decode cX11_put 39 = .ok (.ireturn, 1) := by decide +kernel
theorem dX11_put_40 : decode cX11_put 40 = .ok (.aload_n 0, 1) := by decide +kernel
theorem dX11_put_41 : decode cX11_put 41 = .ok (.getfield 62, 3) := by decide +kernel
theorem dX11_put_44 : decode cX11_put 44 = .ok (.bipush 40, 2) := by decide +kernel
theorem dX11_put_46 : decode cX11_put 46 = .ok (.iload_n 1, 1) := by decide +kernel
theorem dX11_put_47 : decode cX11_put 47 = .ok (.imul, 1) := by decide +kernel
theorem dX11_put_48 : decode cX11_put 48 = .ok (.iload_n 2, 1) := by decide +kernel
theorem dX11_put_49 : decode cX11_put 49 = .ok (.iadd, 1) := by decide +kernel
theorem dX11_put_50 : decode cX11_put 50 = .ok (.aload_n 0, 1) := by decide +kernel
theorem dX11_put_51 : decode cX11_put 51 = .ok (.getfield 56, 3) := by decide +kernel
theorem dX11_put_54 : decode cX11_put 54 = .ok (.iload_n 1, 1) := by decide +kernel
theorem dX11_put_55 : decode cX11_put 55 = .ok (.iaload, 1) := by decide +kernel
theorem dX11_put_56 : decode cX11_put 56 = .ok (.ifCond .ne 9, 3) := by decide +kernel
theorem dX11_put_59 : decode cX11_put 59 = .ok (.iload_n 3, 1) := by decide +kernel
theorem dX11_put_60 : decode cX11_put 60 = .ok (.i2b, 1) := by decide +kernel
theorem dX11_put_61 : decode cX11_put 61 = .ok (.i2l, 1) := by decide +kernel
theorem dX11_put_62 : decode cX11_put 62 = .ok (.goto 21, 3) := by decide +kernel
theorem dX11_put_65 : decode cX11_put 65 = .ok (.aload_n 0, 1) := by decide +kernel
theorem dX11_put_66 : decode cX11_put 66 = .ok (.getfield 56, 3) := by decide +kernel
theorem dX11_put_69 : decode cX11_put 69 = .ok (.iload_n 1, 1) := by decide +kernel
theorem dX11_put_70 : decode cX11_put 70 = .ok (.iaload, 1) := by decide +kernel
theorem dX11_put_71 : decode cX11_put 71 = .ok (.iconst 1, 1) := by decide +kernel
theorem dX11_put_72 : decode cX11_put 72 = .ok (.if_icmp .ne 9, 3) := by decide +kernel
theorem dX11_put_75 : decode cX11_put 75 = .ok (.iload_n 3, 1) := by decide +kernel
theorem dX11_put_76 : decode cX11_put 76 = .ok (.i2s, 1) := by decide +kernel
theorem dX11_put_77 : decode cX11_put 77 = .ok (.i2l, 1) := by decide +kernel
theorem dX11_put_78 : decode cX11_put 78 = .ok (.goto 5, 3) := by decide +kernel
theorem dX11_put_81 : decode cX11_put 81 = .ok (.iload_n 3, 1) := by decide +kernel
theorem dX11_put_82 : decode cX11_put 82 = .ok (.i2l, 1) := by decide +kernel
theorem dX11_put_83 : decode cX11_put 83 = .ok (.lastore, 1) := by decide +kernel
theorem dX11_put_84 : decode cX11_put 84 = .ok (.iconst 1, 1) := by decide +kernel
theorem dX11_put_85 : decode cX11_put 85 = .ok (.ireturn, 1) := by decide +kernel
theorem dX11_lacksSort_0 : decode cX11_lacksSort 0 = .ok (.aload_n 0, 1) := by decide +kernel
theorem dX11_lacksSort_1 : decode cX11_lacksSort 1 = .ok (.getfield 56, 3) := by decide +kernel
theorem dX11_lacksSort_4 : decode cX11_lacksSort 4 = .ok (.iload_n 1, 1) := by decide +kernel
theorem dX11_lacksSort_5 : decode cX11_lacksSort 5 = .ok (.iaload, 1) := by decide +kernel
theorem dX11_lacksSort_6 : decode cX11_lacksSort 6 = .ok (.ifCond .ge 8, 3) := by decide +kernel
theorem dX11_lacksSort_9 : decode cX11_lacksSort 9 = .ok (.bipush (-11), 2) := by decide +kernel
theorem dX11_lacksSort_11 : decode cX11_lacksSort 11 = .ok (.goto 19, 3) := by decide +kernel
theorem dX11_lacksSort_14 : decode cX11_lacksSort 14 = .ok (.aload_n 0, 1) := by decide +kernel
theorem dX11_lacksSort_15 : decode cX11_lacksSort 15 = .ok (.getfield 56, 3) := by decide +kernel
theorem dX11_lacksSort_18 : decode cX11_lacksSort 18 = .ok (.iload_n 1, 1) := by decide +kernel
theorem dX11_lacksSort_19 : decode cX11_lacksSort 19 = .ok (.iaload, 1) := by decide +kernel
theorem dX11_lacksSort_20 : decode cX11_lacksSort 20 = .ok (.iload_n 2, 1) := by decide +kernel
theorem dX11_lacksSort_21 : decode cX11_lacksSort 21 = .ok (.if_icmp .eq 8, 3) := by decide +kernel
theorem dX11_lacksSort_24 : decode cX11_lacksSort 24 = .ok (.bipush (-13), 2) := by decide +kernel
theorem dX11_lacksSort_26 : decode cX11_lacksSort 26 = .ok (.goto 4, 3) := by decide +kernel
theorem dX11_lacksSort_29 : decode cX11_lacksSort 29 = .ok (.iconst 0, 1) := by decide +kernel
theorem dX11_lacksSort_30 : decode cX11_lacksSort 30 = .ok (.ireturn, 1) := by decide +kernel
theorem dX11_item_0 : decode cX11_item 0 = .ok (.iload_n 1, 1) := by decide +kernel
theorem dX11_item_1 : decode cX11_item 1 = .ok (.invokestatic 388, 3) := by decide +kernel
theorem dX11_item_4 : decode cX11_item 4 = .ok (.ifCond .eq 12, 3) := by decide +kernel
theorem dX11_item_7 : decode cX11_item 7 = .ok (.iload_n 2, 1) := by decide +kernel
theorem dX11_item_8 : decode cX11_item 8 = .ok (.iconst 0, 1) := by decide +kernel
theorem dX11_item_9 : decode cX11_item 9 = .ok (.iconst 3, 1) := by decide +kernel
theorem dX11_item_10 : decode cX11_item 10 = .ok (.invokestatic 87, 3) := by decide +kernel
theorem dX11_item_13 : decode cX11_item 13 = .ok (.ifCond .ne 5, 3) := by decide +kernel
theorem dX11_item_16 : decode cX11_item 16 = .ok (.iconst (-1), 1) := by decide +kernel
theorem dX11_item_17 : decode cX11_item 17 = .ok (.ireturn, 1) := by decide +kernel
theorem dX11_item_18 : decode cX11_item 18 = .ok (.aload_n 0, 1) := by decide +kernel
theorem dX11_item_19 : decode cX11_item 19 = .ok (.iload_n 1, 1) := by decide +kernel
theorem dX11_item_20 : decode cX11_item 20 = .ok (.iload_n 2, 1) := by decide +kernel
theorem dX11_item_21 : decode cX11_item 21 = .ok (.invokevirtual 391, 3) := by decide +kernel
theorem dX11_item_24 : decode cX11_item 24 = .ok (.istore 4, 2) := by decide +kernel
theorem dX11_item_26 : decode cX11_item 26 = .ok (.iload 4, 2) := by decide +kernel
theorem dX11_item_28 : decode cX11_item 28 = .ok (.ifCond .eq 6, 3) := by decide +kernel
theorem dX11_item_31 : decode cX11_item 31 = .ok (.iload 4, 2) := by decide +kernel
theorem dX11_item_33 : decode cX11_item 33 = .ok (.ireturn, 1) := by decide +kernel
theorem dX11_item_34 : decode cX11_item 34 = .ok (.iload_n 3, 1) := by decide +kernel
theorem dX11_item_35 : decode cX11_item 35 = .ok (.iconst 0, 1) := by decide +kernel
theorem dX11_item_36 : decode cX11_item 36 = .ok (.aload_n 0, 1) := by decide +kernel
theorem dX11_item_37 : decode cX11_item 37 = .ok (.getfield 59, 3) := by decide +kernel
theorem dX11_item_40 : decode cX11_item 40 = .ok (.iload_n 1, 1) := by decide +kernel
theorem dX11_item_41 : decode cX11_item 41 = .ok (.iaload, 1) := by decide +kernel
theorem dX11_item_42 : decode cX11_item 42 = .ok (.iconst 1, 1) := by decide +kernel
theorem dX11_item_43 : decode cX11_item 43 = .ok (.isub, 1) := by decide +kernel
theorem dX11_item_44 : decode cX11_item 44 = .ok (.invokestatic 87, 3) := by decide +kernel
theorem dX11_item_47 : decode cX11_item 47 = .ok (.ifCond .eq 18, 3) := by decide +kernel
theorem dX11_item_50 : decode cX11_item 50 = .ok (.aload_n 0, 1) := by decide +kernel
theorem dX11_item_51 : decode cX11_item 51 = .ok (.getfield 62, 3) := by decide +kernel
theorem dX11_item_54 : decode cX11_item 54 = .ok (.bipush 40, 2) := by decide +kernel
theorem dX11_item_56 : decode cX11_item 56 = .ok (.iload_n 1, 1) := by decide +kernel
theorem dX11_item_57 : decode cX11_item 57 = .ok (.imul, 1) := by decide +kernel
theorem dX11_item_58 : decode cX11_item 58 = .ok (.iload_n 3, 1) := by decide +kernel
theorem dX11_item_59 : decode cX11_item 59 = .ok (.iadd, 1) := by decide +kernel
theorem dX11_item_60 : decode cX11_item 60 = .ok (.laload, 1) := by decide +kernel
theorem dX11_item_61 : decode cX11_item 61 = .ok (.l2i, 1) := by decide +kernel
theorem dX11_item_62 : decode cX11_item 62 = .ok (.goto 5, 3) := by decide +kernel
theorem dX11_item_65 : decode cX11_item 65 = .ok (.bipush (-12), 2) := by decide +kernel
theorem dX11_item_67 : decode cX11_item 67 = .ok (.ireturn, 1) := by decide +kernel
theorem dX11_isHeld_0 : decode cX11_isHeld 0 = .ok (.iload_n 1, 1) := by decide +kernel
theorem dX11_isHeld_1 : decode cX11_isHeld 1 = .ok (.ifCond .ne 11, 3) := by decide +kernel
theorem dX11_isHeld_4 : decode cX11_isHeld 4 = .ok (.aload_n 0, 1) := by decide +kernel
theorem dX11_isHeld_5 : decode cX11_isHeld 5 = .ok (.iload_n 2, 1) := by decide +kernel
theorem dX11_isHeld_6 : decode cX11_isHeld 6 = .ok (.invokevirtual 98, 3) := by decide +kernel
theorem dX11_isHeld_9 : decode cX11_isHeld 9 = .ok (.goto 25, 3) := by decide +kernel
theorem dX11_isHeld_12 : decode cX11_isHeld 12 = .ok (.iload_n 1, 1) := by decide +kernel
theorem dX11_isHeld_13 : decode cX11_isHeld 13 = .ok (.iconst 1, 1) := by decide +kernel
theorem dX11_isHeld_14 : decode cX11_isHeld 14 = .ok (.if_icmp .ne 10, 3) := by decide +kernel
theorem dX11_isHeld_17 : decode cX11_isHeld 17 = .ok (.iload_n 2, 1) := by decide +kernel
theorem dX11_isHeld_18 : decode cX11_isHeld 18 = .ok (.invokestatic 388, 3) := by decide +kernel
theorem dX11_isHeld_21 : decode cX11_isHeld 21 = .ok (.goto 13, 3) := by decide +kernel
theorem dX11_isHeld_24 : decode cX11_isHeld 24 = .ok (.iload_n 1, 1) := by decide +kernel
theorem dX11_isHeld_25 : decode cX11_isHeld 25 = .ok (.iconst 2, 1) := by decide +kernel
theorem dX11_isHeld_26 : decode cX11_isHeld 26 = .ok (.if_icmp .ne 7, 3) := by decide +kernel
theorem dX11_isHeld_29 : decode cX11_isHeld 29 = .ok (.iconst 1, 1) := by decide +kernel
theorem dX11_isHeld_30 : decode cX11_isHeld 30 = .ok (.goto 4, 3) := by decide +kernel
theorem dX11_isHeld_33 : decode cX11_isHeld 33 = .ok (.iconst 0, 1) := by decide +kernel
theorem dX11_isHeld_34 : decode cX11_isHeld 34 = .ok (.ireturn, 1) := by decide +kernel
theorem dX11_shelf_0 : decode cX11_shelf 0 = .ok (.iload_n 1, 1) := by decide +kernel
theorem dX11_shelf_1 : decode cX11_shelf 1 = .ok (.invokestatic 388, 3) := by decide +kernel
theorem dX11_shelf_4 : decode cX11_shelf 4 = .ok (.ifCond .eq 12, 3) := by decide +kernel
theorem dX11_shelf_7 : decode cX11_shelf 7 = .ok (.aload_n 0, 1) := by decide +kernel
theorem dX11_shelf_8 : decode cX11_shelf 8 = .ok (.iload_n 2, 1) := by decide +kernel
theorem dX11_shelf_9 : decode cX11_shelf 9 = .ok (.iload_n 3, 1) := by decide +kernel
theorem dX11_shelf_10 : decode cX11_shelf 10 = .ok (.invokevirtual 394, 3) := by decide +kernel
theorem dX11_shelf_13 : decode cX11_shelf 13 = .ok (.ifCond .ne 5, 3) := by decide +kernel
theorem dX11_shelf_16 : decode cX11_shelf 16 = .ok (.iconst (-1), 1) := by decide +kernel
theorem dX11_shelf_17 : decode cX11_shelf 17 = .ok (.ireturn, 1) := by decide +kernel
theorem dX11_shelf_18 : decode cX11_shelf 18 = .ok (.aload_n 0, 1) := by decide +kernel
theorem dX11_shelf_19 : decode cX11_shelf 19 = .ok (.getfield 66, 3) := by decide +kernel
theorem dX11_shelf_22 : decode cX11_shelf 22 = .ok (.iload_n 1, 1) := by decide +kernel
theorem dX11_shelf_23 : decode cX11_shelf 23 = .ok (.iload_n 2, 1) := by decide +kernel
theorem dX11_shelf_24 : decode cX11_shelf 24 = .ok (.iconst 2, 1) := by decide +kernel
theorem dX11_shelf_25 : decode cX11_shelf 25 = .ok (.if_icmp .eq 17, 3) := by decide +kernel
theorem dX11_shelf_28 : decode cX11_shelf 28 = .ok (.iload_n 2, 1) := by decide +kernel
theorem dX11_shelf_29 : decode cX11_shelf 29 = .ok (.iconst 1, 1) := by decide +kernel
theorem dX11_shelf_30 : decode cX11_shelf 30 = .ok (.if_icmp .ne 16, 3) := by decide +kernel
theorem dX11_shelf_33 : decode cX11_shelf 33 = .ok (.aload_n 0, 1) := by decide +kernel
theorem dX11_shelf_34 : decode cX11_shelf 34 = .ok (.getfield 56, 3) := by decide +kernel
theorem dX11_shelf_37 : decode cX11_shelf 37 = .ok (.iload_n 3, 1) := by decide +kernel
theorem dX11_shelf_38 : decode cX11_shelf 38 = .ok (.iaload, 1) := by decide +kernel
theorem dX11_shelf_39 : decode cX11_shelf 39 = .ok (.ifCond .ge 7, 3) := by decide +kernel
theorem dX11_shelf_42 : decode cX11_shelf 42 = .ok (.iconst (-1), 1) := by decide +kernel
theorem dX11_shelf_43 : decode cX11_shelf 43 = .ok (.goto 4, 3) := by decide +kernel
theorem dX11_shelf_46 : decode cX11_shelf 46 = .ok (.iload_n 2, 1) := by decide +kernel
theorem dX11_shelf_47 : decode cX11_shelf 47 = .ok (.iastore, 1) := by decide +kernel
theorem dX11_shelf_48 : decode cX11_shelf 48 = .ok (.aload_n 0, 1) := by decide +kernel
theorem dX11_shelf_49 : decode cX11_shelf 49 = .ok (.getfield 69, 3) := by decide +kernel
theorem dX11_shelf_52 : decode cX11_shelf 52 = .ok (.iload_n 1, 1) := by decide +kernel
theorem dX11_shelf_53 : decode cX11_shelf 53 = .ok (.iload_n 2, 1) := by decide +kernel
theorem dX11_shelf_54 : decode cX11_shelf 54 = .ok (.iconst 1, 1) := by decide +kernel
theorem dX11_shelf_55 : decode cX11_shelf 55 = .ok (.if_icmp .ne 12, 3) := by decide +kernel
theorem dX11_shelf_58 : decode cX11_shelf 58 = .ok (.aload_n 0, 1) := by decide +kernel
theorem dX11_shelf_59 : decode cX11_shelf 59 = .ok (.getfield 56, 3) := by decide +kernel
theorem dX11_shelf_62 : decode cX11_shelf 62 = .ok (.iload_n 3, 1) := by decide +kernel
theorem dX11_shelf_63 : decode cX11_shelf 63 = .ok (.iaload, 1) := by decide +kernel
theorem dX11_shelf_64 : decode cX11_shelf 64 = .ok (.goto 4, 3) := by decide +kernel
theorem dX11_shelf_67 : decode cX11_shelf 67 = .ok (.iload_n 3, 1) := by decide +kernel
theorem dX11_shelf_68 : decode cX11_shelf 68 = .ok (.iastore, 1) := by decide +kernel
theorem dX11_shelf_69 : decode cX11_shelf 69 = .ok (.aload_n 0, 1) := by decide +kernel
theorem dX11_shelf_70 : decode cX11_shelf 70 = .ok (.getfield 72, 3) := by decide +kernel
theorem dX11_shelf_73 : decode cX11_shelf 73 = .ok (.iload_n 1, 1) := by decide +kernel
theorem dX11_shelf_74 : decode cX11_shelf 74 = .ok (.iload_n 2, 1) := by decide +kernel
theorem dX11_shelf_75 : decode cX11_shelf 75 = .ok (.iconst 1, 1) := by decide +kernel
theorem dX11_shelf_76 : decode cX11_shelf 76 = .ok (.if_icmp .ne 12, 3) := by decide +kernel
theorem dX11_shelf_79 : decode cX11_shelf 79 = .ok (.aload_n 0, 1) := by decide +kernel
theorem dX11_shelf_80 : decode cX11_shelf 80 = .ok (.getfield 59, 3) := by decide +kernel
theorem dX11_shelf_83 : decode cX11_shelf 83 = .ok (.iload_n 3, 1) := by decide +kernel
theorem dX11_shelf_84 : decode cX11_shelf 84 = .ok (.iaload, 1) := by decide +kernel
theorem dX11_shelf_85 : decode cX11_shelf 85 = .ok (.goto 4, 3) := by decide +kernel
theorem dX11_shelf_88 : decode cX11_shelf 88 = .ok (.iconst 0, 1) := by decide +kernel
theorem dX11_shelf_89 : decode cX11_shelf 89 = .ok (.iastore, 1) := by decide +kernel
theorem dX11_shelf_90 : decode cX11_shelf 90 = .ok (.iconst 1, 1) := by decide +kernel
theorem dX11_shelf_91 : decode cX11_shelf 91 = .ok (.ireturn, 1) := by decide +kernel
theorem dX11_kindOn_0 : decode cX11_kindOn 0 = .ok (.aload_n 0, 1) := by decide +kernel
theorem dX11_kindOn_1 : decode cX11_kindOn 1 = .ok (.getfield 66, 3) := by decide +kernel
theorem dX11_kindOn_4 : decode cX11_kindOn 4 = .ok (.iload_n 1, 1) := by decide +kernel
theorem dX11_kindOn_5 : decode cX11_kindOn 5 = .ok (.iaload, 1) := by decide +kernel
theorem dX11_kindOn_6 : decode cX11_kindOn 6 = .ok (.ifCond .eq 19, 3) := by decide +kernel
theorem dX11_kindOn_9 : decode cX11_kindOn 9 = .ok (.aload_n 0, 1) := by decide +kernel
theorem dX11_kindOn_10 : decode cX11_kindOn 10 = .ok (.getfield 66, 3) := by decide +kernel
theorem dX11_kindOn_13 : decode cX11_kindOn 13 = .ok (.iload_n 1, 1) := by decide +kernel
theorem dX11_kindOn_14 : decode cX11_kindOn 14 = .ok (.iaload, 1) := by decide +kernel
theorem dX11_kindOn_15 : decode cX11_kindOn 15 = .ok (.ifCond .ge 7, 3) := by decide +kernel
theorem dX11_kindOn_18 : decode cX11_kindOn 18 = .ok (.iconst (-1), 1) := by decide +kernel
theorem dX11_kindOn_19 : decode cX11_kindOn 19 = .ok (.goto 5, 3) := by decide +kernel
theorem dX11_kindOn_22 : decode cX11_kindOn 22 = .ok (.bipush 9, 2) := by decide +kernel
theorem dX11_kindOn_24 : decode cX11_kindOn 24 = .ok (.ireturn, 1) := by decide +kernel
theorem dX11_kindOn_25 : decode cX11_kindOn 25 = .ok (.aload_n 0, 1) := by decide +kernel
theorem dX11_kindOn_26 : decode cX11_kindOn 26 = .ok (.aload_n 0, 1) := by decide +kernel
theorem dX11_kindOn_27 : decode cX11_kindOn 27 = .ok (.getfield 69, 3) := by decide +kernel
theorem dX11_kindOn_30 : decode cX11_kindOn 30 = .ok (.iload_n 1, 1) := by decide +kernel
theorem dX11_kindOn_31 : decode cX11_kindOn 31 = .ok (.iaload, 1) := by decide +kernel
theorem dX11_kindOn_32 : decode cX11_kindOn 32 = .ok (.invokevirtual 98, 3) := by decide +kernel
theorem dX11_kindOn_35 : decode cX11_kindOn 35 = .ok (.ifCond .eq 17, 3) := by decide +kernel
theorem dX11_kindOn_38 : decode cX11_kindOn 38 = .ok (.aload_n 0, 1) := by decide +kernel
theorem dX11_kindOn_39 : decode cX11_kindOn 39 = .ok (.aload_n 0, 1) := by decide +kernel
theorem dX11_kindOn_40 : decode cX11_kindOn 40 = .ok (.getfield 69, 3) := by decide +kernel
theorem dX11_kindOn_43 : decode cX11_kindOn 43 = .ok (.iload_n 1, 1) := by decide +kernel
theorem dX11_kindOn_44 : decode cX11_kindOn 44 = .ok (.iaload, 1) := by decide +kernel
theorem dX11_kindOn_45 : decode cX11_kindOn 45 = .ok (.iconst 0, 1) := by decide +kernel
theorem dX11_kindOn_46 : decode cX11_kindOn 46 = .ok (.invokevirtual 94, 3) := by decide +kernel
theorem dX11_kindOn_49 : decode cX11_kindOn 49 = .ok (.goto 4, 3) := by decide +kernel
theorem dX11_kindOn_52 : decode cX11_kindOn 52 = .ok (.iconst (-1), 1) := by decide +kernel
theorem dX11_kindOn_53 : decode cX11_kindOn 53 = .ok (.ireturn, 1) := by decide +kernel
theorem dX11_isUnder_0 : decode cX11_isUnder 0 = .ok (.iload_n 1, 1) := by decide +kernel
theorem dX11_isUnder_1 : decode cX11_isUnder 1 = .ok (.ifCond .eq 29, 3) := by decide +kernel
theorem dX11_isUnder_4 : decode cX11_isUnder 4 = .ok (.iload_n 1, 1) := by decide +kernel
theorem dX11_isUnder_5 : decode cX11_isUnder 5 = .ok (.iload_n 0, 1) := by decide +kernel
theorem dX11_isUnder_6 : decode cX11_isUnder 6 = .ok (.if_icmp .eq 24, 3) := by decide +kernel
theorem dX11_isUnder_9 : decode cX11_isUnder 9 = .ok (.iload_n 1, 1) := by decide +kernel
theorem dX11_isUnder_10 : decode cX11_isUnder 10 = .ok (.iconst 4, 1) := by decide +kernel
theorem dX11_isUnder_11 : decode cX11_isUnder 11 = .ok (.if_icmp .ne 8, 3) := by decide +kernel
theorem dX11_isUnder_14 : decode cX11_isUnder 14 = .ok (.iload_n 0, 1) := by decide +kernel
theorem dX11_isUnder_15 : decode cX11_isUnder 15 = .ok (.iconst 5, 1) := by decide +kernel
theorem dX11_isUnder_16 : decode cX11_isUnder 16 = .ok (.if_icmp .eq 14, 3) := by decide +kernel
theorem dX11_isUnder_19 : decode cX11_isUnder 19 = .ok (.iload_n 1, 1) := by decide +kernel
theorem dX11_isUnder_20 : decode cX11_isUnder 20 = .ok (.iconst 1, 1) := by decide +kernel
theorem dX11_isUnder_21 : decode cX11_isUnder 21 = .ok (.if_icmp .ne 13, 3) := by decide +kernel
theorem dX11_isUnder_24 : decode cX11_isUnder 24 = .ok (.iload_n 0, 1) := by decide +kernel
theorem dX11_isUnder_25 : decode cX11_isUnder 25 = .ok (.bipush 6, 2) := by decide +kernel
theorem dX11_isUnder_27 : decode cX11_isUnder 27 = .ok (.if_icmp .ne 7, 3) := by decide +kernel
theorem dX11_isUnder_30 : decode cX11_isUnder 30 = .ok (.iconst 1, 1) := by decide +kernel
theorem dX11_isUnder_31 : decode cX11_isUnder 31 = .ok (.goto 4, 3) := by decide +kernel
theorem dX11_isUnder_34 : decode cX11_isUnder 34 = .ok (.iconst 0, 1) := by decide +kernel
theorem dX11_isUnder_35 : decode cX11_isUnder 35 = .ok (.ireturn, 1) := by decide +kernel
theorem dX11_taken_0 : decode cX11_taken 0 = .ok (.iload_n 1, 1) := by decide +kernel
theorem dX11_taken_1 : decode cX11_taken 1 = .ok (.invokestatic 388, 3) := by decide +kernel
theorem dX11_taken_4 : decode cX11_taken 4 = .ok (.ifCond .eq 24, 3) := by decide +kernel
theorem dX11_taken_7 : decode cX11_taken 7 = .ok (.iload_n 2, 1) := by decide +kernel
theorem dX11_taken_8 : decode cX11_taken 8 = .ok (.iconst 0, 1) := by decide +kernel
theorem dX11_taken_9 : decode cX11_taken 9 = .ok (.bipush 6, 2) := by decide +kernel
theorem dX11_taken_11 : decode cX11_taken 11 = .ok (.invokestatic 87, 3) := by decide +kernel
theorem dX11_taken_14 : decode cX11_taken 14 = .ok (.ifCond .ne 16, 3) := by decide +kernel
theorem dX11_taken_17 : decode cX11_taken 17 = .ok (.iload_n 2, 1) := by decide +kernel
theorem dX11_taken_18 : decode cX11_taken 18 = .ok (.bipush 10, 2) := by decide +kernel
theorem dX11_taken_20 : decode cX11_taken 20 = .ok (.bipush 13, 2) := by decide +kernel
theorem dX11_taken_22 : decode cX11_taken 22 = .ok (.invokestatic 87, 3) := by decide +kernel
theorem dX11_taken_25 : decode cX11_taken 25 = .ok (.ifCond .ne 5, 3) := by decide +kernel
theorem dX11_taken_28 : decode cX11_taken 28 = .ok (.iconst (-1), 1) := by decide +kernel
theorem dX11_taken_29 : decode cX11_taken 29 = .ok (.ireturn, 1) := by decide +kernel
theorem dX11_taken_30 : decode cX11_taken 30 = .ok (.aload_n 0, 1) := by decide +kernel
theorem dX11_taken_31 : decode cX11_taken 31 = .ok (.iload_n 1, 1) := by decide +kernel
theorem dX11_taken_32 : decode cX11_taken 32 = .ok (.invokevirtual 397, 3) := by decide +kernel
theorem dX11_taken_35 : decode cX11_taken 35 = .ok (.istore_n 3, 1) := by decide +kernel
theorem dX11_taken_36 : decode cX11_taken 36 = .ok (.iload_n 3, 1) := by decide +kernel
theorem dX11_taken_37 : decode cX11_taken 37 = .ok (.ifCond .ge 6, 3) := by decide +kernel
theorem dX11_taken_40 : decode cX11_taken 40 = .ok (.bipush (-11), 2) := by decide +kernel
theorem dX11_taken_42 : decode cX11_taken 42 = .ok (.ireturn, 1) := by decide +kernel
theorem dX11_taken_43 : decode cX11_taken 43 = .ok (.iload_n 3, 1) := by decide +kernel
theorem dX11_taken_44 : decode cX11_taken 44 = .ok (.bipush 9, 2) := by decide +kernel
theorem dX11_taken_46 : decode cX11_taken 46 = .ok (.if_icmp .ne 28, 3) := by decide +kernel
theorem dX11_taken_49 : decode cX11_taken 49 = .ok (.iload_n 2, 1) := by decide +kernel
theorem dX11_taken_50 : decode cX11_taken 50 = .ok (.bipush 10, 2) := by decide +kernel
theorem dX11_taken_52 : decode cX11_taken 52 = .ok (.aload_n 0, 1) := by decide +kernel
theorem dX11_taken_53 : decode cX11_taken 53 = .ok (.getfield 69, 3) := by decide +kernel
theorem dX11_taken_56 : decode cX11_taken 56 = .ok (.iload_n 1, 1) := by decide +kernel
theorem dX11_taken_57 : decode cX11_taken 57 = .ok (.iaload, 1) := by decide +kernel
theorem dX11_taken_58 : decode cX11_taken 58 = .ok (.iadd, 1) := by decide +kernel
theorem dX11_taken_59 : decode cX11_taken 59 = .ok (.if_icmp .ne 12, 3) := by decide +kernel
theorem dX11_taken_62 : decode cX11_taken 62 = .ok (.aload_n 0, 1) := by decide +kernel
theorem dX11_taken_63 : decode cX11_taken 63 = .ok (.getfield 72, 3) := by decide +kernel
theorem dX11_taken_66 : decode cX11_taken 66 = .ok (.iload_n 1, 1) := by decide +kernel
theorem dX11_taken_67 : decode cX11_taken 67 = .ok (.iaload, 1) := by decide +kernel
theorem dX11_taken_68 : decode cX11_taken 68 = .ok (.goto 5, 3) := by decide +kernel
theorem dX11_taken_71 : decode cX11_taken 71 = .ok (.bipush (-13), 2) := by decide +kernel
theorem dX11_taken_73 : decode cX11_taken 73 = .ok (.ireturn, 1) := by decide +kernel
theorem dX11_taken_74 : decode cX11_taken 74 = .ok (.iload_n 2, 1) := by decide +kernel
theorem dX11_taken_75 : decode cX11_taken 75 = .ok (.bipush 10, 2) := by decide +kernel
theorem dX11_taken_77 : decode cX11_taken 77 = .ok (.if_icmp .ge 20, 3) := by decide +kernel
theorem dX11_taken_80 : decode cX11_taken 80 = .ok (.iload_n 3, 1) := by decide +kernel
theorem dX11_taken_81 : decode cX11_taken 81 = .ok (.iload_n 2, 1) := by decide +kernel
theorem dX11_taken_82 : decode cX11_taken 82 = .ok (.invokestatic 400, 3) := by decide +kernel
theorem dX11_taken_85 : decode cX11_taken 85 = .ok (.ifCond .eq 12, 3) := by decide +kernel
theorem dX11_taken_88 : decode cX11_taken 88 = .ok (.aload_n 0, 1) := by decide +kernel
theorem dX11_taken_89 : decode cX11_taken 89 = .ok (.getfield 69, 3) := by decide +kernel
theorem dX11_taken_92 : decode cX11_taken 92 = .ok (.iload_n 1, 1) := by decide +kernel
theorem dX11_taken_93 : decode cX11_taken 93 = .ok (.iaload, 1) := by decide +kernel
theorem dX11_taken_94 : decode cX11_taken 94 = .ok (.goto 5, 3) := by decide +kernel
theorem dX11_taken_97 : decode cX11_taken 97 = .ok (.bipush (-13), 2) := by decide +kernel
theorem dX11_taken_99 : decode cX11_taken 99 = .ok (.ireturn, 1) := by decide +kernel
theorem dX11_body_0 : decode cX11_body 0 = .ok (.aload_n 0, 1) := by decide +kernel
theorem dX11_body_1 : decode cX11_body 1 = .ok (.getfield 403, 3) := by decide +kernel
theorem dX11_body_4 : decode cX11_body 4 = .ok (.bipush 30, 2) := by decide +kernel
theorem dX11_body_6 : decode cX11_body 6 = .ok (.if_icmp .ge 23, 3) := by decide +kernel
theorem dX11_body_9 : decode cX11_body 9 = .ok (.aload_n 0, 1) := by decide +kernel
theorem dX11_body_10 : decode cX11_body 10 = .ok (.getfield 75, 3) := by decide +kernel
theorem dX11_body_13 : decode cX11_body 13 = .ok (.aload_n 0, 1) := by decide +kernel
theorem dX11_body_14 : decode cX11_body 14 = .ok (.getfield 403, 3) := by decide +kernel
theorem dX11_body_17 : decode cX11_body 17 = .ok (.iload_n 1, 1) := by decide +kernel
theorem dX11_body_18 : decode cX11_body 18 = .ok (.iastore, 1) := by decide +kernel
theorem dX11_body_19 : decode cX11_body 19 = .ok (.aload_n 0, 1) := by decide +kernel
theorem dX11_body_20 : decode cX11_body 20 = .ok (.dup, 1) := by decide +kernel
theorem dX11_body_21 : decode cX11_body 21 = .ok (.getfield 403, 3) := by decide +kernel
theorem dX11_body_24 : decode cX11_body 24 = .ok (.iconst 1, 1) := by decide +kernel
theorem dX11_body_25 : decode cX11_body 25 = .ok (.iadd, 1) := by decide +kernel
theorem dX11_body_26 : decode cX11_body 26 = .ok (.putfield 403, 3) := by decide +kernel
theorem dX11_body_29 : decode cX11_body 29 = .ok (.return_, 1) := by decide +kernel
theorem dX11_takesIt_0 : decode cX11_takesIt 0 = .ok (.aload_n 0, 1) := by decide +kernel
theorem dX11_takesIt_1 : decode cX11_takesIt 1 = .ok (.getfield 406, 3) := by decide +kernel
theorem dX11_takesIt_4 : decode cX11_takesIt 4 = .ok (.iconst 2, 1) := by decide +kernel
theorem dX11_takesIt_5 : decode cX11_takesIt 5 = .ok (.if_icmp .ne 8, 3) := by decide +kernel
theorem dX11_takesIt_8 : decode cX11_takesIt 8 = .ok (.bipush 30, 2) := by decide +kernel
theorem dX11_takesIt_10 : decode cX11_takesIt 10 = .ok (.goto 39, 3) := by decide +kernel
theorem dX11_takesIt_13 : decode cX11_takesIt 13 = .ok (.aload_n 0, 1) := by decide +kernel
theorem dX11_takesIt_14 : decode cX11_takesIt 14 = .ok (.getfield 406, 3) := by decide +kernel
theorem dX11_takesIt_17 : decode cX11_takesIt 17 = .ok (.iconst 4, 1) := by decide +kernel
theorem dX11_takesIt_18 : decode cX11_takesIt 18 = .ok (.if_icmp .eq 11, 3) := by decide +kernel
theorem dX11_takesIt_21 : decode cX11_takesIt 21 = .ok (.aload_n 0, 1) := by decide +kernel
theorem dX11_takesIt_22 : decode cX11_takesIt 22 = .ok (.getfield 406, 3) := by decide +kernel
theorem dX11_takesIt_25 : decode cX11_takesIt 25 = .ok (.iconst 5, 1) := by decide +kernel
theorem dX11_takesIt_26 : decode cX11_takesIt 26 = .ok (.if_icmp .ne 8, 3) := by decide +kernel
theorem dX11_takesIt_29 : decode cX11_takesIt 29 = .ok (.bipush 51, 2) := by decide +kernel
theorem dX11_takesIt_31 : decode cX11_takesIt 31 = .ok (.goto 18, 3) := by decide +kernel
theorem dX11_takesIt_34 : decode cX11_takesIt 34 = .ok (.aload_n 0, 1) := by decide +kernel
theorem dX11_takesIt_35 : decode cX11_takesIt 35 = .ok (.getfield 406, 3) := by decide +kernel
theorem dX11_takesIt_38 : decode cX11_takesIt 38 = .ok (.bipush 6, 2) := by decide +kernel
theorem dX11_takesIt_40 : decode cX11_takesIt 40 = .ok (.if_icmp .ne 8, 3) := by decide +kernel
theorem dX11_takesIt_43 : decode cX11_takesIt 43 = .ok (.bipush 70, 2) := by decide +kernel
theorem dX11_takesIt_45 : decode cX11_takesIt 45 = .ok (.goto 4, 3) := by decide +kernel
theorem dX11_takesIt_48 : decode cX11_takesIt 48 = .ok (.iconst 0, 1) := by decide +kernel
theorem dX11_takesIt_49 : decode cX11_takesIt 49 = .ok (.istore_n 2, 1) := by decide +kernel
theorem dX11_takesIt_50 : decode cX11_takesIt 50 = .ok (.iload_n 2, 1) := by decide +kernel
theorem dX11_takesIt_51 : decode cX11_takesIt 51 = .ok (.ifCond .le 8, 3) := by decide +kernel
theorem dX11_takesIt_54 : decode cX11_takesIt 54 = .ok (.aload_n 0, 1) := by decide +kernel
theorem dX11_takesIt_55 : decode cX11_takesIt 55 = .ok (.iload_n 2, 1) := by decide +kernel
theorem dX11_takesIt_56 : decode cX11_takesIt 56 = .ok (.invokevirtual 409, 3) := by decide +kernel
theorem dX11_takesIt_59 : decode cX11_takesIt 59 = .ok (.aload_n 0, 1) := by decide +kernel
theorem dX11_takesIt_60 : decode cX11_takesIt 60 = .ok (.bipush 10, 2) := by decide +kernel
theorem dX11_takesIt_62 : decode cX11_takesIt 62 = .ok (.invokevirtual 409, 3) := by decide +kernel
theorem dX11_takesIt_65 : decode cX11_takesIt 65 = .ok (.iload_n 1, 1) := by decide +kernel
theorem dX11_takesIt_66 : decode cX11_takesIt 66 = .ok (.aload_n 0, 1) := by decide +kernel
theorem dX11_takesIt_67 : decode cX11_takesIt 67 = .ok (.getfield 412, 3) := by decide +kernel
theorem dX11_takesIt_70 : decode cX11_takesIt 70 = .ok (.iadd, 1) := by decide +kernel
theorem dX11_takesIt_71 : decode cX11_takesIt 71 = .ok (.istore_n 3, 1) := by decide +kernel
theorem dX11_takesIt_72 : decode cX11_takesIt 72 = .ok (.iload_n 2, 1) := by decide +kernel
theorem dX11_takesIt_73 : decode cX11_takesIt 73 = .ok (.bipush 30, 2) := by decide +kernel
theorem dX11_takesIt_75 : decode cX11_takesIt 75 = .ok (.if_icmp .ne 9, 3) := by decide +kernel
theorem dX11_takesIt_78 : decode cX11_takesIt 78 = .ok (.iload_n 3, 1) := by decide +kernel
theorem dX11_takesIt_79 : decode cX11_takesIt 79 = .ok (.iconst 3, 1) := by decide +kernel
theorem dX11_takesIt_80 : decode cX11_takesIt 80 = .ok (.imul, 1) := by decide +kernel
theorem dX11_takesIt_81 : decode cX11_takesIt 81 = .ok (.goto 28, 3) := by decide +kernel
theorem dX11_takesIt_84 : decode cX11_takesIt 84 = .ok (.iload_n 2, 1) := by decide +kernel
theorem dX11_takesIt_85 : decode cX11_takesIt 85 = .ok (.bipush 51, 2) := by decide +kernel
theorem dX11_takesIt_87 : decode cX11_takesIt 87 = .ok (.if_icmp .ne 9, 3) := by decide +kernel
theorem dX11_takesIt_90 : decode cX11_takesIt 90 = .ok (.iconst 0, 1) := by decide +kernel
theorem dX11_takesIt_91 : decode cX11_takesIt 91 = .ok (.iload_n 3, 1) := by decide +kernel
theorem dX11_takesIt_92 : decode cX11_takesIt 92 = .ok (.isub, 1) := by decide +kernel
theorem dX11_takesIt_93 : decode cX11_takesIt 93 = .ok (.goto 16, 3) := by decide +kernel
theorem dX11_takesIt_96 : decode cX11_takesIt 96 = .ok (.iload_n 2, 1) := by decide +kernel
theorem dX11_takesIt_97 : decode cX11_takesIt 97 = .ok (.bipush 70, 2) := by decide +kernel
theorem dX11_takesIt_99 : decode cX11_takesIt 99 = .ok (.if_icmp .ne 9, 3) := by decide +kernel
theorem dX11_takesIt_102 : decode cX11_takesIt 102 = .ok (.iload_n 3, 1) := by decide +kernel
theorem dX11_takesIt_103 : decode cX11_takesIt 103 = .ok (.iconst 4, 1) := by decide +kernel
theorem dX11_takesIt_104 : decode cX11_takesIt 104 = .ok (.isub, 1) := by decide +kernel
theorem dX11_takesIt_105 : decode cX11_takesIt 105 = .ok (.goto 4, 3) := by decide +kernel
theorem dX11_takesIt_108 : decode cX11_takesIt 108 = .ok (.iload_n 3, 1) := by decide +kernel
theorem dX11_takesIt_109 : decode cX11_takesIt 109 = .ok (.ireturn, 1) := by decide +kernel
theorem dX11_plainShares_0 : decode cX11_plainShares 0 = .ok (.aload_n 0, 1) := by decide +kernel
theorem dX11_plainShares_1 : decode cX11_plainShares 1 = .ok (.bipush 11, 2) := by decide +kernel
theorem dX11_plainShares_3 : decode cX11_plainShares 3 = .ok (.invokevirtual 409, 3) := by decide +kernel
theorem dX11_plainShares_6 : decode cX11_plainShares 6 = .ok (.aload_n 0, 1) := by decide +kernel
theorem dX11_plainShares_7 : decode cX11_plainShares 7 = .ok (.iload_n 1, 1) := by decide +kernel
theorem dX11_plainShares_8 : decode cX11_plainShares 8 = .ok (.invokevirtual 415, 3) := by decide +kernel
theorem dX11_plainShares_11 : decode cX11_plainShares 11 = .ok (.iconst 2, 1) := by decide +kernel
theorem dX11_plainShares_12 : decode cX11_plainShares 12 = .ok (.imul, 1) := by decide +kernel
theorem dX11_plainShares_13 : decode cX11_plainShares 13 = .ok (.ireturn, 1) := by decide +kernel
theorem dX11_sharesIt_0 : decode cX11_sharesIt 0 = .ok (.aload_n 0, 1) := by decide +kernel
theorem dX11_sharesIt_1 : decode cX11_sharesIt 1 = .ok (.getfield 406, 3) := by decide +kernel
theorem dX11_sharesIt_4 : decode cX11_sharesIt 4 = .ok (.iconst 1, 1) := by decide +kernel
theorem dX11_sharesIt_5 : decode cX11_sharesIt 5 = .ok (.if_icmp .eq 12, 3) := by decide +kernel
theorem dX11_sharesIt_8 : decode cX11_sharesIt 8 = .ok (.aload_n 0, 1) := by decide +kernel
theorem dX11_sharesIt_9 : decode cX11_sharesIt 9 = .ok (.getfield 406, 3) := by decide +kernel
theorem dX11_sharesIt_12 : decode cX11_sharesIt 12 = .ok (.bipush 6, 2) := by decide +kernel
theorem dX11_sharesIt_14 : decode cX11_sharesIt 14 = .ok (.if_icmp .ne 20, 3) := by decide +kernel
theorem dX11_sharesIt_17 : decode cX11_sharesIt 17 = .ok (.aload_n 0, 1) := by decide +kernel
theorem dX11_sharesIt_18 : decode cX11_sharesIt 18 = .ok (.bipush 20, 2) := by decide +kernel
theorem dX11_sharesIt_20 : decode cX11_sharesIt 20 = .ok (.invokevirtual 409, 3) := by decide +kernel
theorem dX11_sharesIt_23 : decode cX11_sharesIt 23 = .ok (.aload_n 0, 1) := by decide +kernel
theorem dX11_sharesIt_24 : decode cX11_sharesIt 24 = .ok (.iload_n 1, 1) := by decide +kernel
theorem dX11_sharesIt_25 : decode cX11_sharesIt 25 = .ok (.invokevirtual 418, 3) := by decide +kernel
theorem dX11_sharesIt_28 : decode cX11_sharesIt 28 = .ok (.aload_n 0, 1) := by decide +kernel
theorem dX11_sharesIt_29 : decode cX11_sharesIt 29 = .ok (.getfield 421, 3) := by decide +kernel
theorem dX11_sharesIt_32 : decode cX11_sharesIt 32 = .ok (.isub, 1) := by decide +kernel
theorem dX11_sharesIt_33 : decode cX11_sharesIt 33 = .ok (.ireturn, 1) := by decide +kernel
theorem dX11_sharesIt_34 : decode cX11_sharesIt 34 = .ok (.aload_n 0, 1) := by decide +kernel
theorem dX11_sharesIt_35 : decode cX11_sharesIt 35 = .ok (.getfield 406, 3) := by decide +kernel
theorem dX11_sharesIt_38 : decode cX11_sharesIt 38 = .ok (.iconst 5, 1) := by decide +kernel
theorem dX11_sharesIt_39 : decode cX11_sharesIt 39 = .ok (.if_icmp .ne 26, 3) := by decide +kernel
theorem dX11_sharesIt_42 : decode cX11_sharesIt 42 = .ok (.aload_n 0, 1) := by decide +kernel
theorem dX11_sharesIt_43 : decode cX11_sharesIt 43 = .ok (.bipush 60, 2) := by decide +kernel
theorem dX11_sharesIt_45 : decode cX11_sharesIt 45 = .ok (.invokevirtual 409, 3) := by decide +kernel
theorem dX11_sharesIt_48 : decode cX11_sharesIt 48 = .ok (.aload_n 0, 1) := by decide +kernel
theorem dX11_sharesIt_49 : decode cX11_sharesIt 49 = .ok (.iload_n 1, 1) := by decide +kernel
theorem dX11_sharesIt_50 : decode cX11_sharesIt 50 = .ok (.invokevirtual 418, 3) := by decide +kernel
theorem dX11_sharesIt_53 : decode cX11_sharesIt 53 = .ok (.istore_n 2, 1) := by decide +kernel
theorem dX11_sharesIt_54 : decode cX11_sharesIt 54 = .ok (.iload_n 2, 1) := by decide +kernel
theorem dX11_sharesIt_55 : decode cX11_sharesIt 55 = .ok (.aload_n 0, 1) := by decide +kernel
theorem dX11_sharesIt_56 : decode cX11_sharesIt 56 = .ok (.aload_n 0, 1) := by decide +kernel
theorem dX11_sharesIt_57 : decode cX11_sharesIt 57 = .ok (.getfield 421, 3) := by decide +kernel
theorem dX11_sharesIt_60 : decode cX11_sharesIt 60 = .ok (.invokevirtual 415, 3) := by decide +kernel
theorem dX11_sharesIt_63 : decode cX11_sharesIt 63 = .ok (.iadd, 1) := by decide +kernel
theorem dX11_sharesIt_64 : decode cX11_sharesIt 64 = .ok (.ireturn, 1) := by decide +kernel
theorem dX11_sharesIt_65 : decode cX11_sharesIt 65 = .ok (.aload_n 0, 1) := by decide +kernel
theorem dX11_sharesIt_66 : decode cX11_sharesIt 66 = .ok (.iload_n 1, 1) := by decide +kernel
theorem dX11_sharesIt_67 : decode cX11_sharesIt 67 = .ok (.invokevirtual 418, 3) := by decide +kernel
theorem dX11_sharesIt_70 : decode cX11_sharesIt 70 = .ok (.ireturn, 1) := by decide +kernel
theorem dX11_plainBounds_0 : decode cX11_plainBounds 0 = .ok (.aload_n 0, 1) := by decide +kernel
theorem dX11_plainBounds_1 : decode cX11_plainBounds 1 = .ok (.bipush 12, 2) := by decide +kernel
theorem dX11_plainBounds_3 : decode cX11_plainBounds 3 = .ok (.invokevirtual 409, 3) := by decide +kernel
theorem dX11_plainBounds_6 : decode cX11_plainBounds 6 = .ok (.aload_n 0, 1) := by decide +kernel
theorem dX11_plainBounds_7 : decode cX11_plainBounds 7 = .ok (.getfield 421, 3) := by decide +kernel
theorem dX11_plainBounds_10 : decode cX11_plainBounds 10 = .ok (.aload_n 0, 1) := by decide +kernel
theorem dX11_plainBounds_11 : decode cX11_plainBounds 11 = .ok (.getfield 412, 3) := by decide +kernel
theorem dX11_plainBounds_14 : decode cX11_plainBounds 14 = .ok (.if_icmp .ne 10, 3) := by decide +kernel
theorem dX11_plainBounds_17 : decode cX11_plainBounds 17 = .ok (.aload_n 0, 1) := by decide +kernel
theorem dX11_plainBounds_18 : decode cX11_plainBounds 18 = .ok (.iconst 1, 1) := by decide +kernel
theorem dX11_plainBounds_19 : decode cX11_plainBounds 19 = .ok (.putfield 424, 3) := by decide +kernel
theorem dX11_plainBounds_22 : decode cX11_plainBounds 22 = .ok (.iconst 0, 1) := by decide +kernel
theorem dX11_plainBounds_23 : decode cX11_plainBounds 23 = .ok (.ireturn, 1) := by decide +kernel
theorem dX11_plainBounds_24 : decode cX11_plainBounds 24 = .ok (.iload_n 1, 1) := by decide +kernel
theorem dX11_plainBounds_25 : decode cX11_plainBounds 25 = .ok (.aload_n 0, 1) := by decide +kernel
theorem dX11_plainBounds_26 : decode cX11_plainBounds 26 = .ok (.getfield 421, 3) := by decide +kernel
theorem dX11_plainBounds_29 : decode cX11_plainBounds 29 = .ok (.aload_n 0, 1) := by decide +kernel
theorem dX11_plainBounds_30 : decode cX11_plainBounds 30 = .ok (.getfield 412, 3) := by decide +kernel
theorem dX11_plainBounds_33 : decode cX11_plainBounds 33 = .ok (.isub, 1) := by decide +kernel
theorem dX11_plainBounds_34 : decode cX11_plainBounds 34 = .ok (.idiv, 1) := by decide +kernel
theorem dX11_plainBounds_35 : decode cX11_plainBounds 35 = .ok (.ireturn, 1) := by decide +kernel
theorem dX11_boundsIt_0 : decode cX11_boundsIt 0 = .ok (.aload_n 0, 1) := by decide +kernel
theorem dX11_boundsIt_1 : decode cX11_boundsIt 1 = .ok (.getfield 406, 3) := by decide +kernel
theorem dX11_boundsIt_4 : decode cX11_boundsIt 4 = .ok (.iconst 5, 1) := by decide +kernel
theorem dX11_boundsIt_5 : decode cX11_boundsIt 5 = .ok (.if_icmp .ne 9, 3) := by decide +kernel
theorem dX11_boundsIt_8 : decode cX11_boundsIt 8 = .ok (.aload_n 0, 1) := by decide +kernel
theorem dX11_boundsIt_9 : decode cX11_boundsIt 9 = .ok (.bipush 61, 2) := by decide +kernel
theorem dX11_boundsIt_11 : decode cX11_boundsIt 11 = .ok (.invokevirtual 409, 3) := by decide +kernel
theorem dX11_boundsIt_14 : decode cX11_boundsIt 14 = .ok (.aload_n 0, 1) := by decide +kernel
theorem dX11_boundsIt_15 : decode cX11_boundsIt 15 = .ok (.getfield 406, 3) := by decide +kernel
theorem dX11_boundsIt_18 : decode cX11_boundsIt 18 = .ok (.iconst 4, 1) := by decide +kernel
theorem dX11_boundsIt_19 : decode cX11_boundsIt 19 = .ok (.if_icmp .eq 11, 3) := by decide +kernel
theorem dX11_boundsIt_22 : decode cX11_boundsIt 22 = .ok (.aload_n 0, 1) := by decide +kernel
theorem dX11_boundsIt_23 : decode cX11_boundsIt 23 = .ok (.getfield 406, 3) := by decide +kernel
theorem dX11_boundsIt_26 : decode cX11_boundsIt 26 = .ok (.iconst 5, 1) := by decide +kernel
theorem dX11_boundsIt_27 : decode cX11_boundsIt 27 = .ok (.if_icmp .ne 35, 3) := by decide +kernel
theorem dX11_boundsIt_30 : decode cX11_boundsIt 30 = .ok (.aload_n 0, 1) := by decide +kernel
theorem dX11_boundsIt_31 : decode cX11_boundsIt 31 = .ok (.bipush 50, 2) := by decide +kernel
theorem dX11_boundsIt_33 : decode cX11_boundsIt 33 = .ok (.invokevirtual 409, 3) := by decide +kernel
theorem dX11_boundsIt_36 : decode cX11_boundsIt 36 = .ok (.aload_n 0, 1) := by decide +kernel
theorem dX11_boundsIt_37 : decode cX11_boundsIt 37 = .ok (.iload_n 1, 1) := by decide +kernel
theorem dX11_boundsIt_38 : decode cX11_boundsIt 38 = .ok (.iconst 2, 1) := by decide +kernel
theorem dX11_boundsIt_39 : decode cX11_boundsIt 39 = .ok (.iadd, 1) := by decide +kernel
theorem dX11_boundsIt_40 : decode cX11_boundsIt 40 = .ok (.invokevirtual 427, 3) := by decide +kernel
theorem dX11_boundsIt_43 : decode cX11_boundsIt 43 = .ok (.iconst 1, 1) := by decide +kernel
theorem dX11_boundsIt_44 : decode cX11_boundsIt 44 = .ok (.ixor, 1) := by decide +kernel
theorem dX11_boundsIt_45 : decode cX11_boundsIt 45 = .ok (.istore_n 2, 1) := by decide +kernel
theorem dX11_boundsIt_46 : decode cX11_boundsIt 46 = .ok (.aload_n 0, 1) := by decide +kernel
theorem dX11_boundsIt_47 : decode cX11_boundsIt 47 = .ok (.getfield 406, 3) := by decide +kernel
theorem dX11_boundsIt_50 : decode cX11_boundsIt 50 = .ok (.iconst 5, 1) := by decide +kernel
theorem dX11_boundsIt_51 : decode cX11_boundsIt 51 = .ok (.if_icmp .ne 9, 3) := by decide +kernel
theorem dX11_boundsIt_54 : decode cX11_boundsIt 54 = .ok (.iload_n 2, 1) := by decide +kernel
theorem dX11_boundsIt_55 : decode cX11_boundsIt 55 = .ok (.iconst 2, 1) := by decide +kernel
theorem dX11_boundsIt_56 : decode cX11_boundsIt 56 = .ok (.imul, 1) := by decide +kernel
theorem dX11_boundsIt_57 : decode cX11_boundsIt 57 = .ok (.goto 4, 3) := by decide +kernel
theorem dX11_boundsIt_60 : decode cX11_boundsIt 60 = .ok (.iload_n 2, 1) := by decide +kernel
theorem dX11_boundsIt_61 : decode cX11_boundsIt 61 = .ok (.ireturn, 1) := by decide +kernel
theorem dX11_boundsIt_62 : decode cX11_boundsIt 62 = .ok (.aload_n 0, 1) := by decide +kernel
theorem dX11_boundsIt_63 : decode cX11_boundsIt 63 = .ok (.iload_n 1, 1) := by decide +kernel
theorem dX11_boundsIt_64 : decode cX11_boundsIt 64 = .ok (.invokevirtual 427, 3) := by decide +kernel
theorem dX11_boundsIt_67 : decode cX11_boundsIt 67 = .ok (.ireturn, 1) := by decide +kernel
theorem dX11_plainTells_0 : decode cX11_plainTells 0 = .ok (.aload_n 0, 1) := by decide +kernel
theorem dX11_plainTells_1 : decode cX11_plainTells 1 = .ok (.bipush 13, 2) := by decide +kernel
theorem dX11_plainTells_3 : decode cX11_plainTells 3 = .ok (.invokevirtual 409, 3) := by decide +kernel
theorem dX11_plainTells_6 : decode cX11_plainTells 6 = .ok (.aload_n 0, 1) := by decide +kernel
theorem dX11_plainTells_7 : decode cX11_plainTells 7 = .ok (.iload_n 1, 1) := by decide +kernel
theorem dX11_plainTells_8 : decode cX11_plainTells 8 = .ok (.invokevirtual 430, 3) := by decide +kernel
theorem dX11_plainTells_11 : decode cX11_plainTells 11 = .ok (.aload_n 0, 1) := by decide +kernel
theorem dX11_plainTells_12 : decode cX11_plainTells 12 = .ok (.getfield 421, 3) := by decide +kernel
theorem dX11_plainTells_15 : decode cX11_plainTells 15 = .ok (.ixor, 1) := by decide +kernel
theorem dX11_plainTells_16 : decode cX11_plainTells 16 = .ok (.ireturn, 1) := by decide +kernel
theorem dX11_tellsIt_0 : decode cX11_tellsIt 0 = .ok (.aload_n 0, 1) := by decide +kernel
theorem dX11_tellsIt_1 : decode cX11_tellsIt 1 = .ok (.getfield 406, 3) := by decide +kernel
theorem dX11_tellsIt_4 : decode cX11_tellsIt 4 = .ok (.iconst 3, 1) := by decide +kernel
theorem dX11_tellsIt_5 : decode cX11_tellsIt 5 = .ok (.if_icmp .ne 26, 3) := by decide +kernel
theorem dX11_tellsIt_8 : decode cX11_tellsIt 8 = .ok (.aload_n 0, 1) := by decide +kernel
theorem dX11_tellsIt_9 : decode cX11_tellsIt 9 = .ok (.bipush 40, 2) := by decide +kernel
theorem dX11_tellsIt_11 : decode cX11_tellsIt 11 = .ok (.invokevirtual 409, 3) := by decide +kernel
theorem dX11_tellsIt_14 : decode cX11_tellsIt 14 = .ok (.aload_n 0, 1) := by decide +kernel
theorem dX11_tellsIt_15 : decode cX11_tellsIt 15 = .ok (.iload_n 1, 1) := by decide +kernel
theorem dX11_tellsIt_16 : decode cX11_tellsIt 16 = .ok (.invokevirtual 433, 3) := by decide +kernel
theorem dX11_tellsIt_19 : decode cX11_tellsIt 19 = .ok (.istore_n 2, 1) := by decide +kernel
theorem dX11_tellsIt_20 : decode cX11_tellsIt 20 = .ok (.iload_n 2, 1) := by decide +kernel
theorem dX11_tellsIt_21 : decode cX11_tellsIt 21 = .ok (.aload_n 0, 1) := by decide +kernel
theorem dX11_tellsIt_22 : decode cX11_tellsIt 22 = .ok (.aload_n 0, 1) := by decide +kernel
theorem dX11_tellsIt_23 : decode cX11_tellsIt 23 = .ok (.getfield 412, 3) := by decide +kernel
theorem dX11_tellsIt_26 : decode cX11_tellsIt 26 = .ok (.invokevirtual 436, 3) := by decide +kernel
theorem dX11_tellsIt_29 : decode cX11_tellsIt 29 = .ok (.iadd, 1) := by decide +kernel
theorem dX11_tellsIt_30 : decode cX11_tellsIt 30 = .ok (.ireturn, 1) := by decide +kernel
theorem dX11_tellsIt_31 : decode cX11_tellsIt 31 = .ok (.aload_n 0, 1) := by decide +kernel
theorem dX11_tellsIt_32 : decode cX11_tellsIt 32 = .ok (.getfield 406, 3) := by decide +kernel
theorem dX11_tellsIt_35 : decode cX11_tellsIt 35 = .ok (.bipush 6, 2) := by decide +kernel
theorem dX11_tellsIt_37 : decode cX11_tellsIt 37 = .ok (.if_icmp .ne 26, 3) := by decide +kernel
theorem dX11_tellsIt_40 : decode cX11_tellsIt 40 = .ok (.aload_n 0, 1) := by decide +kernel
theorem dX11_tellsIt_41 : decode cX11_tellsIt 41 = .ok (.bipush 71, 2) := by decide +kernel
theorem dX11_tellsIt_43 : decode cX11_tellsIt 43 = .ok (.invokevirtual 409, 3) := by decide +kernel
theorem dX11_tellsIt_46 : decode cX11_tellsIt 46 = .ok (.aload_n 0, 1) := by decide +kernel
theorem dX11_tellsIt_47 : decode cX11_tellsIt 47 = .ok (.iload_n 1, 1) := by decide +kernel
theorem dX11_tellsIt_48 : decode cX11_tellsIt 48 = .ok (.invokevirtual 433, 3) := by decide +kernel
theorem dX11_tellsIt_51 : decode cX11_tellsIt 51 = .ok (.istore_n 2, 1) := by decide +kernel
theorem dX11_tellsIt_52 : decode cX11_tellsIt 52 = .ok (.iload_n 2, 1) := by decide +kernel
theorem dX11_tellsIt_53 : decode cX11_tellsIt 53 = .ok (.aload_n 0, 1) := by decide +kernel
theorem dX11_tellsIt_54 : decode cX11_tellsIt 54 = .ok (.aload_n 0, 1) := by decide +kernel
theorem dX11_tellsIt_55 : decode cX11_tellsIt 55 = .ok (.getfield 412, 3) := by decide +kernel
theorem dX11_tellsIt_58 : decode cX11_tellsIt 58 = .ok (.invokevirtual 430, 3) := by decide +kernel
theorem dX11_tellsIt_61 : decode cX11_tellsIt 61 = .ok (.ixor, 1) := by decide +kernel
theorem dX11_tellsIt_62 : decode cX11_tellsIt 62 = .ok (.ireturn, 1) := by decide +kernel
theorem dX11_tellsIt_63 : decode cX11_tellsIt 63 = .ok (.aload_n 0, 1) := by decide +kernel
theorem dX11_tellsIt_64 : decode cX11_tellsIt 64 = .ok (.iload_n 1, 1) := by decide +kernel
theorem dX11_tellsIt_65 : decode cX11_tellsIt 65 = .ok (.invokevirtual 433, 3) := by decide +kernel
theorem dX11_tellsIt_68 : decode cX11_tellsIt 68 = .ok (.ireturn, 1) := by decide +kernel
theorem dX11_act_0 : decode cX11_act 0 = .ok (.aload_n 0, 1) := by decide +kernel
theorem dX11_act_1 : decode cX11_act 1 = .ok (.iconst 0, 1) := by decide +kernel
theorem dX11_act_2 : decode cX11_act 2 = .ok (.putfield 403, 3) := by decide +kernel
theorem dX11_act_5 : decode cX11_act 5 = .ok (.iload_n 1, 1) := by decide +kernel
theorem dX11_act_6 : decode cX11_act 6 = .ok (.invokestatic 388, 3) := by decide +kernel
theorem dX11_act_9 : decode cX11_act 9 = .ok (.ifCond .eq 26, 3) := by decide +kernel
theorem dX11_act_12 : decode cX11_act 12 = .ok (.iload_n 2, 1) := by decide +kernel
theorem dX11_act_13 : decode cX11_act 13 = .ok (.iconst 0, 1) := by decide +kernel
theorem dX11_act_14 : decode cX11_act 14 = .ok (.iconst 3, 1) := by decide +kernel
theorem dX11_act_15 : decode cX11_act 15 = .ok (.invokestatic 87, 3) := by decide +kernel
theorem dX11_act_18 : decode cX11_act 18 = .ok (.ifCond .eq 17, 3) := by decide +kernel
theorem dX11_act_21 : decode cX11_act 21 = .ok (.aload_n 0, 1) := by decide +kernel
theorem dX11_act_22 : decode cX11_act 22 = .ok (.iload_n 1, 1) := by decide +kernel
theorem dX11_act_23 : decode cX11_act 23 = .ok (.invokevirtual 397, 3) := by decide +kernel
theorem dX11_act_26 : decode cX11_act 26 = .ok (.iconst 0, 1) := by decide +kernel
theorem dX11_act_27 : decode cX11_act 27 = .ok (.bipush 6, 2) := by decide +kernel
theorem dX11_act_29 : decode cX11_act 29 = .ok (.invokestatic 87, 3) := by decide +kernel
theorem dX11_act_32 : decode cX11_act 32 = .ok (.ifCond .ne 5, 3) := by decide +kernel
theorem dX11_act_35 : decode cX11_act 35 = .ok (.iconst 0, 1) := by decide +kernel
theorem dX11_act_36 : decode cX11_act 36 = .ok (.ireturn, 1) := by decide +kernel
theorem dX11_act_37 : decode cX11_act 37 = .ok (.aload_n 0, 1) := by decide +kernel
theorem dX11_act_38 : decode cX11_act 38 = .ok (.aload_n 0, 1) := by decide +kernel
theorem dX11_act_39 : decode cX11_act 39 = .ok (.iload_n 1, 1) := by decide +kernel
theorem dX11_act_40 : decode cX11_act 40 = .ok (.invokevirtual 397, 3) := by decide +kernel
theorem dX11_act_43 : decode cX11_act 43 = .ok (.putfield 406, 3) := by decide +kernel
theorem dX11_act_46 : decode cX11_act 46 = .ok (.aload_n 0, 1) := by decide +kernel
theorem dX11_act_47 : decode cX11_act 47 = .ok (.aload_n 0, 1) := by decide +kernel
theorem dX11_act_48 : decode cX11_act 48 = .ok (.getfield 69, 3) := by decide +kernel
theorem dX11_act_51 : decode cX11_act 51 = .ok (.iload_n 1, 1) := by decide +kernel
theorem dX11_act_52 : decode cX11_act 52 = .ok (.iaload, 1) := by decide +kernel
theorem dX11_act_53 : decode cX11_act 53 = .ok (.putfield 412, 3) := by decide +kernel
theorem dX11_act_56 : decode cX11_act 56 = .ok (.aload_n 0, 1) := by decide +kernel
theorem dX11_act_57 : decode cX11_act 57 = .ok (.aload_n 0, 1) := by decide +kernel
theorem dX11_act_58 : decode cX11_act 58 = .ok (.aload_n 0, 1) := by decide +kernel
theorem dX11_act_59 : decode cX11_act 59 = .ok (.getfield 412, 3) := by decide +kernel
theorem dX11_act_62 : decode cX11_act 62 = .ok (.iconst 3, 1) := by decide +kernel
theorem dX11_act_63 : decode cX11_act 63 = .ok (.invokevirtual 94, 3) := by decide +kernel
theorem dX11_act_66 : decode cX11_act 66 = .ok (.putfield 421, 3) := by decide +kernel
theorem dX11_act_69 : decode cX11_act 69 = .ok (.aload_n 0, 1) := by decide +kernel
theorem dX11_act_70 : decode cX11_act 70 = .ok (.iconst 0, 1) := by decide +kernel
theorem dX11_act_71 : decode cX11_act 71 = .ok (.putfield 424, 3) := by decide +kernel
theorem dX11_act_74 : decode cX11_act 74 = .ok (.iload_n 2, 1) := by decide +kernel
theorem dX11_act_75 : decode cX11_act 75 = .ok (.ifCond .ne 11, 3) := by decide +kernel
theorem dX11_act_78 : decode cX11_act 78 = .ok (.aload_n 0, 1) := by decide +kernel
theorem dX11_act_79 : decode cX11_act 79 = .ok (.iload_n 3, 1) := by decide +kernel
theorem dX11_act_80 : decode cX11_act 80 = .ok (.invokevirtual 415, 3) := by decide +kernel
theorem dX11_act_83 : decode cX11_act 83 = .ok (.goto 34, 3) := by decide +kernel
theorem dX11_act_86 : decode cX11_act 86 = .ok (.iload_n 2, 1) := by decide +kernel
theorem dX11_act_87 : decode cX11_act 87 = .ok (.iconst 1, 1) := by decide +kernel
theorem dX11_act_88 : decode cX11_act 88 = .ok (.if_icmp .ne 11, 3) := by decide +kernel
theorem dX11_act_91 : decode cX11_act 91 = .ok (.aload_n 0, 1) := by decide +kernel
theorem dX11_act_92 : decode cX11_act 92 = .ok (.iload_n 3, 1) := by decide +kernel
theorem dX11_act_93 : decode cX11_act 93 = .ok (.invokevirtual 430, 3) := by decide +kernel
theorem dX11_act_96 : decode cX11_act 96 = .ok (.goto 21, 3) := by decide +kernel
theorem dX11_act_99 : decode cX11_act 99 = .ok (.iload_n 2, 1) := by decide +kernel
theorem dX11_act_100 : decode cX11_act 100 = .ok (.iconst 2, 1) := by decide +kernel
theorem dX11_act_101 : decode cX11_act 101 = .ok (.if_icmp .ne 11, 3) := by decide +kernel
theorem dX11_act_104 : decode cX11_act 104 = .ok (.aload_n 0, 1) := by decide +kernel
theorem dX11_act_105 : decode cX11_act 105 = .ok (.iload_n 3, 1) := by decide +kernel
theorem dX11_act_106 : decode cX11_act 106 = .ok (.invokevirtual 436, 3) := by decide +kernel
theorem dX11_act_109 : decode cX11_act 109 = .ok (.goto 8, 3) := by decide +kernel
theorem dX11_act_112 : decode cX11_act 112 = .ok (.aload_n 0, 1) := by decide +kernel
theorem dX11_act_113 : decode cX11_act 113 = .ok (.iload_n 3, 1) := by decide +kernel
theorem dX11_act_114 : decode cX11_act 114 = .ok (.invokevirtual 439, 3) := by decide +kernel
theorem dX11_act_117 : decode cX11_act 117 = .ok (.istore 4, 2) := by decide +kernel
theorem dX11_act_119 : decode cX11_act 119 = .ok (.aload_n 0, 1) := by decide +kernel
theorem dX11_act_120 : decode cX11_act 120 = .ok (.getfield 424, 3) := by decide +kernel
theorem dX11_act_123 : decode cX11_act 123 = .ok (.ifCond .eq 8, 3) := by decide +kernel
theorem dX11_act_126 : decode cX11_act 126 = .ok (.bipush (-15), 2) := by decide +kernel
theorem dX11_act_128 : decode cX11_act 128 = .ok (.goto 5, 3) := by decide +kernel
theorem dX11_act_131 : decode cX11_act 131 = .ok (.iload 4, 2) := by decide +kernel
theorem dX11_act_133 : decode cX11_act 133 = .ok (.ireturn, 1) := by decide +kernel
theorem dX11_trace_0 : decode cX11_trace 0 = .ok (.iload_n 1, 1) := by decide +kernel
theorem dX11_trace_1 : decode cX11_trace 1 = .ok (.iconst 0, 1) := by decide +kernel
theorem dX11_trace_2 : decode cX11_trace 2 = .ok (.aload_n 0, 1) := by decide +kernel
theorem dX11_trace_3 : decode cX11_trace 3 = .ok (.getfield 403, 3) := by decide +kernel
theorem dX11_trace_6 : decode cX11_trace 6 = .ok (.iconst 1, 1) := by decide +kernel
theorem dX11_trace_7 : decode cX11_trace 7 = .ok (.isub, 1) := by decide +kernel
theorem dX11_trace_8 : decode cX11_trace 8 = .ok (.invokestatic 87, 3) := by decide +kernel
theorem dX11_trace_11 : decode cX11_trace 11 = .ok (.ifCond .eq 12, 3) := by decide +kernel
theorem dX11_trace_14 : decode cX11_trace 14 = .ok (.aload_n 0, 1) := by decide +kernel
theorem dX11_trace_15 : decode cX11_trace 15 = .ok (.getfield 75, 3) := by decide +kernel
theorem dX11_trace_18 : decode cX11_trace 18 = .ok (.iload_n 1, 1) := by decide +kernel
theorem dX11_trace_19 : decode cX11_trace 19 = .ok (.iaload, 1) := by decide +kernel
theorem dX11_trace_20 : decode cX11_trace 20 = .ok (.goto 5, 3) := by decide +kernel
theorem dX11_trace_23 : decode cX11_trace 23 = .ok (.bipush (-3), 2) := by decide +kernel
theorem dX11_trace_25 : decode cX11_trace 25 = .ok (.ireturn, 1) := by decide +kernel
theorem dX11_many_0 : decode cX11_many 0 = .ok (.iload_n 1, 1) := by decide +kernel
theorem dX11_many_1 : decode cX11_many 1 = .ok (.tableswitch 87 0 7 #[47, 52, 57, 62, 67, 72, 77, 82], 47) := by decide +kernel
theorem dX11_many_48 : decode cX11_many 48 = .ok (.aload_n 0, 1) := by decide +kernel
theorem dX11_many_49 : decode cX11_many 49 = .ok (.getfield 84, 3) := by decide +kernel
theorem dX11_many_52 : decode cX11_many 52 = .ok (.ireturn, 1) := by decide +kernel
theorem dX11_many_53 : decode cX11_many 53 = .ok (.aload_n 0, 1) := by decide +kernel
theorem dX11_many_54 : decode cX11_many 54 = .ok (.getfield 116, 3) := by decide +kernel
theorem dX11_many_57 : decode cX11_many 57 = .ok (.ireturn, 1) := by decide +kernel
theorem dX11_many_58 : decode cX11_many 58 = .ok (.aload_n 0, 1) := by decide +kernel
theorem dX11_many_59 : decode cX11_many 59 = .ok (.getfield 91, 3) := by decide +kernel
theorem dX11_many_62 : decode cX11_many 62 = .ok (.ireturn, 1) := by decide +kernel
theorem dX11_many_63 : decode cX11_many 63 = .ok (.aload_n 0, 1) := by decide +kernel
theorem dX11_many_64 : decode cX11_many 64 = .ok (.getfield 364, 3) := by decide +kernel
theorem dX11_many_67 : decode cX11_many 67 = .ok (.ireturn, 1) := by decide +kernel
theorem dX11_many_68 : decode cX11_many 68 = .ok (.aload_n 0, 1) := by decide +kernel
theorem dX11_many_69 : decode cX11_many 69 = .ok (.getfield 382, 3) := by decide +kernel
theorem dX11_many_72 : decode cX11_many 72 = .ok (.ireturn, 1) := by decide +kernel
theorem dX11_many_73 : decode cX11_many 73 = .ok (.aload_n 0, 1) := by decide +kernel
theorem dX11_many_74 : decode cX11_many 74 = .ok (.getfield 137, 3) := by decide +kernel
theorem dX11_many_77 : decode cX11_many 77 = .ok (.ireturn, 1) := by decide +kernel
theorem dX11_many_78 : decode cX11_many 78 = .ok (.aload_n 0, 1) := by decide +kernel
theorem dX11_many_79 : decode cX11_many 79 = .ok (.getfield 403, 3) := by decide +kernel
theorem dX11_many_82 : decode cX11_many 82 = .ok (.ireturn, 1) := by decide +kernel
theorem dX11_many_83 : decode cX11_many 83 = .ok (.aload_n 0, 1) := by decide +kernel
theorem dX11_many_84 : decode cX11_many 84 = .ok (.getfield 103, 3) := by decide +kernel
theorem dX11_many_87 : decode cX11_many 87 = .ok (.ireturn, 1) := by decide +kernel
theorem dX11_many_88 : decode cX11_many 88 = .ok (.iconst (-1), 1) := by decide +kernel
theorem dX11_many_89 : decode cX11_many 89 = .ok (.ireturn, 1) := by decide +kernel
theorem dX11_move_0 : decode cX11_move 0 = .ok (.iconst 0, 1) := by decide +kernel
theorem dX11_move_1 : decode cX11_move 1 = .ok (.istore 4, 2) := by decide +kernel
theorem dX11_move_3 : decode cX11_move 3 = .ok (.iload 4, 2) := by decide +kernel
theorem dX11_move_5 : decode cX11_move 5 = .ok (.iload_n 2, 1) := by decide +kernel
theorem dX11_move_6 : decode cX11_move 6 = .ok (.if_icmp .ge 52, 3) := by decide +kernel
theorem dX11_move_9 : decode cX11_move 9 = .ok (.iload_n 3, 1) := by decide +kernel
theorem dX11_move_10 : decode cX11_move 10 = .ok (.ifCond .eq 19, 3) := by decide +kernel
theorem dX11_move_13 : decode cX11_move 13 = .ok (.aload_n 0, 1) := by decide +kernel
theorem dX11_move_14 : decode cX11_move 14 = .ok (.getfield 78, 3) := by decide +kernel
theorem dX11_move_17 : decode cX11_move 17 = .ok (.aload_n 0, 1) := by decide +kernel
theorem dX11_move_18 : decode cX11_move 18 = .ok (.getfield 442, 3) := by decide +kernel
theorem dX11_move_21 : decode cX11_move 21 = .ok (.aload_n 1, 1) := by decide +kernel
theorem dX11_move_22 : decode cX11_move 22 = .ok (.iload 4, 2) := by decide +kernel
theorem dX11_move_24 : decode cX11_move 24 = .ok (.iaload, 1) := by decide +kernel
theorem dX11_move_25 : decode cX11_move 25 = .ok (.iastore, 1) := by decide +kernel
theorem dX11_move_26 : decode cX11_move 26 = .ok (.goto 16, 3) := by decide +kernel
theorem dX11_move_29 : decode cX11_move 29 = .ok (.aload_n 1, 1) := by decide +kernel
theorem dX11_move_30 : decode cX11_move 30 = .ok (.iload 4, 2) := by decide +kernel
theorem dX11_move_32 : decode cX11_move 32 = .ok (.aload_n 0, 1) := by decide +kernel
theorem dX11_move_33 : decode cX11_move 33 = .ok (.getfield 78, 3) := by decide +kernel
theorem dX11_move_36 : decode cX11_move 36 = .ok (.aload_n 0, 1) := by decide +kernel
theorem dX11_move_37 : decode cX11_move 37 = .ok (.getfield 442, 3) := by decide +kernel
theorem dX11_move_40 : decode cX11_move 40 = .ok (.iaload, 1) := by decide +kernel
theorem dX11_move_41 : decode cX11_move 41 = .ok (.iastore, 1) := by decide +kernel
theorem dX11_move_42 : decode cX11_move 42 = .ok (.aload_n 0, 1) := by decide +kernel
theorem dX11_move_43 : decode cX11_move 43 = .ok (.dup, 1) := by decide +kernel
theorem dX11_move_44 : decode cX11_move 44 = .ok (.getfield 442, 3) := by decide +kernel
theorem dX11_move_47 : decode cX11_move 47 = .ok (.iconst 1, 1) := by decide +kernel
theorem dX11_move_48 : decode cX11_move 48 = .ok (.iadd, 1) := by decide +kernel
theorem dX11_move_49 : decode cX11_move 49 = .ok (.putfield 442, 3) := by decide +kernel
theorem dX11_move_52 : decode cX11_move 52 = .ok (.iinc 4 1, 3) := by decide +kernel
theorem dX11_move_55 : decode cX11_move 55 = .ok (.goto (-52), 3) := by decide +kernel
theorem dX11_move_58 : decode cX11_move 58 = .ok (.return_, 1) := by decide +kernel
theorem dX11_moveAll_0 : decode cX11_moveAll 0 = .ok (.aload_n 0, 1) := by decide +kernel
theorem dX11_moveAll_1 : decode cX11_moveAll 1 = .ok (.iconst 0, 1) := by decide +kernel
theorem dX11_moveAll_2 : decode cX11_moveAll 2 = .ok (.putfield 442, 3) := by decide +kernel
theorem dX11_moveAll_5 : decode cX11_moveAll 5 = .ok (.aload_n 0, 1) := by decide +kernel
theorem dX11_moveAll_6 : decode cX11_moveAll 6 = .ok (.getfield 81, 3) := by decide +kernel
theorem dX11_moveAll_9 : decode cX11_moveAll 9 = .ok (.iconst 0, 1) := by decide +kernel
theorem dX11_moveAll_10 : decode cX11_moveAll 10 = .ok (.aload_n 0, 1) := by decide +kernel
theorem dX11_moveAll_11 : decode cX11_moveAll 11 = .ok (.getfield 103, 3) := by decide +kernel
theorem dX11_moveAll_14 : decode cX11_moveAll 14 = .ok (.iastore, 1) := by decide +kernel
theorem dX11_moveAll_15 : decode cX11_moveAll 15 = .ok (.aload_n 0, 1) := by decide +kernel
theorem dX11_moveAll_16 : decode cX11_moveAll 16 = .ok (.getfield 81, 3) := by decide +kernel
theorem dX11_moveAll_19 : decode cX11_moveAll 19 = .ok (.iconst 1, 1) := by decide +kernel
theorem dX11_moveAll_20 : decode cX11_moveAll 20 = .ok (.aload_n 0, 1) := by decide +kernel
theorem dX11_moveAll_21 : decode cX11_moveAll 21 = .ok (.getfield 113, 3) := by decide +kernel
theorem dX11_moveAll_24 : decode cX11_moveAll 24 = .ok (.iastore, 1) := by decide +kernel
theorem dX11_moveAll_25 : decode cX11_moveAll 25 = .ok (.aload_n 0, 1) := by decide +kernel
theorem dX11_moveAll_26 : decode cX11_moveAll 26 = .ok (.getfield 81, 3) := by decide +kernel
theorem dX11_moveAll_29 : decode cX11_moveAll 29 = .ok (.iconst 2, 1) := by decide +kernel
theorem dX11_moveAll_30 : decode cX11_moveAll 30 = .ok (.aload_n 0, 1) := by decide +kernel
theorem dX11_moveAll_31 : decode cX11_moveAll 31 = .ok (.getfield 7, 3) := by decide +kernel
theorem dX11_moveAll_34 : decode cX11_moveAll 34 = .ok (.iastore, 1) := by decide +kernel
theorem dX11_moveAll_35 : decode cX11_moveAll 35 = .ok (.aload_n 0, 1) := by decide +kernel
theorem dX11_moveAll_36 : decode cX11_moveAll 36 = .ok (.getfield 81, 3) := by decide +kernel
theorem dX11_moveAll_39 : decode cX11_moveAll 39 = .ok (.iconst 3, 1) := by decide +kernel
theorem dX11_moveAll_40 : decode cX11_moveAll 40 = .ok (.aload_n 0, 1) := by decide +kernel
theorem dX11_moveAll_41 : decode cX11_moveAll 41 = .ok (.getfield 134, 3) := by decide +kernel
theorem dX11_moveAll_44 : decode cX11_moveAll 44 = .ok (.iastore, 1) := by decide +kernel
theorem dX11_moveAll_45 : decode cX11_moveAll 45 = .ok (.aload_n 0, 1) := by decide +kernel
theorem dX11_moveAll_46 : decode cX11_moveAll 46 = .ok (.getfield 81, 3) := by decide +kernel
theorem dX11_moveAll_49 : decode cX11_moveAll 49 = .ok (.iconst 4, 1) := by decide +kernel
theorem dX11_moveAll_50 : decode cX11_moveAll 50 = .ok (.aload_n 0, 1) := by decide +kernel
theorem dX11_moveAll_51 : decode cX11_moveAll 51 = .ok (.getfield 84, 3) := by decide +kernel
theorem dX11_moveAll_54 : decode cX11_moveAll 54 = .ok (.iastore, 1) := by decide +kernel
theorem dX11_moveAll_55 : decode cX11_moveAll 55 = .ok (.aload_n 0, 1) := by decide +kernel
theorem dX11_moveAll_56 : decode cX11_moveAll 56 = .ok (.getfield 81, 3) := by decide +kernel
theorem dX11_moveAll_59 : decode cX11_moveAll 59 = .ok (.iconst 5, 1) := by decide +kernel
theorem dX11_moveAll_60 : decode cX11_moveAll 60 = .ok (.aload_n 0, 1) := by decide +kernel
theorem dX11_moveAll_61 : decode cX11_moveAll 61 = .ok (.getfield 116, 3) := by decide +kernel
theorem dX11_moveAll_64 : decode cX11_moveAll 64 = .ok (.iastore, 1) := by decide +kernel
theorem dX11_moveAll_65 : decode cX11_moveAll 65 = .ok (.aload_n 0, 1) := by decide +kernel
theorem dX11_moveAll_66 : decode cX11_moveAll 66 = .ok (.getfield 81, 3) := by decide +kernel
theorem dX11_moveAll_69 : decode cX11_moveAll 69 = .ok (.bipush 6, 2) := by decide +kernel
theorem dX11_moveAll_71 : decode cX11_moveAll 71 = .ok (.aload_n 0, 1) := by decide +kernel
theorem dX11_moveAll_72 : decode cX11_moveAll 72 = .ok (.getfield 91, 3) := by decide +kernel
theorem dX11_moveAll_75 : decode cX11_moveAll 75 = .ok (.iastore, 1) := by decide +kernel
theorem dX11_moveAll_76 : decode cX11_moveAll 76 = .ok (.aload_n 0, 1) := by decide +kernel
theorem dX11_moveAll_77 : decode cX11_moveAll 77 = .ok (.getfield 81, 3) := by decide +kernel
theorem dX11_moveAll_80 : decode cX11_moveAll 80 = .ok (.bipush 7, 2) := by decide +kernel
theorem dX11_moveAll_82 : decode cX11_moveAll 82 = .ok (.aload_n 0, 1) := by decide +kernel
theorem dX11_moveAll_83 : decode cX11_moveAll 83 = .ok (.getfield 364, 3) := by decide +kernel
theorem dX11_moveAll_86 : decode cX11_moveAll 86 = .ok (.iastore, 1) := by decide +kernel
theorem dX11_moveAll_87 : decode cX11_moveAll 87 = .ok (.aload_n 0, 1) := by decide +kernel
theorem dX11_moveAll_88 : decode cX11_moveAll 88 = .ok (.aload_n 0, 1) := by decide +kernel
theorem dX11_moveAll_89 : decode cX11_moveAll 89 = .ok (.getfield 81, 3) := by decide +kernel
theorem dX11_moveAll_92 : decode cX11_moveAll 92 = .ok (.bipush 8, 2) := by decide +kernel
theorem dX11_moveAll_94 : decode cX11_moveAll 94 = .ok (.iload_n 1, 1) := by decide +kernel
theorem dX11_moveAll_95 : decode cX11_moveAll 95 = .ok (.invokevirtual 445, 3) := by decide +kernel
theorem dX11_moveAll_98 : decode cX11_moveAll 98 = .ok (.aload_n 0, 1) := by decide +kernel
theorem dX11_moveAll_99 : decode cX11_moveAll 99 = .ok (.aload_n 0, 1) := by decide +kernel
theorem dX11_moveAll_100 : decode cX11_moveAll 100 = .ok (.getfield 13, 3) := by decide +kernel
theorem dX11_moveAll_103 : decode cX11_moveAll 103 = .ok (.bipush 90, 2) := by decide +kernel
theorem dX11_moveAll_105 : decode cX11_moveAll 105 = .ok (.iload_n 1, 1) := by decide +kernel
theorem dX11_moveAll_106 : decode cX11_moveAll 106 = .ok (.invokevirtual 445, 3) := by decide +kernel
theorem dX11_moveAll_109 : decode cX11_moveAll 109 = .ok (.aload_n 0, 1) := by decide +kernel
theorem dX11_moveAll_110 : decode cX11_moveAll 110 = .ok (.aload_n 0, 1) := by decide +kernel
theorem dX11_moveAll_111 : decode cX11_moveAll 111 = .ok (.getfield 17, 3) := by decide +kernel
theorem dX11_moveAll_114 : decode cX11_moveAll 114 = .ok (.bipush 120, 2) := by decide +kernel
theorem dX11_moveAll_116 : decode cX11_moveAll 116 = .ok (.iload_n 1, 1) := by decide +kernel
theorem dX11_moveAll_117 : decode cX11_moveAll 117 = .ok (.invokevirtual 445, 3) := by decide +kernel
theorem dX11_moveAll_120 : decode cX11_moveAll 120 = .ok (.aload_n 0, 1) := by decide +kernel
theorem dX11_moveAll_121 : decode cX11_moveAll 121 = .ok (.aload_n 0, 1) := by decide +kernel
theorem dX11_moveAll_122 : decode cX11_moveAll 122 = .ok (.getfield 20, 3) := by decide +kernel
theorem dX11_moveAll_125 : decode cX11_moveAll 125 = .ok (.sipush 128, 3) := by decide +kernel
theorem dX11_moveAll_128 : decode cX11_moveAll 128 = .ok (.iload_n 1, 1) := by decide +kernel
theorem dX11_moveAll_129 : decode cX11_moveAll 129 = .ok (.invokevirtual 445, 3) := by decide +kernel
theorem dX11_moveAll_132 : decode cX11_moveAll 132 = .ok (.aload_n 0, 1) := by decide +kernel
theorem dX11_moveAll_133 : decode cX11_moveAll 133 = .ok (.aload_n 0, 1) := by decide +kernel
theorem dX11_moveAll_134 : decode cX11_moveAll 134 = .ok (.getfield 23, 3) := by decide +kernel
theorem dX11_moveAll_137 : decode cX11_moveAll 137 = .ok (.bipush 8, 2) := by decide +kernel
theorem dX11_moveAll_139 : decode cX11_moveAll 139 = .ok (.iload_n 1, 1) := by decide +kernel
theorem dX11_moveAll_140 : decode cX11_moveAll 140 = .ok (.invokevirtual 445, 3) := by decide +kernel
theorem dX11_moveAll_143 : decode cX11_moveAll 143 = .ok (.aload_n 0, 1) := by decide +kernel
theorem dX11_moveAll_144 : decode cX11_moveAll 144 = .ok (.aload_n 0, 1) := by decide +kernel
theorem dX11_moveAll_145 : decode cX11_moveAll 145 = .ok (.getfield 26, 3) := by decide +kernel
theorem dX11_moveAll_148 : decode cX11_moveAll 148 = .ok (.sipush 1600, 3) := by decide +kernel
theorem dX11_moveAll_151 : decode cX11_moveAll 151 = .ok (.iload_n 1, 1) := by decide +kernel
theorem dX11_moveAll_152 : decode cX11_moveAll 152 = .ok (.invokevirtual 445, 3) := by decide +kernel
theorem dX11_moveAll_155 : decode cX11_moveAll 155 = .ok (.return_, 1) := by decide +kernel
theorem dX11_keep_0 : decode cX11_keep 0 = .ok (.aload_n 0, 1) := by decide +kernel
theorem dX11_keep_1 : decode cX11_keep 1 = .ok (.iconst 1, 1) := by decide +kernel
theorem dX11_keep_2 : decode cX11_keep 2 = .ok (.invokevirtual 449, 3) := by decide +kernel
theorem dX11_keep_5 : decode cX11_keep 5 = .ok (.aload_n 0, 1) := by decide +kernel
theorem dX11_keep_6 : decode cX11_keep 6 = .ok (.iconst 1, 1) := by decide +kernel
theorem dX11_keep_7 : decode cX11_keep 7 = .ok (.putfield 453, 3) := by decide +kernel
theorem dX11_keep_10 : decode cX11_keep 10 = .ok (.iconst 1, 1) := by decide +kernel
theorem dX11_keep_11 : decode cX11_keep 11 = .ok (.ireturn, 1) := by decide +kernel
theorem dX11_back_0 : decode cX11_back 0 = .ok (.aload_n 0, 1) := by decide +kernel
theorem dX11_back_1 : decode cX11_back 1 = .ok (.getfield 453, 3) := by decide +kernel
theorem dX11_back_4 : decode cX11_back 4 = .ok (.ifCond .ne 6, 3) := by decide +kernel
theorem dX11_back_7 : decode cX11_back 7 = .ok (.bipush (-3), 2) := by decide +kernel
theorem dX11_back_9 : decode cX11_back 9 = .ok (.ireturn, 1) := by decide +kernel
theorem dX11_back_10 : decode cX11_back 10 = .ok (.aload_n 0, 1) := by decide +kernel
theorem dX11_back_11 : decode cX11_back 11 = .ok (.iconst 0, 1) := by decide +kernel
theorem dX11_back_12 : decode cX11_back 12 = .ok (.invokevirtual 449, 3) := by decide +kernel
theorem dX11_back_15 : decode cX11_back 15 = .ok (.aload_n 0, 1) := by decide +kernel
theorem dX11_back_16 : decode cX11_back 16 = .ok (.aload_n 0, 1) := by decide +kernel
theorem dX11_back_17 : decode cX11_back 17 = .ok (.getfield 81, 3) := by decide +kernel
theorem dX11_back_20 : decode cX11_back 20 = .ok (.iconst 0, 1) := by decide +kernel
theorem dX11_back_21 : decode cX11_back 21 = .ok (.iaload, 1) := by decide +kernel
theorem dX11_back_22 : decode cX11_back 22 = .ok (.putfield 103, 3) := by decide +kernel
theorem dX11_back_25 : decode cX11_back 25 = .ok (.aload_n 0, 1) := by decide +kernel
theorem dX11_back_26 : decode cX11_back 26 = .ok (.aload_n 0, 1) := by decide +kernel
theorem dX11_back_27 : decode cX11_back 27 = .ok (.getfield 81, 3) := by decide +kernel
theorem dX11_back_30 : decode cX11_back 30 = .ok (.iconst 1, 1) := by decide +kernel
theorem dX11_back_31 : decode cX11_back 31 = .ok (.iaload, 1) := by decide +kernel
theorem dX11_back_32 : decode cX11_back 32 = .ok (.putfield 113, 3) := by decide +kernel
theorem dX11_back_35 : decode cX11_back 35 = .ok (.aload_n 0, 1) := by decide +kernel
theorem dX11_back_36 : decode cX11_back 36 = .ok (.aload_n 0, 1) := by decide +kernel
theorem dX11_back_37 : decode cX11_back 37 = .ok (.getfield 81, 3) := by decide +kernel
theorem dX11_back_40 : decode cX11_back 40 = .ok (.iconst 2, 1) := by decide +kernel
theorem dX11_back_41 : decode cX11_back 41 = .ok (.iaload, 1) := by decide +kernel
theorem dX11_back_42 : decode cX11_back 42 = .ok (.putfield 7, 3) := by decide +kernel
theorem dX11_back_45 : decode cX11_back 45 = .ok (.aload_n 0, 1) := by decide +kernel
theorem dX11_back_46 : decode cX11_back 46 = .ok (.aload_n 0, 1) := by decide +kernel
theorem dX11_back_47 : decode cX11_back 47 = .ok (.getfield 81, 3) := by decide +kernel
theorem dX11_back_50 : decode cX11_back 50 = .ok (.iconst 3, 1) := by decide +kernel
theorem dX11_back_51 : decode cX11_back 51 = .ok (.iaload, 1) := by decide +kernel
theorem dX11_back_52 : decode cX11_back 52 = .ok (.putfield 134, 3) := by decide +kernel
theorem dX11_back_55 : decode cX11_back 55 = .ok (.aload_n 0, 1) := by decide +kernel
theorem dX11_back_56 : decode cX11_back 56 = .ok (.aload_n 0, 1) := by decide +kernel
theorem dX11_back_57 : decode cX11_back 57 = .ok (.getfield 81, 3) := by decide +kernel
theorem dX11_back_60 : decode cX11_back 60 = .ok (.iconst 4, 1) := by decide +kernel
theorem dX11_back_61 : decode cX11_back 61 = .ok (.iaload, 1) := by decide +kernel
theorem dX11_back_62 : decode cX11_back 62 = .ok (.putfield 84, 3) := by decide +kernel
theorem dX11_back_65 : decode cX11_back 65 = .ok (.aload_n 0, 1) := by decide +kernel
theorem dX11_back_66 : decode cX11_back 66 = .ok (.aload_n 0, 1) := by decide +kernel
theorem dX11_back_67 : decode cX11_back 67 = .ok (.getfield 81, 3) := by decide +kernel
theorem dX11_back_70 : decode cX11_back 70 = .ok (.iconst 5, 1) := by decide +kernel
theorem dX11_back_71 : decode cX11_back 71 = .ok (.iaload, 1) := by decide +kernel
theorem dX11_back_72 : decode cX11_back 72 = .ok (.putfield 116, 3) := by decide +kernel
theorem dX11_back_75 : decode cX11_back 75 = .ok (.aload_n 0, 1) := by decide +kernel
theorem dX11_back_76 : decode cX11_back 76 = .ok (.aload_n 0, 1) := by decide +kernel
theorem dX11_back_77 : decode cX11_back 77 = .ok (.getfield 81, 3) := by decide +kernel
theorem dX11_back_80 : decode cX11_back 80 = .ok (.bipush 6, 2) := by decide +kernel
theorem dX11_back_82 : decode cX11_back 82 = .ok (.iaload, 1) := by decide +kernel
theorem dX11_back_83 : decode cX11_back 83 = .ok (.putfield 91, 3) := by decide +kernel
theorem dX11_back_86 : decode cX11_back 86 = .ok (.aload_n 0, 1) := by decide +kernel
theorem dX11_back_87 : decode cX11_back 87 = .ok (.aload_n 0, 1) := by decide +kernel
theorem dX11_back_88 : decode cX11_back 88 = .ok (.getfield 81, 3) := by decide +kernel
theorem dX11_back_91 : decode cX11_back 91 = .ok (.bipush 7, 2) := by decide +kernel
theorem dX11_back_93 : decode cX11_back 93 = .ok (.iaload, 1) := by decide +kernel
theorem dX11_back_94 : decode cX11_back 94 = .ok (.putfield 364, 3) := by decide +kernel
theorem dX11_back_97 : decode cX11_back 97 = .ok (.aload_n 0, 1) := by decide +kernel
theorem dX11_back_98 : decode cX11_back 98 = .ok (.getfield 103, 3) := by decide +kernel
theorem dX11_back_101 : decode cX11_back 101 = .ok (.ireturn, 1) := by decide +kernel
