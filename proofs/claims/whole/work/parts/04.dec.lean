theorem dX11_init_0 : decode cX11_init 0 = .ok (.aload_n 0, 1) := by decide +kernel
theorem dX11_init_1 : decode cX11_init 1 = .ok (.invokespecial 1, 3) := by decide +kernel
theorem dX11_init_4 : decode cX11_init 4 = .ok (.aload_n 0, 1) := by decide +kernel
theorem dX11_init_5 : decode cX11_init 5 = .ok (.iconst 1, 1) := by decide +kernel
theorem dX11_init_6 : decode cX11_init 6 = .ok (.putfield 7, 3) := by decide +kernel
theorem dX11_init_9 : decode cX11_init 9 = .ok (.aload_n 0, 1) := by decide +kernel
theorem dX11_init_10 : decode cX11_init 10 = .ok (.bipush 90, 2) := by decide +kernel
theorem dX11_init_12 : decode cX11_init 12 = .ok (.newarray .int, 2) := by decide +kernel
theorem dX11_init_14 : decode cX11_init 14 = .ok (.putfield 13, 3) := by decide +kernel
theorem dX11_init_17 : decode cX11_init 17 = .ok (.aload_n 0, 1) := by decide +kernel
theorem dX11_init_18 : decode cX11_init 18 = .ok (.bipush 120, 2) := by decide +kernel
theorem dX11_init_20 : decode cX11_init 20 = .ok (.newarray .int, 2) := by decide +kernel
theorem dX11_init_22 : decode cX11_init 22 = .ok (.putfield 17, 3) := by decide +kernel
theorem dX11_init_25 : decode cX11_init 25 = .ok (.aload_n 0, 1) := by decide +kernel
theorem dX11_init_26 : decode cX11_init 26 = .ok (.sipush 128, 3) := by decide +kernel
theorem dX11_init_29 : decode cX11_init 29 = .ok (.newarray .int, 2) := by decide +kernel
theorem dX11_init_31 : decode cX11_init 31 = .ok (.putfield 20, 3) := by decide +kernel
theorem dX11_init_34 : decode cX11_init 34 = .ok (.aload_n 0, 1) := by decide +kernel
theorem dX11_init_35 : decode cX11_init 35 = .ok (.bipush 8, 2) := by decide +kernel
theorem dX11_init_37 : decode cX11_init 37 = .ok (.newarray .int, 2) := by decide +kernel
theorem dX11_init_39 : decode cX11_init 39 = .ok (.putfield 23, 3) := by decide +kernel
theorem dX11_init_42 : decode cX11_init 42 = .ok (.aload_n 0, 1) := by decide +kernel
theorem dX11_init_43 : decode cX11_init 43 = .ok (.sipush 1600, 3) := by decide +kernel
theorem dX11_init_46 : decode cX11_init 46 = .ok (.newarray .int, 2) := by decide +kernel
theorem dX11_init_48 : decode cX11_init 48 = .ok (.putfield 26, 3) := by decide +kernel
theorem dX11_init_51 : decode cX11_init 51 = .ok (.aload_n 0, 1) := by decide +kernel
theorem dX11_init_52 : decode cX11_init 52 = .ok (.sipush 200, 3) := by decide +kernel
theorem dX11_init_55 : decode cX11_init 55 = .ok (.newarray .int, 2) := by decide +kernel
theorem dX11_init_57 : decode cX11_init 57 = .ok (.putfield 29, 3) := by decide +kernel
theorem dX11_init_60 : decode cX11_init 60 = .ok (.aload_n 0, 1) := by decide +kernel
theorem dX11_init_61 : decode cX11_init 61 = .ok (.bipush 16, 2) := by decide +kernel
theorem dX11_init_63 : decode cX11_init 63 = .ok (.newarray .int, 2) := by decide +kernel
theorem dX11_init_65 : decode cX11_init 65 = .ok (.putfield 32, 3) := by decide +kernel
theorem dX11_init_68 : decode cX11_init 68 = .ok (.aload_n 0, 1) := by decide +kernel
theorem dX11_init_69 : decode cX11_init 69 = .ok (.bipush 28, 2) := by decide +kernel
theorem dX11_init_71 : decode cX11_init 71 = .ok (.newarray .int, 2) := by decide +kernel
theorem dX11_init_73 : decode cX11_init 73 = .ok (.putfield 35, 3) := by decide +kernel
theorem dX11_init_76 : decode cX11_init 76 = .ok (.aload_n 0, 1) := by decide +kernel
theorem dX11_init_77 : decode cX11_init 77 = .ok (.bipush 40, 2) := by decide +kernel
theorem dX11_init_79 : decode cX11_init 79 = .ok (.newarray .int, 2) := by decide +kernel
theorem dX11_init_81 : decode cX11_init 81 = .ok (.putfield 38, 3) := by decide +kernel
theorem dX11_init_84 : decode cX11_init 84 = .ok (.aload_n 0, 1) := by decide +kernel
theorem dX11_init_85 : decode cX11_init 85 = .ok (.sipush 200, 3) := by decide +kernel
theorem dX11_init_88 : decode cX11_init 88 = .ok (.newarray .int, 2) := by decide +kernel
theorem dX11_init_90 : decode cX11_init 90 = .ok (.putfield 41, 3) := by decide +kernel
theorem dX11_init_93 : decode cX11_init 93 = .ok (.aload_n 0, 1) := by decide +kernel
theorem dX11_init_94 : decode cX11_init 94 = .ok (.sipush 200, 3) := by decide +kernel
theorem dX11_init_97 : decode cX11_init 97 = .ok (.newarray .int, 2) := by decide +kernel
theorem dX11_init_99 : decode cX11_init 99 = .ok (.putfield 44, 3) := by decide +kernel
theorem dX11_init_102 : decode cX11_init 102 = .ok (.aload_n 0, 1) := by decide +kernel
theorem dX11_init_103 : decode cX11_init 103 = .ok (.sipush 200, 3) := by decide +kernel
theorem dX11_init_106 : decode cX11_init 106 = .ok (.newarray .int, 2) := by decide +kernel
theorem dX11_init_108 : decode cX11_init 108 = .ok (.putfield 47, 3) := by decide +kernel
theorem dX11_init_111 : decode cX11_init 111 = .ok (.aload_n 0, 1) := by decide +kernel
theorem dX11_init_112 : decode cX11_init 112 = .ok (.bipush 7, 2) := by decide +kernel
theorem dX11_init_114 : decode cX11_init 114 = .ok (.newarray .int, 2) := by decide +kernel
theorem dX11_init_116 : decode cX11_init 116 = .ok (.putfield 50, 3) := by decide +kernel
theorem dX11_init_119 : decode cX11_init 119 = .ok (.aload_n 0, 1) := by decide +kernel
theorem dX11_init_120 : decode cX11_init 120 = .ok (.bipush 30, 2) := by decide +kernel
theorem dX11_init_122 : decode cX11_init 122 = .ok (.newarray .int, 2) := by decide +kernel
theorem dX11_init_124 : decode cX11_init 124 = .ok (.putfield 53, 3) := by decide +kernel
theorem dX11_init_127 : decode cX11_init 127 = .ok (.aload_n 0, 1) := by decide +kernel
theorem dX11_init_128 : decode cX11_init 128 = .ok (.iconst 4, 1) := by decide +kernel
theorem dX11_init_129 : decode cX11_init 129 = .ok (.newarray .int, 2) := by decide +kernel
theorem dX11_init_131 : decode cX11_init 131 = .ok (.dup, 1) := by decide +kernel
theorem dX11_init_132 : decode cX11_init 132 = .ok (.iconst 0, 1) := by decide +kernel
theorem dX11_init_133 : decode cX11_init 133 = .ok (.iconst (-1), 1) := by decide +kernel
theorem dX11_init_134 : decode cX11_init 134 = .ok (.iastore, 1) := by decide +kernel
theorem dX11_init_135 : decode cX11_init 135 = .ok (.dup, 1) := by decide +kernel
theorem dX11_init_136 : decode cX11_init 136 = .ok (.iconst 1, 1) := by decide +kernel
theorem dX11_init_137 : decode cX11_init 137 = .ok (.iconst (-1), 1) := by decide +kernel
theorem dX11_init_138 : decode cX11_init 138 = .ok (.iastore, 1) := by decide +kernel
theorem dX11_init_139 : decode cX11_init 139 = .ok (.dup, 1) := by decide +kernel
theorem dX11_init_140 : decode cX11_init 140 = .ok (.iconst 2, 1) := by decide +kernel
theorem dX11_init_141 : decode cX11_init 141 = .ok (.iconst (-1), 1) := by decide +kernel
theorem dX11_init_142 : decode cX11_init 142 = .ok (.iastore, 1) := by decide +kernel
theorem dX11_init_143 : decode cX11_init 143 = .ok (.dup, 1) := by decide +kernel
theorem dX11_init_144 : decode cX11_init 144 = .ok (.iconst 3, 1) := by decide +kernel
theorem dX11_init_145 : decode cX11_init 145 = .ok (.iconst (-1), 1) := by decide +kernel
theorem dX11_init_146 : decode cX11_init 146 = .ok (.iastore, 1) := by decide +kernel
theorem dX11_init_147 : decode cX11_init 147 = .ok (.putfield 56, 3) := by decide +kernel
theorem dX11_init_150 : decode cX11_init 150 = .ok (.aload_n 0, 1) := by decide +kernel
theorem dX11_init_151 : decode cX11_init 151 = .ok (.iconst 4, 1) := by decide +kernel
theorem dX11_init_152 : decode cX11_init 152 = .ok (.newarray .int, 2) := by decide +kernel
theorem dX11_init_154 : decode cX11_init 154 = .ok (.putfield 59, 3) := by decide +kernel
theorem dX11_init_157 : decode cX11_init 157 = .ok (.aload_n 0, 1) := by decide +kernel
theorem dX11_init_158 : decode cX11_init 158 = .ok (.sipush 160, 3) := by decide +kernel
theorem dX11_init_161 : decode cX11_init 161 = .ok (.newarray .long, 2) := by decide +kernel
theorem dX11_init_163 : decode cX11_init 163 = .ok (.putfield 62, 3) := by decide +kernel
theorem dX11_init_166 : decode cX11_init 166 = .ok (.aload_n 0, 1) := by decide +kernel
theorem dX11_init_167 : decode cX11_init 167 = .ok (.iconst 4, 1) := by decide +kernel
theorem dX11_init_168 : decode cX11_init 168 = .ok (.newarray .int, 2) := by decide +kernel
theorem dX11_init_170 : decode cX11_init 170 = .ok (.dup, 1) := by decide +kernel
theorem dX11_init_171 : decode cX11_init 171 = .ok (.iconst 0, 1) := by decide +kernel
theorem dX11_init_172 : decode cX11_init 172 = .ok (.iconst (-1), 1) := by decide +kernel
theorem dX11_init_173 : decode cX11_init 173 = .ok (.iastore, 1) := by decide +kernel
theorem dX11_init_174 : decode cX11_init 174 = .ok (.dup, 1) := by decide +kernel
theorem dX11_init_175 : decode cX11_init 175 = .ok (.iconst 1, 1) := by decide +kernel
theorem dX11_init_176 : decode cX11_init 176 = .ok (.iconst (-1), 1) := by decide +kernel
theorem dX11_init_177 : decode cX11_init 177 = .ok (.iastore, 1) := by decide +kernel
theorem dX11_init_178 : decode cX11_init 178 = .ok (.dup, 1) := by decide +kernel
theorem dX11_init_179 : decode cX11_init 179 = .ok (.iconst 2, 1) := by decide +kernel
theorem dX11_init_180 : decode cX11_init 180 = .ok (.iconst (-1), 1) := by decide +kernel
theorem dX11_init_181 : decode cX11_init 181 = .ok (.iastore, 1) := by decide +kernel
theorem dX11_init_182 : decode cX11_init 182 = .ok (.dup, 1) := by decide +kernel
theorem dX11_init_183 : decode cX11_init 183 = .ok (.iconst 3, 1) := by decide +kernel
theorem dX11_init_184 : decode cX11_init 184 = .ok (.iconst (-1), 1) := by decide +kernel
theorem dX11_init_185 : decode cX11_init 185 = .ok (.iastore, 1) := by decide +kernel
theorem dX11_init_186 : decode cX11_init 186 = .ok (.putfield 66, 3) := by decide +kernel
theorem dX11_init_189 : decode cX11_init 189 = .ok (.aload_n 0, 1) := by decide +kernel
theorem dX11_init_190 : decode cX11_init 190 = .ok (.iconst 4, 1) := by decide +kernel
theorem dX11_init_191 : decode cX11_init 191 = .ok (.newarray .int, 2) := by decide +kernel
theorem dX11_init_193 : decode cX11_init 193 = .ok (.putfield 69, 3) := by decide +kernel
theorem dX11_init_196 : decode cX11_init 196 = .ok (.aload_n 0, 1) := by decide +kernel
theorem dX11_init_197 : decode cX11_init 197 = .ok (.iconst 4, 1) := by decide +kernel
theorem dX11_init_198 : decode cX11_init 198 = .ok (.newarray .int, 2) := by decide +kernel
theorem dX11_init_200 : decode cX11_init 200 = .ok (.putfield 72, 3) := by decide +kernel
theorem dX11_init_203 : decode cX11_init 203 = .ok (.aload_n 0, 1) := by decide +kernel
theorem dX11_init_204 : decode cX11_init 204 = .ok (.bipush 30, 2) := by decide +kernel
theorem dX11_init_206 : decode cX11_init 206 = .ok (.newarray .int, 2) := by decide +kernel
theorem dX11_init_208 : decode cX11_init 208 = .ok (.putfield 75, 3) := by decide +kernel
theorem dX11_init_211 : decode cX11_init 211 = .ok (.aload_n 0, 1) := by decide +kernel
theorem dX11_init_212 : decode cX11_init 212 = .ok (.sipush 2000, 3) := by decide +kernel
theorem dX11_init_215 : decode cX11_init 215 = .ok (.newarray .int, 2) := by decide +kernel
theorem dX11_init_217 : decode cX11_init 217 = .ok (.putfield 78, 3) := by decide +kernel
theorem dX11_init_220 : decode cX11_init 220 = .ok (.aload_n 0, 1) := by decide +kernel
theorem dX11_init_221 : decode cX11_init 221 = .ok (.bipush 8, 2) := by decide +kernel
theorem dX11_init_223 : decode cX11_init 223 = .ok (.newarray .int, 2) := by decide +kernel
theorem dX11_init_225 : decode cX11_init 225 = .ok (.putfield 81, 3) := by decide +kernel
theorem dX11_init_228 : decode cX11_init 228 = .ok (.return_, 1) := by decide +kernel
theorem dX11_in_0 : decode cX11_in 0 = .ok (.iload_n 0, 1) := by decide +kernel
theorem dX11_in_1 : decode cX11_in 1 = .ok (.iload_n 1, 1) := by decide +kernel
theorem dX11_in_2 : decode cX11_in 2 = .ok (.if_icmp .lt 12, 3) := by decide +kernel
theorem dX11_in_5 : decode cX11_in 5 = .ok (.iload_n 0, 1) := by decide +kernel
theorem dX11_in_6 : decode cX11_in 6 = .ok (.iload_n 2, 1) := by decide +kernel
theorem dX11_in_7 : decode cX11_in 7 = .ok (.if_icmp .gt 7, 3) := by decide +kernel
theorem dX11_in_10 : decode cX11_in 10 = .ok (.iconst 1, 1) := by decide +kernel
theorem dX11_in_11 : decode cX11_in 11 = .ok (.goto 4, 3) := by decide +kernel
theorem dX11_in_14 : decode cX11_in 14 = .ok (.iconst 0, 1) := by decide +kernel
theorem dX11_in_15 : decode cX11_in 15 = .ok (.ireturn, 1) := by decide +kernel
theorem dX11_isPart_0 : decode cX11_isPart 0 = .ok (.iload_n 1, 1) := by decide +kernel
theorem dX11_isPart_1 : decode cX11_isPart 1 = .ok (.iconst 0, 1) := by decide +kernel
theorem dX11_isPart_2 : decode cX11_isPart 2 = .ok (.aload_n 0, 1) := by decide +kernel
theorem dX11_isPart_3 : decode cX11_isPart 3 = .ok (.getfield 84, 3) := by decide +kernel
theorem dX11_isPart_6 : decode cX11_isPart 6 = .ok (.iconst 1, 1) := by decide +kernel
theorem dX11_isPart_7 : decode cX11_isPart 7 = .ok (.isub, 1) := by decide +kernel
theorem dX11_isPart_8 : decode cX11_isPart 8 = .ok (.invokestatic 87, 3) := by decide +kernel
theorem dX11_isPart_11 : decode cX11_isPart 11 = .ok (.ireturn, 1) := by decide +kernel
theorem dX11_isStory_0 : decode cX11_isStory 0 = .ok (.iload_n 1, 1) := by decide +kernel
theorem dX11_isStory_1 : decode cX11_isStory 1 = .ok (.iconst 0, 1) := by decide +kernel
theorem dX11_isStory_2 : decode cX11_isStory 2 = .ok (.aload_n 0, 1) := by decide +kernel
theorem dX11_isStory_3 : decode cX11_isStory 3 = .ok (.getfield 91, 3) := by decide +kernel
theorem dX11_isStory_6 : decode cX11_isStory 6 = .ok (.iconst 1, 1) := by decide +kernel
theorem dX11_isStory_7 : decode cX11_isStory 7 = .ok (.isub, 1) := by decide +kernel
theorem dX11_isStory_8 : decode cX11_isStory 8 = .ok (.invokestatic 87, 3) := by decide +kernel
theorem dX11_isStory_11 : decode cX11_isStory 11 = .ok (.ireturn, 1) := by decide +kernel
theorem dX11_isSide_0 : decode cX11_isSide 0 = .ok (.iload_n 0, 1) := by decide +kernel
theorem dX11_isSide_1 : decode cX11_isSide 1 = .ok (.iconst 0, 1) := by decide +kernel
theorem dX11_isSide_2 : decode cX11_isSide 2 = .ok (.iconst 1, 1) := by decide +kernel
theorem dX11_isSide_3 : decode cX11_isSide 3 = .ok (.invokestatic 87, 3) := by decide +kernel
theorem dX11_isSide_6 : decode cX11_isSide 6 = .ok (.ireturn, 1) := by decide +kernel
theorem dX11_isDay_0 : decode cX11_isDay 0 = .ok (.iload_n 0, 1) := by decide +kernel
theorem dX11_isDay_1 : decode cX11_isDay 1 = .ok (.iconst 0, 1) := by decide +kernel
theorem dX11_isDay_2 : decode cX11_isDay 2 = .ok (.sipush 999, 3) := by decide +kernel
theorem dX11_isDay_5 : decode cX11_isDay 5 = .ok (.invokestatic 87, 3) := by decide +kernel
theorem dX11_isDay_8 : decode cX11_isDay 8 = .ok (.ireturn, 1) := by decide +kernel
theorem dX11_size_0 : decode cX11_size 0 = .ok (.iload_n 0, 1) := by decide +kernel
theorem dX11_size_1 : decode cX11_size 1 = .ok (.ifCond .ge 8, 3) := by decide +kernel
theorem dX11_size_4 : decode cX11_size 4 = .ok (.iload_n 0, 1) := by decide +kernel
theorem dX11_size_5 : decode cX11_size 5 = .ok (.ineg, 1) := by decide +kernel
theorem dX11_size_6 : decode cX11_size 6 = .ok (.goto 4, 3) := by decide +kernel
theorem dX11_size_9 : decode cX11_size 9 = .ok (.iload_n 0, 1) := by decide +kernel
theorem dX11_size_10 : decode cX11_size 10 = .ok (.ireturn, 1) := by decide +kernel
theorem dX11_its_0 : decode cX11_its 0 = .ok (.aload_n 0, 1) := by decide +kernel
theorem dX11_its_1 : decode cX11_its 1 = .ok (.getfield 13, 3) := by decide +kernel
theorem dX11_its_4 : decode cX11_its 4 = .ok (.bipush 9, 2) := by decide +kernel
theorem dX11_its_6 : decode cX11_its 6 = .ok (.iload_n 1, 1) := by decide +kernel
theorem dX11_its_7 : decode cX11_its 7 = .ok (.imul, 1) := by decide +kernel
theorem dX11_its_8 : decode cX11_its 8 = .ok (.iload_n 2, 1) := by decide +kernel
theorem dX11_its_9 : decode cX11_its 9 = .ok (.iadd, 1) := by decide +kernel
theorem dX11_its_10 : decode cX11_its 10 = .ok (.iaload, 1) := by decide +kernel
theorem dX11_its_11 : decode cX11_its 11 = .ok (.ireturn, 1) := by decide +kernel
theorem dX11_isOn_0 : decode cX11_isOn 0 = .ok (.aload_n 0, 1) := by decide +kernel
theorem dX11_isOn_1 : decode cX11_isOn 1 = .ok (.iload_n 1, 1) := by decide +kernel
theorem dX11_isOn_2 : decode cX11_isOn 2 = .ok (.iconst 1, 1) := by decide +kernel
theorem dX11_isOn_3 : decode cX11_isOn 3 = .ok (.invokevirtual 94, 3) := by decide +kernel
theorem dX11_isOn_6 : decode cX11_isOn 6 = .ok (.iload_n 2, 1) := by decide +kernel
theorem dX11_isOn_7 : decode cX11_isOn 7 = .ok (.ishr, 1) := by decide +kernel
theorem dX11_isOn_8 : decode cX11_isOn 8 = .ok (.iconst 1, 1) := by decide +kernel
theorem dX11_isOn_9 : decode cX11_isOn 9 = .ok (.iand, 1) := by decide +kernel
theorem dX11_isOn_10 : decode cX11_isOn 10 = .ok (.iconst 1, 1) := by decide +kernel
theorem dX11_isOn_11 : decode cX11_isOn 11 = .ok (.if_icmp .ne 7, 3) := by decide +kernel
theorem dX11_isOn_14 : decode cX11_isOn 14 = .ok (.iconst 1, 1) := by decide +kernel
theorem dX11_isOn_15 : decode cX11_isOn 15 = .ok (.goto 4, 3) := by decide +kernel
theorem dX11_isOn_18 : decode cX11_isOn 18 = .ok (.iconst 0, 1) := by decide +kernel
theorem dX11_isOn_19 : decode cX11_isOn 19 = .ok (.ireturn, 1) := by decide +kernel
theorem dX11_part_0 : decode cX11_part 0 = .ok (.iload_n 1, 1) := by decide +kernel
theorem dX11_part_1 : decode cX11_part 1 = .ok (.iconst 0, 1) := by decide +kernel
theorem dX11_part_2 : decode cX11_part 2 = .ok (.bipush 6, 2) := by decide +kernel
theorem dX11_part_4 : decode cX11_part 4 = .ok (.invokestatic 87, 3) := by decide +kernel
theorem dX11_part_7 : decode cX11_part 7 = .ok (.ifCond .eq 45, 3) := by decide +kernel
theorem dX11_part_10 : decode cX11_part 10 = .ok (.iload_n 2, 1) := by decide +kernel
theorem dX11_part_11 : decode cX11_part 11 = .ok (.iconst 1, 1) := by decide +kernel
theorem dX11_part_12 : decode cX11_part 12 = .ok (.iconst 3, 1) := by decide +kernel
theorem dX11_part_13 : decode cX11_part 13 = .ok (.invokestatic 87, 3) := by decide +kernel
theorem dX11_part_16 : decode cX11_part 16 = .ok (.ifCond .eq 36, 3) := by decide +kernel
theorem dX11_part_19 : decode cX11_part 19 = .ok (.iload_n 3, 1) := by decide +kernel
theorem dX11_part_20 : decode cX11_part 20 = .ok (.iconst 0, 1) := by decide +kernel
theorem dX11_part_21 : decode cX11_part 21 = .ok (.sipush 9999, 3) := by decide +kernel
theorem dX11_part_24 : decode cX11_part 24 = .ok (.invokestatic 87, 3) := by decide +kernel
theorem dX11_part_27 : decode cX11_part 27 = .ok (.ifCond .eq 25, 3) := by decide +kernel
theorem dX11_part_30 : decode cX11_part 30 = .ok (.iload 4, 2) := by decide +kernel
theorem dX11_part_32 : decode cX11_part 32 = .ok (.iconst 0, 1) := by decide +kernel
theorem dX11_part_33 : decode cX11_part 33 = .ok (.bipush 99, 2) := by decide +kernel
theorem dX11_part_35 : decode cX11_part 35 = .ok (.invokestatic 87, 3) := by decide +kernel
theorem dX11_part_38 : decode cX11_part 38 = .ok (.ifCond .eq 14, 3) := by decide +kernel
theorem dX11_part_41 : decode cX11_part 41 = .ok (.iload 5, 2) := by decide +kernel
theorem dX11_part_43 : decode cX11_part 43 = .ok (.iconst 1, 1) := by decide +kernel
theorem dX11_part_44 : decode cX11_part 44 = .ok (.bipush 60, 2) := by decide +kernel
theorem dX11_part_46 : decode cX11_part 46 = .ok (.invokestatic 87, 3) := by decide +kernel
theorem dX11_part_49 : decode cX11_part 49 = .ok (.ifCond .ne 5, 3) := by decide +kernel
theorem dX11_part_52 : decode cX11_part 52 = .ok (.iconst (-1), 1) := by decide +kernel
theorem dX11_part_53 : decode cX11_part 53 = .ok (.ireturn, 1) := by decide +kernel
theorem dX11_part_54 : decode cX11_part 54 = .ok (.aload_n 0, 1) := by decide +kernel
theorem dX11_part_55 : decode cX11_part 55 = .ok (.getfield 84, 3) := by decide +kernel
theorem dX11_part_58 : decode cX11_part 58 = .ok (.bipush 10, 2) := by decide +kernel
theorem dX11_part_60 : decode cX11_part 60 = .ok (.if_icmp .ne 6, 3) := by decide +kernel
theorem dX11_part_63 : decode cX11_part 63 = .ok (.bipush (-2), 2) := by decide +kernel
theorem dX11_part_65 : decode cX11_part 65 = .ok (.ireturn, 1) := by decide +kernel
theorem dX11_part_66 : decode cX11_part 66 = .ok (.bipush 9, 2) := by decide +kernel
theorem dX11_part_68 : decode cX11_part 68 = .ok (.aload_n 0, 1) := by decide +kernel
theorem dX11_part_69 : decode cX11_part 69 = .ok (.getfield 84, 3) := by decide +kernel
theorem dX11_part_72 : decode cX11_part 72 = .ok (.imul, 1) := by decide +kernel
theorem dX11_part_73 : decode cX11_part 73 = .ok (.istore 6, 2) := by decide +kernel
theorem dX11_part_75 : decode cX11_part 75 = .ok (.aload_n 0, 1) := by decide +kernel
theorem dX11_part_76 : decode cX11_part 76 = .ok (.getfield 13, 3) := by decide +kernel
theorem dX11_part_79 : decode cX11_part 79 = .ok (.iload 6, 2) := by decide +kernel
theorem dX11_part_81 : decode cX11_part 81 = .ok (.iload_n 1, 1) := by decide +kernel
theorem dX11_part_82 : decode cX11_part 82 = .ok (.iastore, 1) := by decide +kernel
theorem dX11_part_83 : decode cX11_part 83 = .ok (.aload_n 0, 1) := by decide +kernel
theorem dX11_part_84 : decode cX11_part 84 = .ok (.getfield 13, 3) := by decide +kernel
theorem dX11_part_87 : decode cX11_part 87 = .ok (.iload 6, 2) := by decide +kernel
theorem dX11_part_89 : decode cX11_part 89 = .ok (.iconst 1, 1) := by decide +kernel
theorem dX11_part_90 : decode cX11_part 90 = .ok (.iadd, 1) := by decide +kernel
theorem dX11_part_91 : decode cX11_part 91 = .ok (.iload_n 2, 1) := by decide +kernel
theorem dX11_part_92 : decode cX11_part 92 = .ok (.iastore, 1) := by decide +kernel
theorem dX11_part_93 : decode cX11_part 93 = .ok (.aload_n 0, 1) := by decide +kernel
theorem dX11_part_94 : decode cX11_part 94 = .ok (.getfield 13, 3) := by decide +kernel
theorem dX11_part_97 : decode cX11_part 97 = .ok (.iload 6, 2) := by decide +kernel
theorem dX11_part_99 : decode cX11_part 99 = .ok (.iconst 2, 1) := by decide +kernel
theorem dX11_part_100 : decode cX11_part 100 = .ok (.iadd, 1) := by decide +kernel
theorem dX11_part_101 : decode cX11_part 101 = .ok (.iload_n 3, 1) := by decide +kernel
theorem dX11_part_102 : decode cX11_part 102 = .ok (.iastore, 1) := by decide +kernel
theorem dX11_part_103 : decode cX11_part 103 = .ok (.aload_n 0, 1) := by decide +kernel
theorem dX11_part_104 : decode cX11_part 104 = .ok (.getfield 13, 3) := by decide +kernel
theorem dX11_part_107 : decode cX11_part 107 = .ok (.iload 6, 2) := by decide +kernel
theorem dX11_part_109 : decode cX11_part 109 = .ok (.iconst 3, 1) := by decide +kernel
theorem dX11_part_110 : decode cX11_part 110 = .ok (.iadd, 1) := by decide +kernel
theorem dX11_part_111 : decode cX11_part 111 = .ok (.iload 4, 2) := by decide +kernel
theorem dX11_part_113 : decode cX11_part 113 = .ok (.iastore, 1) := by decide +kernel
theorem dX11_part_114 : decode cX11_part 114 = .ok (.aload_n 0, 1) := by decide +kernel
theorem dX11_part_115 : decode cX11_part 115 = .ok (.getfield 13, 3) := by decide +kernel
theorem dX11_part_118 : decode cX11_part 118 = .ok (.iload 6, 2) := by decide +kernel
theorem dX11_part_120 : decode cX11_part 120 = .ok (.iconst 4, 1) := by decide +kernel
theorem dX11_part_121 : decode cX11_part 121 = .ok (.iadd, 1) := by decide +kernel
theorem dX11_part_122 : decode cX11_part 122 = .ok (.iload 5, 2) := by decide +kernel
theorem dX11_part_124 : decode cX11_part 124 = .ok (.iastore, 1) := by decide +kernel
theorem dX11_part_125 : decode cX11_part 125 = .ok (.aload_n 0, 1) := by decide +kernel
theorem dX11_part_126 : decode cX11_part 126 = .ok (.getfield 13, 3) := by decide +kernel
theorem dX11_part_129 : decode cX11_part 129 = .ok (.iload 6, 2) := by decide +kernel
theorem dX11_part_131 : decode cX11_part 131 = .ok (.iconst 5, 1) := by decide +kernel
theorem dX11_part_132 : decode cX11_part 132 = .ok (.iadd, 1) := by decide +kernel
theorem dX11_part_133 : decode cX11_part 133 = .ok (.iload_n 3, 1) := by decide +kernel
theorem dX11_part_134 : decode cX11_part 134 = .ok (.iastore, 1) := by decide +kernel
theorem dX11_part_135 : decode cX11_part 135 = .ok (.aload_n 0, 1) := by decide +kernel
theorem dX11_part_136 : decode cX11_part 136 = .ok (.getfield 13, 3) := by decide +kernel
theorem dX11_part_139 : decode cX11_part 139 = .ok (.iload 6, 2) := by decide +kernel
theorem dX11_part_141 : decode cX11_part 141 = .ok (.bipush 6, 2) := by decide +kernel
theorem dX11_part_143 : decode cX11_part 143 = .ok (.iadd, 1) := by decide +kernel
theorem dX11_part_144 : decode cX11_part 144 = .ok (.iconst 0, 1) := by decide +kernel
theorem dX11_part_145 : decode cX11_part 145 = .ok (.iastore, 1) := by decide +kernel
theorem dX11_part_146 : decode cX11_part 146 = .ok (.aload_n 0, 1) := by decide +kernel
theorem dX11_part_147 : decode cX11_part 147 = .ok (.getfield 13, 3) := by decide +kernel
theorem dX11_part_150 : decode cX11_part 150 = .ok (.iload 6, 2) := by decide +kernel
theorem dX11_part_152 : decode cX11_part 152 = .ok (.bipush 7, 2) := by decide +kernel
theorem dX11_part_154 : decode cX11_part 154 = .ok (.iadd, 1) := by decide +kernel
theorem dX11_part_155 : decode cX11_part 155 = .ok (.iconst 0, 1) := by decide +kernel
theorem dX11_part_156 : decode cX11_part 156 = .ok (.iastore, 1) := by decide +kernel
theorem dX11_part_157 : decode cX11_part 157 = .ok (.aload_n 0, 1) := by decide +kernel
theorem dX11_part_158 : decode cX11_part 158 = .ok (.getfield 13, 3) := by decide +kernel
theorem dX11_part_161 : decode cX11_part 161 = .ok (.iload 6, 2) := by decide +kernel
theorem dX11_part_163 : decode cX11_part 163 = .ok (.bipush 8, 2) := by decide +kernel
theorem dX11_part_165 : decode cX11_part 165 = .ok (.iadd, 1) := by decide +kernel
theorem dX11_part_166 : decode cX11_part 166 = .ok (.iconst 0, 1) := by decide +kernel
theorem dX11_part_167 : decode cX11_part 167 = .ok (.iastore, 1) := by decide +kernel
theorem dX11_part_168 : decode cX11_part 168 = .ok (.aload_n 0, 1) := by decide +kernel
theorem dX11_part_169 : decode cX11_part 169 = .ok (.dup, 1) := by decide +kernel
theorem dX11_part_170 : decode cX11_part 170 = .ok (.getfield 84, 3) := by decide +kernel
theorem dX11_part_173 : decode cX11_part 173 = .ok (.iconst 1, 1) := by decide +kernel
theorem dX11_part_174 : decode cX11_part 174 = .ok (.iadd, 1) := by decide +kernel
theorem dX11_part_175 : decode cX11_part 175 = .ok (.putfield 84, 3) := by decide +kernel
theorem dX11_part_178 : decode cX11_part 178 = .ok (.aload_n 0, 1) := by decide +kernel
theorem dX11_part_179 : decode cX11_part 179 = .ok (.getfield 84, 3) := by decide +kernel
theorem dX11_part_182 : decode cX11_part 182 = .ok (.iconst 1, 1) := by decide +kernel
theorem dX11_part_183 : decode cX11_part 183 = .ok (.isub, 1) := by decide +kernel
theorem dX11_part_184 : decode cX11_part 184 = .ok (.ireturn, 1) := by decide +kernel
theorem dX11_of_0 : decode cX11_of 0 = .ok (.aload_n 0, 1) := by decide +kernel
theorem dX11_of_1 : decode cX11_of 1 = .ok (.iload_n 1, 1) := by decide +kernel
theorem dX11_of_2 : decode cX11_of 2 = .ok (.invokevirtual 98, 3) := by decide +kernel
theorem dX11_of_5 : decode cX11_of 5 = .ok (.ifCond .eq 22, 3) := by decide +kernel
theorem dX11_of_8 : decode cX11_of 8 = .ok (.iload_n 2, 1) := by decide +kernel
theorem dX11_of_9 : decode cX11_of 9 = .ok (.iconst 0, 1) := by decide +kernel
theorem dX11_of_10 : decode cX11_of 10 = .ok (.bipush 6, 2) := by decide +kernel
theorem dX11_of_12 : decode cX11_of 12 = .ok (.invokestatic 87, 3) := by decide +kernel
theorem dX11_of_15 : decode cX11_of 15 = .ok (.ifCond .eq 12, 3) := by decide +kernel
theorem dX11_of_18 : decode cX11_of 18 = .ok (.aload_n 0, 1) := by decide +kernel
theorem dX11_of_19 : decode cX11_of 19 = .ok (.iload_n 1, 1) := by decide +kernel
theorem dX11_of_20 : decode cX11_of 20 = .ok (.iload_n 2, 1) := by decide +kernel
theorem dX11_of_21 : decode cX11_of 21 = .ok (.invokevirtual 94, 3) := by decide +kernel
theorem dX11_of_24 : decode cX11_of 24 = .ok (.goto 5, 3) := by decide +kernel
theorem dX11_of_27 : decode cX11_of 27 = .ok (.ldc 102, 2) := by decide +kernel
theorem dX11_of_29 : decode cX11_of 29 = .ok (.ireturn, 1) := by decide +kernel
theorem dX11_takes_0 : decode cX11_takes 0 = .ok (.aload_n 0, 1) := by decide +kernel
theorem dX11_takes_1 : decode cX11_takes 1 = .ok (.getfield 103, 3) := by decide +kernel
theorem dX11_takes_4 : decode cX11_takes 4 = .ok (.aload_n 0, 1) := by decide +kernel
theorem dX11_takes_5 : decode cX11_takes 5 = .ok (.iload_n 1, 1) := by decide +kernel
theorem dX11_takes_6 : decode cX11_takes 6 = .ok (.bipush 8, 2) := by decide +kernel
theorem dX11_takes_8 : decode cX11_takes 8 = .ok (.invokevirtual 94, 3) := by decide +kernel
theorem dX11_takes_11 : decode cX11_takes 11 = .ok (.isub, 1) := by decide +kernel
theorem dX11_takes_12 : decode cX11_takes 12 = .ok (.istore_n 2, 1) := by decide +kernel
theorem dX11_takes_13 : decode cX11_takes 13 = .ok (.iload_n 2, 1) := by decide +kernel
theorem dX11_takes_14 : decode cX11_takes 14 = .ok (.ifCond .ge 10, 3) := by decide +kernel
theorem dX11_takes_17 : decode cX11_takes 17 = .ok (.aload_n 0, 1) := by decide +kernel
theorem dX11_takes_18 : decode cX11_takes 18 = .ok (.iload_n 1, 1) := by decide +kernel
theorem dX11_takes_19 : decode cX11_takes 19 = .ok (.iconst 2, 1) := by decide +kernel
theorem dX11_takes_20 : decode cX11_takes 20 = .ok (.invokevirtual 94, 3) := by decide +kernel
theorem dX11_takes_23 : decode cX11_takes 23 = .ok (.ireturn, 1) := by decide +kernel
theorem dX11_takes_24 : decode cX11_takes 24 = .ok (.aload_n 0, 1) := by decide +kernel
theorem dX11_takes_25 : decode cX11_takes 25 = .ok (.iload_n 1, 1) := by decide +kernel
theorem dX11_takes_26 : decode cX11_takes 26 = .ok (.iconst 2, 1) := by decide +kernel
theorem dX11_takes_27 : decode cX11_takes 27 = .ok (.invokevirtual 94, 3) := by decide +kernel
theorem dX11_takes_30 : decode cX11_takes 30 = .ok (.aload_n 0, 1) := by decide +kernel
theorem dX11_takes_31 : decode cX11_takes 31 = .ok (.iload_n 1, 1) := by decide +kernel
theorem dX11_takes_32 : decode cX11_takes 32 = .ok (.iconst 0, 1) := by decide +kernel
theorem dX11_takes_33 : decode cX11_takes 33 = .ok (.invokevirtual 94, 3) := by decide +kernel
theorem dX11_takes_36 : decode cX11_takes 36 = .ok (.iconst 3, 1) := by decide +kernel
theorem dX11_takes_37 : decode cX11_takes 37 = .ok (.if_icmp .ne 18, 3) := by decide +kernel
theorem dX11_takes_40 : decode cX11_takes 40 = .ok (.aload_n 0, 1) := by decide +kernel
theorem dX11_takes_41 : decode cX11_takes 41 = .ok (.iload_n 1, 1) := by decide +kernel
theorem dX11_takes_42 : decode cX11_takes 42 = .ok (.bipush 7, 2) := by decide +kernel
theorem dX11_takes_44 : decode cX11_takes 44 = .ok (.invokevirtual 94, 3) := by decide +kernel
theorem dX11_takes_47 : decode cX11_takes 47 = .ok (.iload_n 2, 1) := by decide +kernel
theorem dX11_takes_48 : decode cX11_takes 48 = .ok (.imul, 1) := by decide +kernel
theorem dX11_takes_49 : decode cX11_takes 49 = .ok (.bipush 10, 2) := by decide +kernel
theorem dX11_takes_51 : decode cX11_takes 51 = .ok (.idiv, 1) := by decide +kernel
theorem dX11_takes_52 : decode cX11_takes 52 = .ok (.goto 10, 3) := by decide +kernel
theorem dX11_takes_55 : decode cX11_takes 55 = .ok (.aload_n 0, 1) := by decide +kernel
theorem dX11_takes_56 : decode cX11_takes 56 = .ok (.iload_n 1, 1) := by decide +kernel
theorem dX11_takes_57 : decode cX11_takes 57 = .ok (.bipush 7, 2) := by decide +kernel
theorem dX11_takes_59 : decode cX11_takes 59 = .ok (.invokevirtual 94, 3) := by decide +kernel
theorem dX11_takes_62 : decode cX11_takes 62 = .ok (.iadd, 1) := by decide +kernel
theorem dX11_takes_63 : decode cX11_takes 63 = .ok (.ireturn, 1) := by decide +kernel
theorem dX11_lacks_0 : decode cX11_lacks 0 = .ok (.aload_n 0, 1) := by decide +kernel
theorem dX11_lacks_1 : decode cX11_lacks 1 = .ok (.iload_n 1, 1) := by decide +kernel
theorem dX11_lacks_2 : decode cX11_lacks 2 = .ok (.invokevirtual 106, 3) := by decide +kernel
theorem dX11_lacks_5 : decode cX11_lacks 5 = .ok (.aload_n 0, 1) := by decide +kernel
theorem dX11_lacks_6 : decode cX11_lacks 6 = .ok (.iload_n 1, 1) := by decide +kernel
theorem dX11_lacks_7 : decode cX11_lacks 7 = .ok (.iconst 5, 1) := by decide +kernel
theorem dX11_lacks_8 : decode cX11_lacks 8 = .ok (.invokevirtual 94, 3) := by decide +kernel
theorem dX11_lacks_11 : decode cX11_lacks 11 = .ok (.isub, 1) := by decide +kernel
theorem dX11_lacks_12 : decode cX11_lacks 12 = .ok (.ireturn, 1) := by decide +kernel
theorem dX11_fail_0 : decode cX11_fail 0 = .ok (.aload_n 0, 1) := by decide +kernel
theorem dX11_fail_1 : decode cX11_fail 1 = .ok (.iload_n 1, 1) := by decide +kernel
theorem dX11_fail_2 : decode cX11_fail 2 = .ok (.invokevirtual 98, 3) := by decide +kernel
theorem dX11_fail_5 : decode cX11_fail 5 = .ok (.ifCond .eq 23, 3) := by decide +kernel
theorem dX11_fail_8 : decode cX11_fail 8 = .ok (.iload_n 2, 1) := by decide +kernel
theorem dX11_fail_9 : decode cX11_fail 9 = .ok (.sipush (-500), 3) := by decide +kernel
theorem dX11_fail_12 : decode cX11_fail 12 = .ok (.sipush 500, 3) := by decide +kernel
theorem dX11_fail_15 : decode cX11_fail 15 = .ok (.invokestatic 87, 3) := by decide +kernel
theorem dX11_fail_18 : decode cX11_fail 18 = .ok (.ifCond .eq 10, 3) := by decide +kernel
theorem dX11_fail_21 : decode cX11_fail 21 = .ok (.iload_n 3, 1) := by decide +kernel
theorem dX11_fail_22 : decode cX11_fail 22 = .ok (.invokestatic 110, 3) := by decide +kernel
theorem dX11_fail_25 : decode cX11_fail 25 = .ok (.ifCond .ne 6, 3) := by decide +kernel
theorem dX11_fail_28 : decode cX11_fail 28 = .ok (.ldc 102, 2) := by decide +kernel
theorem dX11_fail_30 : decode cX11_fail 30 = .ok (.ireturn, 1) := by decide +kernel
theorem dX11_fail_31 : decode cX11_fail 31 = .ok (.aload_n 0, 1) := by decide +kernel
theorem dX11_fail_32 : decode cX11_fail 32 = .ok (.getfield 13, 3) := by decide +kernel
theorem dX11_fail_35 : decode cX11_fail 35 = .ok (.bipush 9, 2) := by decide +kernel
theorem dX11_fail_37 : decode cX11_fail 37 = .ok (.iload_n 1, 1) := by decide +kernel
theorem dX11_fail_38 : decode cX11_fail 38 = .ok (.imul, 1) := by decide +kernel
theorem dX11_fail_39 : decode cX11_fail 39 = .ok (.bipush 7, 2) := by decide +kernel
theorem dX11_fail_41 : decode cX11_fail 41 = .ok (.iadd, 1) := by decide +kernel
theorem dX11_fail_42 : decode cX11_fail 42 = .ok (.iload_n 2, 1) := by decide +kernel
theorem dX11_fail_43 : decode cX11_fail 43 = .ok (.iastore, 1) := by decide +kernel
theorem dX11_fail_44 : decode cX11_fail 44 = .ok (.aload_n 0, 1) := by decide +kernel
theorem dX11_fail_45 : decode cX11_fail 45 = .ok (.getfield 13, 3) := by decide +kernel
theorem dX11_fail_48 : decode cX11_fail 48 = .ok (.bipush 9, 2) := by decide +kernel
theorem dX11_fail_50 : decode cX11_fail 50 = .ok (.iload_n 1, 1) := by decide +kernel
theorem dX11_fail_51 : decode cX11_fail 51 = .ok (.imul, 1) := by decide +kernel
theorem dX11_fail_52 : decode cX11_fail 52 = .ok (.bipush 8, 2) := by decide +kernel
theorem dX11_fail_54 : decode cX11_fail 54 = .ok (.iadd, 1) := by decide +kernel
theorem dX11_fail_55 : decode cX11_fail 55 = .ok (.iload_n 3, 1) := by decide +kernel
theorem dX11_fail_56 : decode cX11_fail 56 = .ok (.iastore, 1) := by decide +kernel
theorem dX11_fail_57 : decode cX11_fail 57 = .ok (.aload_n 0, 1) := by decide +kernel
theorem dX11_fail_58 : decode cX11_fail 58 = .ok (.iload_n 1, 1) := by decide +kernel
theorem dX11_fail_59 : decode cX11_fail 59 = .ok (.invokevirtual 106, 3) := by decide +kernel
theorem dX11_fail_62 : decode cX11_fail 62 = .ok (.ireturn, 1) := by decide +kernel
theorem dX11_later_0 : decode cX11_later 0 = .ok (.iload_n 1, 1) := by decide +kernel
theorem dX11_later_1 : decode cX11_later 1 = .ok (.iconst 1, 1) := by decide +kernel
theorem dX11_later_2 : decode cX11_later 2 = .ok (.bipush 99, 2) := by decide +kernel
theorem dX11_later_4 : decode cX11_later 4 = .ok (.invokestatic 87, 3) := by decide +kernel
theorem dX11_later_7 : decode cX11_later 7 = .ok (.ifCond .ne 5, 3) := by decide +kernel
theorem dX11_later_10 : decode cX11_later 10 = .ok (.iconst (-1), 1) := by decide +kernel
theorem dX11_later_11 : decode cX11_later 11 = .ok (.ireturn, 1) := by decide +kernel
theorem dX11_later_12 : decode cX11_later 12 = .ok (.aload_n 0, 1) := by decide +kernel
theorem dX11_later_13 : decode cX11_later 13 = .ok (.getfield 103, 3) := by decide +kernel
theorem dX11_later_16 : decode cX11_later 16 = .ok (.iload_n 1, 1) := by decide +kernel
theorem dX11_later_17 : decode cX11_later 17 = .ok (.iadd, 1) := by decide +kernel
theorem dX11_later_18 : decode cX11_later 18 = .ok (.sipush 999, 3) := by decide +kernel
theorem dX11_later_21 : decode cX11_later 21 = .ok (.if_icmp .le 6, 3) := by decide +kernel
theorem dX11_later_24 : decode cX11_later 24 = .ok (.bipush (-2), 2) := by decide +kernel
theorem dX11_later_26 : decode cX11_later 26 = .ok (.ireturn, 1) := by decide +kernel
theorem dX11_later_27 : decode cX11_later 27 = .ok (.aload_n 0, 1) := by decide +kernel
theorem dX11_later_28 : decode cX11_later 28 = .ok (.dup, 1) := by decide +kernel
theorem dX11_later_29 : decode cX11_later 29 = .ok (.getfield 103, 3) := by decide +kernel
theorem dX11_later_32 : decode cX11_later 32 = .ok (.iload_n 1, 1) := by decide +kernel
theorem dX11_later_33 : decode cX11_later 33 = .ok (.iadd, 1) := by decide +kernel
theorem dX11_later_34 : decode cX11_later 34 = .ok (.putfield 103, 3) := by decide +kernel
theorem dX11_later_37 : decode cX11_later 37 = .ok (.aload_n 0, 1) := by decide +kernel
theorem dX11_later_38 : decode cX11_later 38 = .ok (.getfield 103, 3) := by decide +kernel
theorem dX11_later_41 : decode cX11_later 41 = .ok (.ireturn, 1) := by decide +kernel
theorem dX11_noise_0 : decode cX11_noise 0 = .ok (.iload_n 1, 1) := by decide +kernel
theorem dX11_noise_1 : decode cX11_noise 1 = .ok (.iconst 0, 1) := by decide +kernel
theorem dX11_noise_2 : decode cX11_noise 2 = .ok (.bipush 20, 2) := by decide +kernel
theorem dX11_noise_4 : decode cX11_noise 4 = .ok (.invokestatic 87, 3) := by decide +kernel
theorem dX11_noise_7 : decode cX11_noise 7 = .ok (.ifCond .ne 5, 3) := by decide +kernel
theorem dX11_noise_10 : decode cX11_noise 10 = .ok (.iconst (-1), 1) := by decide +kernel
theorem dX11_noise_11 : decode cX11_noise 11 = .ok (.ireturn, 1) := by decide +kernel
theorem dX11_noise_12 : decode cX11_noise 12 = .ok (.aload_n 0, 1) := by decide +kernel
theorem dX11_noise_13 : decode cX11_noise 13 = .ok (.getfield 113, 3) := by decide +kernel
theorem dX11_noise_16 : decode cX11_noise 16 = .ok (.istore_n 2, 1) := by decide +kernel
theorem dX11_noise_17 : decode cX11_noise 17 = .ok (.aload_n 0, 1) := by decide +kernel
theorem dX11_noise_18 : decode cX11_noise 18 = .ok (.iload_n 1, 1) := by decide +kernel
theorem dX11_noise_19 : decode cX11_noise 19 = .ok (.putfield 113, 3) := by decide +kernel
theorem dX11_noise_22 : decode cX11_noise 22 = .ok (.iload_n 2, 1) := by decide +kernel
theorem dX11_noise_23 : decode cX11_noise 23 = .ok (.ireturn, 1) := by decide +kernel
theorem dX11_lots_0 : decode cX11_lots 0 = .ok (.aload_n 0, 1) := by decide +kernel
theorem dX11_lots_1 : decode cX11_lots 1 = .ok (.iload_n 1, 1) := by decide +kernel
theorem dX11_lots_2 : decode cX11_lots 2 = .ok (.putfield 7, 3) := by decide +kernel
theorem dX11_lots_5 : decode cX11_lots 5 = .ok (.iconst 1, 1) := by decide +kernel
theorem dX11_lots_6 : decode cX11_lots 6 = .ok (.ireturn, 1) := by decide +kernel
theorem dX11_addRun_0 : decode cX11_addRun 0 = .ok (.aload_n 0, 1) := by decide +kernel
theorem dX11_addRun_1 : decode cX11_addRun 1 = .ok (.getfield 116, 3) := by decide +kernel
theorem dX11_addRun_4 : decode cX11_addRun 4 = .ok (.bipush 40, 2) := by decide +kernel
theorem dX11_addRun_6 : decode cX11_addRun 6 = .ok (.if_icmp .ne 6, 3) := by decide +kernel
theorem dX11_addRun_9 : decode cX11_addRun 9 = .ok (.bipush (-2), 2) := by decide +kernel
theorem dX11_addRun_11 : decode cX11_addRun 11 = .ok (.ireturn, 1) := by decide +kernel
theorem dX11_addRun_12 : decode cX11_addRun 12 = .ok (.aload_n 0, 1) := by decide +kernel
theorem dX11_addRun_13 : decode cX11_addRun 13 = .ok (.getfield 17, 3) := by decide +kernel
theorem dX11_addRun_16 : decode cX11_addRun 16 = .ok (.iconst 3, 1) := by decide +kernel
theorem dX11_addRun_17 : decode cX11_addRun 17 = .ok (.aload_n 0, 1) := by decide +kernel
theorem dX11_addRun_18 : decode cX11_addRun 18 = .ok (.getfield 116, 3) := by decide +kernel
theorem dX11_addRun_21 : decode cX11_addRun 21 = .ok (.imul, 1) := by decide +kernel
theorem dX11_addRun_22 : decode cX11_addRun 22 = .ok (.iload_n 1, 1) := by decide +kernel
theorem dX11_addRun_23 : decode cX11_addRun 23 = .ok (.iastore, 1) := by decide +kernel
theorem dX11_addRun_24 : decode cX11_addRun 24 = .ok (.aload_n 0, 1) := by decide +kernel
theorem dX11_addRun_25 : decode cX11_addRun 25 = .ok (.getfield 17, 3) := by decide +kernel
theorem dX11_addRun_28 : decode cX11_addRun 28 = .ok (.iconst 3, 1) := by decide +kernel
theorem dX11_addRun_29 : decode cX11_addRun 29 = .ok (.aload_n 0, 1) := by decide +kernel
theorem dX11_addRun_30 : decode cX11_addRun 30 = .ok (.getfield 116, 3) := by decide +kernel
theorem dX11_addRun_33 : decode cX11_addRun 33 = .ok (.imul, 1) := by decide +kernel
theorem dX11_addRun_34 : decode cX11_addRun 34 = .ok (.iconst 1, 1) := by decide +kernel
theorem dX11_addRun_35 : decode cX11_addRun 35 = .ok (.iadd, 1) := by decide +kernel
theorem dX11_addRun_36 : decode cX11_addRun 36 = .ok (.iload_n 2, 1) := by decide +kernel
theorem dX11_addRun_37 : decode cX11_addRun 37 = .ok (.iastore, 1) := by decide +kernel
theorem dX11_addRun_38 : decode cX11_addRun 38 = .ok (.aload_n 0, 1) := by decide +kernel
theorem dX11_addRun_39 : decode cX11_addRun 39 = .ok (.getfield 17, 3) := by decide +kernel
theorem dX11_addRun_42 : decode cX11_addRun 42 = .ok (.iconst 3, 1) := by decide +kernel
theorem dX11_addRun_43 : decode cX11_addRun 43 = .ok (.aload_n 0, 1) := by decide +kernel
theorem dX11_addRun_44 : decode cX11_addRun 44 = .ok (.getfield 116, 3) := by decide +kernel
theorem dX11_addRun_47 : decode cX11_addRun 47 = .ok (.imul, 1) := by decide +kernel
theorem dX11_addRun_48 : decode cX11_addRun 48 = .ok (.iconst 2, 1) := by decide +kernel
theorem dX11_addRun_49 : decode cX11_addRun 49 = .ok (.iadd, 1) := by decide +kernel
theorem dX11_addRun_50 : decode cX11_addRun 50 = .ok (.iload_n 3, 1) := by decide +kernel
theorem dX11_addRun_51 : decode cX11_addRun 51 = .ok (.iastore, 1) := by decide +kernel
theorem dX11_addRun_52 : decode cX11_addRun 52 = .ok (.aload_n 0, 1) := by decide +kernel
theorem dX11_addRun_53 : decode cX11_addRun 53 = .ok (.dup, 1) := by decide +kernel
theorem dX11_addRun_54 : decode cX11_addRun 54 = .ok (.getfield 116, 3) := by decide +kernel
theorem dX11_addRun_57 : decode cX11_addRun 57 = .ok (.iconst 1, 1) := by decide +kernel
theorem dX11_addRun_58 : decode cX11_addRun 58 = .ok (.iadd, 1) := by decide +kernel
theorem dX11_addRun_59 : decode cX11_addRun 59 = .ok (.putfield 116, 3) := by decide +kernel
theorem dX11_addRun_62 : decode cX11_addRun 62 = .ok (.aload_n 0, 1) := by decide +kernel
theorem dX11_addRun_63 : decode cX11_addRun 63 = .ok (.getfield 116, 3) := by decide +kernel
theorem dX11_addRun_66 : decode cX11_addRun 66 = .ok (.iconst 1, 1) := by decide +kernel
theorem dX11_addRun_67 : decode cX11_addRun 67 = .ok (.isub, 1) := by decide +kernel
theorem dX11_addRun_68 : decode cX11_addRun 68 = .ok (.ireturn, 1) := by decide +kernel
theorem dX11_run_0 : decode cX11_run 0 = .ok (.iload_n 1, 1) := by decide +kernel
theorem dX11_run_1 : decode cX11_run 1 = .ok (.invokestatic 119, 3) := by decide +kernel
theorem dX11_run_4 : decode cX11_run 4 = .ok (.ifCond .ne 5, 3) := by decide +kernel
theorem dX11_run_7 : decode cX11_run 7 = .ok (.iconst (-1), 1) := by decide +kernel
theorem dX11_run_8 : decode cX11_run 8 = .ok (.ireturn, 1) := by decide +kernel
theorem dX11_run_9 : decode cX11_run 9 = .ok (.aload_n 0, 1) := by decide +kernel
theorem dX11_run_10 : decode cX11_run 10 = .ok (.getfield 116, 3) := by decide +kernel
theorem dX11_run_13 : decode cX11_run 13 = .ok (.bipush 40, 2) := by decide +kernel
theorem dX11_run_15 : decode cX11_run 15 = .ok (.if_icmp .ne 6, 3) := by decide +kernel
theorem dX11_run_18 : decode cX11_run 18 = .ok (.bipush (-2), 2) := by decide +kernel
theorem dX11_run_20 : decode cX11_run 20 = .ok (.ireturn, 1) := by decide +kernel
theorem dX11_run_21 : decode cX11_run 21 = .ok (.aload_n 0, 1) := by decide +kernel
theorem dX11_run_22 : decode cX11_run 22 = .ok (.aload_n 0, 1) := by decide +kernel
theorem dX11_run_23 : decode cX11_run 23 = .ok (.getfield 7, 3) := by decide +kernel
theorem dX11_run_26 : decode cX11_run 26 = .ok (.ldc 122, 2) := by decide +kernel
theorem dX11_run_28 : decode cX11_run 28 = .ok (.imul, 1) := by decide +kernel
theorem dX11_run_29 : decode cX11_run 29 = .ok (.sipush 12345, 3) := by decide +kernel
theorem dX11_run_32 : decode cX11_run 32 = .ok (.iadd, 1) := by decide +kernel
theorem dX11_run_33 : decode cX11_run 33 = .ok (.putfield 7, 3) := by decide +kernel
theorem dX11_run_36 : decode cX11_run 36 = .ok (.aload_n 0, 1) := by decide +kernel
theorem dX11_run_37 : decode cX11_run 37 = .ok (.getfield 7, 3) := by decide +kernel
theorem dX11_run_40 : decode cX11_run 40 = .ok (.bipush 16, 2) := by decide +kernel
theorem dX11_run_42 : decode cX11_run 42 = .ok (.iushr, 1) := by decide +kernel
theorem dX11_run_43 : decode cX11_run 43 = .ok (.iconst 2, 1) := by decide +kernel
theorem dX11_run_44 : decode cX11_run 44 = .ok (.aload_n 0, 1) := by decide +kernel
theorem dX11_run_45 : decode cX11_run 45 = .ok (.getfield 113, 3) := by decide +kernel
theorem dX11_run_48 : decode cX11_run 48 = .ok (.imul, 1) := by decide +kernel
theorem dX11_run_49 : decode cX11_run 49 = .ok (.iconst 1, 1) := by decide +kernel
theorem dX11_run_50 : decode cX11_run 50 = .ok (.iadd, 1) := by decide +kernel
theorem dX11_run_51 : decode cX11_run 51 = .ok (.irem, 1) := by decide +kernel
theorem dX11_run_52 : decode cX11_run 52 = .ok (.aload_n 0, 1) := by decide +kernel
theorem dX11_run_53 : decode cX11_run 53 = .ok (.getfield 113, 3) := by decide +kernel
theorem dX11_run_56 : decode cX11_run 56 = .ok (.isub, 1) := by decide +kernel
theorem dX11_run_57 : decode cX11_run 57 = .ok (.istore_n 2, 1) := by decide +kernel
theorem dX11_run_58 : decode cX11_run 58 = .ok (.iconst 0, 1) := by decide +kernel
theorem dX11_run_59 : decode cX11_run 59 = .ok (.istore_n 3, 1) := by decide +kernel
theorem dX11_run_60 : decode cX11_run 60 = .ok (.iload_n 3, 1) := by decide +kernel
theorem dX11_run_61 : decode cX11_run 61 = .ok (.aload_n 0, 1) := by decide +kernel
theorem dX11_run_62 : decode cX11_run 62 = .ok (.getfield 84, 3) := by decide +kernel
theorem dX11_run_65 : decode cX11_run 65 = .ok (.if_icmp .ge 30, 3) := by decide +kernel
theorem dX11_run_68 : decode cX11_run 68 = .ok (.iload_n 2, 1) := by decide +kernel
theorem dX11_run_69 : decode cX11_run 69 = .ok (.aload_n 0, 1) := by decide +kernel
theorem dX11_run_70 : decode cX11_run 70 = .ok (.iload_n 3, 1) := by decide +kernel
theorem dX11_run_71 : decode cX11_run 71 = .ok (.iload_n 1, 1) := by decide +kernel
theorem dX11_run_72 : decode cX11_run 72 = .ok (.invokevirtual 123, 3) := by decide +kernel
theorem dX11_run_75 : decode cX11_run 75 = .ok (.ifCond .eq 11, 3) := by decide +kernel
theorem dX11_run_78 : decode cX11_run 78 = .ok (.aload_n 0, 1) := by decide +kernel
theorem dX11_run_79 : decode cX11_run 79 = .ok (.iload_n 3, 1) := by decide +kernel
theorem dX11_run_80 : decode cX11_run 80 = .ok (.invokevirtual 127, 3) := by decide +kernel
theorem dX11_run_83 : decode cX11_run 83 = .ok (.goto 4, 3) := by decide +kernel
theorem dX11_run_86 : decode cX11_run 86 = .ok (.iconst 0, 1) := by decide +kernel
theorem dX11_run_87 : decode cX11_run 87 = .ok (.iadd, 1) := by decide +kernel
theorem dX11_run_88 : decode cX11_run 88 = .ok (.istore_n 2, 1) := by decide +kernel
theorem dX11_run_89 : decode cX11_run 89 = .ok (.iinc 3 1, 3) := by decide +kernel
theorem dX11_run_92 : decode cX11_run 92 = .ok (.goto (-32), 3) := by decide +kernel
theorem dX11_run_95 : decode cX11_run 95 = .ok (.aload_n 0, 1) := by decide +kernel
theorem dX11_run_96 : decode cX11_run 96 = .ok (.aload_n 0, 1) := by decide +kernel
theorem dX11_run_97 : decode cX11_run 97 = .ok (.getfield 103, 3) := by decide +kernel
theorem dX11_run_100 : decode cX11_run 100 = .ok (.iload_n 1, 1) := by decide +kernel
theorem dX11_run_101 : decode cX11_run 101 = .ok (.iload_n 2, 1) := by decide +kernel
theorem dX11_run_102 : decode cX11_run 102 = .ok (.invokevirtual 130, 3) := by decide +kernel
theorem dX11_run_105 : decode cX11_run 105 = .ok (.ireturn, 1) := by decide +kernel
theorem dX11_older_0 : decode cX11_older 0 = .ok (.iload_n 1, 1) := by decide +kernel
theorem dX11_older_1 : decode cX11_older 1 = .ok (.iconst 0, 1) := by decide +kernel
theorem dX11_older_2 : decode cX11_older 2 = .ok (.aload_n 0, 1) := by decide +kernel
theorem dX11_older_3 : decode cX11_older 3 = .ok (.getfield 103, 3) := by decide +kernel
theorem dX11_older_6 : decode cX11_older 6 = .ok (.invokestatic 87, 3) := by decide +kernel
theorem dX11_older_9 : decode cX11_older 9 = .ok (.ifCond .eq 33, 3) := by decide +kernel
theorem dX11_older_12 : decode cX11_older 12 = .ok (.iload_n 2, 1) := by decide +kernel
theorem dX11_older_13 : decode cX11_older 13 = .ok (.invokestatic 119, 3) := by decide +kernel
theorem dX11_older_16 : decode cX11_older 16 = .ok (.ifCond .eq 26, 3) := by decide +kernel
theorem dX11_older_19 : decode cX11_older 19 = .ok (.iload_n 3, 1) := by decide +kernel
theorem dX11_older_20 : decode cX11_older 20 = .ok (.sipush (-9999), 3) := by decide +kernel
theorem dX11_older_23 : decode cX11_older 23 = .ok (.sipush 9999, 3) := by decide +kernel
theorem dX11_older_26 : decode cX11_older 26 = .ok (.invokestatic 87, 3) := by decide +kernel
theorem dX11_older_29 : decode cX11_older 29 = .ok (.ifCond .eq 13, 3) := by decide +kernel
theorem dX11_older_32 : decode cX11_older 32 = .ok (.aload_n 0, 1) := by decide +kernel
theorem dX11_older_33 : decode cX11_older 33 = .ok (.iload_n 1, 1) := by decide +kernel
theorem dX11_older_34 : decode cX11_older 34 = .ok (.iload_n 2, 1) := by decide +kernel
theorem dX11_older_35 : decode cX11_older 35 = .ok (.iload_n 3, 1) := by decide +kernel
theorem dX11_older_36 : decode cX11_older 36 = .ok (.invokevirtual 130, 3) := by decide +kernel
theorem dX11_older_39 : decode cX11_older 39 = .ok (.goto 4, 3) := by decide +kernel
theorem dX11_older_42 : decode cX11_older 42 = .ok (.iconst (-1), 1) := by decide +kernel
theorem dX11_older_43 : decode cX11_older 43 = .ok (.ireturn, 1) := by decide +kernel
theorem dX11_ran_0 : decode cX11_ran 0 = .ok (.iload_n 1, 1) := by decide +kernel
theorem dX11_ran_1 : decode cX11_ran 1 = .ok (.iconst 0, 1) := by decide +kernel
theorem dX11_ran_2 : decode cX11_ran 2 = .ok (.aload_n 0, 1) := by decide +kernel
theorem dX11_ran_3 : decode cX11_ran 3 = .ok (.getfield 116, 3) := by decide +kernel
theorem dX11_ran_6 : decode cX11_ran 6 = .ok (.iconst 1, 1) := by decide +kernel
theorem dX11_ran_7 : decode cX11_ran 7 = .ok (.isub, 1) := by decide +kernel
theorem dX11_ran_8 : decode cX11_ran 8 = .ok (.invokestatic 87, 3) := by decide +kernel
theorem dX11_ran_11 : decode cX11_ran 11 = .ok (.ifCond .eq 25, 3) := by decide +kernel
theorem dX11_ran_14 : decode cX11_ran 14 = .ok (.iload_n 2, 1) := by decide +kernel
theorem dX11_ran_15 : decode cX11_ran 15 = .ok (.iconst 0, 1) := by decide +kernel
theorem dX11_ran_16 : decode cX11_ran 16 = .ok (.iconst 2, 1) := by decide +kernel
theorem dX11_ran_17 : decode cX11_ran 17 = .ok (.invokestatic 87, 3) := by decide +kernel
theorem dX11_ran_20 : decode cX11_ran 20 = .ok (.ifCond .eq 16, 3) := by decide +kernel
theorem dX11_ran_23 : decode cX11_ran 23 = .ok (.aload_n 0, 1) := by decide +kernel
theorem dX11_ran_24 : decode cX11_ran 24 = .ok (.getfield 17, 3) := by decide +kernel
theorem dX11_ran_27 : decode cX11_ran 27 = .ok (.iconst 3, 1) := by decide +kernel
theorem dX11_ran_28 : decode cX11_ran 28 = .ok (.iload_n 1, 1) := by decide +kernel
theorem dX11_ran_29 : decode cX11_ran 29 = .ok (.imul, 1) := by decide +kernel
theorem dX11_ran_30 : decode cX11_ran 30 = .ok (.iload_n 2, 1) := by decide +kernel
theorem dX11_ran_31 : decode cX11_ran 31 = .ok (.iadd, 1) := by decide +kernel
theorem dX11_ran_32 : decode cX11_ran 32 = .ok (.iaload, 1) := by decide +kernel
theorem dX11_ran_33 : decode cX11_ran 33 = .ok (.goto 5, 3) := by decide +kernel
theorem dX11_ran_36 : decode cX11_ran 36 = .ok (.ldc 102, 2) := by decide +kernel
theorem dX11_ran_38 : decode cX11_ran 38 = .ok (.ireturn, 1) := by decide +kernel
theorem dX11_tryout_0 : decode cX11_tryout 0 = .ok (.aload_n 0, 1) := by decide +kernel
theorem dX11_tryout_1 : decode cX11_tryout 1 = .ok (.iload_n 1, 1) := by decide +kernel
theorem dX11_tryout_2 : decode cX11_tryout 2 = .ok (.invokevirtual 98, 3) := by decide +kernel
theorem dX11_tryout_5 : decode cX11_tryout 5 = .ok (.ifCond .ne 6, 3) := by decide +kernel
theorem dX11_tryout_8 : decode cX11_tryout 8 = .ok (.ldc 102, 2) := by decide +kernel
theorem dX11_tryout_10 : decode cX11_tryout 10 = .ok (.ireturn, 1) := by decide +kernel
theorem dX11_tryout_11 : decode cX11_tryout 11 = .ok (.iload_n 2, 1) := by decide +kernel
theorem dX11_tryout_12 : decode cX11_tryout 12 = .ok (.ifCond .eq 27, 3) := by decide +kernel
theorem dX11_tryout_15 : decode cX11_tryout 15 = .ok (.aload_n 0, 1) := by decide +kernel
theorem dX11_tryout_16 : decode cX11_tryout 16 = .ok (.iload_n 1, 1) := by decide +kernel
theorem dX11_tryout_17 : decode cX11_tryout 17 = .ok (.iconst 0, 1) := by decide +kernel
theorem dX11_tryout_18 : decode cX11_tryout 18 = .ok (.invokevirtual 94, 3) := by decide +kernel
theorem dX11_tryout_21 : decode cX11_tryout 21 = .ok (.iconst 4, 1) := by decide +kernel
theorem dX11_tryout_22 : decode cX11_tryout 22 = .ok (.if_icmp .eq 13, 3) := by decide +kernel
theorem dX11_tryout_25 : decode cX11_tryout 25 = .ok (.aload_n 0, 1) := by decide +kernel
theorem dX11_tryout_26 : decode cX11_tryout 26 = .ok (.iload_n 1, 1) := by decide +kernel
theorem dX11_tryout_27 : decode cX11_tryout 27 = .ok (.iconst 0, 1) := by decide +kernel
theorem dX11_tryout_28 : decode cX11_tryout 28 = .ok (.invokevirtual 94, 3) := by decide +kernel
theorem dX11_tryout_31 : decode cX11_tryout 31 = .ok (.iconst 5, 1) := by decide +kernel
theorem dX11_tryout_32 : decode cX11_tryout 32 = .ok (.if_icmp .ne 7, 3) := by decide +kernel
theorem dX11_tryout_35 : decode cX11_tryout 35 = .ok (.iconst 1, 1) := by decide +kernel
theorem dX11_tryout_36 : decode cX11_tryout 36 = .ok (.goto 4, 3) := by decide +kernel
theorem dX11_tryout_39 : decode cX11_tryout 39 = .ok (.iconst 0, 1) := by decide +kernel
theorem dX11_tryout_40 : decode cX11_tryout 40 = .ok (.istore_n 3, 1) := by decide +kernel
theorem dX11_tryout_41 : decode cX11_tryout 41 = .ok (.iload_n 3, 1) := by decide +kernel
theorem dX11_tryout_42 : decode cX11_tryout 42 = .ok (.ifCond .eq 7, 3) := by decide +kernel
theorem dX11_tryout_45 : decode cX11_tryout 45 = .ok (.iconst 0, 1) := by decide +kernel
theorem dX11_tryout_46 : decode cX11_tryout 46 = .ok (.goto 8, 3) := by decide +kernel
theorem dX11_tryout_49 : decode cX11_tryout 49 = .ok (.aload_n 0, 1) := by decide +kernel
theorem dX11_tryout_50 : decode cX11_tryout 50 = .ok (.iload_n 1, 1) := by decide +kernel
theorem dX11_tryout_51 : decode cX11_tryout 51 = .ok (.invokevirtual 127, 3) := by decide +kernel
theorem dX11_tryout_54 : decode cX11_tryout 54 = .ok (.istore 4, 2) := by decide +kernel
theorem dX11_tryout_56 : decode cX11_tryout 56 = .ok (.aload_n 0, 1) := by decide +kernel
theorem dX11_tryout_57 : decode cX11_tryout 57 = .ok (.getfield 13, 3) := by decide +kernel
theorem dX11_tryout_60 : decode cX11_tryout 60 = .ok (.bipush 9, 2) := by decide +kernel
theorem dX11_tryout_62 : decode cX11_tryout 62 = .ok (.iload_n 1, 1) := by decide +kernel
theorem dX11_tryout_63 : decode cX11_tryout 63 = .ok (.imul, 1) := by decide +kernel
theorem dX11_tryout_64 : decode cX11_tryout 64 = .ok (.iconst 5, 1) := by decide +kernel
theorem dX11_tryout_65 : decode cX11_tryout 65 = .ok (.iadd, 1) := by decide +kernel
theorem dX11_tryout_66 : decode cX11_tryout 66 = .ok (.dup2, 1) := by decide +kernel
theorem dX11_tryout_67 : decode cX11_tryout 67 = .ok (.iaload, 1) := by decide +kernel
theorem dX11_tryout_68 : decode cX11_tryout 68 = .ok (.iload 4, 2) := by decide +kernel
theorem dX11_tryout_70 : decode cX11_tryout 70 = .ok (.iadd, 1) := by decide +kernel
theorem dX11_tryout_71 : decode cX11_tryout 71 = .ok (.iastore, 1) := by decide +kernel
theorem dX11_tryout_72 : decode cX11_tryout 72 = .ok (.aload_n 0, 1) := by decide +kernel
theorem dX11_tryout_73 : decode cX11_tryout 73 = .ok (.getfield 13, 3) := by decide +kernel
theorem dX11_tryout_76 : decode cX11_tryout 76 = .ok (.bipush 9, 2) := by decide +kernel
theorem dX11_tryout_78 : decode cX11_tryout 78 = .ok (.iload_n 1, 1) := by decide +kernel
theorem dX11_tryout_79 : decode cX11_tryout 79 = .ok (.imul, 1) := by decide +kernel
theorem dX11_tryout_80 : decode cX11_tryout 80 = .ok (.bipush 6, 2) := by decide +kernel
theorem dX11_tryout_82 : decode cX11_tryout 82 = .ok (.iadd, 1) := by decide +kernel
theorem dX11_tryout_83 : decode cX11_tryout 83 = .ok (.iconst 1, 1) := by decide +kernel
theorem dX11_tryout_84 : decode cX11_tryout 84 = .ok (.iastore, 1) := by decide +kernel
theorem dX11_tryout_85 : decode cX11_tryout 85 = .ok (.aload_n 0, 1) := by decide +kernel
theorem dX11_tryout_86 : decode cX11_tryout 86 = .ok (.dup, 1) := by decide +kernel
theorem dX11_tryout_87 : decode cX11_tryout 87 = .ok (.getfield 134, 3) := by decide +kernel
theorem dX11_tryout_90 : decode cX11_tryout 90 = .ok (.aload_n 0, 1) := by decide +kernel
theorem dX11_tryout_91 : decode cX11_tryout 91 = .ok (.iload_n 1, 1) := by decide +kernel
theorem dX11_tryout_92 : decode cX11_tryout 92 = .ok (.iconst 4, 1) := by decide +kernel
theorem dX11_tryout_93 : decode cX11_tryout 93 = .ok (.invokevirtual 94, 3) := by decide +kernel
theorem dX11_tryout_96 : decode cX11_tryout 96 = .ok (.iadd, 1) := by decide +kernel
theorem dX11_tryout_97 : decode cX11_tryout 97 = .ok (.putfield 134, 3) := by decide +kernel
theorem dX11_tryout_100 : decode cX11_tryout 100 = .ok (.iload 4, 2) := by decide +kernel
theorem dX11_tryout_102 : decode cX11_tryout 102 = .ok (.ireturn, 1) := by decide +kernel
theorem dX11_feed_0 : decode cX11_feed 0 = .ok (.iload_n 3, 1) := by decide +kernel
theorem dX11_feed_1 : decode cX11_feed 1 = .ok (.iconst 1, 1) := by decide +kernel
theorem dX11_feed_2 : decode cX11_feed 2 = .ok (.bipush 8, 2) := by decide +kernel
theorem dX11_feed_4 : decode cX11_feed 4 = .ok (.invokestatic 87, 3) := by decide +kernel
theorem dX11_feed_7 : decode cX11_feed 7 = .ok (.ifCond .ne 5, 3) := by decide +kernel
theorem dX11_feed_10 : decode cX11_feed 10 = .ok (.iconst (-1), 1) := by decide +kernel
theorem dX11_feed_11 : decode cX11_feed 11 = .ok (.ireturn, 1) := by decide +kernel
theorem dX11_feed_12 : decode cX11_feed 12 = .ok (.aload_n 0, 1) := by decide +kernel
theorem dX11_feed_13 : decode cX11_feed 13 = .ok (.getfield 137, 3) := by decide +kernel
theorem dX11_feed_16 : decode cX11_feed 16 = .ok (.iload_n 3, 1) := by decide +kernel
theorem dX11_feed_17 : decode cX11_feed 17 = .ok (.iadd, 1) := by decide +kernel
theorem dX11_feed_18 : decode cX11_feed 18 = .ok (.sipush 200, 3) := by decide +kernel
theorem dX11_feed_21 : decode cX11_feed 21 = .ok (.if_icmp .le 6, 3) := by decide +kernel
theorem dX11_feed_24 : decode cX11_feed 24 = .ok (.bipush (-2), 2) := by decide +kernel
theorem dX11_feed_26 : decode cX11_feed 26 = .ok (.ireturn, 1) := by decide +kernel
theorem dX11_feed_27 : decode cX11_feed 27 = .ok (.iconst 0, 1) := by decide +kernel
theorem dX11_feed_28 : decode cX11_feed 28 = .ok (.istore 4, 2) := by decide +kernel
theorem dX11_feed_30 : decode cX11_feed 30 = .ok (.iload 4, 2) := by decide +kernel
theorem dX11_feed_32 : decode cX11_feed 32 = .ok (.iload_n 3, 1) := by decide +kernel
theorem dX11_feed_33 : decode cX11_feed 33 = .ok (.if_icmp .ge 40, 3) := by decide +kernel
theorem dX11_feed_36 : decode cX11_feed 36 = .ok (.aload_n 0, 1) := by decide +kernel
theorem dX11_feed_37 : decode cX11_feed 37 = .ok (.getfield 29, 3) := by decide +kernel
theorem dX11_feed_40 : decode cX11_feed 40 = .ok (.aload_n 0, 1) := by decide +kernel
theorem dX11_feed_41 : decode cX11_feed 41 = .ok (.getfield 137, 3) := by decide +kernel
theorem dX11_feed_44 : decode cX11_feed 44 = .ok (.lload_n 1, 1) := by decide +kernel
theorem dX11_feed_45 : decode cX11_feed 45 = .ok (.bipush 8, 2) := by decide +kernel
theorem dX11_feed_47 : decode cX11_feed 47 = .ok (.iload 4, 2) := by decide +kernel
theorem dX11_feed_49 : decode cX11_feed 49 = .ok (.imul, 1) := by decide +kernel
theorem dX11_feed_50 : decode cX11_feed 50 = .ok (.lshr, 1) := by decide +kernel
theorem dX11_feed_51 : decode cX11_feed 51 = .ok (.ldc2_w 140, 3) := by decide +kernel
theorem dX11_feed_54 : decode cX11_feed 54 = .ok (.land, 1) := by decide +kernel
theorem dX11_feed_55 : decode cX11_feed 55 = .ok (.l2i, 1) := by decide +kernel
theorem dX11_feed_56 : decode cX11_feed 56 = .ok (.iastore, 1) := by decide +kernel
theorem dX11_feed_57 : decode cX11_feed 57 = .ok (.aload_n 0, 1) := by decide +kernel
theorem dX11_feed_58 : decode cX11_feed 58 = .ok (.dup, 1) := by decide +kernel
theorem dX11_feed_59 : decode cX11_feed 59 = .ok (.getfield 137, 3) := by decide +kernel
theorem dX11_feed_62 : decode cX11_feed 62 = .ok (.iconst 1, 1) := by decide +kernel
theorem dX11_feed_63 : decode cX11_feed 63 = .ok (.iadd, 1) := by decide +kernel
theorem dX11_feed_64 : decode cX11_feed 64 = .ok (.putfield 137, 3) := by decide +kernel
theorem dX11_feed_67 : decode cX11_feed 67 = .ok (.iinc 4 1, 3) := by decide +kernel
theorem dX11_feed_70 : decode cX11_feed 70 = .ok (.goto (-40), 3) := by decide +kernel
theorem dX11_feed_73 : decode cX11_feed 73 = .ok (.aload_n 0, 1) := by decide +kernel
theorem dX11_feed_74 : decode cX11_feed 74 = .ok (.getfield 137, 3) := by decide +kernel
theorem dX11_feed_77 : decode cX11_feed 77 = .ok (.ireturn, 1) := by decide +kernel
theorem dX11_byteAt_0 : decode cX11_byteAt 0 = .ok (.iload_n 1, 1) := by decide +kernel
theorem dX11_byteAt_1 : decode cX11_byteAt 1 = .ok (.aload_n 0, 1) := by decide +kernel
theorem dX11_byteAt_2 : decode cX11_byteAt 2 = .ok (.getfield 137, 3) := by decide +kernel
theorem dX11_byteAt_5 : decode cX11_byteAt 5 = .ok (.if_icmp .ge 12, 3) := by decide +kernel
theorem dX11_byteAt_8 : decode cX11_byteAt 8 = .ok (.aload_n 0, 1) := by decide +kernel
theorem dX11_byteAt_9 : decode cX11_byteAt 9 = .ok (.getfield 29, 3) := by decide +kernel
theorem dX11_byteAt_12 : decode cX11_byteAt 12 = .ok (.iload_n 1, 1) := by decide +kernel
theorem dX11_byteAt_13 : decode cX11_byteAt 13 = .ok (.iaload, 1) := by decide +kernel
theorem dX11_byteAt_14 : decode cX11_byteAt 14 = .ok (.goto 4, 3) := by decide +kernel
theorem dX11_byteAt_17 : decode cX11_byteAt 17 = .ok (.iconst (-1), 1) := by decide +kernel
theorem dX11_byteAt_18 : decode cX11_byteAt 18 = .ok (.ireturn, 1) := by decide +kernel
theorem dX11_isLetter_0 : decode cX11_isLetter 0 = .ok (.iload_n 0, 1) := by decide +kernel
theorem dX11_isLetter_1 : decode cX11_isLetter 1 = .ok (.bipush 97, 2) := by decide +kernel
theorem dX11_isLetter_3 : decode cX11_isLetter 3 = .ok (.bipush 122, 2) := by decide +kernel
theorem dX11_isLetter_5 : decode cX11_isLetter 5 = .ok (.invokestatic 87, 3) := by decide +kernel
theorem dX11_isLetter_8 : decode cX11_isLetter 8 = .ok (.ireturn, 1) := by decide +kernel
theorem dX11_isDigit_0 : decode cX11_isDigit 0 = .ok (.iload_n 0, 1) := by decide +kernel
theorem dX11_isDigit_1 : decode cX11_isDigit 1 = .ok (.bipush 48, 2) := by decide +kernel
theorem dX11_isDigit_3 : decode cX11_isDigit 3 = .ok (.bipush 57, 2) := by decide +kernel
theorem dX11_isDigit_5 : decode cX11_isDigit 5 = .ok (.invokestatic 87, 3) := by decide +kernel
theorem dX11_isDigit_8 : decode cX11_isDigit 8 = .ok (.ireturn, 1) := by decide +kernel
theorem dX11_advance_0 : decode cX11_advance 0 = .ok (.aload_n 0, 1) := by decide +kernel
theorem dX11_advance_1 : decode cX11_advance 1 = .ok (.aload_n 0, 1) := by decide +kernel
theorem dX11_advance_2 : decode cX11_advance 2 = .ok (.getfield 142, 3) := by decide +kernel
theorem dX11_advance_5 : decode cX11_advance 5 = .ok (.putfield 145, 3) := by decide +kernel
theorem dX11_advance_8 : decode cX11_advance 8 = .ok (.aload_n 0, 1) := by decide +kernel
theorem dX11_advance_9 : decode cX11_advance 9 = .ok (.aload_n 0, 1) := by decide +kernel
theorem dX11_advance_10 : decode cX11_advance 10 = .ok (.getfield 145, 3) := by decide +kernel
theorem dX11_advance_13 : decode cX11_advance 13 = .ok (.invokevirtual 148, 3) := by decide +kernel
theorem dX11_advance_16 : decode cX11_advance 16 = .ok (.bipush 32, 2) := by decide +kernel
theorem dX11_advance_18 : decode cX11_advance 18 = .ok (.if_icmp .ne 16, 3) := by decide +kernel
theorem dX11_advance_21 : decode cX11_advance 21 = .ok (.aload_n 0, 1) := by decide +kernel
theorem dX11_advance_22 : decode cX11_advance 22 = .ok (.dup, 1) := by decide +kernel
theorem dX11_advance_23 : decode cX11_advance 23 = .ok (.getfield 145, 3) := by decide +kernel
theorem dX11_advance_26 : decode cX11_advance 26 = .ok (.iconst 1, 1) := by decide +kernel
theorem dX11_advance_27 : decode cX11_advance 27 = .ok (.iadd, 1) := by decide +kernel
theorem dX11_advance_28 : decode cX11_advance 28 = .ok (.putfield 145, 3) := by decide +kernel
theorem dX11_advance_31 : decode cX11_advance 31 = .ok (.goto (-23), 3) := by decide +kernel
theorem dX11_advance_34 : decode cX11_advance 34 = .ok (.aload_n 0, 1) := by decide +kernel
theorem dX11_advance_35 : decode cX11_advance 35 = .ok (.aload_n 0, 1) := by decide +kernel
theorem dX11_advance_36 : decode cX11_advance 36 = .ok (.getfield 145, 3) := by decide +kernel
theorem dX11_advance_39 : decode cX11_advance 39 = .ok (.putfield 142, 3) := by decide +kernel
theorem dX11_advance_42 : decode cX11_advance 42 = .ok (.aload_n 0, 1) := by decide +kernel
theorem dX11_advance_43 : decode cX11_advance 43 = .ok (.aload_n 0, 1) := by decide +kernel
theorem dX11_advance_44 : decode cX11_advance 44 = .ok (.getfield 145, 3) := by decide +kernel
theorem dX11_advance_47 : decode cX11_advance 47 = .ok (.invokevirtual 148, 3) := by decide +kernel
theorem dX11_advance_50 : decode cX11_advance 50 = .ok (.istore_n 1, 1) := by decide +kernel
theorem dX11_advance_51 : decode cX11_advance 51 = .ok (.aload_n 0, 1) := by decide +kernel
theorem dX11_advance_52 : decode cX11_advance 52 = .ok (.iload_n 1, 1) := by decide +kernel
theorem dX11_advance_53 : decode cX11_advance 53 = .ok (.ifCond .ge 7, 3) := by decide +kernel
theorem dX11_advance_56 : decode cX11_advance 56 = .ok (.iconst 0, 1) := by decide +kernel
theorem dX11_advance_57 : decode cX11_advance 57 = .ok (.goto 26, 3) := by decide +kernel
theorem dX11_advance_60 : decode cX11_advance 60 = .ok (.iload_n 1, 1) := by decide +kernel
theorem dX11_advance_61 : decode cX11_advance 61 = .ok (.invokestatic 151, 3) := by decide +kernel
theorem dX11_advance_64 : decode cX11_advance 64 = .ok (.ifCond .eq 7, 3) := by decide +kernel
theorem dX11_advance_67 : decode cX11_advance 67 = .ok (.iconst 1, 1) := by decide +kernel
theorem dX11_advance_68 : decode cX11_advance 68 = .ok (.goto 15, 3) := by decide +kernel
theorem dX11_advance_71 : decode cX11_advance 71 = .ok (.iload_n 1, 1) := by decide +kernel
theorem dX11_advance_72 : decode cX11_advance 72 = .ok (.invokestatic 154, 3) := by decide +kernel
theorem dX11_advance_75 : decode cX11_advance 75 = .ok (.ifCond .eq 7, 3) := by decide +kernel
theorem dX11_advance_78 : decode cX11_advance 78 = .ok (.iconst 2, 1) := by decide +kernel
theorem dX11_advance_79 : decode cX11_advance 79 = .ok (.goto 4, 3) := by decide +kernel
theorem dX11_advance_82 : decode cX11_advance 82 = .ok (.iconst 3, 1) := by decide +kernel
theorem dX11_advance_83 : decode cX11_advance 83 = .ok (.putfield 157, 3) := by decide +kernel
theorem dX11_advance_86 : decode cX11_advance 86 = .ok (.aload_n 0, 1) := by decide +kernel
theorem dX11_advance_87 : decode cX11_advance 87 = .ok (.lconst 0, 1) := by decide +kernel
theorem dX11_advance_88 : decode cX11_advance 88 = .ok (.putfield 160, 3) := by decide +kernel
theorem dX11_advance_91 : decode cX11_advance 91 = .ok (.aload_n 0, 1) := by decide +kernel
theorem dX11_advance_92 : decode cX11_advance 92 = .ok (.aload_n 0, 1) := by decide +kernel
theorem dX11_advance_93 : decode cX11_advance 93 = .ok (.getfield 157, 3) := by decide +kernel
theorem dX11_advance_96 : decode cX11_advance 96 = .ok (.iconst 2, 1) := by decide +kernel
theorem dX11_advance_97 : decode cX11_advance 97 = .ok (.if_icmp .ne 7, 3) := by decide +kernel
theorem dX11_advance_100 : decode cX11_advance 100 = .ok (.iconst 0, 1) := by decide +kernel
theorem dX11_advance_101 : decode cX11_advance 101 = .ok (.goto 4, 3) := by decide +kernel
theorem dX11_advance_104 : decode cX11_advance 104 = .ok (.iload_n 1, 1) := by decide +kernel
theorem dX11_advance_105 : decode cX11_advance 105 = .ok (.putfield 164, 3) := by decide +kernel
theorem dX11_advance_108 : decode cX11_advance 108 = .ok (.aload_n 0, 1) := by decide +kernel
theorem dX11_advance_109 : decode cX11_advance 109 = .ok (.getfield 157, 3) := by decide +kernel
theorem dX11_advance_112 : decode cX11_advance 112 = .ok (.iconst 3, 1) := by decide +kernel
theorem dX11_advance_113 : decode cX11_advance 113 = .ok (.if_icmp .ne 13, 3) := by decide +kernel
theorem dX11_advance_116 : decode cX11_advance 116 = .ok (.aload_n 0, 1) := by decide +kernel
theorem dX11_advance_117 : decode cX11_advance 117 = .ok (.dup, 1) := by decide +kernel
theorem dX11_advance_118 : decode cX11_advance 118 = .ok (.getfield 142, 3) := by decide +kernel
theorem dX11_advance_121 : decode cX11_advance 121 = .ok (.iconst 1, 1) := by decide +kernel
theorem dX11_advance_122 : decode cX11_advance 122 = .ok (.iadd, 1) := by decide +kernel
theorem dX11_advance_123 : decode cX11_advance 123 = .ok (.putfield 142, 3) := by decide +kernel
theorem dX11_advance_126 : decode cX11_advance 126 = .ok (.aload_n 0, 1) := by decide +kernel
theorem dX11_advance_127 : decode cX11_advance 127 = .ok (.getfield 157, 3) := by decide +kernel
theorem dX11_advance_130 : decode cX11_advance 130 = .ok (.iconst 1, 1) := by decide +kernel
theorem dX11_advance_131 : decode cX11_advance 131 = .ok (.if_icmp .ne 76, 3) := by decide +kernel
theorem dX11_advance_134 : decode cX11_advance 134 = .ok (.aload_n 0, 1) := by decide +kernel
theorem dX11_advance_135 : decode cX11_advance 135 = .ok (.aload_n 0, 1) := by decide +kernel
theorem dX11_advance_136 : decode cX11_advance 136 = .ok (.getfield 142, 3) := by decide +kernel
theorem dX11_advance_139 : decode cX11_advance 139 = .ok (.invokevirtual 148, 3) := by decide +kernel
theorem dX11_advance_142 : decode cX11_advance 142 = .ok (.invokestatic 151, 3) := by decide +kernel
theorem dX11_advance_145 : decode cX11_advance 145 = .ok (.ifCond .eq 62, 3) := by decide +kernel
theorem dX11_advance_148 : decode cX11_advance 148 = .ok (.aload_n 0, 1) := by decide +kernel
theorem dX11_advance_149 : decode cX11_advance 149 = .ok (.aload_n 0, 1) := by decide +kernel
theorem dX11_advance_150 : decode cX11_advance 150 = .ok (.getfield 142, 3) := by decide +kernel
theorem dX11_advance_153 : decode cX11_advance 153 = .ok (.aload_n 0, 1) := by decide +kernel
theorem dX11_advance_154 : decode cX11_advance 154 = .ok (.getfield 145, 3) := by decide +kernel
theorem dX11_advance_157 : decode cX11_advance 157 = .ok (.isub, 1) := by decide +kernel
theorem dX11_advance_158 : decode cX11_advance 158 = .ok (.bipush 8, 2) := by decide +kernel
theorem dX11_advance_160 : decode cX11_advance 160 = .ok (.if_icmp .ge 28, 3) := by decide +kernel
theorem dX11_advance_163 : decode cX11_advance 163 = .ok (.ldc2_w 167, 3) := by decide +kernel
theorem dX11_advance_166 : decode cX11_advance 166 = .ok (.aload_n 0, 1) := by decide +kernel
theorem dX11_advance_167 : decode cX11_advance 167 = .ok (.getfield 160, 3) := by decide +kernel
theorem dX11_advance_170 : decode cX11_advance 170 = .ok (.lmul, 1) := by decide +kernel
theorem dX11_advance_171 : decode cX11_advance 171 = .ok (.aload_n 0, 1) := by decide +kernel
theorem dX11_advance_172 : decode cX11_advance 172 = .ok (.aload_n 0, 1) := by decide +kernel
theorem dX11_advance_173 : decode cX11_advance 173 = .ok (.getfield 142, 3) := by decide +kernel
theorem dX11_advance_176 : decode cX11_advance 176 = .ok (.invokevirtual 148, 3) := by decide +kernel
theorem dX11_advance_179 : decode cX11_advance 179 = .ok (.i2l, 1) := by decide +kernel
theorem dX11_advance_180 : decode cX11_advance 180 = .ok (.ladd, 1) := by decide +kernel
theorem dX11_advance_181 : decode cX11_advance 181 = .ok (.ldc2_w 169, 3) := by decide +kernel
theorem dX11_advance_184 : decode cX11_advance 184 = .ok (.lsub, 1) := by decide +kernel
theorem dX11_advance_185 : decode cX11_advance 185 = .ok (.goto 6, 3) := by decide +kernel
theorem dX11_advance_188 : decode cX11_advance 188 = .ok (.ldc2_w 171, 3) := by decide +kernel
theorem dX11_advance_191 : decode cX11_advance 191 = .ok (.putfield 160, 3) := by decide +kernel
theorem dX11_advance_194 : decode cX11_advance 194 = .ok (.aload_n 0, 1) := by decide +kernel
theorem dX11_advance_195 : decode cX11_advance 195 = .ok (.dup, 1) := by decide +kernel
theorem dX11_advance_196 : decode cX11_advance 196 = .ok (.getfield 142, 3) := by decide +kernel
theorem dX11_advance_199 : decode cX11_advance 199 = .ok (.iconst 1, 1) := by decide +kernel
theorem dX11_advance_200 : decode cX11_advance 200 = .ok (.iadd, 1) := by decide +kernel
theorem dX11_advance_201 : decode cX11_advance 201 = .ok (.putfield 142, 3) := by decide +kernel
theorem dX11_advance_204 : decode cX11_advance 204 = .ok (.goto (-78), 3) := by decide +kernel
theorem dX11_advance_207 : decode cX11_advance 207 = .ok (.aload_n 0, 1) := by decide +kernel
theorem dX11_advance_208 : decode cX11_advance 208 = .ok (.getfield 157, 3) := by decide +kernel
theorem dX11_advance_211 : decode cX11_advance 211 = .ok (.iconst 2, 1) := by decide +kernel
theorem dX11_advance_212 : decode cX11_advance 212 = .ok (.if_icmp .ne 70, 3) := by decide +kernel
theorem dX11_advance_215 : decode cX11_advance 215 = .ok (.aload_n 0, 1) := by decide +kernel
theorem dX11_advance_216 : decode cX11_advance 216 = .ok (.aload_n 0, 1) := by decide +kernel
theorem dX11_advance_217 : decode cX11_advance 217 = .ok (.getfield 142, 3) := by decide +kernel
theorem dX11_advance_220 : decode cX11_advance 220 = .ok (.invokevirtual 148, 3) := by decide +kernel
theorem dX11_advance_223 : decode cX11_advance 223 = .ok (.invokestatic 154, 3) := by decide +kernel
theorem dX11_advance_226 : decode cX11_advance 226 = .ok (.ifCond .eq 56, 3) := by decide +kernel
theorem dX11_advance_229 : decode cX11_advance 229 = .ok (.aload_n 0, 1) := by decide +kernel
theorem dX11_advance_230 : decode cX11_advance 230 = .ok (.aload_n 0, 1) := by decide +kernel
theorem dX11_advance_231 : decode cX11_advance 231 = .ok (.getfield 142, 3) := by decide +kernel
theorem dX11_advance_234 : decode cX11_advance 234 = .ok (.aload_n 0, 1) := by decide +kernel
theorem dX11_advance_235 : decode cX11_advance 235 = .ok (.getfield 145, 3) := by decide +kernel
theorem dX11_advance_238 : decode cX11_advance 238 = .ok (.isub, 1) := by decide +kernel
theorem dX11_advance_239 : decode cX11_advance 239 = .ok (.iconst 4, 1) := by decide +kernel
theorem dX11_advance_240 : decode cX11_advance 240 = .ok (.if_icmp .ge 25, 3) := by decide +kernel
theorem dX11_advance_243 : decode cX11_advance 243 = .ok (.bipush 10, 2) := by decide +kernel
theorem dX11_advance_245 : decode cX11_advance 245 = .ok (.aload_n 0, 1) := by decide +kernel
theorem dX11_advance_246 : decode cX11_advance 246 = .ok (.getfield 164, 3) := by decide +kernel
theorem dX11_advance_249 : decode cX11_advance 249 = .ok (.imul, 1) := by decide +kernel
theorem dX11_advance_250 : decode cX11_advance 250 = .ok (.aload_n 0, 1) := by decide +kernel
theorem dX11_advance_251 : decode cX11_advance 251 = .ok (.aload_n 0, 1) := by decide +kernel
theorem dX11_advance_252 : decode cX11_advance 252 = .ok (.getfield 142, 3) := by decide +kernel
theorem dX11_advance_255 : decode cX11_advance 255 = .ok (.invokevirtual 148, 3) := by decide +kernel
theorem dX11_advance_258 : decode cX11_advance 258 = .ok (.iadd, 1) := by decide +kernel
theorem dX11_advance_259 : decode cX11_advance 259 = .ok (.bipush 48, 2) := by decide +kernel
theorem dX11_advance_261 : decode cX11_advance 261 = .ok (.isub, 1) := by decide +kernel
theorem dX11_advance_262 : decode cX11_advance 262 = .ok (.goto 4, 3) := by decide +kernel
theorem dX11_advance_265 : decode cX11_advance 265 = .ok (.iconst (-1), 1) := by decide +kernel
theorem dX11_advance_266 : decode cX11_advance 266 = .ok (.putfield 164, 3) := by decide +kernel
theorem dX11_advance_269 : decode cX11_advance 269 = .ok (.aload_n 0, 1) := by decide +kernel
theorem dX11_advance_270 : decode cX11_advance 270 = .ok (.dup, 1) := by decide +kernel
theorem dX11_advance_271 : decode cX11_advance 271 = .ok (.getfield 142, 3) := by decide +kernel
theorem dX11_advance_274 : decode cX11_advance 274 = .ok (.iconst 1, 1) := by decide +kernel
theorem dX11_advance_275 : decode cX11_advance 275 = .ok (.iadd, 1) := by decide +kernel
theorem dX11_advance_276 : decode cX11_advance 276 = .ok (.putfield 142, 3) := by decide +kernel
theorem dX11_advance_279 : decode cX11_advance 279 = .ok (.goto (-72), 3) := by decide +kernel
theorem dX11_advance_282 : decode cX11_advance 282 = .ok (.return_, 1) := by decide +kernel
theorem dX11_isMark_0 : decode cX11_isMark 0 = .ok (.aload_n 0, 1) := by decide +kernel
theorem dX11_isMark_1 : decode cX11_isMark 1 = .ok (.getfield 157, 3) := by decide +kernel
theorem dX11_isMark_4 : decode cX11_isMark 4 = .ok (.iconst 3, 1) := by decide +kernel
theorem dX11_isMark_5 : decode cX11_isMark 5 = .ok (.if_icmp .ne 15, 3) := by decide +kernel
theorem dX11_isMark_8 : decode cX11_isMark 8 = .ok (.aload_n 0, 1) := by decide +kernel
theorem dX11_isMark_9 : decode cX11_isMark 9 = .ok (.getfield 164, 3) := by decide +kernel
theorem dX11_isMark_12 : decode cX11_isMark 12 = .ok (.iload_n 1, 1) := by decide +kernel
theorem dX11_isMark_13 : decode cX11_isMark 13 = .ok (.if_icmp .ne 7, 3) := by decide +kernel
theorem dX11_isMark_16 : decode cX11_isMark 16 = .ok (.iconst 1, 1) := by decide +kernel
theorem dX11_isMark_17 : decode cX11_isMark 17 = .ok (.goto 4, 3) := by decide +kernel
theorem dX11_isMark_20 : decode cX11_isMark 20 = .ok (.iconst 0, 1) := by decide +kernel
theorem dX11_isMark_21 : decode cX11_isMark 21 = .ok (.ireturn, 1) := by decide +kernel
theorem dX11_isWord_0 : decode cX11_isWord 0 = .ok (.aload_n 0, 1) := by decide +kernel
theorem dX11_isWord_1 : decode cX11_isWord 1 = .ok (.getfield 157, 3) := by decide +kernel
theorem dX11_isWord_4 : decode cX11_isWord 4 = .ok (.iconst 1, 1) := by decide +kernel
theorem dX11_isWord_5 : decode cX11_isWord 5 = .ok (.if_icmp .ne 16, 3) := by decide +kernel
theorem dX11_isWord_8 : decode cX11_isWord 8 = .ok (.aload_n 0, 1) := by decide +kernel
theorem dX11_isWord_9 : decode cX11_isWord 9 = .ok (.getfield 160, 3) := by decide +kernel
theorem dX11_isWord_12 : decode cX11_isWord 12 = .ok (.lload_n 1, 1) := by decide +kernel
theorem dX11_isWord_13 : decode cX11_isWord 13 = .ok (.lcmp, 1) := by decide +kernel
theorem dX11_isWord_14 : decode cX11_isWord 14 = .ok (.ifCond .ne 7, 3) := by decide +kernel
theorem dX11_isWord_17 : decode cX11_isWord 17 = .ok (.iconst 1, 1) := by decide +kernel
theorem dX11_isWord_18 : decode cX11_isWord 18 = .ok (.goto 4, 3) := by decide +kernel
theorem dX11_isWord_21 : decode cX11_isWord 21 = .ok (.iconst 0, 1) := by decide +kernel
theorem dX11_isWord_22 : decode cX11_isWord 22 = .ok (.ireturn, 1) := by decide +kernel
theorem dX11_isNumber_0 : decode cX11_isNumber 0 = .ok (.aload_n 0, 1) := by decide +kernel
theorem dX11_isNumber_1 : decode cX11_isNumber 1 = .ok (.getfield 157, 3) := by decide +kernel
theorem dX11_isNumber_4 : decode cX11_isNumber 4 = .ok (.iconst 2, 1) := by decide +kernel
theorem dX11_isNumber_5 : decode cX11_isNumber 5 = .ok (.if_icmp .ne 14, 3) := by decide +kernel
theorem dX11_isNumber_8 : decode cX11_isNumber 8 = .ok (.aload_n 0, 1) := by decide +kernel
theorem dX11_isNumber_9 : decode cX11_isNumber 9 = .ok (.getfield 164, 3) := by decide +kernel
theorem dX11_isNumber_12 : decode cX11_isNumber 12 = .ok (.ifCond .lt 7, 3) := by decide +kernel
theorem dX11_isNumber_15 : decode cX11_isNumber 15 = .ok (.iconst 1, 1) := by decide +kernel
theorem dX11_isNumber_16 : decode cX11_isNumber 16 = .ok (.goto 4, 3) := by decide +kernel
theorem dX11_isNumber_19 : decode cX11_isNumber 19 = .ok (.iconst 0, 1) := by decide +kernel
theorem dX11_isNumber_20 : decode cX11_isNumber 20 = .ok (.ireturn, 1) := by decide +kernel
theorem dX11_begin_0 : decode cX11_begin 0 = .ok (.aload_n 0, 1) := by decide +kernel
theorem dX11_begin_1 : decode cX11_begin 1 = .ok (.iconst 0, 1) := by decide +kernel
theorem dX11_begin_2 : decode cX11_begin 2 = .ok (.putfield 142, 3) := by decide +kernel
theorem dX11_begin_5 : decode cX11_begin 5 = .ok (.aload_n 0, 1) := by decide +kernel
theorem dX11_begin_6 : decode cX11_begin 6 = .ok (.iconst 1, 1) := by decide +kernel
theorem dX11_begin_7 : decode cX11_begin 7 = .ok (.putfield 173, 3) := by decide +kernel
theorem dX11_begin_10 : decode cX11_begin 10 = .ok (.aload_n 0, 1) := by decide +kernel
theorem dX11_begin_11 : decode cX11_begin 11 = .ok (.invokevirtual 177, 3) := by decide +kernel
theorem dX11_begin_14 : decode cX11_begin 14 = .ok (.return_, 1) := by decide +kernel
theorem dX11_wantWord_0 : decode cX11_wantWord 0 = .ok (.aload_n 0, 1) := by decide +kernel
theorem dX11_wantWord_1 : decode cX11_wantWord 1 = .ok (.aload_n 0, 1) := by decide +kernel
theorem dX11_wantWord_2 : decode cX11_wantWord 2 = .ok (.getfield 173, 3) := by decide +kernel
theorem dX11_wantWord_5 : decode cX11_wantWord 5 = .ok (.ifCond .eq 15, 3) := by decide +kernel
theorem dX11_wantWord_8 : decode cX11_wantWord 8 = .ok (.aload_n 0, 1) := by decide +kernel
theorem dX11_wantWord_9 : decode cX11_wantWord 9 = .ok (.lload_n 1, 1) := by decide +kernel
theorem dX11_wantWord_10 : decode cX11_wantWord 10 = .ok (.invokevirtual 180, 3) := by decide +kernel
theorem dX11_wantWord_13 : decode cX11_wantWord 13 = .ok (.ifCond .eq 7, 3) := by decide +kernel
theorem dX11_wantWord_16 : decode cX11_wantWord 16 = .ok (.iconst 1, 1) := by decide +kernel
theorem dX11_wantWord_17 : decode cX11_wantWord 17 = .ok (.goto 4, 3) := by decide +kernel
theorem dX11_wantWord_20 : decode cX11_wantWord 20 = .ok (.iconst 0, 1) := by decide +kernel
theorem dX11_wantWord_21 : decode cX11_wantWord 21 = .ok (.putfield 173, 3) := by decide +kernel
theorem dX11_wantWord_24 : decode cX11_wantWord 24 = .ok (.aload_n 0, 1) := by decide +kernel
theorem dX11_wantWord_25 : decode cX11_wantWord 25 = .ok (.getfield 173, 3) := by decide +kernel
theorem dX11_wantWord_28 : decode cX11_wantWord 28 = .ok (.ifCond .eq 7, 3) := by decide +kernel
theorem dX11_wantWord_31 : decode cX11_wantWord 31 = .ok (.aload_n 0, 1) := by decide +kernel
theorem dX11_wantWord_32 : decode cX11_wantWord 32 = .ok (.invokevirtual 177, 3) := by decide +kernel
theorem dX11_wantWord_35 : decode cX11_wantWord 35 = .ok (.return_, 1) := by decide +kernel
theorem dX11_wantNumber_0 : decode cX11_wantNumber 0 = .ok (.aload_n 0, 1) := by decide +kernel
theorem dX11_wantNumber_1 : decode cX11_wantNumber 1 = .ok (.getfield 164, 3) := by decide +kernel
theorem dX11_wantNumber_4 : decode cX11_wantNumber 4 = .ok (.istore_n 1, 1) := by decide +kernel
theorem dX11_wantNumber_5 : decode cX11_wantNumber 5 = .ok (.aload_n 0, 1) := by decide +kernel
theorem dX11_wantNumber_6 : decode cX11_wantNumber 6 = .ok (.aload_n 0, 1) := by decide +kernel
theorem dX11_wantNumber_7 : decode cX11_wantNumber 7 = .ok (.getfield 173, 3) := by decide +kernel
theorem dX11_wantNumber_10 : decode cX11_wantNumber 10 = .ok (.ifCond .eq 14, 3) := by decide +kernel
theorem dX11_wantNumber_13 : decode cX11_wantNumber 13 = .ok (.aload_n 0, 1) := by decide +kernel
theorem dX11_wantNumber_14 : decode cX11_wantNumber 14 = .ok (.invokevirtual 184, 3) := by decide +kernel
theorem dX11_wantNumber_17 : decode cX11_wantNumber 17 = .ok (.ifCond .eq 7, 3) := by decide +kernel
theorem dX11_wantNumber_20 : decode cX11_wantNumber 20 = .ok (.iconst 1, 1) := by decide +kernel
theorem dX11_wantNumber_21 : decode cX11_wantNumber 21 = .ok (.goto 4, 3) := by decide +kernel
theorem dX11_wantNumber_24 : decode cX11_wantNumber 24 = .ok (.iconst 0, 1) := by decide +kernel
theorem dX11_wantNumber_25 : decode cX11_wantNumber 25 = .ok (.putfield 173, 3) := by decide +kernel
theorem dX11_wantNumber_28 : decode cX11_wantNumber 28 = .ok (.aload_n 0, 1) := by decide +kernel
theorem dX11_wantNumber_29 : decode cX11_wantNumber 29 = .ok (.getfield 173, 3) := by decide +kernel
theorem dX11_wantNumber_32 : decode cX11_wantNumber 32 = .ok (.ifCond .eq 7, 3) := by decide +kernel
theorem dX11_wantNumber_35 : decode cX11_wantNumber 35 = .ok (.aload_n 0, 1) := by decide +kernel
theorem dX11_wantNumber_36 : decode cX11_wantNumber 36 = .ok (.invokevirtual 177, 3) := by decide +kernel
theorem dX11_wantNumber_39 : decode cX11_wantNumber 39 = .ok (.iload_n 1, 1) := by decide +kernel
theorem dX11_wantNumber_40 : decode cX11_wantNumber 40 = .ok (.ireturn, 1) := by decide +kernel
theorem dX11_wantInt_0 : decode cX11_wantInt 0 = .ok (.aload_n 0, 1) := by decide +kernel
theorem dX11_wantInt_1 : decode cX11_wantInt 1 = .ok (.getfield 173, 3) := by decide +kernel
theorem dX11_wantInt_4 : decode cX11_wantInt 4 = .ok (.ifCond .eq 16, 3) := by decide +kernel
theorem dX11_wantInt_7 : decode cX11_wantInt 7 = .ok (.aload_n 0, 1) := by decide +kernel
theorem dX11_wantInt_8 : decode cX11_wantInt 8 = .ok (.bipush 45, 2) := by decide +kernel
theorem dX11_wantInt_10 : decode cX11_wantInt 10 = .ok (.invokevirtual 188, 3) := by decide +kernel
theorem dX11_wantInt_13 : decode cX11_wantInt 13 = .ok (.ifCond .eq 7, 3) := by decide +kernel
theorem dX11_wantInt_16 : decode cX11_wantInt 16 = .ok (.iconst 1, 1) := by decide +kernel
theorem dX11_wantInt_17 : decode cX11_wantInt 17 = .ok (.goto 4, 3) := by decide +kernel
theorem dX11_wantInt_20 : decode cX11_wantInt 20 = .ok (.iconst 0, 1) := by decide +kernel
theorem dX11_wantInt_21 : decode cX11_wantInt 21 = .ok (.istore_n 1, 1) := by decide +kernel
theorem dX11_wantInt_22 : decode cX11_wantInt 22 = .ok (.iload_n 1, 1) := by decide +kernel
theorem dX11_wantInt_23 : decode cX11_wantInt 23 = .ok (.ifCond .eq 7, 3) := by decide +kernel
theorem dX11_wantInt_26 : decode cX11_wantInt 26 = .ok (.aload_n 0, 1) := by decide +kernel
theorem dX11_wantInt_27 : decode cX11_wantInt 27 = .ok (.invokevirtual 177, 3) := by decide +kernel
theorem dX11_wantInt_30 : decode cX11_wantInt 30 = .ok (.aload_n 0, 1) := by decide +kernel
theorem dX11_wantInt_31 : decode cX11_wantInt 31 = .ok (.invokevirtual 191, 3) := by decide +kernel
theorem dX11_wantInt_34 : decode cX11_wantInt 34 = .ok (.istore_n 2, 1) := by decide +kernel
theorem dX11_wantInt_35 : decode cX11_wantInt 35 = .ok (.iload_n 1, 1) := by decide +kernel
theorem dX11_wantInt_36 : decode cX11_wantInt 36 = .ok (.ifCond .eq 8, 3) := by decide +kernel
theorem dX11_wantInt_39 : decode cX11_wantInt 39 = .ok (.iload_n 2, 1) := by decide +kernel
theorem dX11_wantInt_40 : decode cX11_wantInt 40 = .ok (.ineg, 1) := by decide +kernel
theorem dX11_wantInt_41 : decode cX11_wantInt 41 = .ok (.goto 4, 3) := by decide +kernel
theorem dX11_wantInt_44 : decode cX11_wantInt 44 = .ok (.iload_n 2, 1) := by decide +kernel
theorem dX11_wantInt_45 : decode cX11_wantInt 45 = .ok (.ireturn, 1) := by decide +kernel
theorem dX11_wantClauses_0 : decode cX11_wantClauses 0 = .ok (.iconst 0, 1) := by decide +kernel
theorem dX11_wantClauses_1 : decode cX11_wantClauses 1 = .ok (.istore_n 1, 1) := by decide +kernel
theorem dX11_wantClauses_2 : decode cX11_wantClauses 2 = .ok (.iconst 1, 1) := by decide +kernel
theorem dX11_wantClauses_3 : decode cX11_wantClauses 3 = .ok (.istore_n 2, 1) := by decide +kernel
theorem dX11_wantClauses_4 : decode cX11_wantClauses 4 = .ok (.aload_n 0, 1) := by decide +kernel
theorem dX11_wantClauses_5 : decode cX11_wantClauses 5 = .ok (.getfield 173, 3) := by decide +kernel
theorem dX11_wantClauses_8 : decode cX11_wantClauses 8 = .ok (.ifCond .eq 139, 3) := by decide +kernel
theorem dX11_wantClauses_11 : decode cX11_wantClauses 11 = .ok (.iload_n 2, 1) := by decide +kernel
theorem dX11_wantClauses_12 : decode cX11_wantClauses 12 = .ok (.ifCond .eq 135, 3) := by decide +kernel
theorem dX11_wantClauses_15 : decode cX11_wantClauses 15 = .ok (.aload_n 0, 1) := by decide +kernel
theorem dX11_wantClauses_16 : decode cX11_wantClauses 16 = .ok (.ldc2_w 195, 3) := by decide +kernel
theorem dX11_wantClauses_19 : decode cX11_wantClauses 19 = .ok (.invokevirtual 197, 3) := by decide +kernel
theorem dX11_wantClauses_22 : decode cX11_wantClauses 22 = .ok (.aload_n 0, 1) := by decide +kernel
theorem dX11_wantClauses_23 : decode cX11_wantClauses 23 = .ok (.invokevirtual 191, 3) := by decide +kernel
theorem dX11_wantClauses_26 : decode cX11_wantClauses 26 = .ok (.istore_n 3, 1) := by decide +kernel
theorem dX11_wantClauses_27 : decode cX11_wantClauses 27 = .ok (.aload_n 0, 1) := by decide +kernel
theorem dX11_wantClauses_28 : decode cX11_wantClauses 28 = .ok (.ldc2_w 201, 3) := by decide +kernel
theorem dX11_wantClauses_31 : decode cX11_wantClauses 31 = .ok (.invokevirtual 197, 3) := by decide +kernel
theorem dX11_wantClauses_34 : decode cX11_wantClauses 34 = .ok (.aload_n 0, 1) := by decide +kernel
theorem dX11_wantClauses_35 : decode cX11_wantClauses 35 = .ok (.invokevirtual 203, 3) := by decide +kernel
theorem dX11_wantClauses_38 : decode cX11_wantClauses 38 = .ok (.istore 4, 2) := by decide +kernel
theorem dX11_wantClauses_40 : decode cX11_wantClauses 40 = .ok (.iconst 0, 1) := by decide +kernel
theorem dX11_wantClauses_41 : decode cX11_wantClauses 41 = .ok (.istore 5, 2) := by decide +kernel
theorem dX11_wantClauses_43 : decode cX11_wantClauses 43 = .ok (.aload_n 0, 1) := by decide +kernel
theorem dX11_wantClauses_44 : decode cX11_wantClauses 44 = .ok (.getfield 173, 3) := by decide +kernel
theorem dX11_wantClauses_47 : decode cX11_wantClauses 47 = .ok (.ifCond .eq 23, 3) := by decide +kernel
theorem dX11_wantClauses_50 : decode cX11_wantClauses 50 = .ok (.aload_n 0, 1) := by decide +kernel
theorem dX11_wantClauses_51 : decode cX11_wantClauses 51 = .ok (.ldc2_w 206, 3) := by decide +kernel
theorem dX11_wantClauses_54 : decode cX11_wantClauses 54 = .ok (.invokevirtual 180, 3) := by decide +kernel
theorem dX11_wantClauses_57 : decode cX11_wantClauses 57 = .ok (.ifCond .eq 13, 3) := by decide +kernel
theorem dX11_wantClauses_60 : decode cX11_wantClauses 60 = .ok (.aload_n 0, 1) := by decide +kernel
theorem dX11_wantClauses_61 : decode cX11_wantClauses 61 = .ok (.invokevirtual 177, 3) := by decide +kernel
theorem dX11_wantClauses_64 : decode cX11_wantClauses 64 = .ok (.aload_n 0, 1) := by decide +kernel
theorem dX11_wantClauses_65 : decode cX11_wantClauses 65 = .ok (.invokevirtual 191, 3) := by decide +kernel
theorem dX11_wantClauses_68 : decode cX11_wantClauses 68 = .ok (.istore 5, 2) := by decide +kernel
theorem dX11_wantClauses_70 : decode cX11_wantClauses 70 = .ok (.aload_n 0, 1) := by decide +kernel
theorem dX11_wantClauses_71 : decode cX11_wantClauses 71 = .ok (.getfield 32, 3) := by decide +kernel
theorem dX11_wantClauses_74 : decode cX11_wantClauses 74 = .ok (.iconst 2, 1) := by decide +kernel
theorem dX11_wantClauses_75 : decode cX11_wantClauses 75 = .ok (.iconst 3, 1) := by decide +kernel
theorem dX11_wantClauses_76 : decode cX11_wantClauses 76 = .ok (.iload_n 1, 1) := by decide +kernel
theorem dX11_wantClauses_77 : decode cX11_wantClauses 77 = .ok (.imul, 1) := by decide +kernel
theorem dX11_wantClauses_78 : decode cX11_wantClauses 78 = .ok (.iadd, 1) := by decide +kernel
theorem dX11_wantClauses_79 : decode cX11_wantClauses 79 = .ok (.iload_n 3, 1) := by decide +kernel
theorem dX11_wantClauses_80 : decode cX11_wantClauses 80 = .ok (.iastore, 1) := by decide +kernel
theorem dX11_wantClauses_81 : decode cX11_wantClauses 81 = .ok (.aload_n 0, 1) := by decide +kernel
theorem dX11_wantClauses_82 : decode cX11_wantClauses 82 = .ok (.getfield 32, 3) := by decide +kernel
theorem dX11_wantClauses_85 : decode cX11_wantClauses 85 = .ok (.iconst 3, 1) := by decide +kernel
theorem dX11_wantClauses_86 : decode cX11_wantClauses 86 = .ok (.iconst 3, 1) := by decide +kernel
theorem dX11_wantClauses_87 : decode cX11_wantClauses 87 = .ok (.iload_n 1, 1) := by decide +kernel
theorem dX11_wantClauses_88 : decode cX11_wantClauses 88 = .ok (.imul, 1) := by decide +kernel
theorem dX11_wantClauses_89 : decode cX11_wantClauses 89 = .ok (.iadd, 1) := by decide +kernel
theorem dX11_wantClauses_90 : decode cX11_wantClauses 90 = .ok (.iload 4, 2) := by decide +kernel
theorem dX11_wantClauses_92 : decode cX11_wantClauses 92 = .ok (.iastore, 1) := by decide +kernel
theorem dX11_wantClauses_93 : decode cX11_wantClauses 93 = .ok (.aload_n 0, 1) := by decide +kernel
theorem dX11_wantClauses_94 : decode cX11_wantClauses 94 = .ok (.getfield 32, 3) := by decide +kernel
theorem dX11_wantClauses_97 : decode cX11_wantClauses 97 = .ok (.iconst 4, 1) := by decide +kernel
theorem dX11_wantClauses_98 : decode cX11_wantClauses 98 = .ok (.iconst 3, 1) := by decide +kernel
theorem dX11_wantClauses_99 : decode cX11_wantClauses 99 = .ok (.iload_n 1, 1) := by decide +kernel
theorem dX11_wantClauses_100 : decode cX11_wantClauses 100 = .ok (.imul, 1) := by decide +kernel
theorem dX11_wantClauses_101 : decode cX11_wantClauses 101 = .ok (.iadd, 1) := by decide +kernel
theorem dX11_wantClauses_102 : decode cX11_wantClauses 102 = .ok (.iload 5, 2) := by decide +kernel
theorem dX11_wantClauses_104 : decode cX11_wantClauses 104 = .ok (.iastore, 1) := by decide +kernel
theorem dX11_wantClauses_105 : decode cX11_wantClauses 105 = .ok (.iinc 1 1, 3) := by decide +kernel
theorem dX11_wantClauses_108 : decode cX11_wantClauses 108 = .ok (.aload_n 0, 1) := by decide +kernel
theorem dX11_wantClauses_109 : decode cX11_wantClauses 109 = .ok (.getfield 173, 3) := by decide +kernel
theorem dX11_wantClauses_112 : decode cX11_wantClauses 112 = .ok (.ifCond .eq 22, 3) := by decide +kernel
theorem dX11_wantClauses_115 : decode cX11_wantClauses 115 = .ok (.iload_n 1, 1) := by decide +kernel
theorem dX11_wantClauses_116 : decode cX11_wantClauses 116 = .ok (.iconst 4, 1) := by decide +kernel
theorem dX11_wantClauses_117 : decode cX11_wantClauses 117 = .ok (.if_icmp .ge 17, 3) := by decide +kernel
theorem dX11_wantClauses_120 : decode cX11_wantClauses 120 = .ok (.aload_n 0, 1) := by decide +kernel
theorem dX11_wantClauses_121 : decode cX11_wantClauses 121 = .ok (.ldc2_w 208, 3) := by decide +kernel
theorem dX11_wantClauses_124 : decode cX11_wantClauses 124 = .ok (.invokevirtual 180, 3) := by decide +kernel
theorem dX11_wantClauses_127 : decode cX11_wantClauses 127 = .ok (.ifCond .eq 7, 3) := by decide +kernel
theorem dX11_wantClauses_130 : decode cX11_wantClauses 130 = .ok (.iconst 1, 1) := by decide +kernel
theorem dX11_wantClauses_131 : decode cX11_wantClauses 131 = .ok (.goto 4, 3) := by decide +kernel
theorem dX11_wantClauses_134 : decode cX11_wantClauses 134 = .ok (.iconst 0, 1) := by decide +kernel
theorem dX11_wantClauses_135 : decode cX11_wantClauses 135 = .ok (.istore_n 2, 1) := by decide +kernel
theorem dX11_wantClauses_136 : decode cX11_wantClauses 136 = .ok (.iload_n 2, 1) := by decide +kernel
theorem dX11_wantClauses_137 : decode cX11_wantClauses 137 = .ok (.ifCond .eq 7, 3) := by decide +kernel
theorem dX11_wantClauses_140 : decode cX11_wantClauses 140 = .ok (.aload_n 0, 1) := by decide +kernel
theorem dX11_wantClauses_141 : decode cX11_wantClauses 141 = .ok (.invokevirtual 177, 3) := by decide +kernel
theorem dX11_wantClauses_144 : decode cX11_wantClauses 144 = .ok (.goto (-140), 3) := by decide +kernel
theorem dX11_wantClauses_147 : decode cX11_wantClauses 147 = .ok (.aload_n 0, 1) := by decide +kernel
theorem dX11_wantClauses_148 : decode cX11_wantClauses 148 = .ok (.getfield 32, 3) := by decide +kernel
theorem dX11_wantClauses_151 : decode cX11_wantClauses 151 = .ok (.iconst 1, 1) := by decide +kernel
theorem dX11_wantClauses_152 : decode cX11_wantClauses 152 = .ok (.iload_n 1, 1) := by decide +kernel
theorem dX11_wantClauses_153 : decode cX11_wantClauses 153 = .ok (.iastore, 1) := by decide +kernel
theorem dX11_wantClauses_154 : decode cX11_wantClauses 154 = .ok (.return_, 1) := by decide +kernel
theorem dX11_story_0 : decode cX11_story 0 = .ok (.iload_n 1, 1) := by decide +kernel
theorem dX11_story_1 : decode cX11_story 1 = .ok (.iconst 1, 1) := by decide +kernel
theorem dX11_story_2 : decode cX11_story 2 = .ok (.bipush 99, 2) := by decide +kernel
theorem dX11_story_4 : decode cX11_story 4 = .ok (.invokestatic 87, 3) := by decide +kernel
theorem dX11_story_7 : decode cX11_story 7 = .ok (.ifCond .ne 5, 3) := by decide +kernel
theorem dX11_story_10 : decode cX11_story 10 = .ok (.iconst (-1), 1) := by decide +kernel
theorem dX11_story_11 : decode cX11_story 11 = .ok (.ireturn, 1) := by decide +kernel
theorem dX11_story_12 : decode cX11_story 12 = .ok (.aload_n 0, 1) := by decide +kernel
theorem dX11_story_13 : decode cX11_story 13 = .ok (.getfield 91, 3) := by decide +kernel
theorem dX11_story_16 : decode cX11_story 16 = .ok (.bipush 8, 2) := by decide +kernel
theorem dX11_story_18 : decode cX11_story 18 = .ok (.if_icmp .ne 6, 3) := by decide +kernel
theorem dX11_story_21 : decode cX11_story 21 = .ok (.bipush (-2), 2) := by decide +kernel
theorem dX11_story_23 : decode cX11_story 23 = .ok (.ireturn, 1) := by decide +kernel
theorem dX11_story_24 : decode cX11_story 24 = .ok (.aload_n 0, 1) := by decide +kernel
theorem dX11_story_25 : decode cX11_story 25 = .ok (.invokevirtual 210, 3) := by decide +kernel
theorem dX11_story_28 : decode cX11_story 28 = .ok (.aload_n 0, 1) := by decide +kernel
theorem dX11_story_29 : decode cX11_story 29 = .ok (.getfield 32, 3) := by decide +kernel
theorem dX11_story_32 : decode cX11_story 32 = .ok (.iconst 0, 1) := by decide +kernel
theorem dX11_story_33 : decode cX11_story 33 = .ok (.iload_n 1, 1) := by decide +kernel
theorem dX11_story_34 : decode cX11_story 34 = .ok (.iastore, 1) := by decide +kernel
theorem dX11_story_35 : decode cX11_story 35 = .ok (.aload_n 0, 1) := by decide +kernel
theorem dX11_story_36 : decode cX11_story 36 = .ok (.getfield 32, 3) := by decide +kernel
theorem dX11_story_39 : decode cX11_story 39 = .ok (.iconst 1, 1) := by decide +kernel
theorem dX11_story_40 : decode cX11_story 40 = .ok (.iconst 0, 1) := by decide +kernel
theorem dX11_story_41 : decode cX11_story 41 = .ok (.iastore, 1) := by decide +kernel
theorem dX11_story_42 : decode cX11_story 42 = .ok (.aload_n 0, 1) := by decide +kernel
theorem dX11_story_43 : decode cX11_story 43 = .ok (.ldc2_w 213, 3) := by decide +kernel
theorem dX11_story_46 : decode cX11_story 46 = .ok (.invokevirtual 180, 3) := by decide +kernel
theorem dX11_story_49 : decode cX11_story 49 = .ok (.ifCond .eq 10, 3) := by decide +kernel
theorem dX11_story_52 : decode cX11_story 52 = .ok (.aload_n 0, 1) := by decide +kernel
theorem dX11_story_53 : decode cX11_story 53 = .ok (.invokevirtual 177, 3) := by decide +kernel
theorem dX11_story_56 : decode cX11_story 56 = .ok (.goto 48, 3) := by decide +kernel
theorem dX11_story_59 : decode cX11_story 59 = .ok (.aload_n 0, 1) := by decide +kernel
theorem dX11_story_60 : decode cX11_story 60 = .ok (.ldc2_w 215, 3) := by decide +kernel
theorem dX11_story_63 : decode cX11_story 63 = .ok (.invokevirtual 180, 3) := by decide +kernel
theorem dX11_story_66 : decode cX11_story 66 = .ok (.ifCond .eq 34, 3) := by decide +kernel
theorem dX11_story_69 : decode cX11_story 69 = .ok (.aload_n 0, 1) := by decide +kernel
theorem dX11_story_70 : decode cX11_story 70 = .ok (.invokevirtual 177, 3) := by decide +kernel
theorem dX11_story_73 : decode cX11_story 73 = .ok (.aload_n 0, 1) := by decide +kernel
theorem dX11_story_74 : decode cX11_story 74 = .ok (.ldc2_w 201, 3) := by decide +kernel
theorem dX11_story_77 : decode cX11_story 77 = .ok (.invokevirtual 197, 3) := by decide +kernel
theorem dX11_story_80 : decode cX11_story 80 = .ok (.aload_n 0, 1) := by decide +kernel
theorem dX11_story_81 : decode cX11_story 81 = .ok (.getfield 32, 3) := by decide +kernel
theorem dX11_story_84 : decode cX11_story 84 = .ok (.iconst 1, 1) := by decide +kernel
theorem dX11_story_85 : decode cX11_story 85 = .ok (.iconst (-1), 1) := by decide +kernel
theorem dX11_story_86 : decode cX11_story 86 = .ok (.iastore, 1) := by decide +kernel
theorem dX11_story_87 : decode cX11_story 87 = .ok (.aload_n 0, 1) := by decide +kernel
theorem dX11_story_88 : decode cX11_story 88 = .ok (.getfield 32, 3) := by decide +kernel
theorem dX11_story_91 : decode cX11_story 91 = .ok (.iconst 2, 1) := by decide +kernel
theorem dX11_story_92 : decode cX11_story 92 = .ok (.aload_n 0, 1) := by decide +kernel
theorem dX11_story_93 : decode cX11_story 93 = .ok (.invokevirtual 203, 3) := by decide +kernel
theorem dX11_story_96 : decode cX11_story 96 = .ok (.iastore, 1) := by decide +kernel
theorem dX11_story_97 : decode cX11_story 97 = .ok (.goto 7, 3) := by decide +kernel
theorem dX11_story_100 : decode cX11_story 100 = .ok (.aload_n 0, 1) := by decide +kernel
theorem dX11_story_101 : decode cX11_story 101 = .ok (.invokevirtual 217, 3) := by decide +kernel
theorem dX11_story_104 : decode cX11_story 104 = .ok (.aload_n 0, 1) := by decide +kernel
theorem dX11_story_105 : decode cX11_story 105 = .ok (.aload_n 0, 1) := by decide +kernel
theorem dX11_story_106 : decode cX11_story 106 = .ok (.getfield 173, 3) := by decide +kernel
theorem dX11_story_109 : decode cX11_story 109 = .ok (.ifCond .eq 14, 3) := by decide +kernel
theorem dX11_story_112 : decode cX11_story 112 = .ok (.aload_n 0, 1) := by decide +kernel
theorem dX11_story_113 : decode cX11_story 113 = .ok (.getfield 157, 3) := by decide +kernel
theorem dX11_story_116 : decode cX11_story 116 = .ok (.ifCond .ne 7, 3) := by decide +kernel
theorem dX11_story_119 : decode cX11_story 119 = .ok (.iconst 1, 1) := by decide +kernel
theorem dX11_story_120 : decode cX11_story 120 = .ok (.goto 4, 3) := by decide +kernel
theorem dX11_story_123 : decode cX11_story 123 = .ok (.iconst 0, 1) := by decide +kernel
theorem dX11_story_124 : decode cX11_story 124 = .ok (.putfield 173, 3) := by decide +kernel
theorem dX11_story_127 : decode cX11_story 127 = .ok (.aload_n 0, 1) := by decide +kernel
theorem dX11_story_128 : decode cX11_story 128 = .ok (.iconst 0, 1) := by decide +kernel
theorem dX11_story_129 : decode cX11_story 129 = .ok (.putfield 137, 3) := by decide +kernel
theorem dX11_story_132 : decode cX11_story 132 = .ok (.aload_n 0, 1) := by decide +kernel
theorem dX11_story_133 : decode cX11_story 133 = .ok (.getfield 173, 3) := by decide +kernel
theorem dX11_story_136 : decode cX11_story 136 = .ok (.ifCond .ne 11, 3) := by decide +kernel
theorem dX11_story_139 : decode cX11_story 139 = .ok (.bipush (-100), 2) := by decide +kernel
theorem dX11_story_141 : decode cX11_story 141 = .ok (.aload_n 0, 1) := by decide +kernel
theorem dX11_story_142 : decode cX11_story 142 = .ok (.getfield 145, 3) := by decide +kernel
theorem dX11_story_145 : decode cX11_story 145 = .ok (.isub, 1) := by decide +kernel
theorem dX11_story_146 : decode cX11_story 146 = .ok (.ireturn, 1) := by decide +kernel
theorem dX11_story_147 : decode cX11_story 147 = .ok (.iconst 0, 1) := by decide +kernel
theorem dX11_story_148 : decode cX11_story 148 = .ok (.istore_n 2, 1) := by decide +kernel
theorem dX11_story_149 : decode cX11_story 149 = .ok (.iload_n 2, 1) := by decide +kernel
theorem dX11_story_150 : decode cX11_story 150 = .ok (.bipush 16, 2) := by decide +kernel
theorem dX11_story_152 : decode cX11_story 152 = .ok (.if_icmp .ge 29, 3) := by decide +kernel
theorem dX11_story_155 : decode cX11_story 155 = .ok (.aload_n 0, 1) := by decide +kernel
theorem dX11_story_156 : decode cX11_story 156 = .ok (.getfield 20, 3) := by decide +kernel
theorem dX11_story_159 : decode cX11_story 159 = .ok (.bipush 16, 2) := by decide +kernel
theorem dX11_story_161 : decode cX11_story 161 = .ok (.aload_n 0, 1) := by decide +kernel
theorem dX11_story_162 : decode cX11_story 162 = .ok (.getfield 91, 3) := by decide +kernel
theorem dX11_story_165 : decode cX11_story 165 = .ok (.imul, 1) := by decide +kernel
theorem dX11_story_166 : decode cX11_story 166 = .ok (.iload_n 2, 1) := by decide +kernel
theorem dX11_story_167 : decode cX11_story 167 = .ok (.iadd, 1) := by decide +kernel
theorem dX11_story_168 : decode cX11_story 168 = .ok (.aload_n 0, 1) := by decide +kernel
theorem dX11_story_169 : decode cX11_story 169 = .ok (.getfield 32, 3) := by decide +kernel
theorem dX11_story_172 : decode cX11_story 172 = .ok (.iload_n 2, 1) := by decide +kernel
theorem dX11_story_173 : decode cX11_story 173 = .ok (.iaload, 1) := by decide +kernel
theorem dX11_story_174 : decode cX11_story 174 = .ok (.iastore, 1) := by decide +kernel
theorem dX11_story_175 : decode cX11_story 175 = .ok (.iinc 2 1, 3) := by decide +kernel
theorem dX11_story_178 : decode cX11_story 178 = .ok (.goto (-29), 3) := by decide +kernel
theorem dX11_story_181 : decode cX11_story 181 = .ok (.aload_n 0, 1) := by decide +kernel
theorem dX11_story_182 : decode cX11_story 182 = .ok (.dup, 1) := by decide +kernel
theorem dX11_story_183 : decode cX11_story 183 = .ok (.getfield 91, 3) := by decide +kernel
theorem dX11_story_186 : decode cX11_story 186 = .ok (.iconst 1, 1) := by decide +kernel
theorem dX11_story_187 : decode cX11_story 187 = .ok (.iadd, 1) := by decide +kernel
theorem dX11_story_188 : decode cX11_story 188 = .ok (.putfield 91, 3) := by decide +kernel
theorem dX11_story_191 : decode cX11_story 191 = .ok (.aload_n 0, 1) := by decide +kernel
theorem dX11_story_192 : decode cX11_story 192 = .ok (.getfield 91, 3) := by decide +kernel
theorem dX11_story_195 : decode cX11_story 195 = .ok (.iconst 1, 1) := by decide +kernel
theorem dX11_story_196 : decode cX11_story 196 = .ok (.isub, 1) := by decide +kernel
theorem dX11_story_197 : decode cX11_story 197 = .ok (.ireturn, 1) := by decide +kernel
theorem dX11_givesBy_0 : decode cX11_givesBy 0 = .ok (.aload_n 0, 1) := by decide +kernel
theorem dX11_givesBy_1 : decode cX11_givesBy 1 = .ok (.getfield 20, 3) := by decide +kernel
theorem dX11_givesBy_4 : decode cX11_givesBy 4 = .ok (.bipush 16, 2) := by decide +kernel
theorem dX11_givesBy_6 : decode cX11_givesBy 6 = .ok (.iload_n 1, 1) := by decide +kernel
theorem dX11_givesBy_7 : decode cX11_givesBy 7 = .ok (.imul, 1) := by decide +kernel
theorem dX11_givesBy_8 : decode cX11_givesBy 8 = .ok (.iconst 1, 1) := by decide +kernel
theorem dX11_givesBy_9 : decode cX11_givesBy 9 = .ok (.iadd, 1) := by decide +kernel
theorem dX11_givesBy_10 : decode cX11_givesBy 10 = .ok (.iaload, 1) := by decide +kernel
theorem dX11_givesBy_11 : decode cX11_givesBy 11 = .ok (.istore 4, 2) := by decide +kernel
theorem dX11_givesBy_13 : decode cX11_givesBy 13 = .ok (.iload 4, 2) := by decide +kernel
theorem dX11_givesBy_15 : decode cX11_givesBy 15 = .ok (.ifCond .ge 15, 3) := by decide +kernel
theorem dX11_givesBy_18 : decode cX11_givesBy 18 = .ok (.aload_n 0, 1) := by decide +kernel
theorem dX11_givesBy_19 : decode cX11_givesBy 19 = .ok (.getfield 20, 3) := by decide +kernel
theorem dX11_givesBy_22 : decode cX11_givesBy 22 = .ok (.bipush 16, 2) := by decide +kernel
theorem dX11_givesBy_24 : decode cX11_givesBy 24 = .ok (.iload_n 1, 1) := by decide +kernel
theorem dX11_givesBy_25 : decode cX11_givesBy 25 = .ok (.imul, 1) := by decide +kernel
theorem dX11_givesBy_26 : decode cX11_givesBy 26 = .ok (.iconst 2, 1) := by decide +kernel
theorem dX11_givesBy_27 : decode cX11_givesBy 27 = .ok (.iadd, 1) := by decide +kernel
theorem dX11_givesBy_28 : decode cX11_givesBy 28 = .ok (.iaload, 1) := by decide +kernel
theorem dX11_givesBy_29 : decode cX11_givesBy 29 = .ok (.ireturn, 1) := by decide +kernel
theorem dX11_givesBy_30 : decode cX11_givesBy 30 = .ok (.iconst 0, 1) := by decide +kernel
theorem dX11_givesBy_31 : decode cX11_givesBy 31 = .ok (.istore 5, 2) := by decide +kernel
theorem dX11_givesBy_33 : decode cX11_givesBy 33 = .ok (.iconst 0, 1) := by decide +kernel
theorem dX11_givesBy_34 : decode cX11_givesBy 34 = .ok (.istore 6, 2) := by decide +kernel
theorem dX11_givesBy_36 : decode cX11_givesBy 36 = .ok (.iload 6, 2) := by decide +kernel
theorem dX11_givesBy_38 : decode cX11_givesBy 38 = .ok (.iload 4, 2) := by decide +kernel
theorem dX11_givesBy_40 : decode cX11_givesBy 40 = .ok (.if_icmp .ge 112, 3) := by decide +kernel
theorem dX11_givesBy_43 : decode cX11_givesBy 43 = .ok (.bipush 16, 2) := by decide +kernel
theorem dX11_givesBy_45 : decode cX11_givesBy 45 = .ok (.iload_n 1, 1) := by decide +kernel
theorem dX11_givesBy_46 : decode cX11_givesBy 46 = .ok (.imul, 1) := by decide +kernel
theorem dX11_givesBy_47 : decode cX11_givesBy 47 = .ok (.iconst 2, 1) := by decide +kernel
theorem dX11_givesBy_48 : decode cX11_givesBy 48 = .ok (.iadd, 1) := by decide +kernel
theorem dX11_givesBy_49 : decode cX11_givesBy 49 = .ok (.iconst 3, 1) := by decide +kernel
theorem dX11_givesBy_50 : decode cX11_givesBy 50 = .ok (.iload 6, 2) := by decide +kernel
theorem dX11_givesBy_52 : decode cX11_givesBy 52 = .ok (.imul, 1) := by decide +kernel
theorem dX11_givesBy_53 : decode cX11_givesBy 53 = .ok (.iadd, 1) := by decide +kernel
theorem dX11_givesBy_54 : decode cX11_givesBy 54 = .ok (.istore 7, 2) := by decide +kernel
theorem dX11_givesBy_56 : decode cX11_givesBy 56 = .ok (.aload_n 0, 1) := by decide +kernel
theorem dX11_givesBy_57 : decode cX11_givesBy 57 = .ok (.aload_n 0, 1) := by decide +kernel
theorem dX11_givesBy_58 : decode cX11_givesBy 58 = .ok (.getfield 20, 3) := by decide +kernel
theorem dX11_givesBy_61 : decode cX11_givesBy 61 = .ok (.iload 7, 2) := by decide +kernel
theorem dX11_givesBy_63 : decode cX11_givesBy 63 = .ok (.iaload, 1) := by decide +kernel
theorem dX11_givesBy_64 : decode cX11_givesBy 64 = .ok (.invokevirtual 98, 3) := by decide +kernel
theorem dX11_givesBy_67 : decode cX11_givesBy 67 = .ok (.ifCond .eq 53, 3) := by decide +kernel
theorem dX11_givesBy_70 : decode cX11_givesBy 70 = .ok (.aload_n 0, 1) := by decide +kernel
theorem dX11_givesBy_71 : decode cX11_givesBy 71 = .ok (.aload_n 0, 1) := by decide +kernel
theorem dX11_givesBy_72 : decode cX11_givesBy 72 = .ok (.aload_n 0, 1) := by decide +kernel
theorem dX11_givesBy_73 : decode cX11_givesBy 73 = .ok (.getfield 20, 3) := by decide +kernel
theorem dX11_givesBy_76 : decode cX11_givesBy 76 = .ok (.iload 7, 2) := by decide +kernel
theorem dX11_givesBy_78 : decode cX11_givesBy 78 = .ok (.iaload, 1) := by decide +kernel
theorem dX11_givesBy_79 : decode cX11_givesBy 79 = .ok (.invokevirtual 98, 3) := by decide +kernel
theorem dX11_givesBy_82 : decode cX11_givesBy 82 = .ok (.ifCond .eq 13, 3) := by decide +kernel
theorem dX11_givesBy_85 : decode cX11_givesBy 85 = .ok (.aload_n 0, 1) := by decide +kernel
theorem dX11_givesBy_86 : decode cX11_givesBy 86 = .ok (.getfield 20, 3) := by decide +kernel
theorem dX11_givesBy_89 : decode cX11_givesBy 89 = .ok (.iload 7, 2) := by decide +kernel
theorem dX11_givesBy_91 : decode cX11_givesBy 91 = .ok (.iaload, 1) := by decide +kernel
theorem dX11_givesBy_92 : decode cX11_givesBy 92 = .ok (.goto 4, 3) := by decide +kernel
theorem dX11_givesBy_95 : decode cX11_givesBy 95 = .ok (.iconst 0, 1) := by decide +kernel
theorem dX11_givesBy_96 : decode cX11_givesBy 96 = .ok (.iload_n 2, 1) := by decide +kernel
theorem dX11_givesBy_97 : decode cX11_givesBy 97 = .ok (.invokevirtual 123, 3) := by decide +kernel
theorem dX11_givesBy_100 : decode cX11_givesBy 100 = .ok (.ifCond .eq 20, 3) := by decide +kernel
theorem dX11_givesBy_103 : decode cX11_givesBy 103 = .ok (.aload_n 0, 1) := by decide +kernel
theorem dX11_givesBy_104 : decode cX11_givesBy 104 = .ok (.getfield 20, 3) := by decide +kernel
theorem dX11_givesBy_107 : decode cX11_givesBy 107 = .ok (.iload 7, 2) := by decide +kernel
theorem dX11_givesBy_109 : decode cX11_givesBy 109 = .ok (.iconst 2, 1) := by decide +kernel
theorem dX11_givesBy_110 : decode cX11_givesBy 110 = .ok (.iadd, 1) := by decide +kernel
theorem dX11_givesBy_111 : decode cX11_givesBy 111 = .ok (.iaload, 1) := by decide +kernel
theorem dX11_givesBy_112 : decode cX11_givesBy 112 = .ok (.iload_n 3, 1) := by decide +kernel
theorem dX11_givesBy_113 : decode cX11_givesBy 113 = .ok (.if_icmp .gt 7, 3) := by decide +kernel
theorem dX11_givesBy_116 : decode cX11_givesBy 116 = .ok (.iconst 1, 1) := by decide +kernel
theorem dX11_givesBy_117 : decode cX11_givesBy 117 = .ok (.goto 4, 3) := by decide +kernel
theorem dX11_givesBy_120 : decode cX11_givesBy 120 = .ok (.iconst 0, 1) := by decide +kernel
theorem dX11_givesBy_121 : decode cX11_givesBy 121 = .ok (.istore 8, 2) := by decide +kernel
theorem dX11_givesBy_123 : decode cX11_givesBy 123 = .ok (.iload 5, 2) := by decide +kernel
theorem dX11_givesBy_125 : decode cX11_givesBy 125 = .ok (.iload 8, 2) := by decide +kernel
theorem dX11_givesBy_127 : decode cX11_givesBy 127 = .ok (.ifCond .eq 15, 3) := by decide +kernel
theorem dX11_givesBy_130 : decode cX11_givesBy 130 = .ok (.aload_n 0, 1) := by decide +kernel
theorem dX11_givesBy_131 : decode cX11_givesBy 131 = .ok (.getfield 20, 3) := by decide +kernel
theorem dX11_givesBy_134 : decode cX11_givesBy 134 = .ok (.iload 7, 2) := by decide +kernel
theorem dX11_givesBy_136 : decode cX11_givesBy 136 = .ok (.iconst 1, 1) := by decide +kernel
theorem dX11_givesBy_137 : decode cX11_givesBy 137 = .ok (.iadd, 1) := by decide +kernel
theorem dX11_givesBy_138 : decode cX11_givesBy 138 = .ok (.iaload, 1) := by decide +kernel
theorem dX11_givesBy_139 : decode cX11_givesBy 139 = .ok (.goto 4, 3) := by decide +kernel
theorem dX11_givesBy_142 : decode cX11_givesBy 142 = .ok (.iconst 0, 1) := by decide +kernel
theorem dX11_givesBy_143 : decode cX11_givesBy 143 = .ok (.iadd, 1) := by decide +kernel
theorem dX11_givesBy_144 : decode cX11_givesBy 144 = .ok (.istore 5, 2) := by decide +kernel
theorem dX11_givesBy_146 : decode cX11_givesBy 146 = .ok (.iinc 6 1, 3) := by decide +kernel
theorem dX11_givesBy_149 : decode cX11_givesBy 149 = .ok (.goto (-113), 3) := by decide +kernel
theorem dX11_givesBy_152 : decode cX11_givesBy 152 = .ok (.iload 5, 2) := by decide +kernel
theorem dX11_givesBy_154 : decode cX11_givesBy 154 = .ok (.ireturn, 1) := by decide +kernel
theorem dX11_gives_0 : decode cX11_gives 0 = .ok (.aload_n 0, 1) := by decide +kernel
theorem dX11_gives_1 : decode cX11_gives 1 = .ok (.iload_n 1, 1) := by decide +kernel
theorem dX11_gives_2 : decode cX11_gives 2 = .ok (.invokevirtual 220, 3) := by decide +kernel
theorem dX11_gives_5 : decode cX11_gives 5 = .ok (.ifCond .eq 27, 3) := by decide +kernel
theorem dX11_gives_8 : decode cX11_gives 8 = .ok (.iload_n 2, 1) := by decide +kernel
theorem dX11_gives_9 : decode cX11_gives 9 = .ok (.invokestatic 119, 3) := by decide +kernel
theorem dX11_gives_12 : decode cX11_gives 12 = .ok (.ifCond .eq 20, 3) := by decide +kernel
theorem dX11_gives_15 : decode cX11_gives 15 = .ok (.iload_n 3, 1) := by decide +kernel
theorem dX11_gives_16 : decode cX11_gives 16 = .ok (.invokestatic 110, 3) := by decide +kernel
theorem dX11_gives_19 : decode cX11_gives 19 = .ok (.ifCond .eq 13, 3) := by decide +kernel
theorem dX11_gives_22 : decode cX11_gives 22 = .ok (.aload_n 0, 1) := by decide +kernel
theorem dX11_gives_23 : decode cX11_gives 23 = .ok (.iload_n 1, 1) := by decide +kernel
theorem dX11_gives_24 : decode cX11_gives 24 = .ok (.iload_n 2, 1) := by decide +kernel
theorem dX11_gives_25 : decode cX11_gives 25 = .ok (.iload_n 3, 1) := by decide +kernel
theorem dX11_gives_26 : decode cX11_gives 26 = .ok (.invokevirtual 223, 3) := by decide +kernel
theorem dX11_gives_29 : decode cX11_gives 29 = .ok (.goto 5, 3) := by decide +kernel
theorem dX11_gives_32 : decode cX11_gives 32 = .ok (.ldc 102, 2) := by decide +kernel
theorem dX11_gives_34 : decode cX11_gives 34 = .ok (.ireturn, 1) := by decide +kernel
theorem dX11_findsBy_0 : decode cX11_findsBy 0 = .ok (.iconst 0, 1) := by decide +kernel
theorem dX11_findsBy_1 : decode cX11_findsBy 1 = .ok (.istore_n 3, 1) := by decide +kernel
theorem dX11_findsBy_2 : decode cX11_findsBy 2 = .ok (.iconst 0, 1) := by decide +kernel
theorem dX11_findsBy_3 : decode cX11_findsBy 3 = .ok (.istore 4, 2) := by decide +kernel
theorem dX11_findsBy_5 : decode cX11_findsBy 5 = .ok (.iload 4, 2) := by decide +kernel
theorem dX11_findsBy_7 : decode cX11_findsBy 7 = .ok (.aload_n 0, 1) := by decide +kernel
theorem dX11_findsBy_8 : decode cX11_findsBy 8 = .ok (.getfield 20, 3) := by decide +kernel
theorem dX11_findsBy_11 : decode cX11_findsBy 11 = .ok (.bipush 16, 2) := by decide +kernel
theorem dX11_findsBy_13 : decode cX11_findsBy 13 = .ok (.iload_n 1, 1) := by decide +kernel
theorem dX11_findsBy_14 : decode cX11_findsBy 14 = .ok (.imul, 1) := by decide +kernel
theorem dX11_findsBy_15 : decode cX11_findsBy 15 = .ok (.iconst 1, 1) := by decide +kernel
theorem dX11_findsBy_16 : decode cX11_findsBy 16 = .ok (.iadd, 1) := by decide +kernel
theorem dX11_findsBy_17 : decode cX11_findsBy 17 = .ok (.iaload, 1) := by decide +kernel
theorem dX11_findsBy_18 : decode cX11_findsBy 18 = .ok (.if_icmp .ge 65, 3) := by decide +kernel
theorem dX11_findsBy_21 : decode cX11_findsBy 21 = .ok (.bipush 16, 2) := by decide +kernel
theorem dX11_findsBy_23 : decode cX11_findsBy 23 = .ok (.iload_n 1, 1) := by decide +kernel
theorem dX11_findsBy_24 : decode cX11_findsBy 24 = .ok (.imul, 1) := by decide +kernel
theorem dX11_findsBy_25 : decode cX11_findsBy 25 = .ok (.iconst 2, 1) := by decide +kernel
theorem dX11_findsBy_26 : decode cX11_findsBy 26 = .ok (.iadd, 1) := by decide +kernel
theorem dX11_findsBy_27 : decode cX11_findsBy 27 = .ok (.iconst 3, 1) := by decide +kernel
theorem dX11_findsBy_28 : decode cX11_findsBy 28 = .ok (.iload 4, 2) := by decide +kernel
theorem dX11_findsBy_30 : decode cX11_findsBy 30 = .ok (.imul, 1) := by decide +kernel
theorem dX11_findsBy_31 : decode cX11_findsBy 31 = .ok (.iadd, 1) := by decide +kernel
theorem dX11_findsBy_32 : decode cX11_findsBy 32 = .ok (.istore 5, 2) := by decide +kernel
theorem dX11_findsBy_34 : decode cX11_findsBy 34 = .ok (.iload_n 3, 1) := by decide +kernel
theorem dX11_findsBy_35 : decode cX11_findsBy 35 = .ok (.aload_n 0, 1) := by decide +kernel
theorem dX11_findsBy_36 : decode cX11_findsBy 36 = .ok (.getfield 20, 3) := by decide +kernel
theorem dX11_findsBy_39 : decode cX11_findsBy 39 = .ok (.iload 5, 2) := by decide +kernel
theorem dX11_findsBy_41 : decode cX11_findsBy 41 = .ok (.iaload, 1) := by decide +kernel
theorem dX11_findsBy_42 : decode cX11_findsBy 42 = .ok (.iload_n 2, 1) := by decide +kernel
theorem dX11_findsBy_43 : decode cX11_findsBy 43 = .ok (.if_icmp .ne 31, 3) := by decide +kernel
theorem dX11_findsBy_46 : decode cX11_findsBy 46 = .ok (.aload_n 0, 1) := by decide +kernel
theorem dX11_findsBy_47 : decode cX11_findsBy 47 = .ok (.getfield 20, 3) := by decide +kernel
theorem dX11_findsBy_50 : decode cX11_findsBy 50 = .ok (.iload 5, 2) := by decide +kernel
theorem dX11_findsBy_52 : decode cX11_findsBy 52 = .ok (.iconst 2, 1) := by decide +kernel
theorem dX11_findsBy_53 : decode cX11_findsBy 53 = .ok (.iadd, 1) := by decide +kernel
theorem dX11_findsBy_54 : decode cX11_findsBy 54 = .ok (.iaload, 1) := by decide +kernel
theorem dX11_findsBy_55 : decode cX11_findsBy 55 = .ok (.aload_n 0, 1) := by decide +kernel
theorem dX11_findsBy_56 : decode cX11_findsBy 56 = .ok (.getfield 103, 3) := by decide +kernel
theorem dX11_findsBy_59 : decode cX11_findsBy 59 = .ok (.if_icmp .gt 15, 3) := by decide +kernel
theorem dX11_findsBy_62 : decode cX11_findsBy 62 = .ok (.aload_n 0, 1) := by decide +kernel
theorem dX11_findsBy_63 : decode cX11_findsBy 63 = .ok (.getfield 20, 3) := by decide +kernel
theorem dX11_findsBy_66 : decode cX11_findsBy 66 = .ok (.iload 5, 2) := by decide +kernel
theorem dX11_findsBy_68 : decode cX11_findsBy 68 = .ok (.iconst 1, 1) := by decide +kernel
theorem dX11_findsBy_69 : decode cX11_findsBy 69 = .ok (.iadd, 1) := by decide +kernel
theorem dX11_findsBy_70 : decode cX11_findsBy 70 = .ok (.iaload, 1) := by decide +kernel
theorem dX11_findsBy_71 : decode cX11_findsBy 71 = .ok (.goto 4, 3) := by decide +kernel
theorem dX11_findsBy_74 : decode cX11_findsBy 74 = .ok (.iconst 0, 1) := by decide +kernel
theorem dX11_findsBy_75 : decode cX11_findsBy 75 = .ok (.iadd, 1) := by decide +kernel
theorem dX11_findsBy_76 : decode cX11_findsBy 76 = .ok (.istore_n 3, 1) := by decide +kernel
theorem dX11_findsBy_77 : decode cX11_findsBy 77 = .ok (.iinc 4 1, 3) := by decide +kernel
theorem dX11_findsBy_80 : decode cX11_findsBy 80 = .ok (.goto (-75), 3) := by decide +kernel
theorem dX11_findsBy_83 : decode cX11_findsBy 83 = .ok (.iload_n 3, 1) := by decide +kernel
theorem dX11_findsBy_84 : decode cX11_findsBy 84 = .ok (.ireturn, 1) := by decide +kernel
theorem dX11_finds_0 : decode cX11_finds 0 = .ok (.aload_n 0, 1) := by decide +kernel
theorem dX11_finds_1 : decode cX11_finds 1 = .ok (.iload_n 1, 1) := by decide +kernel
theorem dX11_finds_2 : decode cX11_finds 2 = .ok (.invokevirtual 220, 3) := by decide +kernel
theorem dX11_finds_5 : decode cX11_finds 5 = .ok (.ifCond .eq 20, 3) := by decide +kernel
theorem dX11_finds_8 : decode cX11_finds 8 = .ok (.aload_n 0, 1) := by decide +kernel
theorem dX11_finds_9 : decode cX11_finds 9 = .ok (.iload_n 2, 1) := by decide +kernel
theorem dX11_finds_10 : decode cX11_finds 10 = .ok (.invokevirtual 98, 3) := by decide +kernel
theorem dX11_finds_13 : decode cX11_finds 13 = .ok (.ifCond .eq 12, 3) := by decide +kernel
theorem dX11_finds_16 : decode cX11_finds 16 = .ok (.aload_n 0, 1) := by decide +kernel
theorem dX11_finds_17 : decode cX11_finds 17 = .ok (.iload_n 1, 1) := by decide +kernel
theorem dX11_finds_18 : decode cX11_finds 18 = .ok (.iload_n 2, 1) := by decide +kernel
theorem dX11_finds_19 : decode cX11_finds 19 = .ok (.invokevirtual 226, 3) := by decide +kernel
theorem dX11_finds_22 : decode cX11_finds 22 = .ok (.goto 5, 3) := by decide +kernel
theorem dX11_finds_25 : decode cX11_finds 25 = .ok (.ldc 102, 2) := by decide +kernel
theorem dX11_finds_27 : decode cX11_finds 27 = .ok (.ireturn, 1) := by decide +kernel
theorem dX11_far_0 : decode cX11_far 0 = .ok (.aload_n 0, 1) := by decide +kernel
theorem dX11_far_1 : decode cX11_far 1 = .ok (.getfield 17, 3) := by decide +kernel
theorem dX11_far_4 : decode cX11_far 4 = .ok (.iconst 3, 1) := by decide +kernel
theorem dX11_far_5 : decode cX11_far 5 = .ok (.iload_n 2, 1) := by decide +kernel
theorem dX11_far_6 : decode cX11_far 6 = .ok (.imul, 1) := by decide +kernel
theorem dX11_far_7 : decode cX11_far 7 = .ok (.iconst 2, 1) := by decide +kernel
theorem dX11_far_8 : decode cX11_far 8 = .ok (.iadd, 1) := by decide +kernel
theorem dX11_far_9 : decode cX11_far 9 = .ok (.iaload, 1) := by decide +kernel
theorem dX11_far_10 : decode cX11_far 10 = .ok (.aload_n 0, 1) := by decide +kernel
theorem dX11_far_11 : decode cX11_far 11 = .ok (.iload_n 1, 1) := by decide +kernel
theorem dX11_far_12 : decode cX11_far 12 = .ok (.aload_n 0, 1) := by decide +kernel
theorem dX11_far_13 : decode cX11_far 13 = .ok (.getfield 17, 3) := by decide +kernel
theorem dX11_far_16 : decode cX11_far 16 = .ok (.iconst 3, 1) := by decide +kernel
theorem dX11_far_17 : decode cX11_far 17 = .ok (.iload_n 2, 1) := by decide +kernel
theorem dX11_far_18 : decode cX11_far 18 = .ok (.imul, 1) := by decide +kernel
theorem dX11_far_19 : decode cX11_far 19 = .ok (.iconst 1, 1) := by decide +kernel
theorem dX11_far_20 : decode cX11_far 20 = .ok (.iadd, 1) := by decide +kernel
theorem dX11_far_21 : decode cX11_far 21 = .ok (.iaload, 1) := by decide +kernel
theorem dX11_far_22 : decode cX11_far 22 = .ok (.aload_n 0, 1) := by decide +kernel
theorem dX11_far_23 : decode cX11_far 23 = .ok (.getfield 17, 3) := by decide +kernel
theorem dX11_far_26 : decode cX11_far 26 = .ok (.iconst 3, 1) := by decide +kernel
theorem dX11_far_27 : decode cX11_far 27 = .ok (.iload_n 2, 1) := by decide +kernel
theorem dX11_far_28 : decode cX11_far 28 = .ok (.imul, 1) := by decide +kernel
theorem dX11_far_29 : decode cX11_far 29 = .ok (.iaload, 1) := by decide +kernel
theorem dX11_far_30 : decode cX11_far 30 = .ok (.invokevirtual 223, 3) := by decide +kernel
theorem dX11_far_33 : decode cX11_far 33 = .ok (.isub, 1) := by decide +kernel
theorem dX11_far_34 : decode cX11_far 34 = .ok (.invokestatic 229, 3) := by decide +kernel
theorem dX11_far_37 : decode cX11_far 37 = .ok (.ireturn, 1) := by decide +kernel
theorem dX11_missOf_0 : decode cX11_missOf 0 = .ok (.iconst 0, 1) := by decide +kernel
theorem dX11_missOf_1 : decode cX11_missOf 1 = .ok (.istore_n 2, 1) := by decide +kernel
theorem dX11_missOf_2 : decode cX11_missOf 2 = .ok (.iconst 0, 1) := by decide +kernel
theorem dX11_missOf_3 : decode cX11_missOf 3 = .ok (.istore_n 3, 1) := by decide +kernel
theorem dX11_missOf_4 : decode cX11_missOf 4 = .ok (.iload_n 3, 1) := by decide +kernel
theorem dX11_missOf_5 : decode cX11_missOf 5 = .ok (.aload_n 0, 1) := by decide +kernel
theorem dX11_missOf_6 : decode cX11_missOf 6 = .ok (.getfield 116, 3) := by decide +kernel
theorem dX11_missOf_9 : decode cX11_missOf 9 = .ok (.if_icmp .ge 18, 3) := by decide +kernel
theorem dX11_missOf_12 : decode cX11_missOf 12 = .ok (.iload_n 2, 1) := by decide +kernel
theorem dX11_missOf_13 : decode cX11_missOf 13 = .ok (.aload_n 0, 1) := by decide +kernel
theorem dX11_missOf_14 : decode cX11_missOf 14 = .ok (.iload_n 1, 1) := by decide +kernel
theorem dX11_missOf_15 : decode cX11_missOf 15 = .ok (.iload_n 3, 1) := by decide +kernel
theorem dX11_missOf_16 : decode cX11_missOf 16 = .ok (.invokevirtual 232, 3) := by decide +kernel
theorem dX11_missOf_19 : decode cX11_missOf 19 = .ok (.iadd, 1) := by decide +kernel
theorem dX11_missOf_20 : decode cX11_missOf 20 = .ok (.istore_n 2, 1) := by decide +kernel
theorem dX11_missOf_21 : decode cX11_missOf 21 = .ok (.iinc 3 1, 3) := by decide +kernel
theorem dX11_missOf_24 : decode cX11_missOf 24 = .ok (.goto (-20), 3) := by decide +kernel
theorem dX11_missOf_27 : decode cX11_missOf 27 = .ok (.iload_n 2, 1) := by decide +kernel
theorem dX11_missOf_28 : decode cX11_missOf 28 = .ok (.ireturn, 1) := by decide +kernel
theorem dX11_miss_0 : decode cX11_miss 0 = .ok (.aload_n 0, 1) := by decide +kernel
theorem dX11_miss_1 : decode cX11_miss 1 = .ok (.iload_n 1, 1) := by decide +kernel
theorem dX11_miss_2 : decode cX11_miss 2 = .ok (.invokevirtual 220, 3) := by decide +kernel
theorem dX11_miss_5 : decode cX11_miss 5 = .ok (.ifCond .eq 11, 3) := by decide +kernel
theorem dX11_miss_8 : decode cX11_miss 8 = .ok (.aload_n 0, 1) := by decide +kernel
theorem dX11_miss_9 : decode cX11_miss 9 = .ok (.iload_n 1, 1) := by decide +kernel
theorem dX11_miss_10 : decode cX11_miss 10 = .ok (.invokevirtual 235, 3) := by decide +kernel
theorem dX11_miss_13 : decode cX11_miss 13 = .ok (.goto 4, 3) := by decide +kernel
theorem dX11_miss_16 : decode cX11_miss 16 = .ok (.iconst (-1), 1) := by decide +kernel
theorem dX11_miss_17 : decode cX11_miss 17 = .ok (.ireturn, 1) := by decide +kernel
theorem dX11_likelyOne_0 : decode cX11_likelyOne 0 = .ok (.bipush (-3), 2) := by decide +kernel
theorem dX11_likelyOne_2 : decode cX11_likelyOne 2 = .ok (.istore_n 1, 1) := by decide +kernel
theorem dX11_likelyOne_3 : decode cX11_likelyOne 3 = .ok (.iconst 0, 1) := by decide +kernel
theorem dX11_likelyOne_4 : decode cX11_likelyOne 4 = .ok (.istore_n 2, 1) := by decide +kernel
theorem dX11_likelyOne_5 : decode cX11_likelyOne 5 = .ok (.iconst 0, 1) := by decide +kernel
theorem dX11_likelyOne_6 : decode cX11_likelyOne 6 = .ok (.istore_n 3, 1) := by decide +kernel
theorem dX11_likelyOne_7 : decode cX11_likelyOne 7 = .ok (.iload_n 3, 1) := by decide +kernel
theorem dX11_likelyOne_8 : decode cX11_likelyOne 8 = .ok (.aload_n 0, 1) := by decide +kernel
theorem dX11_likelyOne_9 : decode cX11_likelyOne 9 = .ok (.getfield 91, 3) := by decide +kernel
theorem dX11_likelyOne_12 : decode cX11_likelyOne 12 = .ok (.if_icmp .ge 31, 3) := by decide +kernel
theorem dX11_likelyOne_15 : decode cX11_likelyOne 15 = .ok (.aload_n 0, 1) := by decide +kernel
theorem dX11_likelyOne_16 : decode cX11_likelyOne 16 = .ok (.iload_n 3, 1) := by decide +kernel
theorem dX11_likelyOne_17 : decode cX11_likelyOne 17 = .ok (.invokevirtual 235, 3) := by decide +kernel
theorem dX11_likelyOne_20 : decode cX11_likelyOne 20 = .ok (.istore 4, 2) := by decide +kernel
theorem dX11_likelyOne_22 : decode cX11_likelyOne 22 = .ok (.iload_n 1, 1) := by decide +kernel
theorem dX11_likelyOne_23 : decode cX11_likelyOne 23 = .ok (.ifCond .lt 9, 3) := by decide +kernel
theorem dX11_likelyOne_26 : decode cX11_likelyOne 26 = .ok (.iload 4, 2) := by decide +kernel
theorem dX11_likelyOne_28 : decode cX11_likelyOne 28 = .ok (.iload_n 2, 1) := by decide +kernel
theorem dX11_likelyOne_29 : decode cX11_likelyOne 29 = .ok (.if_icmp .ge 8, 3) := by decide +kernel
theorem dX11_likelyOne_32 : decode cX11_likelyOne 32 = .ok (.iload 4, 2) := by decide +kernel
theorem dX11_likelyOne_34 : decode cX11_likelyOne 34 = .ok (.istore_n 2, 1) := by decide +kernel
theorem dX11_likelyOne_35 : decode cX11_likelyOne 35 = .ok (.iload_n 3, 1) := by decide +kernel
theorem dX11_likelyOne_36 : decode cX11_likelyOne 36 = .ok (.istore_n 1, 1) := by decide +kernel
theorem dX11_likelyOne_37 : decode cX11_likelyOne 37 = .ok (.iinc 3 1, 3) := by decide +kernel
theorem dX11_likelyOne_40 : decode cX11_likelyOne 40 = .ok (.goto (-33), 3) := by decide +kernel
theorem dX11_likelyOne_43 : decode cX11_likelyOne 43 = .ok (.iload_n 1, 1) := by decide +kernel
theorem dX11_likelyOne_44 : decode cX11_likelyOne 44 = .ok (.ireturn, 1) := by decide +kernel
theorem dX11_likely_0 : decode cX11_likely 0 = .ok (.aload_n 0, 1) := by decide +kernel
theorem dX11_likely_1 : decode cX11_likely 1 = .ok (.invokevirtual 238, 3) := by decide +kernel
theorem dX11_likely_4 : decode cX11_likely 4 = .ok (.ireturn, 1) := by decide +kernel
theorem dX11_lowest_0 : decode cX11_lowest 0 = .ok (.lload_n 1, 1) := by decide +kernel
theorem dX11_lowest_1 : decode cX11_lowest 1 = .ok (.lconst 0, 1) := by decide +kernel
theorem dX11_lowest_2 : decode cX11_lowest 2 = .ok (.lcmp, 1) := by decide +kernel
theorem dX11_lowest_3 : decode cX11_lowest 3 = .ok (.ifCond .ge 8, 3) := by decide +kernel
theorem dX11_lowest_6 : decode cX11_lowest 6 = .ok (.lload_n 1, 1) := by decide +kernel
theorem dX11_lowest_7 : decode cX11_lowest 7 = .ok (.lneg, 1) := by decide +kernel
theorem dX11_lowest_8 : decode cX11_lowest 8 = .ok (.goto 4, 3) := by decide +kernel
theorem dX11_lowest_11 : decode cX11_lowest 11 = .ok (.lload_n 1, 1) := by decide +kernel
theorem dX11_lowest_12 : decode cX11_lowest 12 = .ok (.lstore 5, 2) := by decide +kernel
theorem dX11_lowest_14 : decode cX11_lowest 14 = .ok (.lload_n 3, 1) := by decide +kernel
theorem dX11_lowest_15 : decode cX11_lowest 15 = .ok (.lstore 7, 2) := by decide +kernel
theorem dX11_lowest_17 : decode cX11_lowest 17 = .ok (.lload 7, 2) := by decide +kernel
theorem dX11_lowest_19 : decode cX11_lowest 19 = .ok (.lconst 0, 1) := by decide +kernel
theorem dX11_lowest_20 : decode cX11_lowest 20 = .ok (.lcmp, 1) := by decide +kernel
theorem dX11_lowest_21 : decode cX11_lowest 21 = .ok (.ifCond .eq 21, 3) := by decide +kernel
theorem dX11_lowest_24 : decode cX11_lowest 24 = .ok (.lload 5, 2) := by decide +kernel
theorem dX11_lowest_26 : decode cX11_lowest 26 = .ok (.lload 7, 2) := by decide +kernel
theorem dX11_lowest_28 : decode cX11_lowest 28 = .ok (.lrem, 1) := by decide +kernel
theorem dX11_lowest_29 : decode cX11_lowest 29 = .ok (.lstore 9, 2) := by decide +kernel
theorem dX11_lowest_31 : decode cX11_lowest 31 = .ok (.lload 7, 2) := by decide +kernel
theorem dX11_lowest_33 : decode cX11_lowest 33 = .ok (.lstore 5, 2) := by decide +kernel
theorem dX11_lowest_35 : decode cX11_lowest 35 = .ok (.lload 9, 2) := by decide +kernel
theorem dX11_lowest_37 : decode cX11_lowest 37 = .ok (.lstore 7, 2) := by decide +kernel
theorem dX11_lowest_39 : decode cX11_lowest 39 = .ok (.goto (-22), 3) := by decide +kernel
theorem dX11_lowest_42 : decode cX11_lowest 42 = .ok (.aload_n 0, 1) := by decide +kernel
theorem dX11_lowest_43 : decode cX11_lowest 43 = .ok (.lload_n 1, 1) := by decide +kernel
theorem dX11_lowest_44 : decode cX11_lowest 44 = .ok (.lload 5, 2) := by decide +kernel
theorem dX11_lowest_46 : decode cX11_lowest 46 = .ok (.ldiv, 1) := by decide +kernel
theorem dX11_lowest_47 : decode cX11_lowest 47 = .ok (.putfield 241, 3) := by decide +kernel
theorem dX11_lowest_50 : decode cX11_lowest 50 = .ok (.aload_n 0, 1) := by decide +kernel
theorem dX11_lowest_51 : decode cX11_lowest 51 = .ok (.lload_n 3, 1) := by decide +kernel
theorem dX11_lowest_52 : decode cX11_lowest 52 = .ok (.lload 5, 2) := by decide +kernel
theorem dX11_lowest_54 : decode cX11_lowest 54 = .ok (.ldiv, 1) := by decide +kernel
theorem dX11_lowest_55 : decode cX11_lowest 55 = .ok (.putfield 244, 3) := by decide +kernel
theorem dX11_lowest_58 : decode cX11_lowest 58 = .ok (.return_, 1) := by decide +kernel
theorem dX11_weightOf_0 : decode cX11_weightOf 0 = .ok (.aload_n 0, 1) := by decide +kernel
theorem dX11_weightOf_1 : decode cX11_weightOf 1 = .ok (.getfield 20, 3) := by decide +kernel
theorem dX11_weightOf_4 : decode cX11_weightOf 4 = .ok (.bipush 16, 2) := by decide +kernel
theorem dX11_weightOf_6 : decode cX11_weightOf 6 = .ok (.iload_n 1, 1) := by decide +kernel
theorem dX11_weightOf_7 : decode cX11_weightOf 7 = .ok (.imul, 1) := by decide +kernel
theorem dX11_weightOf_8 : decode cX11_weightOf 8 = .ok (.iaload, 1) := by decide +kernel
theorem dX11_weightOf_9 : decode cX11_weightOf 9 = .ok (.i2l, 1) := by decide +kernel
theorem dX11_weightOf_10 : decode cX11_weightOf 10 = .ok (.lstore_n 2, 1) := by decide +kernel
theorem dX11_weightOf_11 : decode cX11_weightOf 11 = .ok (.aload_n 0, 1) := by decide +kernel
theorem dX11_weightOf_12 : decode cX11_weightOf 12 = .ok (.getfield 116, 3) := by decide +kernel
theorem dX11_weightOf_15 : decode cX11_weightOf 15 = .ok (.bipush 12, 2) := by decide +kernel
theorem dX11_weightOf_17 : decode cX11_weightOf 17 = .ok (.if_icmp .le 13, 3) := by decide +kernel
theorem dX11_weightOf_20 : decode cX11_weightOf 20 = .ok (.aload_n 0, 1) := by decide +kernel
theorem dX11_weightOf_21 : decode cX11_weightOf 21 = .ok (.getfield 116, 3) := by decide +kernel
theorem dX11_weightOf_24 : decode cX11_weightOf 24 = .ok (.bipush 12, 2) := by decide +kernel
theorem dX11_weightOf_26 : decode cX11_weightOf 26 = .ok (.isub, 1) := by decide +kernel
theorem dX11_weightOf_27 : decode cX11_weightOf 27 = .ok (.goto 4, 3) := by decide +kernel
theorem dX11_weightOf_30 : decode cX11_weightOf 30 = .ok (.iconst 0, 1) := by decide +kernel
theorem dX11_weightOf_31 : decode cX11_weightOf 31 = .ok (.istore 4, 2) := by decide +kernel
theorem dX11_weightOf_33 : decode cX11_weightOf 33 = .ok (.iload 4, 2) := by decide +kernel
theorem dX11_weightOf_35 : decode cX11_weightOf 35 = .ok (.aload_n 0, 1) := by decide +kernel
theorem dX11_weightOf_36 : decode cX11_weightOf 36 = .ok (.getfield 116, 3) := by decide +kernel
theorem dX11_weightOf_39 : decode cX11_weightOf 39 = .ok (.if_icmp .ge 60, 3) := by decide +kernel
theorem dX11_weightOf_42 : decode cX11_weightOf 42 = .ok (.aload_n 0, 1) := by decide +kernel
theorem dX11_weightOf_43 : decode cX11_weightOf 43 = .ok (.iload_n 1, 1) := by decide +kernel
theorem dX11_weightOf_44 : decode cX11_weightOf 44 = .ok (.iload 4, 2) := by decide +kernel
theorem dX11_weightOf_46 : decode cX11_weightOf 46 = .ok (.invokevirtual 232, 3) := by decide +kernel
theorem dX11_weightOf_49 : decode cX11_weightOf 49 = .ok (.istore 5, 2) := by decide +kernel
theorem dX11_weightOf_51 : decode cX11_weightOf 51 = .ok (.lload_n 2, 1) := by decide +kernel
theorem dX11_weightOf_52 : decode cX11_weightOf 52 = .ok (.iload 5, 2) := by decide +kernel
theorem dX11_weightOf_54 : decode cX11_weightOf 54 = .ok (.iconst 2, 1) := by decide +kernel
theorem dX11_weightOf_55 : decode cX11_weightOf 55 = .ok (.if_icmp .gt 9, 3) := by decide +kernel
theorem dX11_weightOf_58 : decode cX11_weightOf 58 = .ok (.ldc2_w 247, 3) := by decide +kernel
theorem dX11_weightOf_61 : decode cX11_weightOf 61 = .ok (.goto 30, 3) := by decide +kernel
theorem dX11_weightOf_64 : decode cX11_weightOf 64 = .ok (.iload 5, 2) := by decide +kernel
theorem dX11_weightOf_66 : decode cX11_weightOf 66 = .ok (.bipush 10, 2) := by decide +kernel
theorem dX11_weightOf_68 : decode cX11_weightOf 68 = .ok (.if_icmp .gt 9, 3) := by decide +kernel
theorem dX11_weightOf_71 : decode cX11_weightOf 71 = .ok (.ldc2_w 249, 3) := by decide +kernel
theorem dX11_weightOf_74 : decode cX11_weightOf 74 = .ok (.goto 17, 3) := by decide +kernel
theorem dX11_weightOf_77 : decode cX11_weightOf 77 = .ok (.iload 5, 2) := by decide +kernel
theorem dX11_weightOf_79 : decode cX11_weightOf 79 = .ok (.bipush 40, 2) := by decide +kernel
theorem dX11_weightOf_81 : decode cX11_weightOf 81 = .ok (.if_icmp .gt 9, 3) := by decide +kernel
theorem dX11_weightOf_84 : decode cX11_weightOf 84 = .ok (.ldc2_w 251, 3) := by decide +kernel
theorem dX11_weightOf_87 : decode cX11_weightOf 87 = .ok (.goto 4, 3) := by decide +kernel
theorem dX11_weightOf_90 : decode cX11_weightOf 90 = .ok (.lconst 1, 1) := by decide +kernel
theorem dX11_weightOf_91 : decode cX11_weightOf 91 = .ok (.lmul, 1) := by decide +kernel
theorem dX11_weightOf_92 : decode cX11_weightOf 92 = .ok (.lstore_n 2, 1) := by decide +kernel
theorem dX11_weightOf_93 : decode cX11_weightOf 93 = .ok (.iinc 4 1, 3) := by decide +kernel
theorem dX11_weightOf_96 : decode cX11_weightOf 96 = .ok (.goto (-63), 3) := by decide +kernel
theorem dX11_weightOf_99 : decode cX11_weightOf 99 = .ok (.lload_n 2, 1) := by decide +kernel
theorem dX11_weightOf_100 : decode cX11_weightOf 100 = .ok (.lreturn, 1) := by decide +kernel
theorem dX11_odds_0 : decode cX11_odds 0 = .ok (.aload_n 0, 1) := by decide +kernel
theorem dX11_odds_1 : decode cX11_odds 1 = .ok (.iload_n 1, 1) := by decide +kernel
theorem dX11_odds_2 : decode cX11_odds 2 = .ok (.invokevirtual 220, 3) := by decide +kernel
theorem dX11_odds_5 : decode cX11_odds 5 = .ok (.ifCond .eq 10, 3) := by decide +kernel
theorem dX11_odds_8 : decode cX11_odds 8 = .ok (.iload_n 2, 1) := by decide +kernel
theorem dX11_odds_9 : decode cX11_odds 9 = .ok (.invokestatic 119, 3) := by decide +kernel
theorem dX11_odds_12 : decode cX11_odds 12 = .ok (.ifCond .ne 7, 3) := by decide +kernel
theorem dX11_odds_15 : decode cX11_odds 15 = .ok (.ldc2_w 171, 3) := by decide +kernel
theorem dX11_odds_18 : decode cX11_odds 18 = .ok (.lreturn, 1) := by decide +kernel
theorem dX11_odds_19 : decode cX11_odds 19 = .ok (.lconst 0, 1) := by decide +kernel
theorem dX11_odds_20 : decode cX11_odds 20 = .ok (.lstore_n 3, 1) := by decide +kernel
theorem dX11_odds_21 : decode cX11_odds 21 = .ok (.iconst 0, 1) := by decide +kernel
theorem dX11_odds_22 : decode cX11_odds 22 = .ok (.istore 5, 2) := by decide +kernel
theorem dX11_odds_24 : decode cX11_odds 24 = .ok (.iload 5, 2) := by decide +kernel
theorem dX11_odds_26 : decode cX11_odds 26 = .ok (.aload_n 0, 1) := by decide +kernel
theorem dX11_odds_27 : decode cX11_odds 27 = .ok (.getfield 91, 3) := by decide +kernel
theorem dX11_odds_30 : decode cX11_odds 30 = .ok (.if_icmp .ge 18, 3) := by decide +kernel
theorem dX11_odds_33 : decode cX11_odds 33 = .ok (.lload_n 3, 1) := by decide +kernel
theorem dX11_odds_34 : decode cX11_odds 34 = .ok (.aload_n 0, 1) := by decide +kernel
theorem dX11_odds_35 : decode cX11_odds 35 = .ok (.iload 5, 2) := by decide +kernel
theorem dX11_odds_37 : decode cX11_odds 37 = .ok (.invokevirtual 253, 3) := by decide +kernel
theorem dX11_odds_40 : decode cX11_odds 40 = .ok (.ladd, 1) := by decide +kernel
theorem dX11_odds_41 : decode cX11_odds 41 = .ok (.lstore_n 3, 1) := by decide +kernel
theorem dX11_odds_42 : decode cX11_odds 42 = .ok (.iinc 5 1, 3) := by decide +kernel
theorem dX11_odds_45 : decode cX11_odds 45 = .ok (.goto (-21), 3) := by decide +kernel
theorem dX11_odds_48 : decode cX11_odds 48 = .ok (.aload_n 0, 1) := by decide +kernel
theorem dX11_odds_49 : decode cX11_odds 49 = .ok (.aload_n 0, 1) := by decide +kernel
theorem dX11_odds_50 : decode cX11_odds 50 = .ok (.iload_n 1, 1) := by decide +kernel
theorem dX11_odds_51 : decode cX11_odds 51 = .ok (.invokevirtual 253, 3) := by decide +kernel
theorem dX11_odds_54 : decode cX11_odds 54 = .ok (.lload_n 3, 1) := by decide +kernel
theorem dX11_odds_55 : decode cX11_odds 55 = .ok (.invokevirtual 257, 3) := by decide +kernel
theorem dX11_odds_58 : decode cX11_odds 58 = .ok (.iload_n 2, 1) := by decide +kernel
theorem dX11_odds_59 : decode cX11_odds 59 = .ok (.ifCond .ne 10, 3) := by decide +kernel
theorem dX11_odds_62 : decode cX11_odds 62 = .ok (.aload_n 0, 1) := by decide +kernel
theorem dX11_odds_63 : decode cX11_odds 63 = .ok (.getfield 241, 3) := by decide +kernel
theorem dX11_odds_66 : decode cX11_odds 66 = .ok (.goto 7, 3) := by decide +kernel
theorem dX11_odds_69 : decode cX11_odds 69 = .ok (.aload_n 0, 1) := by decide +kernel
theorem dX11_odds_70 : decode cX11_odds 70 = .ok (.getfield 244, 3) := by decide +kernel
theorem dX11_odds_73 : decode cX11_odds 73 = .ok (.lreturn, 1) := by decide +kernel
theorem dX11_same_0 : decode cX11_same 0 = .ok (.aload_n 0, 1) := by decide +kernel
theorem dX11_same_1 : decode cX11_same 1 = .ok (.iload_n 1, 1) := by decide +kernel
theorem dX11_same_2 : decode cX11_same 2 = .ok (.invokevirtual 220, 3) := by decide +kernel
theorem dX11_same_5 : decode cX11_same 5 = .ok (.ifCond .eq 18, 3) := by decide +kernel
theorem dX11_same_8 : decode cX11_same 8 = .ok (.aload_n 0, 1) := by decide +kernel
theorem dX11_same_9 : decode cX11_same 9 = .ok (.iload_n 2, 1) := by decide +kernel
theorem dX11_same_10 : decode cX11_same 10 = .ok (.invokevirtual 220, 3) := by decide +kernel
theorem dX11_same_13 : decode cX11_same 13 = .ok (.ifCond .eq 10, 3) := by decide +kernel
theorem dX11_same_16 : decode cX11_same 16 = .ok (.iload_n 3, 1) := by decide +kernel
theorem dX11_same_17 : decode cX11_same 17 = .ok (.invokestatic 110, 3) := by decide +kernel
theorem dX11_same_20 : decode cX11_same 20 = .ok (.ifCond .ne 5, 3) := by decide +kernel
theorem dX11_same_23 : decode cX11_same 23 = .ok (.iconst (-1), 1) := by decide +kernel
theorem dX11_same_24 : decode cX11_same 24 = .ok (.ireturn, 1) := by decide +kernel
theorem dX11_same_25 : decode cX11_same 25 = .ok (.iconst 0, 1) := by decide +kernel
theorem dX11_same_26 : decode cX11_same 26 = .ok (.istore 4, 2) := by decide +kernel
theorem dX11_same_28 : decode cX11_same 28 = .ok (.iconst 0, 1) := by decide +kernel
theorem dX11_same_29 : decode cX11_same 29 = .ok (.istore 5, 2) := by decide +kernel
theorem dX11_same_31 : decode cX11_same 31 = .ok (.iload 5, 2) := by decide +kernel
theorem dX11_same_33 : decode cX11_same 33 = .ok (.iconst 2, 1) := by decide +kernel
theorem dX11_same_34 : decode cX11_same 34 = .ok (.if_icmp .ge 41, 3) := by decide +kernel
theorem dX11_same_37 : decode cX11_same 37 = .ok (.iload 4, 2) := by decide +kernel
theorem dX11_same_39 : decode cX11_same 39 = .ok (.aload_n 0, 1) := by decide +kernel
theorem dX11_same_40 : decode cX11_same 40 = .ok (.iload_n 1, 1) := by decide +kernel
theorem dX11_same_41 : decode cX11_same 41 = .ok (.iload 5, 2) := by decide +kernel
theorem dX11_same_43 : decode cX11_same 43 = .ok (.iload_n 3, 1) := by decide +kernel
theorem dX11_same_44 : decode cX11_same 44 = .ok (.invokevirtual 223, 3) := by decide +kernel
theorem dX11_same_47 : decode cX11_same 47 = .ok (.aload_n 0, 1) := by decide +kernel
theorem dX11_same_48 : decode cX11_same 48 = .ok (.iload_n 2, 1) := by decide +kernel
theorem dX11_same_49 : decode cX11_same 49 = .ok (.iload 5, 2) := by decide +kernel
theorem dX11_same_51 : decode cX11_same 51 = .ok (.iload_n 3, 1) := by decide +kernel
theorem dX11_same_52 : decode cX11_same 52 = .ok (.invokevirtual 223, 3) := by decide +kernel
theorem dX11_same_55 : decode cX11_same 55 = .ok (.if_icmp .ne 10, 3) := by decide +kernel
theorem dX11_same_58 : decode cX11_same 58 = .ok (.iconst 1, 1) := by decide +kernel
theorem dX11_same_59 : decode cX11_same 59 = .ok (.iload 5, 2) := by decide +kernel
theorem dX11_same_61 : decode cX11_same 61 = .ok (.ishl, 1) := by decide +kernel
theorem dX11_same_62 : decode cX11_same 62 = .ok (.goto 4, 3) := by decide +kernel
theorem dX11_same_65 : decode cX11_same 65 = .ok (.iconst 0, 1) := by decide +kernel
theorem dX11_same_66 : decode cX11_same 66 = .ok (.ior, 1) := by decide +kernel
theorem dX11_same_67 : decode cX11_same 67 = .ok (.istore 4, 2) := by decide +kernel
theorem dX11_same_69 : decode cX11_same 69 = .ok (.iinc 5 1, 3) := by decide +kernel
theorem dX11_same_72 : decode cX11_same 72 = .ok (.goto (-41), 3) := by decide +kernel
theorem dX11_same_75 : decode cX11_same 75 = .ok (.iload 4, 2) := by decide +kernel
theorem dX11_same_77 : decode cX11_same 77 = .ok (.ireturn, 1) := by decide +kernel
theorem dX11_partedBy_0 : decode cX11_partedBy 0 = .ok (.iconst 0, 1) := by decide +kernel
theorem dX11_partedBy_1 : decode cX11_partedBy 1 = .ok (.istore_n 3, 1) := by decide +kernel
theorem dX11_partedBy_2 : decode cX11_partedBy 2 = .ok (.iconst 0, 1) := by decide +kernel
theorem dX11_partedBy_3 : decode cX11_partedBy 3 = .ok (.istore 4, 2) := by decide +kernel
theorem dX11_partedBy_5 : decode cX11_partedBy 5 = .ok (.iload 4, 2) := by decide +kernel
theorem dX11_partedBy_7 : decode cX11_partedBy 7 = .ok (.aload_n 0, 1) := by decide +kernel
theorem dX11_partedBy_8 : decode cX11_partedBy 8 = .ok (.getfield 91, 3) := by decide +kernel
theorem dX11_partedBy_11 : decode cX11_partedBy 11 = .ok (.if_icmp .ge 75, 3) := by decide +kernel
theorem dX11_partedBy_14 : decode cX11_partedBy 14 = .ok (.iload 4, 2) := by decide +kernel
theorem dX11_partedBy_16 : decode cX11_partedBy 16 = .ok (.iconst 1, 1) := by decide +kernel
theorem dX11_partedBy_17 : decode cX11_partedBy 17 = .ok (.iadd, 1) := by decide +kernel
theorem dX11_partedBy_18 : decode cX11_partedBy 18 = .ok (.istore 5, 2) := by decide +kernel
theorem dX11_partedBy_20 : decode cX11_partedBy 20 = .ok (.iload 5, 2) := by decide +kernel
theorem dX11_partedBy_22 : decode cX11_partedBy 22 = .ok (.aload_n 0, 1) := by decide +kernel
theorem dX11_partedBy_23 : decode cX11_partedBy 23 = .ok (.getfield 91, 3) := by decide +kernel
theorem dX11_partedBy_26 : decode cX11_partedBy 26 = .ok (.if_icmp .ge 54, 3) := by decide +kernel
theorem dX11_partedBy_29 : decode cX11_partedBy 29 = .ok (.iload_n 3, 1) := by decide +kernel
theorem dX11_partedBy_30 : decode cX11_partedBy 30 = .ok (.iload_n 1, 1) := by decide +kernel
theorem dX11_partedBy_31 : decode cX11_partedBy 31 = .ok (.iload 4, 2) := by decide +kernel
theorem dX11_partedBy_33 : decode cX11_partedBy 33 = .ok (.ishr, 1) := by decide +kernel
theorem dX11_partedBy_34 : decode cX11_partedBy 34 = .ok (.iconst 1, 1) := by decide +kernel
theorem dX11_partedBy_35 : decode cX11_partedBy 35 = .ok (.iand, 1) := by decide +kernel
theorem dX11_partedBy_36 : decode cX11_partedBy 36 = .ok (.iconst 1, 1) := by decide +kernel
theorem dX11_partedBy_37 : decode cX11_partedBy 37 = .ok (.if_icmp .ne 34, 3) := by decide +kernel
theorem dX11_partedBy_40 : decode cX11_partedBy 40 = .ok (.iload_n 1, 1) := by decide +kernel
theorem dX11_partedBy_41 : decode cX11_partedBy 41 = .ok (.iload 5, 2) := by decide +kernel
theorem dX11_partedBy_43 : decode cX11_partedBy 43 = .ok (.ishr, 1) := by decide +kernel
theorem dX11_partedBy_44 : decode cX11_partedBy 44 = .ok (.iconst 1, 1) := by decide +kernel
theorem dX11_partedBy_45 : decode cX11_partedBy 45 = .ok (.iand, 1) := by decide +kernel
theorem dX11_partedBy_46 : decode cX11_partedBy 46 = .ok (.iconst 1, 1) := by decide +kernel
theorem dX11_partedBy_47 : decode cX11_partedBy 47 = .ok (.if_icmp .ne 24, 3) := by decide +kernel
theorem dX11_partedBy_50 : decode cX11_partedBy 50 = .ok (.aload_n 0, 1) := by decide +kernel
theorem dX11_partedBy_51 : decode cX11_partedBy 51 = .ok (.iload 4, 2) := by decide +kernel
theorem dX11_partedBy_53 : decode cX11_partedBy 53 = .ok (.iload_n 2, 1) := by decide +kernel
theorem dX11_partedBy_54 : decode cX11_partedBy 54 = .ok (.invokevirtual 226, 3) := by decide +kernel
theorem dX11_partedBy_57 : decode cX11_partedBy 57 = .ok (.aload_n 0, 1) := by decide +kernel
theorem dX11_partedBy_58 : decode cX11_partedBy 58 = .ok (.iload 5, 2) := by decide +kernel
theorem dX11_partedBy_60 : decode cX11_partedBy 60 = .ok (.iload_n 2, 1) := by decide +kernel
theorem dX11_partedBy_61 : decode cX11_partedBy 61 = .ok (.invokevirtual 226, 3) := by decide +kernel
theorem dX11_partedBy_64 : decode cX11_partedBy 64 = .ok (.if_icmp .eq 7, 3) := by decide +kernel
theorem dX11_partedBy_67 : decode cX11_partedBy 67 = .ok (.iconst 1, 1) := by decide +kernel
theorem dX11_partedBy_68 : decode cX11_partedBy 68 = .ok (.goto 4, 3) := by decide +kernel
theorem dX11_partedBy_71 : decode cX11_partedBy 71 = .ok (.iconst 0, 1) := by decide +kernel
theorem dX11_partedBy_72 : decode cX11_partedBy 72 = .ok (.iadd, 1) := by decide +kernel
theorem dX11_partedBy_73 : decode cX11_partedBy 73 = .ok (.istore_n 3, 1) := by decide +kernel
theorem dX11_partedBy_74 : decode cX11_partedBy 74 = .ok (.iinc 5 1, 3) := by decide +kernel
theorem dX11_partedBy_77 : decode cX11_partedBy 77 = .ok (.goto (-57), 3) := by decide +kernel
theorem dX11_partedBy_80 : decode cX11_partedBy 80 = .ok (.iinc 4 1, 3) := by decide +kernel
theorem dX11_partedBy_83 : decode cX11_partedBy 83 = .ok (.goto (-78), 3) := by decide +kernel
theorem dX11_partedBy_86 : decode cX11_partedBy 86 = .ok (.iload_n 3, 1) := by decide +kernel
theorem dX11_partedBy_87 : decode cX11_partedBy 87 = .ok (.ireturn, 1) := by decide +kernel
theorem dX11_isSet_0 : decode cX11_isSet 0 = .ok (.iload_n 1, 1) := by decide +kernel
theorem dX11_isSet_1 : decode cX11_isSet 1 = .ok (.iconst 0, 1) := by decide +kernel
theorem dX11_isSet_2 : decode cX11_isSet 2 = .ok (.iconst 1, 1) := by decide +kernel
theorem dX11_isSet_3 : decode cX11_isSet 3 = .ok (.aload_n 0, 1) := by decide +kernel
theorem dX11_isSet_4 : decode cX11_isSet 4 = .ok (.getfield 91, 3) := by decide +kernel
theorem dX11_isSet_7 : decode cX11_isSet 7 = .ok (.ishl, 1) := by decide +kernel
theorem dX11_isSet_8 : decode cX11_isSet 8 = .ok (.iconst 1, 1) := by decide +kernel
theorem dX11_isSet_9 : decode cX11_isSet 9 = .ok (.isub, 1) := by decide +kernel
theorem dX11_isSet_10 : decode cX11_isSet 10 = .ok (.invokestatic 87, 3) := by decide +kernel
theorem dX11_isSet_13 : decode cX11_isSet 13 = .ok (.ireturn, 1) := by decide +kernel
theorem dX11_next_0 : decode cX11_next 0 = .ok (.aload_n 0, 1) := by decide +kernel
theorem dX11_next_1 : decode cX11_next 1 = .ok (.iload_n 1, 1) := by decide +kernel
theorem dX11_next_2 : decode cX11_next 2 = .ok (.invokevirtual 261, 3) := by decide +kernel
theorem dX11_next_5 : decode cX11_next 5 = .ok (.ifCond .eq 10, 3) := by decide +kernel
theorem dX11_next_8 : decode cX11_next 8 = .ok (.iload_n 2, 1) := by decide +kernel
theorem dX11_next_9 : decode cX11_next 9 = .ok (.invokestatic 119, 3) := by decide +kernel
theorem dX11_next_12 : decode cX11_next 12 = .ok (.ifCond .ne 5, 3) := by decide +kernel
theorem dX11_next_15 : decode cX11_next 15 = .ok (.iconst (-1), 1) := by decide +kernel
theorem dX11_next_16 : decode cX11_next 16 = .ok (.ireturn, 1) := by decide +kernel
theorem dX11_next_17 : decode cX11_next 17 = .ok (.bipush (-3), 2) := by decide +kernel
theorem dX11_next_19 : decode cX11_next 19 = .ok (.istore_n 3, 1) := by decide +kernel
theorem dX11_next_20 : decode cX11_next 20 = .ok (.iconst 0, 1) := by decide +kernel
theorem dX11_next_21 : decode cX11_next 21 = .ok (.istore 4, 2) := by decide +kernel
theorem dX11_next_23 : decode cX11_next 23 = .ok (.iconst 0, 1) := by decide +kernel
theorem dX11_next_24 : decode cX11_next 24 = .ok (.istore 5, 2) := by decide +kernel
theorem dX11_next_26 : decode cX11_next 26 = .ok (.iload 5, 2) := by decide +kernel
theorem dX11_next_28 : decode cX11_next 28 = .ok (.aload_n 0, 1) := by decide +kernel
theorem dX11_next_29 : decode cX11_next 29 = .ok (.getfield 84, 3) := by decide +kernel
theorem dX11_next_32 : decode cX11_next 32 = .ok (.if_icmp .ge 79, 3) := by decide +kernel
theorem dX11_next_35 : decode cX11_next 35 = .ok (.aload_n 0, 1) := by decide +kernel
theorem dX11_next_36 : decode cX11_next 36 = .ok (.iload_n 1, 1) := by decide +kernel
theorem dX11_next_37 : decode cX11_next 37 = .ok (.iload 5, 2) := by decide +kernel
theorem dX11_next_39 : decode cX11_next 39 = .ok (.invokevirtual 264, 3) := by decide +kernel
theorem dX11_next_42 : decode cX11_next 42 = .ok (.istore 6, 2) := by decide +kernel
theorem dX11_next_44 : decode cX11_next 44 = .ok (.iload 6, 2) := by decide +kernel
theorem dX11_next_46 : decode cX11_next 46 = .ok (.iload 4, 2) := by decide +kernel
theorem dX11_next_48 : decode cX11_next 48 = .ok (.if_icmp .ne 35, 3) := by decide +kernel
theorem dX11_next_51 : decode cX11_next 51 = .ok (.iload_n 3, 1) := by decide +kernel
theorem dX11_next_52 : decode cX11_next 52 = .ok (.ifCond .lt 31, 3) := by decide +kernel
theorem dX11_next_55 : decode cX11_next 55 = .ok (.aload_n 0, 1) := by decide +kernel
theorem dX11_next_56 : decode cX11_next 56 = .ok (.iload 5, 2) := by decide +kernel
theorem dX11_next_58 : decode cX11_next 58 = .ok (.iconst 4, 1) := by decide +kernel
theorem dX11_next_59 : decode cX11_next 59 = .ok (.invokevirtual 94, 3) := by decide +kernel
theorem dX11_next_62 : decode cX11_next 62 = .ok (.aload_n 0, 1) := by decide +kernel
theorem dX11_next_63 : decode cX11_next 63 = .ok (.iload_n 3, 1) := by decide +kernel
theorem dX11_next_64 : decode cX11_next 64 = .ok (.ifCond .ge 7, 3) := by decide +kernel
theorem dX11_next_67 : decode cX11_next 67 = .ok (.iconst 0, 1) := by decide +kernel
theorem dX11_next_68 : decode cX11_next 68 = .ok (.goto 4, 3) := by decide +kernel
theorem dX11_next_71 : decode cX11_next 71 = .ok (.iload_n 3, 1) := by decide +kernel
theorem dX11_next_72 : decode cX11_next 72 = .ok (.iconst 4, 1) := by decide +kernel
theorem dX11_next_73 : decode cX11_next 73 = .ok (.invokevirtual 94, 3) := by decide +kernel
theorem dX11_next_76 : decode cX11_next 76 = .ok (.if_icmp .ge 7, 3) := by decide +kernel
theorem dX11_next_79 : decode cX11_next 79 = .ok (.iconst 1, 1) := by decide +kernel
theorem dX11_next_80 : decode cX11_next 80 = .ok (.goto 4, 3) := by decide +kernel
theorem dX11_next_83 : decode cX11_next 83 = .ok (.iconst 0, 1) := by decide +kernel
theorem dX11_next_84 : decode cX11_next 84 = .ok (.istore 7, 2) := by decide +kernel
theorem dX11_next_86 : decode cX11_next 86 = .ok (.iload 6, 2) := by decide +kernel
theorem dX11_next_88 : decode cX11_next 88 = .ok (.iload 4, 2) := by decide +kernel
theorem dX11_next_90 : decode cX11_next 90 = .ok (.if_icmp .gt 8, 3) := by decide +kernel
theorem dX11_next_93 : decode cX11_next 93 = .ok (.iload 7, 2) := by decide +kernel
theorem dX11_next_95 : decode cX11_next 95 = .ok (.ifCond .eq 10, 3) := by decide +kernel
theorem dX11_next_98 : decode cX11_next 98 = .ok (.iload 6, 2) := by decide +kernel
theorem dX11_next_100 : decode cX11_next 100 = .ok (.istore 4, 2) := by decide +kernel
theorem dX11_next_102 : decode cX11_next 102 = .ok (.iload 5, 2) := by decide +kernel
theorem dX11_next_104 : decode cX11_next 104 = .ok (.istore_n 3, 1) := by decide +kernel
theorem dX11_next_105 : decode cX11_next 105 = .ok (.iinc 5 1, 3) := by decide +kernel
theorem dX11_next_108 : decode cX11_next 108 = .ok (.goto (-82), 3) := by decide +kernel
theorem dX11_next_111 : decode cX11_next 111 = .ok (.iload_n 3, 1) := by decide +kernel
theorem dX11_next_112 : decode cX11_next 112 = .ok (.ifCond .ge 8, 3) := by decide +kernel
theorem dX11_next_115 : decode cX11_next 115 = .ok (.bipush (-3), 2) := by decide +kernel
theorem dX11_next_117 : decode cX11_next 117 = .ok (.goto 13, 3) := by decide +kernel
theorem dX11_next_120 : decode cX11_next 120 = .ok (.iload_n 2, 1) := by decide +kernel
theorem dX11_next_121 : decode cX11_next 121 = .ok (.ifCond .ne 7, 3) := by decide +kernel
theorem dX11_next_124 : decode cX11_next 124 = .ok (.iload_n 3, 1) := by decide +kernel
theorem dX11_next_125 : decode cX11_next 125 = .ok (.goto 5, 3) := by decide +kernel
theorem dX11_next_128 : decode cX11_next 128 = .ok (.iload 4, 2) := by decide +kernel
theorem dX11_next_130 : decode cX11_next 130 = .ok (.ireturn, 1) := by decide +kernel
theorem dX11_parting_0 : decode cX11_parting 0 = .ok (.iconst 0, 1) := by decide +kernel
theorem dX11_parting_1 : decode cX11_parting 1 = .ok (.istore_n 3, 1) := by decide +kernel
theorem dX11_parting_2 : decode cX11_parting 2 = .ok (.iconst 0, 1) := by decide +kernel
theorem dX11_parting_3 : decode cX11_parting 3 = .ok (.istore 4, 2) := by decide +kernel
theorem dX11_parting_5 : decode cX11_parting 5 = .ok (.iload 4, 2) := by decide +kernel
theorem dX11_parting_7 : decode cX11_parting 7 = .ok (.aload_n 0, 1) := by decide +kernel
theorem dX11_parting_8 : decode cX11_parting 8 = .ok (.getfield 84, 3) := by decide +kernel
theorem dX11_parting_11 : decode cX11_parting 11 = .ok (.if_icmp .ge 37, 3) := by decide +kernel
theorem dX11_parting_14 : decode cX11_parting 14 = .ok (.iload_n 3, 1) := by decide +kernel
theorem dX11_parting_15 : decode cX11_parting 15 = .ok (.aload_n 0, 1) := by decide +kernel
theorem dX11_parting_16 : decode cX11_parting 16 = .ok (.iload_n 1, 1) := by decide +kernel
theorem dX11_parting_17 : decode cX11_parting 17 = .ok (.iload 4, 2) := by decide +kernel
theorem dX11_parting_19 : decode cX11_parting 19 = .ok (.invokevirtual 226, 3) := by decide +kernel
theorem dX11_parting_22 : decode cX11_parting 22 = .ok (.aload_n 0, 1) := by decide +kernel
theorem dX11_parting_23 : decode cX11_parting 23 = .ok (.iload_n 2, 1) := by decide +kernel
theorem dX11_parting_24 : decode cX11_parting 24 = .ok (.iload 4, 2) := by decide +kernel
theorem dX11_parting_26 : decode cX11_parting 26 = .ok (.invokevirtual 226, 3) := by decide +kernel
theorem dX11_parting_29 : decode cX11_parting 29 = .ok (.if_icmp .eq 10, 3) := by decide +kernel
theorem dX11_parting_32 : decode cX11_parting 32 = .ok (.iconst 1, 1) := by decide +kernel
theorem dX11_parting_33 : decode cX11_parting 33 = .ok (.iload 4, 2) := by decide +kernel
theorem dX11_parting_35 : decode cX11_parting 35 = .ok (.ishl, 1) := by decide +kernel
theorem dX11_parting_36 : decode cX11_parting 36 = .ok (.goto 4, 3) := by decide +kernel
theorem dX11_parting_39 : decode cX11_parting 39 = .ok (.iconst 0, 1) := by decide +kernel
theorem dX11_parting_40 : decode cX11_parting 40 = .ok (.ior, 1) := by decide +kernel
theorem dX11_parting_41 : decode cX11_parting 41 = .ok (.istore_n 3, 1) := by decide +kernel
theorem dX11_parting_42 : decode cX11_parting 42 = .ok (.iinc 4 1, 3) := by decide +kernel
theorem dX11_parting_45 : decode cX11_parting 45 = .ok (.goto (-40), 3) := by decide +kernel
theorem dX11_parting_48 : decode cX11_parting 48 = .ok (.iload_n 3, 1) := by decide +kernel
theorem dX11_parting_49 : decode cX11_parting 49 = .ok (.ireturn, 1) := by decide +kernel
theorem dX11_least_0 : decode cX11_least 0 = .ok (.aload_n 0, 1) := by decide +kernel
theorem dX11_least_1 : decode cX11_least 1 = .ok (.iload_n 1, 1) := by decide +kernel
theorem dX11_least_2 : decode cX11_least 2 = .ok (.invokevirtual 261, 3) := by decide +kernel
theorem dX11_least_5 : decode cX11_least 5 = .ok (.ifCond .eq 10, 3) := by decide +kernel
theorem dX11_least_8 : decode cX11_least 8 = .ok (.iload_n 2, 1) := by decide +kernel
theorem dX11_least_9 : decode cX11_least 9 = .ok (.invokestatic 119, 3) := by decide +kernel
theorem dX11_least_12 : decode cX11_least 12 = .ok (.ifCond .ne 5, 3) := by decide +kernel
theorem dX11_least_15 : decode cX11_least 15 = .ok (.iconst (-1), 1) := by decide +kernel
theorem dX11_least_16 : decode cX11_least 16 = .ok (.ireturn, 1) := by decide +kernel
theorem dX11_least_17 : decode cX11_least 17 = .ok (.iconst 0, 1) := by decide +kernel
theorem dX11_least_18 : decode cX11_least 18 = .ok (.istore_n 3, 1) := by decide +kernel
theorem dX11_least_19 : decode cX11_least 19 = .ok (.iconst 0, 1) := by decide +kernel
theorem dX11_least_20 : decode cX11_least 20 = .ok (.istore 4, 2) := by decide +kernel
theorem dX11_least_22 : decode cX11_least 22 = .ok (.iload 4, 2) := by decide +kernel
theorem dX11_least_24 : decode cX11_least 24 = .ok (.aload_n 0, 1) := by decide +kernel
theorem dX11_least_25 : decode cX11_least 25 = .ok (.getfield 91, 3) := by decide +kernel
theorem dX11_least_28 : decode cX11_least 28 = .ok (.if_icmp .ge 80, 3) := by decide +kernel
theorem dX11_least_31 : decode cX11_least 31 = .ok (.iload 4, 2) := by decide +kernel
theorem dX11_least_33 : decode cX11_least 33 = .ok (.iconst 1, 1) := by decide +kernel
theorem dX11_least_34 : decode cX11_least 34 = .ok (.iadd, 1) := by decide +kernel
theorem dX11_least_35 : decode cX11_least 35 = .ok (.istore 5, 2) := by decide +kernel
theorem dX11_least_37 : decode cX11_least 37 = .ok (.iload 5, 2) := by decide +kernel
theorem dX11_least_39 : decode cX11_least 39 = .ok (.aload_n 0, 1) := by decide +kernel
theorem dX11_least_40 : decode cX11_least 40 = .ok (.getfield 91, 3) := by decide +kernel
theorem dX11_least_43 : decode cX11_least 43 = .ok (.if_icmp .ge 59, 3) := by decide +kernel
theorem dX11_least_46 : decode cX11_least 46 = .ok (.iload_n 1, 1) := by decide +kernel
theorem dX11_least_47 : decode cX11_least 47 = .ok (.iload 4, 2) := by decide +kernel
theorem dX11_least_49 : decode cX11_least 49 = .ok (.ishr, 1) := by decide +kernel
theorem dX11_least_50 : decode cX11_least 50 = .ok (.iconst 1, 1) := by decide +kernel
theorem dX11_least_51 : decode cX11_least 51 = .ok (.iand, 1) := by decide +kernel
theorem dX11_least_52 : decode cX11_least 52 = .ok (.iconst 1, 1) := by decide +kernel
theorem dX11_least_53 : decode cX11_least 53 = .ok (.if_icmp .ne 24, 3) := by decide +kernel
theorem dX11_least_56 : decode cX11_least 56 = .ok (.iload_n 1, 1) := by decide +kernel
theorem dX11_least_57 : decode cX11_least 57 = .ok (.iload 5, 2) := by decide +kernel
theorem dX11_least_59 : decode cX11_least 59 = .ok (.ishr, 1) := by decide +kernel
theorem dX11_least_60 : decode cX11_least 60 = .ok (.iconst 1, 1) := by decide +kernel
theorem dX11_least_61 : decode cX11_least 61 = .ok (.iand, 1) := by decide +kernel
theorem dX11_least_62 : decode cX11_least 62 = .ok (.iconst 1, 1) := by decide +kernel
theorem dX11_least_63 : decode cX11_least 63 = .ok (.if_icmp .ne 14, 3) := by decide +kernel
theorem dX11_least_66 : decode cX11_least 66 = .ok (.aload_n 0, 1) := by decide +kernel
theorem dX11_least_67 : decode cX11_least 67 = .ok (.iload 4, 2) := by decide +kernel
theorem dX11_least_69 : decode cX11_least 69 = .ok (.iload 5, 2) := by decide +kernel
theorem dX11_least_71 : decode cX11_least 71 = .ok (.invokevirtual 267, 3) := by decide +kernel
theorem dX11_least_74 : decode cX11_least 74 = .ok (.goto 4, 3) := by decide +kernel
theorem dX11_least_77 : decode cX11_least 77 = .ok (.iconst 0, 1) := by decide +kernel
theorem dX11_least_78 : decode cX11_least 78 = .ok (.istore 6, 2) := by decide +kernel
theorem dX11_least_80 : decode cX11_least 80 = .ok (.iload 6, 2) := by decide +kernel
theorem dX11_least_82 : decode cX11_least 82 = .ok (.ifCond .eq 14, 3) := by decide +kernel
theorem dX11_least_85 : decode cX11_least 85 = .ok (.aload_n 0, 1) := by decide +kernel
theorem dX11_least_86 : decode cX11_least 86 = .ok (.getfield 35, 3) := by decide +kernel
theorem dX11_least_89 : decode cX11_least 89 = .ok (.iload_n 3, 1) := by decide +kernel
theorem dX11_least_90 : decode cX11_least 90 = .ok (.iload 6, 2) := by decide +kernel
theorem dX11_least_92 : decode cX11_least 92 = .ok (.iastore, 1) := by decide +kernel
theorem dX11_least_93 : decode cX11_least 93 = .ok (.iinc 3 1, 3) := by decide +kernel
theorem dX11_least_96 : decode cX11_least 96 = .ok (.iinc 5 1, 3) := by decide +kernel
theorem dX11_least_99 : decode cX11_least 99 = .ok (.goto (-62), 3) := by decide +kernel
theorem dX11_least_102 : decode cX11_least 102 = .ok (.iinc 4 1, 3) := by decide +kernel
theorem dX11_least_105 : decode cX11_least 105 = .ok (.goto (-83), 3) := by decide +kernel
theorem dX11_least_108 : decode cX11_least 108 = .ok (.iconst 0, 1) := by decide +kernel
theorem dX11_least_109 : decode cX11_least 109 = .ok (.istore 4, 2) := by decide +kernel
theorem dX11_least_111 : decode cX11_least 111 = .ok (.iconst (-1), 1) := by decide +kernel
theorem dX11_least_112 : decode cX11_least 112 = .ok (.istore 5, 2) := by decide +kernel
theorem dX11_least_114 : decode cX11_least 114 = .ok (.iconst 0, 1) := by decide +kernel
theorem dX11_least_115 : decode cX11_least 115 = .ok (.istore 6, 2) := by decide +kernel
theorem dX11_least_117 : decode cX11_least 117 = .ok (.iload 6, 2) := by decide +kernel
theorem dX11_least_119 : decode cX11_least 119 = .ok (.iconst 1, 1) := by decide +kernel
theorem dX11_least_120 : decode cX11_least 120 = .ok (.aload_n 0, 1) := by decide +kernel
theorem dX11_least_121 : decode cX11_least 121 = .ok (.getfield 84, 3) := by decide +kernel
theorem dX11_least_124 : decode cX11_least 124 = .ok (.ishl, 1) := by decide +kernel
theorem dX11_least_125 : decode cX11_least 125 = .ok (.if_icmp .ge 125, 3) := by decide +kernel
theorem dX11_least_128 : decode cX11_least 128 = .ok (.iconst 0, 1) := by decide +kernel
theorem dX11_least_129 : decode cX11_least 129 = .ok (.istore 7, 2) := by decide +kernel
theorem dX11_least_131 : decode cX11_least 131 = .ok (.iconst 0, 1) := by decide +kernel
theorem dX11_least_132 : decode cX11_least 132 = .ok (.istore 8, 2) := by decide +kernel
theorem dX11_least_134 : decode cX11_least 134 = .ok (.iload 8, 2) := by decide +kernel
theorem dX11_least_136 : decode cX11_least 136 = .ok (.aload_n 0, 1) := by decide +kernel
theorem dX11_least_137 : decode cX11_least 137 = .ok (.getfield 84, 3) := by decide +kernel
theorem dX11_least_140 : decode cX11_least 140 = .ok (.if_icmp .ge 36, 3) := by decide +kernel
theorem dX11_least_143 : decode cX11_least 143 = .ok (.iload 7, 2) := by decide +kernel
theorem dX11_least_145 : decode cX11_least 145 = .ok (.iload 6, 2) := by decide +kernel
theorem dX11_least_147 : decode cX11_least 147 = .ok (.iload 8, 2) := by decide +kernel
theorem dX11_least_149 : decode cX11_least 149 = .ok (.ishr, 1) := by decide +kernel
theorem dX11_least_150 : decode cX11_least 150 = .ok (.iconst 1, 1) := by decide +kernel
theorem dX11_least_151 : decode cX11_least 151 = .ok (.iand, 1) := by decide +kernel
theorem dX11_least_152 : decode cX11_least 152 = .ok (.iconst 1, 1) := by decide +kernel
theorem dX11_least_153 : decode cX11_least 153 = .ok (.if_icmp .ne 13, 3) := by decide +kernel
theorem dX11_least_156 : decode cX11_least 156 = .ok (.aload_n 0, 1) := by decide +kernel
theorem dX11_least_157 : decode cX11_least 157 = .ok (.iload 8, 2) := by decide +kernel
theorem dX11_least_159 : decode cX11_least 159 = .ok (.iconst 4, 1) := by decide +kernel
theorem dX11_least_160 : decode cX11_least 160 = .ok (.invokevirtual 94, 3) := by decide +kernel
theorem dX11_least_163 : decode cX11_least 163 = .ok (.goto 4, 3) := by decide +kernel
theorem dX11_least_166 : decode cX11_least 166 = .ok (.iconst 0, 1) := by decide +kernel
theorem dX11_least_167 : decode cX11_least 167 = .ok (.iadd, 1) := by decide +kernel
theorem dX11_least_168 : decode cX11_least 168 = .ok (.istore 7, 2) := by decide +kernel
theorem dX11_least_170 : decode cX11_least 170 = .ok (.iinc 8 1, 3) := by decide +kernel
theorem dX11_least_173 : decode cX11_least 173 = .ok (.goto (-39), 3) := by decide +kernel
theorem dX11_least_176 : decode cX11_least 176 = .ok (.iconst 1, 1) := by decide +kernel
theorem dX11_least_177 : decode cX11_least 177 = .ok (.istore 8, 2) := by decide +kernel
theorem dX11_least_179 : decode cX11_least 179 = .ok (.iconst 0, 1) := by decide +kernel
theorem dX11_least_180 : decode cX11_least 180 = .ok (.istore 9, 2) := by decide +kernel
theorem dX11_least_182 : decode cX11_least 182 = .ok (.iload 9, 2) := by decide +kernel
theorem dX11_least_184 : decode cX11_least 184 = .ok (.iload_n 3, 1) := by decide +kernel
theorem dX11_least_185 : decode cX11_least 185 = .ok (.if_icmp .ge 34, 3) := by decide +kernel
theorem dX11_least_188 : decode cX11_least 188 = .ok (.iload 8, 2) := by decide +kernel
theorem dX11_least_190 : decode cX11_least 190 = .ok (.ifCond .eq 20, 3) := by decide +kernel
theorem dX11_least_193 : decode cX11_least 193 = .ok (.iload 6, 2) := by decide +kernel
theorem dX11_least_195 : decode cX11_least 195 = .ok (.aload_n 0, 1) := by decide +kernel
theorem dX11_least_196 : decode cX11_least 196 = .ok (.getfield 35, 3) := by decide +kernel
theorem dX11_least_199 : decode cX11_least 199 = .ok (.iload 9, 2) := by decide +kernel
theorem dX11_least_201 : decode cX11_least 201 = .ok (.iaload, 1) := by decide +kernel
theorem dX11_least_202 : decode cX11_least 202 = .ok (.iand, 1) := by decide +kernel
theorem dX11_least_203 : decode cX11_least 203 = .ok (.ifCond .eq 7, 3) := by decide +kernel
theorem dX11_least_206 : decode cX11_least 206 = .ok (.iconst 1, 1) := by decide +kernel
theorem dX11_least_207 : decode cX11_least 207 = .ok (.goto 4, 3) := by decide +kernel
theorem dX11_least_210 : decode cX11_least 210 = .ok (.iconst 0, 1) := by decide +kernel
theorem dX11_least_211 : decode cX11_least 211 = .ok (.istore 8, 2) := by decide +kernel
theorem dX11_least_213 : decode cX11_least 213 = .ok (.iinc 9 1, 3) := by decide +kernel
theorem dX11_least_216 : decode cX11_least 216 = .ok (.goto (-34), 3) := by decide +kernel
theorem dX11_least_219 : decode cX11_least 219 = .ok (.iload 8, 2) := by decide +kernel
theorem dX11_least_221 : decode cX11_least 221 = .ok (.ifCond .eq 23, 3) := by decide +kernel
theorem dX11_least_224 : decode cX11_least 224 = .ok (.iload 5, 2) := by decide +kernel
theorem dX11_least_226 : decode cX11_least 226 = .ok (.ifCond .lt 10, 3) := by decide +kernel
theorem dX11_least_229 : decode cX11_least 229 = .ok (.iload 7, 2) := by decide +kernel
theorem dX11_least_231 : decode cX11_least 231 = .ok (.iload 5, 2) := by decide +kernel
theorem dX11_least_233 : decode cX11_least 233 = .ok (.if_icmp .ge 11, 3) := by decide +kernel
theorem dX11_least_236 : decode cX11_least 236 = .ok (.iload 7, 2) := by decide +kernel
theorem dX11_least_238 : decode cX11_least 238 = .ok (.istore 5, 2) := by decide +kernel
theorem dX11_least_240 : decode cX11_least 240 = .ok (.iload 6, 2) := by decide +kernel
theorem dX11_least_242 : decode cX11_least 242 = .ok (.istore 4, 2) := by decide +kernel
theorem dX11_least_244 : decode cX11_least 244 = .ok (.iinc 6 1, 3) := by decide +kernel
theorem dX11_least_247 : decode cX11_least 247 = .ok (.goto (-130), 3) := by decide +kernel
theorem dX11_least_250 : decode cX11_least 250 = .ok (.iload_n 2, 1) := by decide +kernel
theorem dX11_least_251 : decode cX11_least 251 = .ok (.ifCond .ne 8, 3) := by decide +kernel
theorem dX11_least_254 : decode cX11_least 254 = .ok (.iload 4, 2) := by decide +kernel
theorem dX11_least_256 : decode cX11_least 256 = .ok (.goto 5, 3) := by decide +kernel
theorem dX11_least_259 : decode cX11_least 259 = .ok (.iload 5, 2) := by decide +kernel
theorem dX11_least_261 : decode cX11_least 261 = .ok (.ireturn, 1) := by decide +kernel
theorem dX11_spanOf_0 : decode cX11_spanOf 0 = .ok (.iconst 0, 1) := by decide +kernel
theorem dX11_spanOf_1 : decode cX11_spanOf 1 = .ok (.istore_n 2, 1) := by decide +kernel
theorem dX11_spanOf_2 : decode cX11_spanOf 2 = .ok (.iconst 0, 1) := by decide +kernel
theorem dX11_spanOf_3 : decode cX11_spanOf 3 = .ok (.istore_n 3, 1) := by decide +kernel
theorem dX11_spanOf_4 : decode cX11_spanOf 4 = .ok (.iload_n 3, 1) := by decide +kernel
theorem dX11_spanOf_5 : decode cX11_spanOf 5 = .ok (.aload_n 0, 1) := by decide +kernel
theorem dX11_spanOf_6 : decode cX11_spanOf 6 = .ok (.getfield 84, 3) := by decide +kernel
theorem dX11_spanOf_9 : decode cX11_spanOf 9 = .ok (.if_icmp .ge 31, 3) := by decide +kernel
theorem dX11_spanOf_12 : decode cX11_spanOf 12 = .ok (.iload_n 2, 1) := by decide +kernel
theorem dX11_spanOf_13 : decode cX11_spanOf 13 = .ok (.aload_n 0, 1) := by decide +kernel
theorem dX11_spanOf_14 : decode cX11_spanOf 14 = .ok (.iload_n 3, 1) := by decide +kernel
theorem dX11_spanOf_15 : decode cX11_spanOf 15 = .ok (.iload_n 1, 1) := by decide +kernel
theorem dX11_spanOf_16 : decode cX11_spanOf 16 = .ok (.invokevirtual 123, 3) := by decide +kernel
theorem dX11_spanOf_19 : decode cX11_spanOf 19 = .ok (.ifCond .eq 12, 3) := by decide +kernel
theorem dX11_spanOf_22 : decode cX11_spanOf 22 = .ok (.aload_n 0, 1) := by decide +kernel
theorem dX11_spanOf_23 : decode cX11_spanOf 23 = .ok (.iload_n 3, 1) := by decide +kernel
theorem dX11_spanOf_24 : decode cX11_spanOf 24 = .ok (.iconst 3, 1) := by decide +kernel
theorem dX11_spanOf_25 : decode cX11_spanOf 25 = .ok (.invokevirtual 94, 3) := by decide +kernel
theorem dX11_spanOf_28 : decode cX11_spanOf 28 = .ok (.goto 4, 3) := by decide +kernel
theorem dX11_spanOf_31 : decode cX11_spanOf 31 = .ok (.iconst 0, 1) := by decide +kernel
theorem dX11_spanOf_32 : decode cX11_spanOf 32 = .ok (.iadd, 1) := by decide +kernel
theorem dX11_spanOf_33 : decode cX11_spanOf 33 = .ok (.istore_n 2, 1) := by decide +kernel
theorem dX11_spanOf_34 : decode cX11_spanOf 34 = .ok (.iinc 3 1, 3) := by decide +kernel
theorem dX11_spanOf_37 : decode cX11_spanOf 37 = .ok (.goto (-33), 3) := by decide +kernel
theorem dX11_spanOf_40 : decode cX11_spanOf 40 = .ok (.iload_n 2, 1) := by decide +kernel
theorem dX11_spanOf_41 : decode cX11_spanOf 41 = .ok (.ireturn, 1) := by decide +kernel
theorem dX11_rootOf_0 : decode cX11_rootOf 0 = .ok (.iconst 0, 1) := by decide +kernel
theorem dX11_rootOf_1 : decode cX11_rootOf 1 = .ok (.istore_n 2, 1) := by decide +kernel
theorem dX11_rootOf_2 : decode cX11_rootOf 2 = .ok (.iconst 0, 1) := by decide +kernel
theorem dX11_rootOf_3 : decode cX11_rootOf 3 = .ok (.istore_n 3, 1) := by decide +kernel
theorem dX11_rootOf_4 : decode cX11_rootOf 4 = .ok (.iload_n 3, 1) := by decide +kernel
theorem dX11_rootOf_5 : decode cX11_rootOf 5 = .ok (.aload_n 0, 1) := by decide +kernel
theorem dX11_rootOf_6 : decode cX11_rootOf 6 = .ok (.getfield 84, 3) := by decide +kernel
theorem dX11_rootOf_9 : decode cX11_rootOf 9 = .ok (.if_icmp .ge 38, 3) := by decide +kernel
theorem dX11_rootOf_12 : decode cX11_rootOf 12 = .ok (.iload_n 2, 1) := by decide +kernel
theorem dX11_rootOf_13 : decode cX11_rootOf 13 = .ok (.aload_n 0, 1) := by decide +kernel
theorem dX11_rootOf_14 : decode cX11_rootOf 14 = .ok (.iload_n 3, 1) := by decide +kernel
theorem dX11_rootOf_15 : decode cX11_rootOf 15 = .ok (.iload_n 1, 1) := by decide +kernel
theorem dX11_rootOf_16 : decode cX11_rootOf 16 = .ok (.invokevirtual 123, 3) := by decide +kernel
theorem dX11_rootOf_19 : decode cX11_rootOf 19 = .ok (.ifCond .eq 19, 3) := by decide +kernel
theorem dX11_rootOf_22 : decode cX11_rootOf 22 = .ok (.aload_n 0, 1) := by decide +kernel
theorem dX11_rootOf_23 : decode cX11_rootOf 23 = .ok (.iload_n 3, 1) := by decide +kernel
theorem dX11_rootOf_24 : decode cX11_rootOf 24 = .ok (.iconst 3, 1) := by decide +kernel
theorem dX11_rootOf_25 : decode cX11_rootOf 25 = .ok (.invokevirtual 94, 3) := by decide +kernel
theorem dX11_rootOf_28 : decode cX11_rootOf 28 = .ok (.aload_n 0, 1) := by decide +kernel
theorem dX11_rootOf_29 : decode cX11_rootOf 29 = .ok (.iload_n 3, 1) := by decide +kernel
theorem dX11_rootOf_30 : decode cX11_rootOf 30 = .ok (.iconst 3, 1) := by decide +kernel
theorem dX11_rootOf_31 : decode cX11_rootOf 31 = .ok (.invokevirtual 94, 3) := by decide +kernel
theorem dX11_rootOf_34 : decode cX11_rootOf 34 = .ok (.imul, 1) := by decide +kernel
theorem dX11_rootOf_35 : decode cX11_rootOf 35 = .ok (.goto 4, 3) := by decide +kernel
theorem dX11_rootOf_38 : decode cX11_rootOf 38 = .ok (.iconst 0, 1) := by decide +kernel
theorem dX11_rootOf_39 : decode cX11_rootOf 39 = .ok (.iadd, 1) := by decide +kernel
theorem dX11_rootOf_40 : decode cX11_rootOf 40 = .ok (.istore_n 2, 1) := by decide +kernel
theorem dX11_rootOf_41 : decode cX11_rootOf 41 = .ok (.iinc 3 1, 3) := by decide +kernel
theorem dX11_rootOf_44 : decode cX11_rootOf 44 = .ok (.goto (-40), 3) := by decide +kernel
theorem dX11_rootOf_47 : decode cX11_rootOf 47 = .ok (.iconst 0, 1) := by decide +kernel
theorem dX11_rootOf_48 : decode cX11_rootOf 48 = .ok (.istore_n 3, 1) := by decide +kernel
theorem dX11_rootOf_49 : decode cX11_rootOf 49 = .ok (.iload_n 3, 1) := by decide +kernel
theorem dX11_rootOf_50 : decode cX11_rootOf 50 = .ok (.iconst 1, 1) := by decide +kernel
theorem dX11_rootOf_51 : decode cX11_rootOf 51 = .ok (.iadd, 1) := by decide +kernel
theorem dX11_rootOf_52 : decode cX11_rootOf 52 = .ok (.iload_n 3, 1) := by decide +kernel
theorem dX11_rootOf_53 : decode cX11_rootOf 53 = .ok (.iconst 1, 1) := by decide +kernel
theorem dX11_rootOf_54 : decode cX11_rootOf 54 = .ok (.iadd, 1) := by decide +kernel
theorem dX11_rootOf_55 : decode cX11_rootOf 55 = .ok (.imul, 1) := by decide +kernel
theorem dX11_rootOf_56 : decode cX11_rootOf 56 = .ok (.iload_n 2, 1) := by decide +kernel
theorem dX11_rootOf_57 : decode cX11_rootOf 57 = .ok (.if_icmp .gt 9, 3) := by decide +kernel
theorem dX11_rootOf_60 : decode cX11_rootOf 60 = .ok (.iinc 3 1, 3) := by decide +kernel
theorem dX11_rootOf_63 : decode cX11_rootOf 63 = .ok (.goto (-14), 3) := by decide +kernel
theorem dX11_rootOf_66 : decode cX11_rootOf 66 = .ok (.iload_n 3, 1) := by decide +kernel
theorem dX11_rootOf_67 : decode cX11_rootOf 67 = .ok (.ireturn, 1) := by decide +kernel
theorem dX11_span_0 : decode cX11_span 0 = .ok (.iload_n 1, 1) := by decide +kernel
theorem dX11_span_1 : decode cX11_span 1 = .ok (.invokestatic 119, 3) := by decide +kernel
theorem dX11_span_4 : decode cX11_span 4 = .ok (.ifCond .eq 10, 3) := by decide +kernel
theorem dX11_span_7 : decode cX11_span 7 = .ok (.iload_n 2, 1) := by decide +kernel
theorem dX11_span_8 : decode cX11_span 8 = .ok (.invokestatic 119, 3) := by decide +kernel
theorem dX11_span_11 : decode cX11_span 11 = .ok (.ifCond .ne 5, 3) := by decide +kernel
theorem dX11_span_14 : decode cX11_span 14 = .ok (.iconst (-1), 1) := by decide +kernel
theorem dX11_span_15 : decode cX11_span 15 = .ok (.ireturn, 1) := by decide +kernel
theorem dX11_span_16 : decode cX11_span 16 = .ok (.iload_n 2, 1) := by decide +kernel
theorem dX11_span_17 : decode cX11_span 17 = .ok (.ifCond .ne 11, 3) := by decide +kernel
theorem dX11_span_20 : decode cX11_span 20 = .ok (.aload_n 0, 1) := by decide +kernel
theorem dX11_span_21 : decode cX11_span 21 = .ok (.iload_n 1, 1) := by decide +kernel
theorem dX11_span_22 : decode cX11_span 22 = .ok (.invokevirtual 270, 3) := by decide +kernel
theorem dX11_span_25 : decode cX11_span 25 = .ok (.goto 8, 3) := by decide +kernel
theorem dX11_span_28 : decode cX11_span 28 = .ok (.aload_n 0, 1) := by decide +kernel
theorem dX11_span_29 : decode cX11_span 29 = .ok (.iload_n 1, 1) := by decide +kernel
theorem dX11_span_30 : decode cX11_span 30 = .ok (.invokevirtual 273, 3) := by decide +kernel
theorem dX11_span_33 : decode cX11_span 33 = .ok (.ireturn, 1) := by decide +kernel
theorem dX11_sumOf_0 : decode cX11_sumOf 0 = .ok (.iconst 0, 1) := by decide +kernel
theorem dX11_sumOf_1 : decode cX11_sumOf 1 = .ok (.istore 4, 2) := by decide +kernel
theorem dX11_sumOf_3 : decode cX11_sumOf 3 = .ok (.aload_n 0, 1) := by decide +kernel
theorem dX11_sumOf_4 : decode cX11_sumOf 4 = .ok (.iconst 0, 1) := by decide +kernel
theorem dX11_sumOf_5 : decode cX11_sumOf 5 = .ok (.putfield 276, 3) := by decide +kernel
theorem dX11_sumOf_8 : decode cX11_sumOf 8 = .ok (.iconst 0, 1) := by decide +kernel
theorem dX11_sumOf_9 : decode cX11_sumOf 9 = .ok (.istore 5, 2) := by decide +kernel
theorem dX11_sumOf_11 : decode cX11_sumOf 11 = .ok (.iload 5, 2) := by decide +kernel
theorem dX11_sumOf_13 : decode cX11_sumOf 13 = .ok (.aload_n 0, 1) := by decide +kernel
theorem dX11_sumOf_14 : decode cX11_sumOf 14 = .ok (.getfield 116, 3) := by decide +kernel
theorem dX11_sumOf_17 : decode cX11_sumOf 17 = .ok (.if_icmp .ge 67, 3) := by decide +kernel
theorem dX11_sumOf_20 : decode cX11_sumOf 20 = .ok (.aload_n 0, 1) := by decide +kernel
theorem dX11_sumOf_21 : decode cX11_sumOf 21 = .ok (.getfield 17, 3) := by decide +kernel
theorem dX11_sumOf_24 : decode cX11_sumOf 24 = .ok (.iconst 3, 1) := by decide +kernel
theorem dX11_sumOf_25 : decode cX11_sumOf 25 = .ok (.iload 5, 2) := by decide +kernel
theorem dX11_sumOf_27 : decode cX11_sumOf 27 = .ok (.imul, 1) := by decide +kernel
theorem dX11_sumOf_28 : decode cX11_sumOf 28 = .ok (.iconst 1, 1) := by decide +kernel
theorem dX11_sumOf_29 : decode cX11_sumOf 29 = .ok (.iadd, 1) := by decide +kernel
theorem dX11_sumOf_30 : decode cX11_sumOf 30 = .ok (.iaload, 1) := by decide +kernel
theorem dX11_sumOf_31 : decode cX11_sumOf 31 = .ok (.iload_n 1, 1) := by decide +kernel
theorem dX11_sumOf_32 : decode cX11_sumOf 32 = .ok (.if_icmp .ne 46, 3) := by decide +kernel
theorem dX11_sumOf_35 : decode cX11_sumOf 35 = .ok (.aload_n 0, 1) := by decide +kernel
theorem dX11_sumOf_36 : decode cX11_sumOf 36 = .ok (.getfield 17, 3) := by decide +kernel
theorem dX11_sumOf_39 : decode cX11_sumOf 39 = .ok (.iconst 3, 1) := by decide +kernel
theorem dX11_sumOf_40 : decode cX11_sumOf 40 = .ok (.iload 5, 2) := by decide +kernel
theorem dX11_sumOf_42 : decode cX11_sumOf 42 = .ok (.imul, 1) := by decide +kernel
theorem dX11_sumOf_43 : decode cX11_sumOf 43 = .ok (.iaload, 1) := by decide +kernel
theorem dX11_sumOf_44 : decode cX11_sumOf 44 = .ok (.iload_n 2, 1) := by decide +kernel
theorem dX11_sumOf_45 : decode cX11_sumOf 45 = .ok (.iload_n 3, 1) := by decide +kernel
theorem dX11_sumOf_46 : decode cX11_sumOf 46 = .ok (.invokestatic 87, 3) := by decide +kernel
theorem dX11_sumOf_49 : decode cX11_sumOf 49 = .ok (.ifCond .eq 29, 3) := by decide +kernel
theorem dX11_sumOf_52 : decode cX11_sumOf 52 = .ok (.iload 4, 2) := by decide +kernel
theorem dX11_sumOf_54 : decode cX11_sumOf 54 = .ok (.aload_n 0, 1) := by decide +kernel
theorem dX11_sumOf_55 : decode cX11_sumOf 55 = .ok (.getfield 17, 3) := by decide +kernel
theorem dX11_sumOf_58 : decode cX11_sumOf 58 = .ok (.iconst 3, 1) := by decide +kernel
theorem dX11_sumOf_59 : decode cX11_sumOf 59 = .ok (.iload 5, 2) := by decide +kernel
theorem dX11_sumOf_61 : decode cX11_sumOf 61 = .ok (.imul, 1) := by decide +kernel
theorem dX11_sumOf_62 : decode cX11_sumOf 62 = .ok (.iconst 2, 1) := by decide +kernel
theorem dX11_sumOf_63 : decode cX11_sumOf 63 = .ok (.iadd, 1) := by decide +kernel
theorem dX11_sumOf_64 : decode cX11_sumOf 64 = .ok (.iaload, 1) := by decide +kernel
theorem dX11_sumOf_65 : decode cX11_sumOf 65 = .ok (.iadd, 1) := by decide +kernel
theorem dX11_sumOf_66 : decode cX11_sumOf 66 = .ok (.istore 4, 2) := by decide +kernel
theorem dX11_sumOf_68 : decode cX11_sumOf 68 = .ok (.aload_n 0, 1) := by decide +kernel
theorem dX11_sumOf_69 : decode cX11_sumOf 69 = .ok (.dup, 1) := by decide +kernel
theorem dX11_sumOf_70 : decode cX11_sumOf 70 = .ok (.getfield 276, 3) := by decide +kernel
theorem dX11_sumOf_73 : decode cX11_sumOf 73 = .ok (.iconst 1, 1) := by decide +kernel
theorem dX11_sumOf_74 : decode cX11_sumOf 74 = .ok (.iadd, 1) := by decide +kernel
theorem dX11_sumOf_75 : decode cX11_sumOf 75 = .ok (.putfield 276, 3) := by decide +kernel
theorem dX11_sumOf_78 : decode cX11_sumOf 78 = .ok (.iinc 5 1, 3) := by decide +kernel
theorem dX11_sumOf_81 : decode cX11_sumOf 81 = .ok (.goto (-70), 3) := by decide +kernel
theorem dX11_sumOf_84 : decode cX11_sumOf 84 = .ok (.iload 4, 2) := by decide +kernel
theorem dX11_sumOf_86 : decode cX11_sumOf 86 = .ok (.ireturn, 1) := by decide +kernel
theorem dX11_sure_0 : decode cX11_sure 0 = .ok (.iload_n 1, 1) := by decide +kernel
theorem dX11_sure_1 : decode cX11_sure 1 = .ok (.invokestatic 119, 3) := by decide +kernel
theorem dX11_sure_4 : decode cX11_sure 4 = .ok (.ifCond .ne 5, 3) := by decide +kernel
theorem dX11_sure_7 : decode cX11_sure 7 = .ok (.iconst (-1), 1) := by decide +kernel
theorem dX11_sure_8 : decode cX11_sure 8 = .ok (.ireturn, 1) := by decide +kernel
theorem dX11_sure_9 : decode cX11_sure 9 = .ok (.aload_n 0, 1) := by decide +kernel
theorem dX11_sure_10 : decode cX11_sure 10 = .ok (.iload_n 1, 1) := by decide +kernel
theorem dX11_sure_11 : decode cX11_sure 11 = .ok (.iconst 0, 1) := by decide +kernel
theorem dX11_sure_12 : decode cX11_sure 12 = .ok (.sipush 999, 3) := by decide +kernel
theorem dX11_sure_15 : decode cX11_sure 15 = .ok (.invokevirtual 279, 3) := by decide +kernel
theorem dX11_sure_18 : decode cX11_sure 18 = .ok (.istore_n 2, 1) := by decide +kernel
theorem dX11_sure_19 : decode cX11_sure 19 = .ok (.aload_n 0, 1) := by decide +kernel
theorem dX11_sure_20 : decode cX11_sure 20 = .ok (.getfield 276, 3) := by decide +kernel
theorem dX11_sure_23 : decode cX11_sure 23 = .ok (.ifCond .ne 6, 3) := by decide +kernel
theorem dX11_sure_26 : decode cX11_sure 26 = .ok (.bipush (-3), 2) := by decide +kernel
theorem dX11_sure_28 : decode cX11_sure 28 = .ok (.ireturn, 1) := by decide +kernel
theorem dX11_sure_29 : decode cX11_sure 29 = .ok (.aload_n 0, 1) := by decide +kernel
theorem dX11_sure_30 : decode cX11_sure 30 = .ok (.iload_n 1, 1) := by decide +kernel
theorem dX11_sure_31 : decode cX11_sure 31 = .ok (.invokevirtual 273, 3) := by decide +kernel
theorem dX11_sure_34 : decode cX11_sure 34 = .ok (.istore_n 3, 1) := by decide +kernel
theorem dX11_sure_35 : decode cX11_sure 35 = .ok (.iload_n 3, 1) := by decide +kernel
theorem dX11_sure_36 : decode cX11_sure 36 = .ok (.ifCond .ne 8, 3) := by decide +kernel
theorem dX11_sure_39 : decode cX11_sure 39 = .ok (.bipush (-15), 2) := by decide +kernel
theorem dX11_sure_41 : decode cX11_sure 41 = .ok (.goto 14, 3) := by decide +kernel
theorem dX11_sure_44 : decode cX11_sure 44 = .ok (.iload_n 2, 1) := by decide +kernel
theorem dX11_sure_45 : decode cX11_sure 45 = .ok (.invokestatic 229, 3) := by decide +kernel
theorem dX11_sure_48 : decode cX11_sure 48 = .ok (.aload_n 0, 1) := by decide +kernel
theorem dX11_sure_49 : decode cX11_sure 49 = .ok (.getfield 276, 3) := by decide +kernel
theorem dX11_sure_52 : decode cX11_sure 52 = .ok (.iload_n 3, 1) := by decide +kernel
theorem dX11_sure_53 : decode cX11_sure 53 = .ok (.imul, 1) := by decide +kernel
theorem dX11_sure_54 : decode cX11_sure 54 = .ok (.idiv, 1) := by decide +kernel
theorem dX11_sure_55 : decode cX11_sure 55 = .ok (.ireturn, 1) := by decide +kernel
theorem dX11_isFar_0 : decode cX11_isFar 0 = .ok (.iload_n 0, 1) := by decide +kernel
theorem dX11_isFar_1 : decode cX11_isFar 1 = .ok (.sipush (-9999), 3) := by decide +kernel
theorem dX11_isFar_4 : decode cX11_isFar 4 = .ok (.sipush 9999, 3) := by decide +kernel
theorem dX11_isFar_7 : decode cX11_isFar 7 = .ok (.invokestatic 87, 3) := by decide +kernel
theorem dX11_isFar_10 : decode cX11_isFar 10 = .ok (.ireturn, 1) := by decide +kernel
theorem dX11_could_0 : decode cX11_could 0 = .ok (.iload_n 1, 1) := by decide +kernel
theorem dX11_could_1 : decode cX11_could 1 = .ok (.invokestatic 119, 3) := by decide +kernel
theorem dX11_could_4 : decode cX11_could 4 = .ok (.ifCond .eq 10, 3) := by decide +kernel
theorem dX11_could_7 : decode cX11_could 7 = .ok (.iload_n 2, 1) := by decide +kernel
theorem dX11_could_8 : decode cX11_could 8 = .ok (.invokestatic 282, 3) := by decide +kernel
theorem dX11_could_11 : decode cX11_could 11 = .ok (.ifCond .ne 5, 3) := by decide +kernel
theorem dX11_could_14 : decode cX11_could 14 = .ok (.iconst (-1), 1) := by decide +kernel
theorem dX11_could_15 : decode cX11_could 15 = .ok (.ireturn, 1) := by decide +kernel
theorem dX11_could_16 : decode cX11_could 16 = .ok (.iconst 0, 1) := by decide +kernel
theorem dX11_could_17 : decode cX11_could 17 = .ok (.istore_n 3, 1) := by decide +kernel
theorem dX11_could_18 : decode cX11_could 18 = .ok (.iconst 0, 1) := by decide +kernel
theorem dX11_could_19 : decode cX11_could 19 = .ok (.istore 4, 2) := by decide +kernel
theorem dX11_could_21 : decode cX11_could 21 = .ok (.iload 4, 2) := by decide +kernel
theorem dX11_could_23 : decode cX11_could 23 = .ok (.aload_n 0, 1) := by decide +kernel
theorem dX11_could_24 : decode cX11_could 24 = .ok (.getfield 84, 3) := by decide +kernel
theorem dX11_could_27 : decode cX11_could 27 = .ok (.if_icmp .ge 44, 3) := by decide +kernel
theorem dX11_could_30 : decode cX11_could 30 = .ok (.iload_n 3, 1) := by decide +kernel
theorem dX11_could_31 : decode cX11_could 31 = .ok (.aload_n 0, 1) := by decide +kernel
theorem dX11_could_32 : decode cX11_could 32 = .ok (.iload 4, 2) := by decide +kernel
theorem dX11_could_34 : decode cX11_could 34 = .ok (.iload_n 1, 1) := by decide +kernel
theorem dX11_could_35 : decode cX11_could 35 = .ok (.invokevirtual 123, 3) := by decide +kernel
theorem dX11_could_38 : decode cX11_could 38 = .ok (.ifCond .eq 24, 3) := by decide +kernel
theorem dX11_could_41 : decode cX11_could 41 = .ok (.aload_n 0, 1) := by decide +kernel
theorem dX11_could_42 : decode cX11_could 42 = .ok (.iload 4, 2) := by decide +kernel
theorem dX11_could_44 : decode cX11_could 44 = .ok (.iconst 3, 1) := by decide +kernel
theorem dX11_could_45 : decode cX11_could 45 = .ok (.invokevirtual 94, 3) := by decide +kernel
theorem dX11_could_48 : decode cX11_could 48 = .ok (.iload_n 2, 1) := by decide +kernel
theorem dX11_could_49 : decode cX11_could 49 = .ok (.invokestatic 229, 3) := by decide +kernel
theorem dX11_could_52 : decode cX11_could 52 = .ok (.if_icmp .lt 10, 3) := by decide +kernel
theorem dX11_could_55 : decode cX11_could 55 = .ok (.iconst 1, 1) := by decide +kernel
theorem dX11_could_56 : decode cX11_could 56 = .ok (.iload 4, 2) := by decide +kernel
theorem dX11_could_58 : decode cX11_could 58 = .ok (.ishl, 1) := by decide +kernel
theorem dX11_could_59 : decode cX11_could 59 = .ok (.goto 4, 3) := by decide +kernel
theorem dX11_could_62 : decode cX11_could 62 = .ok (.iconst 0, 1) := by decide +kernel
theorem dX11_could_63 : decode cX11_could 63 = .ok (.ior, 1) := by decide +kernel
theorem dX11_could_64 : decode cX11_could 64 = .ok (.istore_n 3, 1) := by decide +kernel
theorem dX11_could_65 : decode cX11_could 65 = .ok (.iinc 4 1, 3) := by decide +kernel
theorem dX11_could_68 : decode cX11_could 68 = .ok (.goto (-47), 3) := by decide +kernel
theorem dX11_could_71 : decode cX11_could 71 = .ok (.iload_n 3, 1) := by decide +kernel
theorem dX11_could_72 : decode cX11_could 72 = .ok (.ireturn, 1) := by decide +kernel
theorem dX11_fits_0 : decode cX11_fits 0 = .ok (.iload_n 1, 1) := by decide +kernel
theorem dX11_fits_1 : decode cX11_fits 1 = .ok (.invokestatic 119, 3) := by decide +kernel
theorem dX11_fits_4 : decode cX11_fits 4 = .ok (.ifCond .eq 10, 3) := by decide +kernel
theorem dX11_fits_7 : decode cX11_fits 7 = .ok (.iload_n 2, 1) := by decide +kernel
theorem dX11_fits_8 : decode cX11_fits 8 = .ok (.invokestatic 282, 3) := by decide +kernel
theorem dX11_fits_11 : decode cX11_fits 11 = .ok (.ifCond .ne 5, 3) := by decide +kernel
theorem dX11_fits_14 : decode cX11_fits 14 = .ok (.iconst (-1), 1) := by decide +kernel
theorem dX11_fits_15 : decode cX11_fits 15 = .ok (.ireturn, 1) := by decide +kernel
theorem dX11_fits_16 : decode cX11_fits 16 = .ok (.iconst 0, 1) := by decide +kernel
theorem dX11_fits_17 : decode cX11_fits 17 = .ok (.istore_n 3, 1) := by decide +kernel
theorem dX11_fits_18 : decode cX11_fits 18 = .ok (.iconst 0, 1) := by decide +kernel
theorem dX11_fits_19 : decode cX11_fits 19 = .ok (.istore 4, 2) := by decide +kernel
theorem dX11_fits_21 : decode cX11_fits 21 = .ok (.iload 4, 2) := by decide +kernel
theorem dX11_fits_23 : decode cX11_fits 23 = .ok (.aload_n 0, 1) := by decide +kernel
theorem dX11_fits_24 : decode cX11_fits 24 = .ok (.getfield 84, 3) := by decide +kernel
theorem dX11_fits_27 : decode cX11_fits 27 = .ok (.if_icmp .ge 114, 3) := by decide +kernel
theorem dX11_fits_30 : decode cX11_fits 30 = .ok (.iload 4, 2) := by decide +kernel
theorem dX11_fits_32 : decode cX11_fits 32 = .ok (.iconst 1, 1) := by decide +kernel
theorem dX11_fits_33 : decode cX11_fits 33 = .ok (.iadd, 1) := by decide +kernel
theorem dX11_fits_34 : decode cX11_fits 34 = .ok (.istore 5, 2) := by decide +kernel
theorem dX11_fits_36 : decode cX11_fits 36 = .ok (.iload 5, 2) := by decide +kernel
theorem dX11_fits_38 : decode cX11_fits 38 = .ok (.aload_n 0, 1) := by decide +kernel
theorem dX11_fits_39 : decode cX11_fits 39 = .ok (.getfield 84, 3) := by decide +kernel
theorem dX11_fits_42 : decode cX11_fits 42 = .ok (.if_icmp .ge 93, 3) := by decide +kernel
theorem dX11_fits_45 : decode cX11_fits 45 = .ok (.aload_n 0, 1) := by decide +kernel
theorem dX11_fits_46 : decode cX11_fits 46 = .ok (.iload 4, 2) := by decide +kernel
theorem dX11_fits_48 : decode cX11_fits 48 = .ok (.iconst 3, 1) := by decide +kernel
theorem dX11_fits_49 : decode cX11_fits 49 = .ok (.invokevirtual 94, 3) := by decide +kernel
theorem dX11_fits_52 : decode cX11_fits 52 = .ok (.ineg, 1) := by decide +kernel
theorem dX11_fits_53 : decode cX11_fits 53 = .ok (.istore 6, 2) := by decide +kernel
theorem dX11_fits_55 : decode cX11_fits 55 = .ok (.iload 6, 2) := by decide +kernel
theorem dX11_fits_57 : decode cX11_fits 57 = .ok (.aload_n 0, 1) := by decide +kernel
theorem dX11_fits_58 : decode cX11_fits 58 = .ok (.iload 4, 2) := by decide +kernel
theorem dX11_fits_60 : decode cX11_fits 60 = .ok (.iconst 3, 1) := by decide +kernel
theorem dX11_fits_61 : decode cX11_fits 61 = .ok (.invokevirtual 94, 3) := by decide +kernel
theorem dX11_fits_64 : decode cX11_fits 64 = .ok (.if_icmp .gt 65, 3) := by decide +kernel
theorem dX11_fits_67 : decode cX11_fits 67 = .ok (.aload_n 0, 1) := by decide +kernel
theorem dX11_fits_68 : decode cX11_fits 68 = .ok (.iload 4, 2) := by decide +kernel
theorem dX11_fits_70 : decode cX11_fits 70 = .ok (.iload_n 1, 1) := by decide +kernel
