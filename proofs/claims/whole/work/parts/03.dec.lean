theorem dX10_init_0 : decode cX10_init 0 = .ok (.aload_n 0, 1) := by decide +kernel
theorem dX10_init_1 : decode cX10_init 1 = .ok (.invokespecial 1, 3) := by decide +kernel
theorem dX10_init_4 : decode cX10_init 4 = .ok (.aload_n 0, 1) := by decide +kernel
theorem dX10_init_5 : decode cX10_init 5 = .ok (.new 7, 3) := by decide +kernel
theorem dX10_init_8 : decode cX10_init 8 = .ok (.dup, 1) := by decide +kernel
theorem dX10_init_9 : decode cX10_init 9 = .ok (.invokespecial 9, 3) := by decide +kernel
theorem dX10_init_12 : decode cX10_init 12 = .ok (.putfield 10, 3) := by decide +kernel
theorem dX10_init_15 : decode cX10_init 15 = .ok (.aload_n 0, 1) := by decide +kernel
theorem dX10_init_16 : decode cX10_init 16 = .ok (.new 7, 3) := by decide +kernel
theorem dX10_init_19 : decode cX10_init 19 = .ok (.dup, 1) := by decide +kernel
theorem dX10_init_20 : decode cX10_init 20 = .ok (.invokespecial 9, 3) := by decide +kernel
theorem dX10_init_23 : decode cX10_init 23 = .ok (.putfield 16, 3) := by decide +kernel
theorem dX10_init_26 : decode cX10_init 26 = .ok (.aload_n 0, 1) := by decide +kernel
theorem dX10_init_27 : decode cX10_init 27 = .ok (.iconst 0, 1) := by decide +kernel
theorem dX10_init_28 : decode cX10_init 28 = .ok (.putfield 19, 3) := by decide +kernel
theorem dX10_init_31 : decode cX10_init 31 = .ok (.aload_n 0, 1) := by decide +kernel
theorem dX10_init_32 : decode cX10_init 32 = .ok (.sipush 200, 3) := by decide +kernel
theorem dX10_init_35 : decode cX10_init 35 = .ok (.newarray .char, 2) := by decide +kernel
theorem dX10_init_37 : decode cX10_init 37 = .ok (.putfield 23, 3) := by decide +kernel
theorem dX10_init_40 : decode cX10_init 40 = .ok (.aload_n 0, 1) := by decide +kernel
theorem dX10_init_41 : decode cX10_init 41 = .ok (.iconst 0, 1) := by decide +kernel
theorem dX10_init_42 : decode cX10_init 42 = .ok (.putfield 27, 3) := by decide +kernel
theorem dX10_init_45 : decode cX10_init 45 = .ok (.aload_n 0, 1) := by decide +kernel
theorem dX10_init_46 : decode cX10_init 46 = .ok (.new 31, 3) := by decide +kernel
theorem dX10_init_49 : decode cX10_init 49 = .ok (.dup, 1) := by decide +kernel
theorem dX10_init_50 : decode cX10_init 50 = .ok (.invokespecial 33, 3) := by decide +kernel
theorem dX10_init_53 : decode cX10_init 53 = .ok (.putfield 34, 3) := by decide +kernel
theorem dX10_init_56 : decode cX10_init 56 = .ok (.aload_n 0, 1) := by decide +kernel
theorem dX10_init_57 : decode cX10_init 57 = .ok (.new 38, 3) := by decide +kernel
theorem dX10_init_60 : decode cX10_init 60 = .ok (.dup, 1) := by decide +kernel
theorem dX10_init_61 : decode cX10_init 61 = .ok (.aload_n 0, 1) := by decide +kernel
theorem dX10_init_62 : decode cX10_init 62 = .ok (.getfield 34, 3) := by decide +kernel
theorem dX10_init_65 : decode cX10_init 65 = .ok (.invokespecial 40, 3) := by decide +kernel
theorem dX10_init_68 : decode cX10_init 68 = .ok (.putfield 43, 3) := by decide +kernel
theorem dX10_init_71 : decode cX10_init 71 = .ok (.aload_n 0, 1) := by decide +kernel
theorem dX10_init_72 : decode cX10_init 72 = .ok (.new 47, 3) := by decide +kernel
theorem dX10_init_75 : decode cX10_init 75 = .ok (.dup, 1) := by decide +kernel
theorem dX10_init_76 : decode cX10_init 76 = .ok (.aload_n 0, 1) := by decide +kernel
theorem dX10_init_77 : decode cX10_init 77 = .ok (.getfield 34, 3) := by decide +kernel
theorem dX10_init_80 : decode cX10_init 80 = .ok (.invokespecial 49, 3) := by decide +kernel
theorem dX10_init_83 : decode cX10_init 83 = .ok (.putfield 50, 3) := by decide +kernel
theorem dX10_init_86 : decode cX10_init 86 = .ok (.aload_n 0, 1) := by decide +kernel
theorem dX10_init_87 : decode cX10_init 87 = .ok (.bipush 7, 2) := by decide +kernel
theorem dX10_init_89 : decode cX10_init 89 = .ok (.newarray .int, 2) := by decide +kernel
theorem dX10_init_91 : decode cX10_init 91 = .ok (.putfield 54, 3) := by decide +kernel
theorem dX10_init_94 : decode cX10_init 94 = .ok (.aload_n 0, 1) := by decide +kernel
theorem dX10_init_95 : decode cX10_init 95 = .ok (.sipush 200, 3) := by decide +kernel
theorem dX10_init_98 : decode cX10_init 98 = .ok (.newarray .int, 2) := by decide +kernel
theorem dX10_init_100 : decode cX10_init 100 = .ok (.putfield 58, 3) := by decide +kernel
theorem dX10_init_103 : decode cX10_init 103 = .ok (.aload_n 0, 1) := by decide +kernel
theorem dX10_init_104 : decode cX10_init 104 = .ok (.bipush 28, 2) := by decide +kernel
theorem dX10_init_106 : decode cX10_init 106 = .ok (.newarray .int, 2) := by decide +kernel
theorem dX10_init_108 : decode cX10_init 108 = .ok (.putfield 61, 3) := by decide +kernel
theorem dX10_init_111 : decode cX10_init 111 = .ok (.aload_n 0, 1) := by decide +kernel
theorem dX10_init_112 : decode cX10_init 112 = .ok (.bipush 40, 2) := by decide +kernel
theorem dX10_init_114 : decode cX10_init 114 = .ok (.newarray .int, 2) := by decide +kernel
theorem dX10_init_116 : decode cX10_init 116 = .ok (.putfield 64, 3) := by decide +kernel
theorem dX10_init_119 : decode cX10_init 119 = .ok (.aload_n 0, 1) := by decide +kernel
theorem dX10_init_120 : decode cX10_init 120 = .ok (.bipush 30, 2) := by decide +kernel
theorem dX10_init_122 : decode cX10_init 122 = .ok (.newarray .int, 2) := by decide +kernel
theorem dX10_init_124 : decode cX10_init 124 = .ok (.putfield 67, 3) := by decide +kernel
theorem dX10_init_127 : decode cX10_init 127 = .ok (.aload_n 0, 1) := by decide +kernel
theorem dX10_init_128 : decode cX10_init 128 = .ok (.iconst 0, 1) := by decide +kernel
theorem dX10_init_129 : decode cX10_init 129 = .ok (.putfield 70, 3) := by decide +kernel
theorem dX10_init_132 : decode cX10_init 132 = .ok (.aload_n 0, 1) := by decide +kernel
theorem dX10_init_133 : decode cX10_init 133 = .ok (.iconst 4, 1) := by decide +kernel
theorem dX10_init_134 : decode cX10_init 134 = .ok (.anewarray 73, 3) := by decide +kernel
theorem dX10_init_137 : decode cX10_init 137 = .ok (.putfield 75, 3) := by decide +kernel
theorem dX10_init_140 : decode cX10_init 140 = .ok (.aload_n 0, 1) := by decide +kernel
theorem dX10_init_141 : decode cX10_init 141 = .ok (.iconst 4, 1) := by decide +kernel
theorem dX10_init_142 : decode cX10_init 142 = .ok (.anewarray 79, 3) := by decide +kernel
theorem dX10_init_145 : decode cX10_init 145 = .ok (.putfield 81, 3) := by decide +kernel
theorem dX10_init_148 : decode cX10_init 148 = .ok (.aload_n 0, 1) := by decide +kernel
theorem dX10_init_149 : decode cX10_init 149 = .ok (.new 85, 3) := by decide +kernel
theorem dX10_init_152 : decode cX10_init 152 = .ok (.dup, 1) := by decide +kernel
theorem dX10_init_153 : decode cX10_init 153 = .ok (.invokespecial 87, 3) := by decide +kernel
theorem dX10_init_156 : decode cX10_init 156 = .ok (.putfield 88, 3) := by decide +kernel
theorem dX10_init_159 : decode cX10_init 159 = .ok (.iconst 0, 1) := by decide +kernel
theorem dX10_init_160 : decode cX10_init 160 = .ok (.istore_n 1, 1) := by decide +kernel
theorem dX10_init_161 : decode cX10_init 161 = .ok (.iload_n 1, 1) := by decide +kernel
theorem dX10_init_162 : decode cX10_init 162 = .ok (.iconst 4, 1) := by decide +kernel
theorem dX10_init_163 : decode cX10_init 163 = .ok (.if_icmp .ge 22, 3) := by decide +kernel
theorem dX10_init_166 : decode cX10_init 166 = .ok (.aload_n 0, 1) := by decide +kernel
theorem dX10_init_167 : decode cX10_init 167 = .ok (.getfield 75, 3) := by decide +kernel
theorem dX10_init_170 : decode cX10_init 170 = .ok (.iload_n 1, 1) := by decide +kernel
theorem dX10_init_171 : decode cX10_init 171 = .ok (.new 73, 3) := by decide +kernel
theorem dX10_init_174 : decode cX10_init 174 = .ok (.dup, 1) := by decide +kernel
theorem dX10_init_175 : decode cX10_init 175 = .ok (.invokespecial 92, 3) := by decide +kernel
theorem dX10_init_178 : decode cX10_init 178 = .ok (.aastore, 1) := by decide +kernel
theorem dX10_init_179 : decode cX10_init 179 = .ok (.iinc 1 1, 3) := by decide +kernel
theorem dX10_init_182 : decode cX10_init 182 = .ok (.goto (-21), 3) := by decide +kernel
theorem dX10_init_185 : decode cX10_init 185 = .ok (.iconst 0, 1) := by decide +kernel
theorem dX10_init_186 : decode cX10_init 186 = .ok (.istore_n 1, 1) := by decide +kernel
theorem dX10_init_187 : decode cX10_init 187 = .ok (.iload_n 1, 1) := by decide +kernel
theorem dX10_init_188 : decode cX10_init 188 = .ok (.iconst 4, 1) := by decide +kernel
theorem dX10_init_189 : decode cX10_init 189 = .ok (.if_icmp .ge 22, 3) := by decide +kernel
theorem dX10_init_192 : decode cX10_init 192 = .ok (.aload_n 0, 1) := by decide +kernel
theorem dX10_init_193 : decode cX10_init 193 = .ok (.getfield 81, 3) := by decide +kernel
theorem dX10_init_196 : decode cX10_init 196 = .ok (.iload_n 1, 1) := by decide +kernel
theorem dX10_init_197 : decode cX10_init 197 = .ok (.new 79, 3) := by decide +kernel
theorem dX10_init_200 : decode cX10_init 200 = .ok (.dup, 1) := by decide +kernel
theorem dX10_init_201 : decode cX10_init 201 = .ok (.invokespecial 93, 3) := by decide +kernel
theorem dX10_init_204 : decode cX10_init 204 = .ok (.aastore, 1) := by decide +kernel
theorem dX10_init_205 : decode cX10_init 205 = .ok (.iinc 1 1, 3) := by decide +kernel
theorem dX10_init_208 : decode cX10_init 208 = .ok (.goto (-21), 3) := by decide +kernel
theorem dX10_init_211 : decode cX10_init 211 = .ok (.return_, 1) := by decide +kernel
theorem dX10_part_0 : decode cX10_part 0 = .ok (.iload_n 1, 1) := by decide +kernel
theorem dX10_part_1 : decode cX10_part 1 = .ok (.iconst 0, 1) := by decide +kernel
theorem dX10_part_2 : decode cX10_part 2 = .ok (.bipush 6, 2) := by decide +kernel
theorem dX10_part_4 : decode cX10_part 4 = .ok (.invokestatic 94, 3) := by decide +kernel
theorem dX10_part_7 : decode cX10_part 7 = .ok (.ifCond .eq 49, 3) := by decide +kernel
theorem dX10_part_10 : decode cX10_part 10 = .ok (.iload_n 2, 1) := by decide +kernel
theorem dX10_part_11 : decode cX10_part 11 = .ok (.iconst 1, 1) := by decide +kernel
theorem dX10_part_12 : decode cX10_part 12 = .ok (.iconst 3, 1) := by decide +kernel
theorem dX10_part_13 : decode cX10_part 13 = .ok (.invokestatic 94, 3) := by decide +kernel
theorem dX10_part_16 : decode cX10_part 16 = .ok (.ifCond .eq 40, 3) := by decide +kernel
theorem dX10_part_19 : decode cX10_part 19 = .ok (.iload_n 3, 1) := by decide +kernel
theorem dX10_part_20 : decode cX10_part 20 = .ok (.iconst 0, 1) := by decide +kernel
theorem dX10_part_21 : decode cX10_part 21 = .ok (.sipush 9999, 3) := by decide +kernel
theorem dX10_part_24 : decode cX10_part 24 = .ok (.invokestatic 94, 3) := by decide +kernel
theorem dX10_part_27 : decode cX10_part 27 = .ok (.ifCond .eq 29, 3) := by decide +kernel
theorem dX10_part_30 : decode cX10_part 30 = .ok (.iload 4, 2) := by decide +kernel
theorem dX10_part_32 : decode cX10_part 32 = .ok (.iconst 0, 1) := by decide +kernel
theorem dX10_part_33 : decode cX10_part 33 = .ok (.bipush 99, 2) := by decide +kernel
theorem dX10_part_35 : decode cX10_part 35 = .ok (.invokestatic 94, 3) := by decide +kernel
theorem dX10_part_38 : decode cX10_part 38 = .ok (.ifCond .eq 18, 3) := by decide +kernel
theorem dX10_part_41 : decode cX10_part 41 = .ok (.iload 5, 2) := by decide +kernel
theorem dX10_part_43 : decode cX10_part 43 = .ok (.iconst 1, 1) := by decide +kernel
theorem dX10_part_44 : decode cX10_part 44 = .ok (.bipush 60, 2) := by decide +kernel
theorem dX10_part_46 : decode cX10_part 46 = .ok (.invokestatic 94, 3) := by decide +kernel
theorem dX10_part_49 : decode cX10_part 49 = .ok (.ifCond .eq 7, 3) := by decide +kernel
theorem dX10_part_52 : decode cX10_part 52 = .ok (.iconst 1, 1) := by decide +kernel
theorem dX10_part_53 : decode cX10_part 53 = .ok (.goto 4, 3) := by decide +kernel
theorem dX10_part_56 : decode cX10_part 56 = .ok (.iconst 0, 1) := by decide +kernel
theorem dX10_part_57 : decode cX10_part 57 = .ok (.istore 6, 2) := by decide +kernel
theorem dX10_part_59 : decode cX10_part 59 = .ok (.iload 6, 2) := by decide +kernel
theorem dX10_part_61 : decode cX10_part 61 = .ok (.ifCond .ne 5, 3) := by decide +kernel
theorem dX10_part_64 : decode cX10_part 64 = .ok (.iconst (-1), 1) := by decide +kernel
theorem dX10_part_65 : decode cX10_part 65 = .ok (.ireturn, 1) := by decide +kernel
theorem dX10_part_66 : decode cX10_part 66 = .ok (.aload_n 0, 1) := by decide +kernel
theorem dX10_part_67 : decode cX10_part 67 = .ok (.getfield 10, 3) := by decide +kernel
theorem dX10_part_70 : decode cX10_part 70 = .ok (.getfield 98, 3) := by decide +kernel
theorem dX10_part_73 : decode cX10_part 73 = .ok (.bipush 10, 2) := by decide +kernel
theorem dX10_part_75 : decode cX10_part 75 = .ok (.if_icmp .lt 6, 3) := by decide +kernel
theorem dX10_part_78 : decode cX10_part 78 = .ok (.bipush (-2), 2) := by decide +kernel
theorem dX10_part_80 : decode cX10_part 80 = .ok (.ireturn, 1) := by decide +kernel
theorem dX10_part_81 : decode cX10_part 81 = .ok (.aload_n 0, 1) := by decide +kernel
theorem dX10_part_82 : decode cX10_part 82 = .ok (.getfield 10, 3) := by decide +kernel
theorem dX10_part_85 : decode cX10_part 85 = .ok (.getfield 101, 3) := by decide +kernel
theorem dX10_part_88 : decode cX10_part 88 = .ok (.aload_n 0, 1) := by decide +kernel
theorem dX10_part_89 : decode cX10_part 89 = .ok (.getfield 10, 3) := by decide +kernel
theorem dX10_part_92 : decode cX10_part 92 = .ok (.getfield 98, 3) := by decide +kernel
theorem dX10_part_95 : decode cX10_part 95 = .ok (.aaload, 1) := by decide +kernel
theorem dX10_part_96 : decode cX10_part 96 = .ok (.iload_n 1, 1) := by decide +kernel
theorem dX10_part_97 : decode cX10_part 97 = .ok (.iload_n 2, 1) := by decide +kernel
theorem dX10_part_98 : decode cX10_part 98 = .ok (.iload_n 3, 1) := by decide +kernel
theorem dX10_part_99 : decode cX10_part 99 = .ok (.iload 4, 2) := by decide +kernel
theorem dX10_part_101 : decode cX10_part 101 = .ok (.iload 5, 2) := by decide +kernel
theorem dX10_part_103 : decode cX10_part 103 = .ok (.invokevirtual 105, 3) := by decide +kernel
theorem dX10_part_106 : decode cX10_part 106 = .ok (.aload_n 0, 1) := by decide +kernel
theorem dX10_part_107 : decode cX10_part 107 = .ok (.getfield 10, 3) := by decide +kernel
theorem dX10_part_110 : decode cX10_part 110 = .ok (.dup, 1) := by decide +kernel
theorem dX10_part_111 : decode cX10_part 111 = .ok (.getfield 98, 3) := by decide +kernel
theorem dX10_part_114 : decode cX10_part 114 = .ok (.iconst 1, 1) := by decide +kernel
theorem dX10_part_115 : decode cX10_part 115 = .ok (.iadd, 1) := by decide +kernel
theorem dX10_part_116 : decode cX10_part 116 = .ok (.putfield 98, 3) := by decide +kernel
theorem dX10_part_119 : decode cX10_part 119 = .ok (.aload_n 0, 1) := by decide +kernel
theorem dX10_part_120 : decode cX10_part 120 = .ok (.getfield 10, 3) := by decide +kernel
theorem dX10_part_123 : decode cX10_part 123 = .ok (.getfield 98, 3) := by decide +kernel
theorem dX10_part_126 : decode cX10_part 126 = .ok (.iconst 1, 1) := by decide +kernel
theorem dX10_part_127 : decode cX10_part 127 = .ok (.isub, 1) := by decide +kernel
theorem dX10_part_128 : decode cX10_part 128 = .ok (.ireturn, 1) := by decide +kernel
theorem dX10_of_0 : decode cX10_of 0 = .ok (.aload_n 0, 1) := by decide +kernel
theorem dX10_of_1 : decode cX10_of 1 = .ok (.getfield 10, 3) := by decide +kernel
theorem dX10_of_4 : decode cX10_of 4 = .ok (.iload_n 1, 1) := by decide +kernel
theorem dX10_of_5 : decode cX10_of 5 = .ok (.invokevirtual 111, 3) := by decide +kernel
theorem dX10_of_8 : decode cX10_of 8 = .ok (.ifCond .ne 6, 3) := by decide +kernel
theorem dX10_of_11 : decode cX10_of 11 = .ok (.ldc 115, 2) := by decide +kernel
theorem dX10_of_13 : decode cX10_of 13 = .ok (.ireturn, 1) := by decide +kernel
theorem dX10_of_14 : decode cX10_of 14 = .ok (.aload_n 0, 1) := by decide +kernel
theorem dX10_of_15 : decode cX10_of 15 = .ok (.getfield 10, 3) := by decide +kernel
theorem dX10_of_18 : decode cX10_of 18 = .ok (.getfield 101, 3) := by decide +kernel
theorem dX10_of_21 : decode cX10_of 21 = .ok (.iload_n 1, 1) := by decide +kernel
theorem dX10_of_22 : decode cX10_of 22 = .ok (.aaload, 1) := by decide +kernel
theorem dX10_of_23 : decode cX10_of 23 = .ok (.astore_n 3, 1) := by decide +kernel
theorem dX10_of_24 : decode cX10_of 24 = .ok (.iload_n 2, 1) := by decide +kernel
theorem dX10_of_25 : decode cX10_of 25 = .ok (.tableswitch 86 0 6 #[43, 48, 53, 58, 63, 68, 73], 43) := by decide +kernel
theorem dX10_of_68 : decode cX10_of 68 = .ok (.aload_n 3, 1) := by decide +kernel
theorem dX10_of_69 : decode cX10_of 69 = .ok (.getfield 116, 3) := by decide +kernel
theorem dX10_of_72 : decode cX10_of 72 = .ok (.ireturn, 1) := by decide +kernel
theorem dX10_of_73 : decode cX10_of 73 = .ok (.aload_n 3, 1) := by decide +kernel
theorem dX10_of_74 : decode cX10_of 74 = .ok (.getfield 119, 3) := by decide +kernel
theorem dX10_of_77 : decode cX10_of 77 = .ok (.ireturn, 1) := by decide +kernel
theorem dX10_of_78 : decode cX10_of 78 = .ok (.aload_n 3, 1) := by decide +kernel
theorem dX10_of_79 : decode cX10_of 79 = .ok (.getfield 122, 3) := by decide +kernel
theorem dX10_of_82 : decode cX10_of 82 = .ok (.ireturn, 1) := by decide +kernel
theorem dX10_of_83 : decode cX10_of 83 = .ok (.aload_n 3, 1) := by decide +kernel
theorem dX10_of_84 : decode cX10_of 84 = .ok (.getfield 125, 3) := by decide +kernel
theorem dX10_of_87 : decode cX10_of 87 = .ok (.ireturn, 1) := by decide +kernel
theorem dX10_of_88 : decode cX10_of 88 = .ok (.aload_n 3, 1) := by decide +kernel
theorem dX10_of_89 : decode cX10_of 89 = .ok (.getfield 128, 3) := by decide +kernel
theorem dX10_of_92 : decode cX10_of 92 = .ok (.ireturn, 1) := by decide +kernel
theorem dX10_of_93 : decode cX10_of 93 = .ok (.aload_n 3, 1) := by decide +kernel
theorem dX10_of_94 : decode cX10_of 94 = .ok (.getfield 131, 3) := by decide +kernel
theorem dX10_of_97 : decode cX10_of 97 = .ok (.ireturn, 1) := by decide +kernel
theorem dX10_of_98 : decode cX10_of 98 = .ok (.aload_n 3, 1) := by decide +kernel
theorem dX10_of_99 : decode cX10_of 99 = .ok (.getfield 134, 3) := by decide +kernel
theorem dX10_of_102 : decode cX10_of 102 = .ok (.ifCond .eq 7, 3) := by decide +kernel
theorem dX10_of_105 : decode cX10_of 105 = .ok (.iconst 1, 1) := by decide +kernel
theorem dX10_of_106 : decode cX10_of 106 = .ok (.goto 4, 3) := by decide +kernel
theorem dX10_of_109 : decode cX10_of 109 = .ok (.iconst 0, 1) := by decide +kernel
theorem dX10_of_110 : decode cX10_of 110 = .ok (.ireturn, 1) := by decide +kernel
theorem dX10_of_111 : decode cX10_of 111 = .ok (.ldc 115, 2) := by decide +kernel
theorem dX10_of_113 : decode cX10_of 113 = .ok (.ireturn, 1) := by decide +kernel
theorem dX10_fail_0 : decode cX10_fail 0 = .ok (.aload_n 0, 1) := by decide +kernel
theorem dX10_fail_1 : decode cX10_fail 1 = .ok (.getfield 10, 3) := by decide +kernel
theorem dX10_fail_4 : decode cX10_fail 4 = .ok (.iload_n 1, 1) := by decide +kernel
theorem dX10_fail_5 : decode cX10_fail 5 = .ok (.invokevirtual 111, 3) := by decide +kernel
theorem dX10_fail_8 : decode cX10_fail 8 = .ok (.ifCond .eq 23, 3) := by decide +kernel
theorem dX10_fail_11 : decode cX10_fail 11 = .ok (.iload_n 2, 1) := by decide +kernel
theorem dX10_fail_12 : decode cX10_fail 12 = .ok (.sipush (-500), 3) := by decide +kernel
theorem dX10_fail_15 : decode cX10_fail 15 = .ok (.sipush 500, 3) := by decide +kernel
theorem dX10_fail_18 : decode cX10_fail 18 = .ok (.invokestatic 94, 3) := by decide +kernel
theorem dX10_fail_21 : decode cX10_fail 21 = .ok (.ifCond .eq 10, 3) := by decide +kernel
theorem dX10_fail_24 : decode cX10_fail 24 = .ok (.iload_n 3, 1) := by decide +kernel
theorem dX10_fail_25 : decode cX10_fail 25 = .ok (.invokestatic 137, 3) := by decide +kernel
theorem dX10_fail_28 : decode cX10_fail 28 = .ok (.ifCond .ne 6, 3) := by decide +kernel
theorem dX10_fail_31 : decode cX10_fail 31 = .ok (.ldc 115, 2) := by decide +kernel
theorem dX10_fail_33 : decode cX10_fail 33 = .ok (.ireturn, 1) := by decide +kernel
theorem dX10_fail_34 : decode cX10_fail 34 = .ok (.aload_n 0, 1) := by decide +kernel
theorem dX10_fail_35 : decode cX10_fail 35 = .ok (.getfield 10, 3) := by decide +kernel
theorem dX10_fail_38 : decode cX10_fail 38 = .ok (.getfield 101, 3) := by decide +kernel
theorem dX10_fail_41 : decode cX10_fail 41 = .ok (.iload_n 1, 1) := by decide +kernel
theorem dX10_fail_42 : decode cX10_fail 42 = .ok (.aaload, 1) := by decide +kernel
theorem dX10_fail_43 : decode cX10_fail 43 = .ok (.astore 4, 2) := by decide +kernel
theorem dX10_fail_45 : decode cX10_fail 45 = .ok (.aload 4, 2) := by decide +kernel
theorem dX10_fail_47 : decode cX10_fail 47 = .ok (.iload_n 2, 1) := by decide +kernel
theorem dX10_fail_48 : decode cX10_fail 48 = .ok (.putfield 140, 3) := by decide +kernel
theorem dX10_fail_51 : decode cX10_fail 51 = .ok (.aload 4, 2) := by decide +kernel
theorem dX10_fail_53 : decode cX10_fail 53 = .ok (.iload_n 3, 1) := by decide +kernel
theorem dX10_fail_54 : decode cX10_fail 54 = .ok (.putfield 143, 3) := by decide +kernel
theorem dX10_fail_57 : decode cX10_fail 57 = .ok (.aload 4, 2) := by decide +kernel
theorem dX10_fail_59 : decode cX10_fail 59 = .ok (.aload_n 0, 1) := by decide +kernel
theorem dX10_fail_60 : decode cX10_fail 60 = .ok (.getfield 10, 3) := by decide +kernel
theorem dX10_fail_63 : decode cX10_fail 63 = .ok (.getfield 146, 3) := by decide +kernel
theorem dX10_fail_66 : decode cX10_fail 66 = .ok (.invokevirtual 149, 3) := by decide +kernel
theorem dX10_fail_69 : decode cX10_fail 69 = .ok (.ireturn, 1) := by decide +kernel
theorem dX10_later_0 : decode cX10_later 0 = .ok (.iload_n 1, 1) := by decide +kernel
theorem dX10_later_1 : decode cX10_later 1 = .ok (.iconst 1, 1) := by decide +kernel
theorem dX10_later_2 : decode cX10_later 2 = .ok (.bipush 99, 2) := by decide +kernel
theorem dX10_later_4 : decode cX10_later 4 = .ok (.invokestatic 94, 3) := by decide +kernel
theorem dX10_later_7 : decode cX10_later 7 = .ok (.ifCond .ne 5, 3) := by decide +kernel
theorem dX10_later_10 : decode cX10_later 10 = .ok (.iconst (-1), 1) := by decide +kernel
theorem dX10_later_11 : decode cX10_later 11 = .ok (.ireturn, 1) := by decide +kernel
theorem dX10_later_12 : decode cX10_later 12 = .ok (.aload_n 0, 1) := by decide +kernel
theorem dX10_later_13 : decode cX10_later 13 = .ok (.getfield 10, 3) := by decide +kernel
theorem dX10_later_16 : decode cX10_later 16 = .ok (.getfield 146, 3) := by decide +kernel
theorem dX10_later_19 : decode cX10_later 19 = .ok (.iload_n 1, 1) := by decide +kernel
theorem dX10_later_20 : decode cX10_later 20 = .ok (.iadd, 1) := by decide +kernel
theorem dX10_later_21 : decode cX10_later 21 = .ok (.sipush 999, 3) := by decide +kernel
theorem dX10_later_24 : decode cX10_later 24 = .ok (.if_icmp .le 6, 3) := by decide +kernel
theorem dX10_later_27 : decode cX10_later 27 = .ok (.bipush (-2), 2) := by decide +kernel
theorem dX10_later_29 : decode cX10_later 29 = .ok (.ireturn, 1) := by decide +kernel
theorem dX10_later_30 : decode cX10_later 30 = .ok (.aload_n 0, 1) := by decide +kernel
theorem dX10_later_31 : decode cX10_later 31 = .ok (.getfield 10, 3) := by decide +kernel
theorem dX10_later_34 : decode cX10_later 34 = .ok (.dup, 1) := by decide +kernel
theorem dX10_later_35 : decode cX10_later 35 = .ok (.getfield 146, 3) := by decide +kernel
theorem dX10_later_38 : decode cX10_later 38 = .ok (.iload_n 1, 1) := by decide +kernel
theorem dX10_later_39 : decode cX10_later 39 = .ok (.iadd, 1) := by decide +kernel
theorem dX10_later_40 : decode cX10_later 40 = .ok (.putfield 146, 3) := by decide +kernel
theorem dX10_later_43 : decode cX10_later 43 = .ok (.aload_n 0, 1) := by decide +kernel
theorem dX10_later_44 : decode cX10_later 44 = .ok (.getfield 10, 3) := by decide +kernel
theorem dX10_later_47 : decode cX10_later 47 = .ok (.getfield 146, 3) := by decide +kernel
theorem dX10_later_50 : decode cX10_later 50 = .ok (.ireturn, 1) := by decide +kernel
theorem dX10_noise_0 : decode cX10_noise 0 = .ok (.iload_n 1, 1) := by decide +kernel
theorem dX10_noise_1 : decode cX10_noise 1 = .ok (.iconst 0, 1) := by decide +kernel
theorem dX10_noise_2 : decode cX10_noise 2 = .ok (.bipush 20, 2) := by decide +kernel
theorem dX10_noise_4 : decode cX10_noise 4 = .ok (.invokestatic 94, 3) := by decide +kernel
theorem dX10_noise_7 : decode cX10_noise 7 = .ok (.ifCond .ne 5, 3) := by decide +kernel
theorem dX10_noise_10 : decode cX10_noise 10 = .ok (.iconst (-1), 1) := by decide +kernel
theorem dX10_noise_11 : decode cX10_noise 11 = .ok (.ireturn, 1) := by decide +kernel
theorem dX10_noise_12 : decode cX10_noise 12 = .ok (.aload_n 0, 1) := by decide +kernel
theorem dX10_noise_13 : decode cX10_noise 13 = .ok (.getfield 10, 3) := by decide +kernel
theorem dX10_noise_16 : decode cX10_noise 16 = .ok (.getfield 153, 3) := by decide +kernel
theorem dX10_noise_19 : decode cX10_noise 19 = .ok (.istore_n 2, 1) := by decide +kernel
theorem dX10_noise_20 : decode cX10_noise 20 = .ok (.aload_n 0, 1) := by decide +kernel
theorem dX10_noise_21 : decode cX10_noise 21 = .ok (.getfield 10, 3) := by decide +kernel
theorem dX10_noise_24 : decode cX10_noise 24 = .ok (.iload_n 1, 1) := by decide +kernel
theorem dX10_noise_25 : decode cX10_noise 25 = .ok (.putfield 153, 3) := by decide +kernel
theorem dX10_noise_28 : decode cX10_noise 28 = .ok (.iload_n 2, 1) := by decide +kernel
theorem dX10_noise_29 : decode cX10_noise 29 = .ok (.ireturn, 1) := by decide +kernel
theorem dX10_lots_0 : decode cX10_lots 0 = .ok (.aload_n 0, 1) := by decide +kernel
theorem dX10_lots_1 : decode cX10_lots 1 = .ok (.getfield 10, 3) := by decide +kernel
theorem dX10_lots_4 : decode cX10_lots 4 = .ok (.iload_n 1, 1) := by decide +kernel
theorem dX10_lots_5 : decode cX10_lots 5 = .ok (.putfield 156, 3) := by decide +kernel
theorem dX10_lots_8 : decode cX10_lots 8 = .ok (.iconst 1, 1) := by decide +kernel
theorem dX10_lots_9 : decode cX10_lots 9 = .ok (.ireturn, 1) := by decide +kernel
theorem dX10_run_0 : decode cX10_run 0 = .ok (.iload_n 1, 1) := by decide +kernel
theorem dX10_run_1 : decode cX10_run 1 = .ok (.invokestatic 159, 3) := by decide +kernel
theorem dX10_run_4 : decode cX10_run 4 = .ok (.ifCond .ne 5, 3) := by decide +kernel
theorem dX10_run_7 : decode cX10_run 7 = .ok (.iconst (-1), 1) := by decide +kernel
theorem dX10_run_8 : decode cX10_run 8 = .ok (.ireturn, 1) := by decide +kernel
theorem dX10_run_9 : decode cX10_run 9 = .ok (.aload_n 0, 1) := by decide +kernel
theorem dX10_run_10 : decode cX10_run 10 = .ok (.getfield 10, 3) := by decide +kernel
theorem dX10_run_13 : decode cX10_run 13 = .ok (.getfield 162, 3) := by decide +kernel
theorem dX10_run_16 : decode cX10_run 16 = .ok (.bipush 40, 2) := by decide +kernel
theorem dX10_run_18 : decode cX10_run 18 = .ok (.if_icmp .lt 6, 3) := by decide +kernel
theorem dX10_run_21 : decode cX10_run 21 = .ok (.bipush (-2), 2) := by decide +kernel
theorem dX10_run_23 : decode cX10_run 23 = .ok (.ireturn, 1) := by decide +kernel
theorem dX10_run_24 : decode cX10_run 24 = .ok (.iconst 0, 1) := by decide +kernel
theorem dX10_run_25 : decode cX10_run 25 = .ok (.istore_n 2, 1) := by decide +kernel
theorem dX10_run_26 : decode cX10_run 26 = .ok (.iconst 0, 1) := by decide +kernel
theorem dX10_run_27 : decode cX10_run 27 = .ok (.istore_n 3, 1) := by decide +kernel
theorem dX10_run_28 : decode cX10_run 28 = .ok (.iload_n 3, 1) := by decide +kernel
theorem dX10_run_29 : decode cX10_run 29 = .ok (.aload_n 0, 1) := by decide +kernel
theorem dX10_run_30 : decode cX10_run 30 = .ok (.getfield 10, 3) := by decide +kernel
theorem dX10_run_33 : decode cX10_run 33 = .ok (.getfield 98, 3) := by decide +kernel
theorem dX10_run_36 : decode cX10_run 36 = .ok (.if_icmp .ge 47, 3) := by decide +kernel
theorem dX10_run_39 : decode cX10_run 39 = .ok (.aload_n 0, 1) := by decide +kernel
theorem dX10_run_40 : decode cX10_run 40 = .ok (.getfield 10, 3) := by decide +kernel
theorem dX10_run_43 : decode cX10_run 43 = .ok (.getfield 101, 3) := by decide +kernel
theorem dX10_run_46 : decode cX10_run 46 = .ok (.iload_n 3, 1) := by decide +kernel
theorem dX10_run_47 : decode cX10_run 47 = .ok (.aaload, 1) := by decide +kernel
theorem dX10_run_48 : decode cX10_run 48 = .ok (.iload_n 1, 1) := by decide +kernel
theorem dX10_run_49 : decode cX10_run 49 = .ok (.invokevirtual 165, 3) := by decide +kernel
theorem dX10_run_52 : decode cX10_run 52 = .ok (.ifCond .eq 25, 3) := by decide +kernel
theorem dX10_run_55 : decode cX10_run 55 = .ok (.iload_n 2, 1) := by decide +kernel
theorem dX10_run_56 : decode cX10_run 56 = .ok (.aload_n 0, 1) := by decide +kernel
theorem dX10_run_57 : decode cX10_run 57 = .ok (.getfield 10, 3) := by decide +kernel
theorem dX10_run_60 : decode cX10_run 60 = .ok (.getfield 101, 3) := by decide +kernel
theorem dX10_run_63 : decode cX10_run 63 = .ok (.iload_n 3, 1) := by decide +kernel
theorem dX10_run_64 : decode cX10_run 64 = .ok (.aaload, 1) := by decide +kernel
theorem dX10_run_65 : decode cX10_run 65 = .ok (.aload_n 0, 1) := by decide +kernel
theorem dX10_run_66 : decode cX10_run 66 = .ok (.getfield 10, 3) := by decide +kernel
theorem dX10_run_69 : decode cX10_run 69 = .ok (.getfield 146, 3) := by decide +kernel
theorem dX10_run_72 : decode cX10_run 72 = .ok (.invokevirtual 168, 3) := by decide +kernel
theorem dX10_run_75 : decode cX10_run 75 = .ok (.iadd, 1) := by decide +kernel
theorem dX10_run_76 : decode cX10_run 76 = .ok (.istore_n 2, 1) := by decide +kernel
theorem dX10_run_77 : decode cX10_run 77 = .ok (.iinc 3 1, 3) := by decide +kernel
theorem dX10_run_80 : decode cX10_run 80 = .ok (.goto (-52), 3) := by decide +kernel
theorem dX10_run_83 : decode cX10_run 83 = .ok (.aload_n 0, 1) := by decide +kernel
theorem dX10_run_84 : decode cX10_run 84 = .ok (.getfield 10, 3) := by decide +kernel
theorem dX10_run_87 : decode cX10_run 87 = .ok (.aload_n 0, 1) := by decide +kernel
theorem dX10_run_88 : decode cX10_run 88 = .ok (.getfield 10, 3) := by decide +kernel
theorem dX10_run_91 : decode cX10_run 91 = .ok (.getfield 146, 3) := by decide +kernel
theorem dX10_run_94 : decode cX10_run 94 = .ok (.iload_n 1, 1) := by decide +kernel
theorem dX10_run_95 : decode cX10_run 95 = .ok (.iload_n 2, 1) := by decide +kernel
theorem dX10_run_96 : decode cX10_run 96 = .ok (.aload_n 0, 1) := by decide +kernel
theorem dX10_run_97 : decode cX10_run 97 = .ok (.getfield 10, 3) := by decide +kernel
theorem dX10_run_100 : decode cX10_run 100 = .ok (.invokevirtual 171, 3) := by decide +kernel
theorem dX10_run_103 : decode cX10_run 103 = .ok (.iadd, 1) := by decide +kernel
theorem dX10_run_104 : decode cX10_run 104 = .ok (.invokevirtual 175, 3) := by decide +kernel
theorem dX10_run_107 : decode cX10_run 107 = .ok (.ireturn, 1) := by decide +kernel
theorem dX10_older_0 : decode cX10_older 0 = .ok (.iload_n 1, 1) := by decide +kernel
theorem dX10_older_1 : decode cX10_older 1 = .ok (.iconst 0, 1) := by decide +kernel
theorem dX10_older_2 : decode cX10_older 2 = .ok (.aload_n 0, 1) := by decide +kernel
theorem dX10_older_3 : decode cX10_older 3 = .ok (.getfield 10, 3) := by decide +kernel
theorem dX10_older_6 : decode cX10_older 6 = .ok (.getfield 146, 3) := by decide +kernel
theorem dX10_older_9 : decode cX10_older 9 = .ok (.invokestatic 94, 3) := by decide +kernel
theorem dX10_older_12 : decode cX10_older 12 = .ok (.ifCond .eq 23, 3) := by decide +kernel
theorem dX10_older_15 : decode cX10_older 15 = .ok (.iload_n 2, 1) := by decide +kernel
theorem dX10_older_16 : decode cX10_older 16 = .ok (.invokestatic 159, 3) := by decide +kernel
theorem dX10_older_19 : decode cX10_older 19 = .ok (.ifCond .eq 16, 3) := by decide +kernel
theorem dX10_older_22 : decode cX10_older 22 = .ok (.iload_n 3, 1) := by decide +kernel
theorem dX10_older_23 : decode cX10_older 23 = .ok (.sipush (-9999), 3) := by decide +kernel
theorem dX10_older_26 : decode cX10_older 26 = .ok (.sipush 9999, 3) := by decide +kernel
theorem dX10_older_29 : decode cX10_older 29 = .ok (.invokestatic 94, 3) := by decide +kernel
theorem dX10_older_32 : decode cX10_older 32 = .ok (.ifCond .ne 5, 3) := by decide +kernel
theorem dX10_older_35 : decode cX10_older 35 = .ok (.iconst (-1), 1) := by decide +kernel
theorem dX10_older_36 : decode cX10_older 36 = .ok (.ireturn, 1) := by decide +kernel
theorem dX10_older_37 : decode cX10_older 37 = .ok (.aload_n 0, 1) := by decide +kernel
theorem dX10_older_38 : decode cX10_older 38 = .ok (.getfield 10, 3) := by decide +kernel
theorem dX10_older_41 : decode cX10_older 41 = .ok (.getfield 162, 3) := by decide +kernel
theorem dX10_older_44 : decode cX10_older 44 = .ok (.bipush 40, 2) := by decide +kernel
theorem dX10_older_46 : decode cX10_older 46 = .ok (.if_icmp .lt 6, 3) := by decide +kernel
theorem dX10_older_49 : decode cX10_older 49 = .ok (.bipush (-2), 2) := by decide +kernel
theorem dX10_older_51 : decode cX10_older 51 = .ok (.ireturn, 1) := by decide +kernel
theorem dX10_older_52 : decode cX10_older 52 = .ok (.aload_n 0, 1) := by decide +kernel
theorem dX10_older_53 : decode cX10_older 53 = .ok (.getfield 10, 3) := by decide +kernel
theorem dX10_older_56 : decode cX10_older 56 = .ok (.iload_n 1, 1) := by decide +kernel
theorem dX10_older_57 : decode cX10_older 57 = .ok (.iload_n 2, 1) := by decide +kernel
theorem dX10_older_58 : decode cX10_older 58 = .ok (.iload_n 3, 1) := by decide +kernel
theorem dX10_older_59 : decode cX10_older 59 = .ok (.invokevirtual 175, 3) := by decide +kernel
theorem dX10_older_62 : decode cX10_older 62 = .ok (.ireturn, 1) := by decide +kernel
theorem dX10_ran_0 : decode cX10_ran 0 = .ok (.iload_n 1, 1) := by decide +kernel
theorem dX10_ran_1 : decode cX10_ran 1 = .ok (.iconst 0, 1) := by decide +kernel
theorem dX10_ran_2 : decode cX10_ran 2 = .ok (.aload_n 0, 1) := by decide +kernel
theorem dX10_ran_3 : decode cX10_ran 3 = .ok (.getfield 10, 3) := by decide +kernel
theorem dX10_ran_6 : decode cX10_ran 6 = .ok (.getfield 162, 3) := by decide +kernel
theorem dX10_ran_9 : decode cX10_ran 9 = .ok (.iconst 1, 1) := by decide +kernel
theorem dX10_ran_10 : decode cX10_ran 10 = .ok (.isub, 1) := by decide +kernel
theorem dX10_ran_11 : decode cX10_ran 11 = .ok (.invokestatic 94, 3) := by decide +kernel
theorem dX10_ran_14 : decode cX10_ran 14 = .ok (.ifCond .ne 6, 3) := by decide +kernel
theorem dX10_ran_17 : decode cX10_ran 17 = .ok (.ldc 115, 2) := by decide +kernel
theorem dX10_ran_19 : decode cX10_ran 19 = .ok (.ireturn, 1) := by decide +kernel
theorem dX10_ran_20 : decode cX10_ran 20 = .ok (.iload_n 2, 1) := by decide +kernel
theorem dX10_ran_21 : decode cX10_ran 21 = .ok (.tableswitch 57 0 2 #[27, 37, 47], 27) := by decide +kernel
theorem dX10_ran_48 : decode cX10_ran 48 = .ok (.aload_n 0, 1) := by decide +kernel
theorem dX10_ran_49 : decode cX10_ran 49 = .ok (.getfield 10, 3) := by decide +kernel
theorem dX10_ran_52 : decode cX10_ran 52 = .ok (.getfield 179, 3) := by decide +kernel
theorem dX10_ran_55 : decode cX10_ran 55 = .ok (.iload_n 1, 1) := by decide +kernel
theorem dX10_ran_56 : decode cX10_ran 56 = .ok (.iaload, 1) := by decide +kernel
theorem dX10_ran_57 : decode cX10_ran 57 = .ok (.ireturn, 1) := by decide +kernel
theorem dX10_ran_58 : decode cX10_ran 58 = .ok (.aload_n 0, 1) := by decide +kernel
theorem dX10_ran_59 : decode cX10_ran 59 = .ok (.getfield 10, 3) := by decide +kernel
theorem dX10_ran_62 : decode cX10_ran 62 = .ok (.getfield 182, 3) := by decide +kernel
theorem dX10_ran_65 : decode cX10_ran 65 = .ok (.iload_n 1, 1) := by decide +kernel
theorem dX10_ran_66 : decode cX10_ran 66 = .ok (.iaload, 1) := by decide +kernel
theorem dX10_ran_67 : decode cX10_ran 67 = .ok (.ireturn, 1) := by decide +kernel
theorem dX10_ran_68 : decode cX10_ran 68 = .ok (.aload_n 0, 1) := by decide +kernel
theorem dX10_ran_69 : decode cX10_ran 69 = .ok (.getfield 10, 3) := by decide +kernel
theorem dX10_ran_72 : decode cX10_ran 72 = .ok (.getfield 185, 3) := by decide +kernel
theorem dX10_ran_75 : decode cX10_ran 75 = .ok (.iload_n 1, 1) := by decide +kernel
theorem dX10_ran_76 : decode cX10_ran 76 = .ok (.iaload, 1) := by decide +kernel
theorem dX10_ran_77 : decode cX10_ran 77 = .ok (.ireturn, 1) := by decide +kernel
theorem dX10_ran_78 : decode cX10_ran 78 = .ok (.ldc 115, 2) := by decide +kernel
theorem dX10_ran_80 : decode cX10_ran 80 = .ok (.ireturn, 1) := by decide +kernel
theorem dX10_tryout_0 : decode cX10_tryout 0 = .ok (.aload_n 0, 1) := by decide +kernel
theorem dX10_tryout_1 : decode cX10_tryout 1 = .ok (.getfield 10, 3) := by decide +kernel
theorem dX10_tryout_4 : decode cX10_tryout 4 = .ok (.iload_n 1, 1) := by decide +kernel
theorem dX10_tryout_5 : decode cX10_tryout 5 = .ok (.invokevirtual 111, 3) := by decide +kernel
theorem dX10_tryout_8 : decode cX10_tryout 8 = .ok (.ifCond .ne 6, 3) := by decide +kernel
theorem dX10_tryout_11 : decode cX10_tryout 11 = .ok (.ldc 115, 2) := by decide +kernel
theorem dX10_tryout_13 : decode cX10_tryout 13 = .ok (.ireturn, 1) := by decide +kernel
theorem dX10_tryout_14 : decode cX10_tryout 14 = .ok (.aload_n 0, 1) := by decide +kernel
theorem dX10_tryout_15 : decode cX10_tryout 15 = .ok (.getfield 10, 3) := by decide +kernel
theorem dX10_tryout_18 : decode cX10_tryout 18 = .ok (.getfield 101, 3) := by decide +kernel
theorem dX10_tryout_21 : decode cX10_tryout 21 = .ok (.iload_n 1, 1) := by decide +kernel
theorem dX10_tryout_22 : decode cX10_tryout 22 = .ok (.aaload, 1) := by decide +kernel
theorem dX10_tryout_23 : decode cX10_tryout 23 = .ok (.astore_n 3, 1) := by decide +kernel
theorem dX10_tryout_24 : decode cX10_tryout 24 = .ok (.aload_n 3, 1) := by decide +kernel
theorem dX10_tryout_25 : decode cX10_tryout 25 = .ok (.getfield 131, 3) := by decide +kernel
theorem dX10_tryout_28 : decode cX10_tryout 28 = .ok (.istore 4, 2) := by decide +kernel
theorem dX10_tryout_30 : decode cX10_tryout 30 = .ok (.iload_n 2, 1) := by decide +kernel
theorem dX10_tryout_31 : decode cX10_tryout 31 = .ok (.ifCond .eq 23, 3) := by decide +kernel
theorem dX10_tryout_34 : decode cX10_tryout 34 = .ok (.aload_n 3, 1) := by decide +kernel
theorem dX10_tryout_35 : decode cX10_tryout 35 = .ok (.getfield 116, 3) := by decide +kernel
theorem dX10_tryout_38 : decode cX10_tryout 38 = .ok (.iconst 4, 1) := by decide +kernel
theorem dX10_tryout_39 : decode cX10_tryout 39 = .ok (.if_icmp .eq 11, 3) := by decide +kernel
theorem dX10_tryout_42 : decode cX10_tryout 42 = .ok (.aload_n 3, 1) := by decide +kernel
theorem dX10_tryout_43 : decode cX10_tryout 43 = .ok (.getfield 116, 3) := by decide +kernel
theorem dX10_tryout_46 : decode cX10_tryout 46 = .ok (.iconst 5, 1) := by decide +kernel
theorem dX10_tryout_47 : decode cX10_tryout 47 = .ok (.if_icmp .ne 7, 3) := by decide +kernel
theorem dX10_tryout_50 : decode cX10_tryout 50 = .ok (.iconst 1, 1) := by decide +kernel
theorem dX10_tryout_51 : decode cX10_tryout 51 = .ok (.goto 4, 3) := by decide +kernel
theorem dX10_tryout_54 : decode cX10_tryout 54 = .ok (.iconst 0, 1) := by decide +kernel
theorem dX10_tryout_55 : decode cX10_tryout 55 = .ok (.istore 5, 2) := by decide +kernel
theorem dX10_tryout_57 : decode cX10_tryout 57 = .ok (.iload 5, 2) := by decide +kernel
theorem dX10_tryout_59 : decode cX10_tryout 59 = .ok (.ifCond .ne 18, 3) := by decide +kernel
theorem dX10_tryout_62 : decode cX10_tryout 62 = .ok (.aload_n 3, 1) := by decide +kernel
theorem dX10_tryout_63 : decode cX10_tryout 63 = .ok (.aload_n 3, 1) := by decide +kernel
theorem dX10_tryout_64 : decode cX10_tryout 64 = .ok (.aload_n 0, 1) := by decide +kernel
theorem dX10_tryout_65 : decode cX10_tryout 65 = .ok (.getfield 10, 3) := by decide +kernel
theorem dX10_tryout_68 : decode cX10_tryout 68 = .ok (.getfield 146, 3) := by decide +kernel
theorem dX10_tryout_71 : decode cX10_tryout 71 = .ok (.invokevirtual 149, 3) := by decide +kernel
theorem dX10_tryout_74 : decode cX10_tryout 74 = .ok (.putfield 131, 3) := by decide +kernel
theorem dX10_tryout_77 : decode cX10_tryout 77 = .ok (.aload_n 3, 1) := by decide +kernel
theorem dX10_tryout_78 : decode cX10_tryout 78 = .ok (.iconst 1, 1) := by decide +kernel
theorem dX10_tryout_79 : decode cX10_tryout 79 = .ok (.putfield 134, 3) := by decide +kernel
theorem dX10_tryout_82 : decode cX10_tryout 82 = .ok (.aload_n 0, 1) := by decide +kernel
theorem dX10_tryout_83 : decode cX10_tryout 83 = .ok (.getfield 10, 3) := by decide +kernel
theorem dX10_tryout_86 : decode cX10_tryout 86 = .ok (.dup, 1) := by decide +kernel
theorem dX10_tryout_87 : decode cX10_tryout 87 = .ok (.getfield 188, 3) := by decide +kernel
theorem dX10_tryout_90 : decode cX10_tryout 90 = .ok (.aload_n 3, 1) := by decide +kernel
theorem dX10_tryout_91 : decode cX10_tryout 91 = .ok (.getfield 128, 3) := by decide +kernel
theorem dX10_tryout_94 : decode cX10_tryout 94 = .ok (.iadd, 1) := by decide +kernel
theorem dX10_tryout_95 : decode cX10_tryout 95 = .ok (.putfield 188, 3) := by decide +kernel
theorem dX10_tryout_98 : decode cX10_tryout 98 = .ok (.aload_n 3, 1) := by decide +kernel
theorem dX10_tryout_99 : decode cX10_tryout 99 = .ok (.getfield 131, 3) := by decide +kernel
theorem dX10_tryout_102 : decode cX10_tryout 102 = .ok (.iload 4, 2) := by decide +kernel
theorem dX10_tryout_104 : decode cX10_tryout 104 = .ok (.isub, 1) := by decide +kernel
theorem dX10_tryout_105 : decode cX10_tryout 105 = .ok (.ireturn, 1) := by decide +kernel
theorem dX10_feed_0 : decode cX10_feed 0 = .ok (.iload_n 3, 1) := by decide +kernel
theorem dX10_feed_1 : decode cX10_feed 1 = .ok (.iconst 1, 1) := by decide +kernel
theorem dX10_feed_2 : decode cX10_feed 2 = .ok (.bipush 8, 2) := by decide +kernel
theorem dX10_feed_4 : decode cX10_feed 4 = .ok (.invokestatic 94, 3) := by decide +kernel
theorem dX10_feed_7 : decode cX10_feed 7 = .ok (.ifCond .ne 5, 3) := by decide +kernel
theorem dX10_feed_10 : decode cX10_feed 10 = .ok (.iconst (-1), 1) := by decide +kernel
theorem dX10_feed_11 : decode cX10_feed 11 = .ok (.ireturn, 1) := by decide +kernel
theorem dX10_feed_12 : decode cX10_feed 12 = .ok (.aload_n 0, 1) := by decide +kernel
theorem dX10_feed_13 : decode cX10_feed 13 = .ok (.getfield 27, 3) := by decide +kernel
theorem dX10_feed_16 : decode cX10_feed 16 = .ok (.iload_n 3, 1) := by decide +kernel
theorem dX10_feed_17 : decode cX10_feed 17 = .ok (.iadd, 1) := by decide +kernel
theorem dX10_feed_18 : decode cX10_feed 18 = .ok (.sipush 200, 3) := by decide +kernel
theorem dX10_feed_21 : decode cX10_feed 21 = .ok (.if_icmp .le 6, 3) := by decide +kernel
theorem dX10_feed_24 : decode cX10_feed 24 = .ok (.bipush (-2), 2) := by decide +kernel
theorem dX10_feed_26 : decode cX10_feed 26 = .ok (.ireturn, 1) := by decide +kernel
theorem dX10_feed_27 : decode cX10_feed 27 = .ok (.iconst 0, 1) := by decide +kernel
theorem dX10_feed_28 : decode cX10_feed 28 = .ok (.istore 4, 2) := by decide +kernel
theorem dX10_feed_30 : decode cX10_feed 30 = .ok (.iload 4, 2) := by decide +kernel
theorem dX10_feed_32 : decode cX10_feed 32 = .ok (.iload_n 3, 1) := by decide +kernel
theorem dX10_feed_33 : decode cX10_feed 33 = .ok (.if_icmp .ge 34, 3) := by decide +kernel
theorem dX10_feed_36 : decode cX10_feed 36 = .ok (.aload_n 0, 1) := by decide +kernel
theorem dX10_feed_37 : decode cX10_feed 37 = .ok (.getfield 23, 3) := by decide +kernel
theorem dX10_feed_40 : decode cX10_feed 40 = .ok (.aload_n 0, 1) := by decide +kernel
theorem dX10_feed_41 : decode cX10_feed 41 = .ok (.getfield 27, 3) := by decide +kernel
theorem dX10_feed_44 : decode cX10_feed 44 = .ok (.iload 4, 2) := by decide +kernel
theorem dX10_feed_46 : decode cX10_feed 46 = .ok (.iadd, 1) := by decide +kernel
theorem dX10_feed_47 : decode cX10_feed 47 = .ok (.lload_n 1, 1) := by decide +kernel
theorem dX10_feed_48 : decode cX10_feed 48 = .ok (.bipush 8, 2) := by decide +kernel
theorem dX10_feed_50 : decode cX10_feed 50 = .ok (.iload 4, 2) := by decide +kernel
theorem dX10_feed_52 : decode cX10_feed 52 = .ok (.imul, 1) := by decide +kernel
theorem dX10_feed_53 : decode cX10_feed 53 = .ok (.lushr, 1) := by decide +kernel
theorem dX10_feed_54 : decode cX10_feed 54 = .ok (.ldc2_w 191, 3) := by decide +kernel
theorem dX10_feed_57 : decode cX10_feed 57 = .ok (.land, 1) := by decide +kernel
theorem dX10_feed_58 : decode cX10_feed 58 = .ok (.l2i, 1) := by decide +kernel
theorem dX10_feed_59 : decode cX10_feed 59 = .ok (.i2c, 1) := by decide +kernel
theorem dX10_feed_60 : decode cX10_feed 60 = .ok (.castore, 1) := by decide +kernel
theorem dX10_feed_61 : decode cX10_feed 61 = .ok (.iinc 4 1, 3) := by decide +kernel
theorem dX10_feed_64 : decode cX10_feed 64 = .ok (.goto (-34), 3) := by decide +kernel
theorem dX10_feed_67 : decode cX10_feed 67 = .ok (.aload_n 0, 1) := by decide +kernel
theorem dX10_feed_68 : decode cX10_feed 68 = .ok (.dup, 1) := by decide +kernel
theorem dX10_feed_69 : decode cX10_feed 69 = .ok (.getfield 27, 3) := by decide +kernel
theorem dX10_feed_72 : decode cX10_feed 72 = .ok (.iload_n 3, 1) := by decide +kernel
theorem dX10_feed_73 : decode cX10_feed 73 = .ok (.iadd, 1) := by decide +kernel
theorem dX10_feed_74 : decode cX10_feed 74 = .ok (.putfield 27, 3) := by decide +kernel
theorem dX10_feed_77 : decode cX10_feed 77 = .ok (.aload_n 0, 1) := by decide +kernel
theorem dX10_feed_78 : decode cX10_feed 78 = .ok (.getfield 27, 3) := by decide +kernel
theorem dX10_feed_81 : decode cX10_feed 81 = .ok (.ireturn, 1) := by decide +kernel
theorem dX10_story_0 : decode cX10_story 0 = .ok (.iload_n 1, 1) := by decide +kernel
theorem dX10_story_1 : decode cX10_story 1 = .ok (.iconst 1, 1) := by decide +kernel
theorem dX10_story_2 : decode cX10_story 2 = .ok (.bipush 99, 2) := by decide +kernel
theorem dX10_story_4 : decode cX10_story 4 = .ok (.invokestatic 94, 3) := by decide +kernel
theorem dX10_story_7 : decode cX10_story 7 = .ok (.ifCond .ne 5, 3) := by decide +kernel
theorem dX10_story_10 : decode cX10_story 10 = .ok (.iconst (-1), 1) := by decide +kernel
theorem dX10_story_11 : decode cX10_story 11 = .ok (.ireturn, 1) := by decide +kernel
theorem dX10_story_12 : decode cX10_story 12 = .ok (.aload_n 0, 1) := by decide +kernel
theorem dX10_story_13 : decode cX10_story 13 = .ok (.getfield 10, 3) := by decide +kernel
theorem dX10_story_16 : decode cX10_story 16 = .ok (.getfield 193, 3) := by decide +kernel
theorem dX10_story_19 : decode cX10_story 19 = .ok (.bipush 8, 2) := by decide +kernel
theorem dX10_story_21 : decode cX10_story 21 = .ok (.if_icmp .lt 6, 3) := by decide +kernel
theorem dX10_story_24 : decode cX10_story 24 = .ok (.bipush (-2), 2) := by decide +kernel
theorem dX10_story_26 : decode cX10_story 26 = .ok (.ireturn, 1) := by decide +kernel
theorem dX10_story_27 : decode cX10_story 27 = .ok (.aload_n 0, 1) := by decide +kernel
theorem dX10_story_28 : decode cX10_story 28 = .ok (.invokevirtual 196, 3) := by decide +kernel
theorem dX10_story_31 : decode cX10_story 31 = .ok (.aload_n 0, 1) := by decide +kernel
theorem dX10_story_32 : decode cX10_story 32 = .ok (.getfield 43, 3) := by decide +kernel
theorem dX10_story_35 : decode cX10_story 35 = .ok (.invokevirtual 199, 3) := by decide +kernel
theorem dX10_story_38 : decode cX10_story 38 = .ok (.ifCond .ne 14, 3) := by decide +kernel
theorem dX10_story_41 : decode cX10_story 41 = .ok (.bipush (-100), 2) := by decide +kernel
theorem dX10_story_43 : decode cX10_story 43 = .ok (.aload_n 0, 1) := by decide +kernel
theorem dX10_story_44 : decode cX10_story 44 = .ok (.getfield 34, 3) := by decide +kernel
theorem dX10_story_47 : decode cX10_story 47 = .ok (.invokevirtual 203, 3) := by decide +kernel
theorem dX10_story_50 : decode cX10_story 50 = .ok (.isub, 1) := by decide +kernel
theorem dX10_story_51 : decode cX10_story 51 = .ok (.ireturn, 1) := by decide +kernel
theorem dX10_story_52 : decode cX10_story 52 = .ok (.aload_n 0, 1) := by decide +kernel
theorem dX10_story_53 : decode cX10_story 53 = .ok (.getfield 10, 3) := by decide +kernel
theorem dX10_story_56 : decode cX10_story 56 = .ok (.getfield 206, 3) := by decide +kernel
theorem dX10_story_59 : decode cX10_story 59 = .ok (.aload_n 0, 1) := by decide +kernel
theorem dX10_story_60 : decode cX10_story 60 = .ok (.getfield 10, 3) := by decide +kernel
theorem dX10_story_63 : decode cX10_story 63 = .ok (.getfield 193, 3) := by decide +kernel
theorem dX10_story_66 : decode cX10_story 66 = .ok (.aload_n 0, 1) := by decide +kernel
theorem dX10_story_67 : decode cX10_story 67 = .ok (.getfield 43, 3) := by decide +kernel
theorem dX10_story_70 : decode cX10_story 70 = .ok (.iload_n 1, 1) := by decide +kernel
theorem dX10_story_71 : decode cX10_story 71 = .ok (.invokevirtual 210, 3) := by decide +kernel
theorem dX10_story_74 : decode cX10_story 74 = .ok (.aastore, 1) := by decide +kernel
theorem dX10_story_75 : decode cX10_story 75 = .ok (.aload_n 0, 1) := by decide +kernel
theorem dX10_story_76 : decode cX10_story 76 = .ok (.getfield 10, 3) := by decide +kernel
theorem dX10_story_79 : decode cX10_story 79 = .ok (.dup, 1) := by decide +kernel
theorem dX10_story_80 : decode cX10_story 80 = .ok (.getfield 193, 3) := by decide +kernel
theorem dX10_story_83 : decode cX10_story 83 = .ok (.iconst 1, 1) := by decide +kernel
theorem dX10_story_84 : decode cX10_story 84 = .ok (.iadd, 1) := by decide +kernel
theorem dX10_story_85 : decode cX10_story 85 = .ok (.putfield 193, 3) := by decide +kernel
theorem dX10_story_88 : decode cX10_story 88 = .ok (.aload_n 0, 1) := by decide +kernel
theorem dX10_story_89 : decode cX10_story 89 = .ok (.getfield 10, 3) := by decide +kernel
theorem dX10_story_92 : decode cX10_story 92 = .ok (.getfield 193, 3) := by decide +kernel
theorem dX10_story_95 : decode cX10_story 95 = .ok (.iconst 1, 1) := by decide +kernel
theorem dX10_story_96 : decode cX10_story 96 = .ok (.isub, 1) := by decide +kernel
theorem dX10_story_97 : decode cX10_story 97 = .ok (.ireturn, 1) := by decide +kernel
theorem dX10_gives_0 : decode cX10_gives 0 = .ok (.aload_n 0, 1) := by decide +kernel
theorem dX10_gives_1 : decode cX10_gives 1 = .ok (.getfield 10, 3) := by decide +kernel
theorem dX10_gives_4 : decode cX10_gives 4 = .ok (.iload_n 1, 1) := by decide +kernel
theorem dX10_gives_5 : decode cX10_gives 5 = .ok (.invokevirtual 214, 3) := by decide +kernel
theorem dX10_gives_8 : decode cX10_gives 8 = .ok (.ifCond .eq 17, 3) := by decide +kernel
theorem dX10_gives_11 : decode cX10_gives 11 = .ok (.iload_n 2, 1) := by decide +kernel
theorem dX10_gives_12 : decode cX10_gives 12 = .ok (.invokestatic 159, 3) := by decide +kernel
theorem dX10_gives_15 : decode cX10_gives 15 = .ok (.ifCond .eq 10, 3) := by decide +kernel
theorem dX10_gives_18 : decode cX10_gives 18 = .ok (.iload_n 3, 1) := by decide +kernel
theorem dX10_gives_19 : decode cX10_gives 19 = .ok (.invokestatic 137, 3) := by decide +kernel
theorem dX10_gives_22 : decode cX10_gives 22 = .ok (.ifCond .ne 6, 3) := by decide +kernel
theorem dX10_gives_25 : decode cX10_gives 25 = .ok (.ldc 115, 2) := by decide +kernel
theorem dX10_gives_27 : decode cX10_gives 27 = .ok (.ireturn, 1) := by decide +kernel
theorem dX10_gives_28 : decode cX10_gives 28 = .ok (.aload_n 0, 1) := by decide +kernel
theorem dX10_gives_29 : decode cX10_gives 29 = .ok (.getfield 10, 3) := by decide +kernel
theorem dX10_gives_32 : decode cX10_gives 32 = .ok (.iload_n 1, 1) := by decide +kernel
theorem dX10_gives_33 : decode cX10_gives 33 = .ok (.iload_n 2, 1) := by decide +kernel
theorem dX10_gives_34 : decode cX10_gives 34 = .ok (.iload_n 3, 1) := by decide +kernel
theorem dX10_gives_35 : decode cX10_gives 35 = .ok (.invokevirtual 217, 3) := by decide +kernel
theorem dX10_gives_38 : decode cX10_gives 38 = .ok (.ireturn, 1) := by decide +kernel
theorem dX10_finds_0 : decode cX10_finds 0 = .ok (.aload_n 0, 1) := by decide +kernel
theorem dX10_finds_1 : decode cX10_finds 1 = .ok (.getfield 10, 3) := by decide +kernel
theorem dX10_finds_4 : decode cX10_finds 4 = .ok (.iload_n 1, 1) := by decide +kernel
theorem dX10_finds_5 : decode cX10_finds 5 = .ok (.invokevirtual 214, 3) := by decide +kernel
theorem dX10_finds_8 : decode cX10_finds 8 = .ok (.ifCond .eq 14, 3) := by decide +kernel
theorem dX10_finds_11 : decode cX10_finds 11 = .ok (.aload_n 0, 1) := by decide +kernel
theorem dX10_finds_12 : decode cX10_finds 12 = .ok (.getfield 10, 3) := by decide +kernel
theorem dX10_finds_15 : decode cX10_finds 15 = .ok (.iload_n 2, 1) := by decide +kernel
theorem dX10_finds_16 : decode cX10_finds 16 = .ok (.invokevirtual 111, 3) := by decide +kernel
theorem dX10_finds_19 : decode cX10_finds 19 = .ok (.ifCond .ne 6, 3) := by decide +kernel
theorem dX10_finds_22 : decode cX10_finds 22 = .ok (.ldc 115, 2) := by decide +kernel
theorem dX10_finds_24 : decode cX10_finds 24 = .ok (.ireturn, 1) := by decide +kernel
theorem dX10_finds_25 : decode cX10_finds 25 = .ok (.aload_n 0, 1) := by decide +kernel
theorem dX10_finds_26 : decode cX10_finds 26 = .ok (.getfield 10, 3) := by decide +kernel
theorem dX10_finds_29 : decode cX10_finds 29 = .ok (.getfield 206, 3) := by decide +kernel
theorem dX10_finds_32 : decode cX10_finds 32 = .ok (.iload_n 1, 1) := by decide +kernel
theorem dX10_finds_33 : decode cX10_finds 33 = .ok (.aaload, 1) := by decide +kernel
theorem dX10_finds_34 : decode cX10_finds 34 = .ok (.iload_n 2, 1) := by decide +kernel
theorem dX10_finds_35 : decode cX10_finds 35 = .ok (.aload_n 0, 1) := by decide +kernel
theorem dX10_finds_36 : decode cX10_finds 36 = .ok (.getfield 10, 3) := by decide +kernel
theorem dX10_finds_39 : decode cX10_finds 39 = .ok (.getfield 146, 3) := by decide +kernel
theorem dX10_finds_42 : decode cX10_finds 42 = .ok (.invokevirtual 220, 3) := by decide +kernel
theorem dX10_finds_45 : decode cX10_finds 45 = .ok (.ireturn, 1) := by decide +kernel
theorem dX10_miss_0 : decode cX10_miss 0 = .ok (.aload_n 0, 1) := by decide +kernel
theorem dX10_miss_1 : decode cX10_miss 1 = .ok (.getfield 10, 3) := by decide +kernel
theorem dX10_miss_4 : decode cX10_miss 4 = .ok (.iload_n 1, 1) := by decide +kernel
theorem dX10_miss_5 : decode cX10_miss 5 = .ok (.invokevirtual 214, 3) := by decide +kernel
theorem dX10_miss_8 : decode cX10_miss 8 = .ok (.ifCond .eq 14, 3) := by decide +kernel
theorem dX10_miss_11 : decode cX10_miss 11 = .ok (.aload_n 0, 1) := by decide +kernel
theorem dX10_miss_12 : decode cX10_miss 12 = .ok (.getfield 10, 3) := by decide +kernel
theorem dX10_miss_15 : decode cX10_miss 15 = .ok (.iload_n 1, 1) := by decide +kernel
theorem dX10_miss_16 : decode cX10_miss 16 = .ok (.invokevirtual 226, 3) := by decide +kernel
theorem dX10_miss_19 : decode cX10_miss 19 = .ok (.goto 4, 3) := by decide +kernel
theorem dX10_miss_22 : decode cX10_miss 22 = .ok (.iconst (-1), 1) := by decide +kernel
theorem dX10_miss_23 : decode cX10_miss 23 = .ok (.ireturn, 1) := by decide +kernel
theorem dX10_likely_0 : decode cX10_likely 0 = .ok (.aload_n 0, 1) := by decide +kernel
theorem dX10_likely_1 : decode cX10_likely 1 = .ok (.getfield 10, 3) := by decide +kernel
theorem dX10_likely_4 : decode cX10_likely 4 = .ok (.getfield 193, 3) := by decide +kernel
theorem dX10_likely_7 : decode cX10_likely 7 = .ok (.ifCond .ne 8, 3) := by decide +kernel
theorem dX10_likely_10 : decode cX10_likely 10 = .ok (.bipush (-3), 2) := by decide +kernel
theorem dX10_likely_12 : decode cX10_likely 12 = .ok (.goto 10, 3) := by decide +kernel
theorem dX10_likely_15 : decode cX10_likely 15 = .ok (.aload_n 0, 1) := by decide +kernel
theorem dX10_likely_16 : decode cX10_likely 16 = .ok (.getfield 10, 3) := by decide +kernel
theorem dX10_likely_19 : decode cX10_likely 19 = .ok (.invokevirtual 229, 3) := by decide +kernel
theorem dX10_likely_22 : decode cX10_likely 22 = .ok (.ireturn, 1) := by decide +kernel
theorem dX10_odds_0 : decode cX10_odds 0 = .ok (.aload_n 0, 1) := by decide +kernel
theorem dX10_odds_1 : decode cX10_odds 1 = .ok (.getfield 10, 3) := by decide +kernel
theorem dX10_odds_4 : decode cX10_odds 4 = .ok (.iload_n 1, 1) := by decide +kernel
theorem dX10_odds_5 : decode cX10_odds 5 = .ok (.invokevirtual 214, 3) := by decide +kernel
theorem dX10_odds_8 : decode cX10_odds 8 = .ok (.ifCond .eq 12, 3) := by decide +kernel
theorem dX10_odds_11 : decode cX10_odds 11 = .ok (.iload_n 2, 1) := by decide +kernel
theorem dX10_odds_12 : decode cX10_odds 12 = .ok (.iconst 0, 1) := by decide +kernel
theorem dX10_odds_13 : decode cX10_odds 13 = .ok (.iconst 1, 1) := by decide +kernel
theorem dX10_odds_14 : decode cX10_odds 14 = .ok (.invokestatic 94, 3) := by decide +kernel
theorem dX10_odds_17 : decode cX10_odds 17 = .ok (.ifCond .ne 7, 3) := by decide +kernel
theorem dX10_odds_20 : decode cX10_odds 20 = .ok (.ldc2_w 232, 3) := by decide +kernel
theorem dX10_odds_23 : decode cX10_odds 23 = .ok (.lreturn, 1) := by decide +kernel
theorem dX10_odds_24 : decode cX10_odds 24 = .ok (.lconst 0, 1) := by decide +kernel
theorem dX10_odds_25 : decode cX10_odds 25 = .ok (.lstore_n 3, 1) := by decide +kernel
theorem dX10_odds_26 : decode cX10_odds 26 = .ok (.iconst 0, 1) := by decide +kernel
theorem dX10_odds_27 : decode cX10_odds 27 = .ok (.istore 5, 2) := by decide +kernel
theorem dX10_odds_29 : decode cX10_odds 29 = .ok (.iload 5, 2) := by decide +kernel
theorem dX10_odds_31 : decode cX10_odds 31 = .ok (.aload_n 0, 1) := by decide +kernel
theorem dX10_odds_32 : decode cX10_odds 32 = .ok (.getfield 10, 3) := by decide +kernel
theorem dX10_odds_35 : decode cX10_odds 35 = .ok (.getfield 193, 3) := by decide +kernel
theorem dX10_odds_38 : decode cX10_odds 38 = .ok (.if_icmp .ge 21, 3) := by decide +kernel
theorem dX10_odds_41 : decode cX10_odds 41 = .ok (.lload_n 3, 1) := by decide +kernel
theorem dX10_odds_42 : decode cX10_odds 42 = .ok (.aload_n 0, 1) := by decide +kernel
theorem dX10_odds_43 : decode cX10_odds 43 = .ok (.getfield 10, 3) := by decide +kernel
theorem dX10_odds_46 : decode cX10_odds 46 = .ok (.iload 5, 2) := by decide +kernel
theorem dX10_odds_48 : decode cX10_odds 48 = .ok (.invokevirtual 234, 3) := by decide +kernel
theorem dX10_odds_51 : decode cX10_odds 51 = .ok (.ladd, 1) := by decide +kernel
theorem dX10_odds_52 : decode cX10_odds 52 = .ok (.lstore_n 3, 1) := by decide +kernel
theorem dX10_odds_53 : decode cX10_odds 53 = .ok (.iinc 5 1, 3) := by decide +kernel
theorem dX10_odds_56 : decode cX10_odds 56 = .ok (.goto (-27), 3) := by decide +kernel
theorem dX10_odds_59 : decode cX10_odds 59 = .ok (.aload_n 0, 1) := by decide +kernel
theorem dX10_odds_60 : decode cX10_odds 60 = .ok (.getfield 10, 3) := by decide +kernel
theorem dX10_odds_63 : decode cX10_odds 63 = .ok (.iload_n 1, 1) := by decide +kernel
theorem dX10_odds_64 : decode cX10_odds 64 = .ok (.invokevirtual 234, 3) := by decide +kernel
theorem dX10_odds_67 : decode cX10_odds 67 = .ok (.lload_n 3, 1) := by decide +kernel
theorem dX10_odds_68 : decode cX10_odds 68 = .ok (.iload_n 2, 1) := by decide +kernel
theorem dX10_odds_69 : decode cX10_odds 69 = .ok (.invokestatic 238, 3) := by decide +kernel
theorem dX10_odds_72 : decode cX10_odds 72 = .ok (.lreturn, 1) := by decide +kernel
theorem dX10_same_0 : decode cX10_same 0 = .ok (.aload_n 0, 1) := by decide +kernel
theorem dX10_same_1 : decode cX10_same 1 = .ok (.getfield 10, 3) := by decide +kernel
theorem dX10_same_4 : decode cX10_same 4 = .ok (.iload_n 1, 1) := by decide +kernel
theorem dX10_same_5 : decode cX10_same 5 = .ok (.invokevirtual 214, 3) := by decide +kernel
theorem dX10_same_8 : decode cX10_same 8 = .ok (.ifCond .eq 21, 3) := by decide +kernel
theorem dX10_same_11 : decode cX10_same 11 = .ok (.aload_n 0, 1) := by decide +kernel
theorem dX10_same_12 : decode cX10_same 12 = .ok (.getfield 10, 3) := by decide +kernel
theorem dX10_same_15 : decode cX10_same 15 = .ok (.iload_n 2, 1) := by decide +kernel
theorem dX10_same_16 : decode cX10_same 16 = .ok (.invokevirtual 214, 3) := by decide +kernel
theorem dX10_same_19 : decode cX10_same 19 = .ok (.ifCond .eq 10, 3) := by decide +kernel
theorem dX10_same_22 : decode cX10_same 22 = .ok (.iload_n 3, 1) := by decide +kernel
theorem dX10_same_23 : decode cX10_same 23 = .ok (.invokestatic 137, 3) := by decide +kernel
theorem dX10_same_26 : decode cX10_same 26 = .ok (.ifCond .ne 5, 3) := by decide +kernel
theorem dX10_same_29 : decode cX10_same 29 = .ok (.iconst (-1), 1) := by decide +kernel
theorem dX10_same_30 : decode cX10_same 30 = .ok (.ireturn, 1) := by decide +kernel
theorem dX10_same_31 : decode cX10_same 31 = .ok (.iconst 0, 1) := by decide +kernel
theorem dX10_same_32 : decode cX10_same 32 = .ok (.istore 4, 2) := by decide +kernel
theorem dX10_same_34 : decode cX10_same 34 = .ok (.iconst 0, 1) := by decide +kernel
theorem dX10_same_35 : decode cX10_same 35 = .ok (.istore 5, 2) := by decide +kernel
theorem dX10_same_37 : decode cX10_same 37 = .ok (.iload 5, 2) := by decide +kernel
theorem dX10_same_39 : decode cX10_same 39 = .ok (.iconst 2, 1) := by decide +kernel
theorem dX10_same_40 : decode cX10_same 40 = .ok (.if_icmp .ge 43, 3) := by decide +kernel
theorem dX10_same_43 : decode cX10_same 43 = .ok (.aload_n 0, 1) := by decide +kernel
theorem dX10_same_44 : decode cX10_same 44 = .ok (.getfield 10, 3) := by decide +kernel
theorem dX10_same_47 : decode cX10_same 47 = .ok (.iload_n 1, 1) := by decide +kernel
theorem dX10_same_48 : decode cX10_same 48 = .ok (.iload 5, 2) := by decide +kernel
theorem dX10_same_50 : decode cX10_same 50 = .ok (.iload_n 3, 1) := by decide +kernel
theorem dX10_same_51 : decode cX10_same 51 = .ok (.invokevirtual 217, 3) := by decide +kernel
theorem dX10_same_54 : decode cX10_same 54 = .ok (.aload_n 0, 1) := by decide +kernel
theorem dX10_same_55 : decode cX10_same 55 = .ok (.getfield 10, 3) := by decide +kernel
theorem dX10_same_58 : decode cX10_same 58 = .ok (.iload_n 2, 1) := by decide +kernel
theorem dX10_same_59 : decode cX10_same 59 = .ok (.iload 5, 2) := by decide +kernel
theorem dX10_same_61 : decode cX10_same 61 = .ok (.iload_n 3, 1) := by decide +kernel
theorem dX10_same_62 : decode cX10_same 62 = .ok (.invokevirtual 217, 3) := by decide +kernel
theorem dX10_same_65 : decode cX10_same 65 = .ok (.if_icmp .ne 12, 3) := by decide +kernel
theorem dX10_same_68 : decode cX10_same 68 = .ok (.iload 4, 2) := by decide +kernel
theorem dX10_same_70 : decode cX10_same 70 = .ok (.iconst 1, 1) := by decide +kernel
theorem dX10_same_71 : decode cX10_same 71 = .ok (.iload 5, 2) := by decide +kernel
theorem dX10_same_73 : decode cX10_same 73 = .ok (.ishl, 1) := by decide +kernel
theorem dX10_same_74 : decode cX10_same 74 = .ok (.ior, 1) := by decide +kernel
theorem dX10_same_75 : decode cX10_same 75 = .ok (.istore 4, 2) := by decide +kernel
theorem dX10_same_77 : decode cX10_same 77 = .ok (.iinc 5 1, 3) := by decide +kernel
theorem dX10_same_80 : decode cX10_same 80 = .ok (.goto (-43), 3) := by decide +kernel
theorem dX10_same_83 : decode cX10_same 83 = .ok (.iload 4, 2) := by decide +kernel
theorem dX10_same_85 : decode cX10_same 85 = .ok (.ireturn, 1) := by decide +kernel
theorem dX10_next_0 : decode cX10_next 0 = .ok (.aload_n 0, 1) := by decide +kernel
theorem dX10_next_1 : decode cX10_next 1 = .ok (.getfield 10, 3) := by decide +kernel
theorem dX10_next_4 : decode cX10_next 4 = .ok (.iload_n 1, 1) := by decide +kernel
theorem dX10_next_5 : decode cX10_next 5 = .ok (.invokevirtual 242, 3) := by decide +kernel
theorem dX10_next_8 : decode cX10_next 8 = .ok (.ifCond .eq 12, 3) := by decide +kernel
theorem dX10_next_11 : decode cX10_next 11 = .ok (.iload_n 2, 1) := by decide +kernel
theorem dX10_next_12 : decode cX10_next 12 = .ok (.iconst 0, 1) := by decide +kernel
theorem dX10_next_13 : decode cX10_next 13 = .ok (.iconst 1, 1) := by decide +kernel
theorem dX10_next_14 : decode cX10_next 14 = .ok (.invokestatic 94, 3) := by decide +kernel
theorem dX10_next_17 : decode cX10_next 17 = .ok (.ifCond .ne 5, 3) := by decide +kernel
theorem dX10_next_20 : decode cX10_next 20 = .ok (.iconst (-1), 1) := by decide +kernel
theorem dX10_next_21 : decode cX10_next 21 = .ok (.ireturn, 1) := by decide +kernel
theorem dX10_next_22 : decode cX10_next 22 = .ok (.aload_n 0, 1) := by decide +kernel
theorem dX10_next_23 : decode cX10_next 23 = .ok (.iload_n 1, 1) := by decide +kernel
theorem dX10_next_24 : decode cX10_next 24 = .ok (.invokevirtual 245, 3) := by decide +kernel
theorem dX10_next_27 : decode cX10_next 27 = .ok (.istore_n 3, 1) := by decide +kernel
theorem dX10_next_28 : decode cX10_next 28 = .ok (.bipush (-3), 2) := by decide +kernel
theorem dX10_next_30 : decode cX10_next 30 = .ok (.istore 4, 2) := by decide +kernel
theorem dX10_next_32 : decode cX10_next 32 = .ok (.iconst 0, 1) := by decide +kernel
theorem dX10_next_33 : decode cX10_next 33 = .ok (.istore 5, 2) := by decide +kernel
theorem dX10_next_35 : decode cX10_next 35 = .ok (.iconst 0, 1) := by decide +kernel
theorem dX10_next_36 : decode cX10_next 36 = .ok (.istore 6, 2) := by decide +kernel
theorem dX10_next_38 : decode cX10_next 38 = .ok (.iconst 0, 1) := by decide +kernel
theorem dX10_next_39 : decode cX10_next 39 = .ok (.istore 7, 2) := by decide +kernel
theorem dX10_next_41 : decode cX10_next 41 = .ok (.iload 7, 2) := by decide +kernel
theorem dX10_next_43 : decode cX10_next 43 = .ok (.aload_n 0, 1) := by decide +kernel
theorem dX10_next_44 : decode cX10_next 44 = .ok (.getfield 10, 3) := by decide +kernel
theorem dX10_next_47 : decode cX10_next 47 = .ok (.getfield 98, 3) := by decide +kernel
theorem dX10_next_50 : decode cX10_next 50 = .ok (.if_icmp .ge 78, 3) := by decide +kernel
theorem dX10_next_53 : decode cX10_next 53 = .ok (.aload_n 0, 1) := by decide +kernel
theorem dX10_next_54 : decode cX10_next 54 = .ok (.iload_n 3, 1) := by decide +kernel
theorem dX10_next_55 : decode cX10_next 55 = .ok (.iload 7, 2) := by decide +kernel
theorem dX10_next_57 : decode cX10_next 57 = .ok (.invokevirtual 248, 3) := by decide +kernel
theorem dX10_next_60 : decode cX10_next 60 = .ok (.istore 8, 2) := by decide +kernel
theorem dX10_next_62 : decode cX10_next 62 = .ok (.iload 8, 2) := by decide +kernel
theorem dX10_next_64 : decode cX10_next 64 = .ok (.iload 5, 2) := by decide +kernel
theorem dX10_next_66 : decode cX10_next 66 = .ok (.if_icmp .gt 33, 3) := by decide +kernel
theorem dX10_next_69 : decode cX10_next 69 = .ok (.iload 8, 2) := by decide +kernel
theorem dX10_next_71 : decode cX10_next 71 = .ok (.ifCond .le 51, 3) := by decide +kernel
theorem dX10_next_74 : decode cX10_next 74 = .ok (.iload 8, 2) := by decide +kernel
theorem dX10_next_76 : decode cX10_next 76 = .ok (.iload 5, 2) := by decide +kernel
theorem dX10_next_78 : decode cX10_next 78 = .ok (.if_icmp .ne 44, 3) := by decide +kernel
theorem dX10_next_81 : decode cX10_next 81 = .ok (.aload_n 0, 1) := by decide +kernel
theorem dX10_next_82 : decode cX10_next 82 = .ok (.getfield 10, 3) := by decide +kernel
theorem dX10_next_85 : decode cX10_next 85 = .ok (.getfield 101, 3) := by decide +kernel
theorem dX10_next_88 : decode cX10_next 88 = .ok (.iload 7, 2) := by decide +kernel
theorem dX10_next_90 : decode cX10_next 90 = .ok (.aaload, 1) := by decide +kernel
theorem dX10_next_91 : decode cX10_next 91 = .ok (.getfield 128, 3) := by decide +kernel
theorem dX10_next_94 : decode cX10_next 94 = .ok (.iload 6, 2) := by decide +kernel
theorem dX10_next_96 : decode cX10_next 96 = .ok (.if_icmp .ge 26, 3) := by decide +kernel
theorem dX10_next_99 : decode cX10_next 99 = .ok (.iload 7, 2) := by decide +kernel
theorem dX10_next_101 : decode cX10_next 101 = .ok (.istore 4, 2) := by decide +kernel
theorem dX10_next_103 : decode cX10_next 103 = .ok (.iload 8, 2) := by decide +kernel
theorem dX10_next_105 : decode cX10_next 105 = .ok (.istore 5, 2) := by decide +kernel
theorem dX10_next_107 : decode cX10_next 107 = .ok (.aload_n 0, 1) := by decide +kernel
theorem dX10_next_108 : decode cX10_next 108 = .ok (.getfield 10, 3) := by decide +kernel
theorem dX10_next_111 : decode cX10_next 111 = .ok (.getfield 101, 3) := by decide +kernel
theorem dX10_next_114 : decode cX10_next 114 = .ok (.iload 7, 2) := by decide +kernel
theorem dX10_next_116 : decode cX10_next 116 = .ok (.aaload, 1) := by decide +kernel
theorem dX10_next_117 : decode cX10_next 117 = .ok (.getfield 128, 3) := by decide +kernel
theorem dX10_next_120 : decode cX10_next 120 = .ok (.istore 6, 2) := by decide +kernel
theorem dX10_next_122 : decode cX10_next 122 = .ok (.iinc 7 1, 3) := by decide +kernel
theorem dX10_next_125 : decode cX10_next 125 = .ok (.goto (-84), 3) := by decide +kernel
theorem dX10_next_128 : decode cX10_next 128 = .ok (.iload_n 2, 1) := by decide +kernel
theorem dX10_next_129 : decode cX10_next 129 = .ok (.ifCond .eq 10, 3) := by decide +kernel
theorem dX10_next_132 : decode cX10_next 132 = .ok (.iload 4, 2) := by decide +kernel
theorem dX10_next_134 : decode cX10_next 134 = .ok (.bipush (-3), 2) := by decide +kernel
theorem dX10_next_136 : decode cX10_next 136 = .ok (.if_icmp .ne 8, 3) := by decide +kernel
theorem dX10_next_139 : decode cX10_next 139 = .ok (.iload 4, 2) := by decide +kernel
theorem dX10_next_141 : decode cX10_next 141 = .ok (.goto 5, 3) := by decide +kernel
theorem dX10_next_144 : decode cX10_next 144 = .ok (.iload 5, 2) := by decide +kernel
theorem dX10_next_146 : decode cX10_next 146 = .ok (.ireturn, 1) := by decide +kernel
theorem dX10_least_0 : decode cX10_least 0 = .ok (.aload_n 0, 1) := by decide +kernel
theorem dX10_least_1 : decode cX10_least 1 = .ok (.getfield 10, 3) := by decide +kernel
theorem dX10_least_4 : decode cX10_least 4 = .ok (.iload_n 1, 1) := by decide +kernel
theorem dX10_least_5 : decode cX10_least 5 = .ok (.invokevirtual 242, 3) := by decide +kernel
theorem dX10_least_8 : decode cX10_least 8 = .ok (.ifCond .eq 12, 3) := by decide +kernel
theorem dX10_least_11 : decode cX10_least 11 = .ok (.iload_n 2, 1) := by decide +kernel
theorem dX10_least_12 : decode cX10_least 12 = .ok (.iconst 0, 1) := by decide +kernel
theorem dX10_least_13 : decode cX10_least 13 = .ok (.iconst 1, 1) := by decide +kernel
theorem dX10_least_14 : decode cX10_least 14 = .ok (.invokestatic 94, 3) := by decide +kernel
theorem dX10_least_17 : decode cX10_least 17 = .ok (.ifCond .ne 5, 3) := by decide +kernel
theorem dX10_least_20 : decode cX10_least 20 = .ok (.iconst (-1), 1) := by decide +kernel
theorem dX10_least_21 : decode cX10_least 21 = .ok (.ireturn, 1) := by decide +kernel
theorem dX10_least_22 : decode cX10_least 22 = .ok (.aload_n 0, 1) := by decide +kernel
theorem dX10_least_23 : decode cX10_least 23 = .ok (.iload_n 1, 1) := by decide +kernel
theorem dX10_least_24 : decode cX10_least 24 = .ok (.invokevirtual 245, 3) := by decide +kernel
theorem dX10_least_27 : decode cX10_least 27 = .ok (.istore_n 3, 1) := by decide +kernel
theorem dX10_least_28 : decode cX10_least 28 = .ok (.iconst 0, 1) := by decide +kernel
theorem dX10_least_29 : decode cX10_least 29 = .ok (.istore 4, 2) := by decide +kernel
theorem dX10_least_31 : decode cX10_least 31 = .ok (.iconst 0, 1) := by decide +kernel
theorem dX10_least_32 : decode cX10_least 32 = .ok (.istore 5, 2) := by decide +kernel
theorem dX10_least_34 : decode cX10_least 34 = .ok (.iload 5, 2) := by decide +kernel
theorem dX10_least_36 : decode cX10_least 36 = .ok (.iload_n 3, 1) := by decide +kernel
theorem dX10_least_37 : decode cX10_least 37 = .ok (.if_icmp .ge 21, 3) := by decide +kernel
theorem dX10_least_40 : decode cX10_least 40 = .ok (.iload 4, 2) := by decide +kernel
theorem dX10_least_42 : decode cX10_least 42 = .ok (.aload_n 0, 1) := by decide +kernel
theorem dX10_least_43 : decode cX10_least 43 = .ok (.getfield 61, 3) := by decide +kernel
theorem dX10_least_46 : decode cX10_least 46 = .ok (.iload 5, 2) := by decide +kernel
theorem dX10_least_48 : decode cX10_least 48 = .ok (.iaload, 1) := by decide +kernel
theorem dX10_least_49 : decode cX10_least 49 = .ok (.ior, 1) := by decide +kernel
theorem dX10_least_50 : decode cX10_least 50 = .ok (.istore 4, 2) := by decide +kernel
theorem dX10_least_52 : decode cX10_least 52 = .ok (.iinc 5 1, 3) := by decide +kernel
theorem dX10_least_55 : decode cX10_least 55 = .ok (.goto (-21), 3) := by decide +kernel
theorem dX10_least_58 : decode cX10_least 58 = .ok (.iload 4, 2) := by decide +kernel
theorem dX10_least_60 : decode cX10_least 60 = .ok (.istore 5, 2) := by decide +kernel
theorem dX10_least_62 : decode cX10_least 62 = .ok (.aload_n 0, 1) := by decide +kernel
theorem dX10_least_63 : decode cX10_least 63 = .ok (.getfield 10, 3) := by decide +kernel
theorem dX10_least_66 : decode cX10_least 66 = .ok (.iload 4, 2) := by decide +kernel
theorem dX10_least_68 : decode cX10_least 68 = .ok (.invokevirtual 251, 3) := by decide +kernel
theorem dX10_least_71 : decode cX10_least 71 = .ok (.istore 6, 2) := by decide +kernel
theorem dX10_least_73 : decode cX10_least 73 = .ok (.iload 4, 2) := by decide +kernel
theorem dX10_least_75 : decode cX10_least 75 = .ok (.istore 7, 2) := by decide +kernel
theorem dX10_least_77 : decode cX10_least 77 = .ok (.iload 7, 2) := by decide +kernel
theorem dX10_least_79 : decode cX10_least 79 = .ok (.ifCond .le 51, 3) := by decide +kernel
theorem dX10_least_82 : decode cX10_least 82 = .ok (.iload 7, 2) := by decide +kernel
theorem dX10_least_84 : decode cX10_least 84 = .ok (.iconst 1, 1) := by decide +kernel
theorem dX10_least_85 : decode cX10_least 85 = .ok (.isub, 1) := by decide +kernel
theorem dX10_least_86 : decode cX10_least 86 = .ok (.iload 4, 2) := by decide +kernel
theorem dX10_least_88 : decode cX10_least 88 = .ok (.iand, 1) := by decide +kernel
theorem dX10_least_89 : decode cX10_least 89 = .ok (.istore 7, 2) := by decide +kernel
theorem dX10_least_91 : decode cX10_least 91 = .ok (.aload_n 0, 1) := by decide +kernel
theorem dX10_least_92 : decode cX10_least 92 = .ok (.getfield 10, 3) := by decide +kernel
theorem dX10_least_95 : decode cX10_least 95 = .ok (.iload 7, 2) := by decide +kernel
theorem dX10_least_97 : decode cX10_least 97 = .ok (.invokevirtual 251, 3) := by decide +kernel
theorem dX10_least_100 : decode cX10_least 100 = .ok (.istore 8, 2) := by decide +kernel
theorem dX10_least_102 : decode cX10_least 102 = .ok (.iload 8, 2) := by decide +kernel
theorem dX10_least_104 : decode cX10_least 104 = .ok (.iload 6, 2) := by decide +kernel
theorem dX10_least_106 : decode cX10_least 106 = .ok (.if_icmp .gt 21, 3) := by decide +kernel
theorem dX10_least_109 : decode cX10_least 109 = .ok (.aload_n 0, 1) := by decide +kernel
theorem dX10_least_110 : decode cX10_least 110 = .ok (.iload_n 3, 1) := by decide +kernel
theorem dX10_least_111 : decode cX10_least 111 = .ok (.iload 7, 2) := by decide +kernel
theorem dX10_least_113 : decode cX10_least 113 = .ok (.invokevirtual 254, 3) := by decide +kernel
theorem dX10_least_116 : decode cX10_least 116 = .ok (.ifCond .eq 11, 3) := by decide +kernel
theorem dX10_least_119 : decode cX10_least 119 = .ok (.iload 7, 2) := by decide +kernel
theorem dX10_least_121 : decode cX10_least 121 = .ok (.istore 5, 2) := by decide +kernel
theorem dX10_least_123 : decode cX10_least 123 = .ok (.iload 8, 2) := by decide +kernel
theorem dX10_least_125 : decode cX10_least 125 = .ok (.istore 6, 2) := by decide +kernel
theorem dX10_least_127 : decode cX10_least 127 = .ok (.goto (-50), 3) := by decide +kernel
theorem dX10_least_130 : decode cX10_least 130 = .ok (.iload_n 2, 1) := by decide +kernel
theorem dX10_least_131 : decode cX10_least 131 = .ok (.ifCond .ne 8, 3) := by decide +kernel
theorem dX10_least_134 : decode cX10_least 134 = .ok (.iload 5, 2) := by decide +kernel
theorem dX10_least_136 : decode cX10_least 136 = .ok (.goto 5, 3) := by decide +kernel
theorem dX10_least_139 : decode cX10_least 139 = .ok (.iload 6, 2) := by decide +kernel
theorem dX10_least_141 : decode cX10_least 141 = .ok (.ireturn, 1) := by decide +kernel
theorem dX10_span_0 : decode cX10_span 0 = .ok (.iload_n 1, 1) := by decide +kernel
theorem dX10_span_1 : decode cX10_span 1 = .ok (.invokestatic 159, 3) := by decide +kernel
theorem dX10_span_4 : decode cX10_span 4 = .ok (.ifCond .eq 12, 3) := by decide +kernel
theorem dX10_span_7 : decode cX10_span 7 = .ok (.iload_n 2, 1) := by decide +kernel
theorem dX10_span_8 : decode cX10_span 8 = .ok (.iconst 0, 1) := by decide +kernel
theorem dX10_span_9 : decode cX10_span 9 = .ok (.iconst 1, 1) := by decide +kernel
theorem dX10_span_10 : decode cX10_span 10 = .ok (.invokestatic 94, 3) := by decide +kernel
theorem dX10_span_13 : decode cX10_span 13 = .ok (.ifCond .ne 5, 3) := by decide +kernel
theorem dX10_span_16 : decode cX10_span 16 = .ok (.iconst (-1), 1) := by decide +kernel
theorem dX10_span_17 : decode cX10_span 17 = .ok (.ireturn, 1) := by decide +kernel
theorem dX10_span_18 : decode cX10_span 18 = .ok (.iload_n 2, 1) := by decide +kernel
theorem dX10_span_19 : decode cX10_span 19 = .ok (.ifCond .ne 14, 3) := by decide +kernel
theorem dX10_span_22 : decode cX10_span 22 = .ok (.aload_n 0, 1) := by decide +kernel
theorem dX10_span_23 : decode cX10_span 23 = .ok (.getfield 10, 3) := by decide +kernel
theorem dX10_span_26 : decode cX10_span 26 = .ok (.iload_n 1, 1) := by decide +kernel
theorem dX10_span_27 : decode cX10_span 27 = .ok (.invokevirtual 258, 3) := by decide +kernel
theorem dX10_span_30 : decode cX10_span 30 = .ok (.goto 11, 3) := by decide +kernel
theorem dX10_span_33 : decode cX10_span 33 = .ok (.aload_n 0, 1) := by decide +kernel
theorem dX10_span_34 : decode cX10_span 34 = .ok (.getfield 10, 3) := by decide +kernel
theorem dX10_span_37 : decode cX10_span 37 = .ok (.iload_n 1, 1) := by decide +kernel
theorem dX10_span_38 : decode cX10_span 38 = .ok (.invokevirtual 261, 3) := by decide +kernel
theorem dX10_span_41 : decode cX10_span 41 = .ok (.ireturn, 1) := by decide +kernel
theorem dX10_sure_0 : decode cX10_sure 0 = .ok (.iload_n 1, 1) := by decide +kernel
theorem dX10_sure_1 : decode cX10_sure 1 = .ok (.invokestatic 159, 3) := by decide +kernel
theorem dX10_sure_4 : decode cX10_sure 4 = .ok (.ifCond .ne 5, 3) := by decide +kernel
theorem dX10_sure_7 : decode cX10_sure 7 = .ok (.iconst (-1), 1) := by decide +kernel
theorem dX10_sure_8 : decode cX10_sure 8 = .ok (.ireturn, 1) := by decide +kernel
theorem dX10_sure_9 : decode cX10_sure 9 = .ok (.aload_n 0, 1) := by decide +kernel
theorem dX10_sure_10 : decode cX10_sure 10 = .ok (.getfield 10, 3) := by decide +kernel
theorem dX10_sure_13 : decode cX10_sure 13 = .ok (.iload_n 1, 1) := by decide +kernel
theorem dX10_sure_14 : decode cX10_sure 14 = .ok (.iconst 0, 1) := by decide +kernel
theorem dX10_sure_15 : decode cX10_sure 15 = .ok (.sipush 999, 3) := by decide +kernel
theorem dX10_sure_18 : decode cX10_sure 18 = .ok (.invokevirtual 264, 3) := by decide +kernel
theorem dX10_sure_21 : decode cX10_sure 21 = .ok (.istore_n 2, 1) := by decide +kernel
theorem dX10_sure_22 : decode cX10_sure 22 = .ok (.iload_n 2, 1) := by decide +kernel
theorem dX10_sure_23 : decode cX10_sure 23 = .ok (.ifCond .ne 6, 3) := by decide +kernel
theorem dX10_sure_26 : decode cX10_sure 26 = .ok (.bipush (-3), 2) := by decide +kernel
theorem dX10_sure_28 : decode cX10_sure 28 = .ok (.ireturn, 1) := by decide +kernel
theorem dX10_sure_29 : decode cX10_sure 29 = .ok (.iload_n 2, 1) := by decide +kernel
theorem dX10_sure_30 : decode cX10_sure 30 = .ok (.aload_n 0, 1) := by decide +kernel
theorem dX10_sure_31 : decode cX10_sure 31 = .ok (.getfield 10, 3) := by decide +kernel
theorem dX10_sure_34 : decode cX10_sure 34 = .ok (.iload_n 1, 1) := by decide +kernel
theorem dX10_sure_35 : decode cX10_sure 35 = .ok (.invokevirtual 261, 3) := by decide +kernel
theorem dX10_sure_38 : decode cX10_sure 38 = .ok (.imul, 1) := by decide +kernel
theorem dX10_sure_39 : decode cX10_sure 39 = .ok (.istore_n 3, 1) := by decide +kernel
theorem dX10_sure_40 : decode cX10_sure 40 = .ok (.iload_n 3, 1) := by decide +kernel
theorem dX10_sure_41 : decode cX10_sure 41 = .ok (.ifCond .ne 6, 3) := by decide +kernel
theorem dX10_sure_44 : decode cX10_sure 44 = .ok (.bipush (-15), 2) := by decide +kernel
theorem dX10_sure_46 : decode cX10_sure 46 = .ok (.ireturn, 1) := by decide +kernel
theorem dX10_sure_47 : decode cX10_sure 47 = .ok (.aload_n 0, 1) := by decide +kernel
theorem dX10_sure_48 : decode cX10_sure 48 = .ok (.getfield 10, 3) := by decide +kernel
theorem dX10_sure_51 : decode cX10_sure 51 = .ok (.iload_n 1, 1) := by decide +kernel
theorem dX10_sure_52 : decode cX10_sure 52 = .ok (.iconst 0, 1) := by decide +kernel
theorem dX10_sure_53 : decode cX10_sure 53 = .ok (.sipush 999, 3) := by decide +kernel
theorem dX10_sure_56 : decode cX10_sure 56 = .ok (.invokevirtual 267, 3) := by decide +kernel
theorem dX10_sure_59 : decode cX10_sure 59 = .ok (.invokestatic 270, 3) := by decide +kernel
theorem dX10_sure_62 : decode cX10_sure 62 = .ok (.iload_n 3, 1) := by decide +kernel
theorem dX10_sure_63 : decode cX10_sure 63 = .ok (.idiv, 1) := by decide +kernel
theorem dX10_sure_64 : decode cX10_sure 64 = .ok (.ireturn, 1) := by decide +kernel
theorem dX10_could_0 : decode cX10_could 0 = .ok (.iload_n 1, 1) := by decide +kernel
theorem dX10_could_1 : decode cX10_could 1 = .ok (.invokestatic 159, 3) := by decide +kernel
theorem dX10_could_4 : decode cX10_could 4 = .ok (.ifCond .eq 16, 3) := by decide +kernel
theorem dX10_could_7 : decode cX10_could 7 = .ok (.iload_n 2, 1) := by decide +kernel
theorem dX10_could_8 : decode cX10_could 8 = .ok (.sipush (-9999), 3) := by decide +kernel
theorem dX10_could_11 : decode cX10_could 11 = .ok (.sipush 9999, 3) := by decide +kernel
theorem dX10_could_14 : decode cX10_could 14 = .ok (.invokestatic 94, 3) := by decide +kernel
theorem dX10_could_17 : decode cX10_could 17 = .ok (.ifCond .ne 5, 3) := by decide +kernel
theorem dX10_could_20 : decode cX10_could 20 = .ok (.iconst (-1), 1) := by decide +kernel
theorem dX10_could_21 : decode cX10_could 21 = .ok (.ireturn, 1) := by decide +kernel
theorem dX10_could_22 : decode cX10_could 22 = .ok (.iconst 0, 1) := by decide +kernel
theorem dX10_could_23 : decode cX10_could 23 = .ok (.istore_n 3, 1) := by decide +kernel
theorem dX10_could_24 : decode cX10_could 24 = .ok (.iconst 0, 1) := by decide +kernel
theorem dX10_could_25 : decode cX10_could 25 = .ok (.istore 4, 2) := by decide +kernel
theorem dX10_could_27 : decode cX10_could 27 = .ok (.iload 4, 2) := by decide +kernel
theorem dX10_could_29 : decode cX10_could 29 = .ok (.aload_n 0, 1) := by decide +kernel
theorem dX10_could_30 : decode cX10_could 30 = .ok (.getfield 10, 3) := by decide +kernel
theorem dX10_could_33 : decode cX10_could 33 = .ok (.getfield 98, 3) := by decide +kernel
theorem dX10_could_36 : decode cX10_could 36 = .ok (.if_icmp .ge 53, 3) := by decide +kernel
theorem dX10_could_39 : decode cX10_could 39 = .ok (.aload_n 0, 1) := by decide +kernel
theorem dX10_could_40 : decode cX10_could 40 = .ok (.getfield 10, 3) := by decide +kernel
theorem dX10_could_43 : decode cX10_could 43 = .ok (.getfield 101, 3) := by decide +kernel
theorem dX10_could_46 : decode cX10_could 46 = .ok (.iload 4, 2) := by decide +kernel
theorem dX10_could_48 : decode cX10_could 48 = .ok (.aaload, 1) := by decide +kernel
theorem dX10_could_49 : decode cX10_could 49 = .ok (.iload_n 1, 1) := by decide +kernel
theorem dX10_could_50 : decode cX10_could 50 = .ok (.invokevirtual 165, 3) := by decide +kernel
theorem dX10_could_53 : decode cX10_could 53 = .ok (.ifCond .eq 30, 3) := by decide +kernel
theorem dX10_could_56 : decode cX10_could 56 = .ok (.aload_n 0, 1) := by decide +kernel
theorem dX10_could_57 : decode cX10_could 57 = .ok (.getfield 10, 3) := by decide +kernel
theorem dX10_could_60 : decode cX10_could 60 = .ok (.getfield 101, 3) := by decide +kernel
theorem dX10_could_63 : decode cX10_could 63 = .ok (.iload 4, 2) := by decide +kernel
theorem dX10_could_65 : decode cX10_could 65 = .ok (.aaload, 1) := by decide +kernel
theorem dX10_could_66 : decode cX10_could 66 = .ok (.getfield 125, 3) := by decide +kernel
theorem dX10_could_69 : decode cX10_could 69 = .ok (.iload_n 2, 1) := by decide +kernel
theorem dX10_could_70 : decode cX10_could 70 = .ok (.invokestatic 270, 3) := by decide +kernel
theorem dX10_could_73 : decode cX10_could 73 = .ok (.if_icmp .lt 10, 3) := by decide +kernel
theorem dX10_could_76 : decode cX10_could 76 = .ok (.iload_n 3, 1) := by decide +kernel
theorem dX10_could_77 : decode cX10_could 77 = .ok (.iconst 1, 1) := by decide +kernel
theorem dX10_could_78 : decode cX10_could 78 = .ok (.iload 4, 2) := by decide +kernel
theorem dX10_could_80 : decode cX10_could 80 = .ok (.ishl, 1) := by decide +kernel
theorem dX10_could_81 : decode cX10_could 81 = .ok (.ior, 1) := by decide +kernel
theorem dX10_could_82 : decode cX10_could 82 = .ok (.istore_n 3, 1) := by decide +kernel
theorem dX10_could_83 : decode cX10_could 83 = .ok (.iinc 4 1, 3) := by decide +kernel
theorem dX10_could_86 : decode cX10_could 86 = .ok (.goto (-59), 3) := by decide +kernel
theorem dX10_could_89 : decode cX10_could 89 = .ok (.iload_n 3, 1) := by decide +kernel
theorem dX10_could_90 : decode cX10_could 90 = .ok (.ireturn, 1) := by decide +kernel
theorem dX10_fits_0 : decode cX10_fits 0 = .ok (.iload_n 1, 1) := by decide +kernel
theorem dX10_fits_1 : decode cX10_fits 1 = .ok (.invokestatic 159, 3) := by decide +kernel
theorem dX10_fits_4 : decode cX10_fits 4 = .ok (.ifCond .eq 16, 3) := by decide +kernel
theorem dX10_fits_7 : decode cX10_fits 7 = .ok (.iload_n 2, 1) := by decide +kernel
theorem dX10_fits_8 : decode cX10_fits 8 = .ok (.sipush (-9999), 3) := by decide +kernel
theorem dX10_fits_11 : decode cX10_fits 11 = .ok (.sipush 9999, 3) := by decide +kernel
theorem dX10_fits_14 : decode cX10_fits 14 = .ok (.invokestatic 94, 3) := by decide +kernel
theorem dX10_fits_17 : decode cX10_fits 17 = .ok (.ifCond .ne 5, 3) := by decide +kernel
theorem dX10_fits_20 : decode cX10_fits 20 = .ok (.iconst (-1), 1) := by decide +kernel
theorem dX10_fits_21 : decode cX10_fits 21 = .ok (.ireturn, 1) := by decide +kernel
theorem dX10_fits_22 : decode cX10_fits 22 = .ok (.iconst 0, 1) := by decide +kernel
theorem dX10_fits_23 : decode cX10_fits 23 = .ok (.istore_n 3, 1) := by decide +kernel
theorem dX10_fits_24 : decode cX10_fits 24 = .ok (.iconst 0, 1) := by decide +kernel
theorem dX10_fits_25 : decode cX10_fits 25 = .ok (.istore 4, 2) := by decide +kernel
theorem dX10_fits_27 : decode cX10_fits 27 = .ok (.iload 4, 2) := by decide +kernel
theorem dX10_fits_29 : decode cX10_fits 29 = .ok (.aload_n 0, 1) := by decide +kernel
theorem dX10_fits_30 : decode cX10_fits 30 = .ok (.getfield 10, 3) := by decide +kernel
theorem dX10_fits_33 : decode cX10_fits 33 = .ok (.getfield 98, 3) := by decide +kernel
theorem dX10_fits_36 : decode cX10_fits 36 = .ok (.if_icmp .ge 92, 3) := by decide +kernel
theorem dX10_fits_39 : decode cX10_fits 39 = .ok (.iconst 0, 1) := by decide +kernel
theorem dX10_fits_40 : decode cX10_fits 40 = .ok (.istore 5, 2) := by decide +kernel
theorem dX10_fits_42 : decode cX10_fits 42 = .ok (.iload 5, 2) := by decide +kernel
theorem dX10_fits_44 : decode cX10_fits 44 = .ok (.iload 4, 2) := by decide +kernel
theorem dX10_fits_46 : decode cX10_fits 46 = .ok (.if_icmp .ge 76, 3) := by decide +kernel
theorem dX10_fits_49 : decode cX10_fits 49 = .ok (.aload_n 0, 1) := by decide +kernel
theorem dX10_fits_50 : decode cX10_fits 50 = .ok (.getfield 10, 3) := by decide +kernel
theorem dX10_fits_53 : decode cX10_fits 53 = .ok (.getfield 101, 3) := by decide +kernel
theorem dX10_fits_56 : decode cX10_fits 56 = .ok (.iload 5, 2) := by decide +kernel
theorem dX10_fits_58 : decode cX10_fits 58 = .ok (.aaload, 1) := by decide +kernel
theorem dX10_fits_59 : decode cX10_fits 59 = .ok (.iload_n 1, 1) := by decide +kernel
theorem dX10_fits_60 : decode cX10_fits 60 = .ok (.invokevirtual 165, 3) := by decide +kernel
theorem dX10_fits_63 : decode cX10_fits 63 = .ok (.ifCond .eq 53, 3) := by decide +kernel
theorem dX10_fits_66 : decode cX10_fits 66 = .ok (.aload_n 0, 1) := by decide +kernel
theorem dX10_fits_67 : decode cX10_fits 67 = .ok (.getfield 10, 3) := by decide +kernel
theorem dX10_fits_70 : decode cX10_fits 70 = .ok (.getfield 101, 3) := by decide +kernel
theorem dX10_fits_73 : decode cX10_fits 73 = .ok (.iload 4, 2) := by decide +kernel
theorem dX10_fits_75 : decode cX10_fits 75 = .ok (.aaload, 1) := by decide +kernel
theorem dX10_fits_76 : decode cX10_fits 76 = .ok (.iload_n 1, 1) := by decide +kernel
theorem dX10_fits_77 : decode cX10_fits 77 = .ok (.invokevirtual 165, 3) := by decide +kernel
theorem dX10_fits_80 : decode cX10_fits 80 = .ok (.ifCond .eq 36, 3) := by decide +kernel
theorem dX10_fits_83 : decode cX10_fits 83 = .ok (.iload_n 3, 1) := by decide +kernel
theorem dX10_fits_84 : decode cX10_fits 84 = .ok (.aload_n 0, 1) := by decide +kernel
theorem dX10_fits_85 : decode cX10_fits 85 = .ok (.getfield 10, 3) := by decide +kernel
theorem dX10_fits_88 : decode cX10_fits 88 = .ok (.getfield 101, 3) := by decide +kernel
theorem dX10_fits_91 : decode cX10_fits 91 = .ok (.iload 5, 2) := by decide +kernel
theorem dX10_fits_93 : decode cX10_fits 93 = .ok (.aaload, 1) := by decide +kernel
theorem dX10_fits_94 : decode cX10_fits 94 = .ok (.getfield 125, 3) := by decide +kernel
theorem dX10_fits_97 : decode cX10_fits 97 = .ok (.aload_n 0, 1) := by decide +kernel
theorem dX10_fits_98 : decode cX10_fits 98 = .ok (.getfield 10, 3) := by decide +kernel
theorem dX10_fits_101 : decode cX10_fits 101 = .ok (.getfield 101, 3) := by decide +kernel
theorem dX10_fits_104 : decode cX10_fits 104 = .ok (.iload 4, 2) := by decide +kernel
theorem dX10_fits_106 : decode cX10_fits 106 = .ok (.aaload, 1) := by decide +kernel
theorem dX10_fits_107 : decode cX10_fits 107 = .ok (.getfield 125, 3) := by decide +kernel
theorem dX10_fits_110 : decode cX10_fits 110 = .ok (.iload_n 2, 1) := by decide +kernel
theorem dX10_fits_111 : decode cX10_fits 111 = .ok (.invokestatic 275, 3) := by decide +kernel
theorem dX10_fits_114 : decode cX10_fits 114 = .ok (.iadd, 1) := by decide +kernel
theorem dX10_fits_115 : decode cX10_fits 115 = .ok (.istore_n 3, 1) := by decide +kernel
theorem dX10_fits_116 : decode cX10_fits 116 = .ok (.iinc 5 1, 3) := by decide +kernel
theorem dX10_fits_119 : decode cX10_fits 119 = .ok (.goto (-77), 3) := by decide +kernel
theorem dX10_fits_122 : decode cX10_fits 122 = .ok (.iinc 4 1, 3) := by decide +kernel
theorem dX10_fits_125 : decode cX10_fits 125 = .ok (.goto (-98), 3) := by decide +kernel
theorem dX10_fits_128 : decode cX10_fits 128 = .ok (.iload_n 3, 1) := by decide +kernel
theorem dX10_fits_129 : decode cX10_fits 129 = .ok (.ireturn, 1) := by decide +kernel
theorem dX10_jump_0 : decode cX10_jump 0 = .ok (.iload_n 1, 1) := by decide +kernel
theorem dX10_jump_1 : decode cX10_jump 1 = .ok (.invokestatic 159, 3) := by decide +kernel
theorem dX10_jump_4 : decode cX10_jump 4 = .ok (.ifCond .eq 12, 3) := by decide +kernel
theorem dX10_jump_7 : decode cX10_jump 7 = .ok (.iload_n 2, 1) := by decide +kernel
theorem dX10_jump_8 : decode cX10_jump 8 = .ok (.iconst 0, 1) := by decide +kernel
theorem dX10_jump_9 : decode cX10_jump 9 = .ok (.iconst 2, 1) := by decide +kernel
theorem dX10_jump_10 : decode cX10_jump 10 = .ok (.invokestatic 94, 3) := by decide +kernel
theorem dX10_jump_13 : decode cX10_jump 13 = .ok (.ifCond .ne 7, 3) := by decide +kernel
theorem dX10_jump_16 : decode cX10_jump 16 = .ok (.ldc2_w 278, 3) := by decide +kernel
theorem dX10_jump_19 : decode cX10_jump 19 = .ok (.lreturn, 1) := by decide +kernel
theorem dX10_jump_20 : decode cX10_jump 20 = .ok (.aload_n 0, 1) := by decide +kernel
theorem dX10_jump_21 : decode cX10_jump 21 = .ok (.getfield 10, 3) := by decide +kernel
theorem dX10_jump_24 : decode cX10_jump 24 = .ok (.iload_n 1, 1) := by decide +kernel
theorem dX10_jump_25 : decode cX10_jump 25 = .ok (.aload_n 0, 1) := by decide +kernel
theorem dX10_jump_26 : decode cX10_jump 26 = .ok (.getfield 64, 3) := by decide +kernel
theorem dX10_jump_29 : decode cX10_jump 29 = .ok (.invokevirtual 280, 3) := by decide +kernel
theorem dX10_jump_32 : decode cX10_jump 32 = .ok (.istore_n 3, 1) := by decide +kernel
theorem dX10_jump_33 : decode cX10_jump 33 = .ok (.iload_n 3, 1) := by decide +kernel
theorem dX10_jump_34 : decode cX10_jump 34 = .ok (.iconst 2, 1) := by decide +kernel
theorem dX10_jump_35 : decode cX10_jump 35 = .ok (.if_icmp .ge 7, 3) := by decide +kernel
theorem dX10_jump_38 : decode cX10_jump 38 = .ok (.ldc2_w 278, 3) := by decide +kernel
theorem dX10_jump_41 : decode cX10_jump 41 = .ok (.lreturn, 1) := by decide +kernel
theorem dX10_jump_42 : decode cX10_jump 42 = .ok (.aload_n 0, 1) := by decide +kernel
theorem dX10_jump_43 : decode cX10_jump 43 = .ok (.getfield 10, 3) := by decide +kernel
theorem dX10_jump_46 : decode cX10_jump 46 = .ok (.iload_n 1, 1) := by decide +kernel
theorem dX10_jump_47 : decode cX10_jump 47 = .ok (.iconst 0, 1) := by decide +kernel
theorem dX10_jump_48 : decode cX10_jump 48 = .ok (.sipush 999, 3) := by decide +kernel
theorem dX10_jump_51 : decode cX10_jump 51 = .ok (.invokevirtual 267, 3) := by decide +kernel
theorem dX10_jump_54 : decode cX10_jump 54 = .ok (.i2l, 1) := by decide +kernel
theorem dX10_jump_55 : decode cX10_jump 55 = .ok (.lstore 4, 2) := by decide +kernel
theorem dX10_jump_57 : decode cX10_jump 57 = .ok (.lconst 0, 1) := by decide +kernel
theorem dX10_jump_58 : decode cX10_jump 58 = .ok (.lstore 6, 2) := by decide +kernel
theorem dX10_jump_60 : decode cX10_jump 60 = .ok (.lconst 0, 1) := by decide +kernel
theorem dX10_jump_61 : decode cX10_jump 61 = .ok (.lstore 8, 2) := by decide +kernel
theorem dX10_jump_63 : decode cX10_jump 63 = .ok (.lconst 1, 1) := by decide +kernel
theorem dX10_jump_64 : decode cX10_jump 64 = .ok (.lstore 10, 2) := by decide +kernel
theorem dX10_jump_66 : decode cX10_jump 66 = .ok (.iconst 0, 1) := by decide +kernel
theorem dX10_jump_67 : decode cX10_jump 67 = .ok (.istore 12, 2) := by decide +kernel
theorem dX10_jump_69 : decode cX10_jump 69 = .ok (.iconst 1, 1) := by decide +kernel
theorem dX10_jump_70 : decode cX10_jump 70 = .ok (.istore 13, 2) := by decide +kernel
theorem dX10_jump_72 : decode cX10_jump 72 = .ok (.iload 13, 2) := by decide +kernel
theorem dX10_jump_74 : decode cX10_jump 74 = .ok (.iload_n 3, 1) := by decide +kernel
theorem dX10_jump_75 : decode cX10_jump 75 = .ok (.if_icmp .ge 108, 3) := by decide +kernel
theorem dX10_jump_78 : decode cX10_jump 78 = .ok (.lload 6, 2) := by decide +kernel
theorem dX10_jump_80 : decode cX10_jump 80 = .ok (.aload_n 0, 1) := by decide +kernel
theorem dX10_jump_81 : decode cX10_jump 81 = .ok (.getfield 10, 3) := by decide +kernel
theorem dX10_jump_84 : decode cX10_jump 84 = .ok (.getfield 185, 3) := by decide +kernel
theorem dX10_jump_87 : decode cX10_jump 87 = .ok (.aload_n 0, 1) := by decide +kernel
theorem dX10_jump_88 : decode cX10_jump 88 = .ok (.getfield 64, 3) := by decide +kernel
theorem dX10_jump_91 : decode cX10_jump 91 = .ok (.iload 13, 2) := by decide +kernel
theorem dX10_jump_93 : decode cX10_jump 93 = .ok (.iconst 1, 1) := by decide +kernel
theorem dX10_jump_94 : decode cX10_jump 94 = .ok (.isub, 1) := by decide +kernel
theorem dX10_jump_95 : decode cX10_jump 95 = .ok (.iaload, 1) := by decide +kernel
theorem dX10_jump_96 : decode cX10_jump 96 = .ok (.iaload, 1) := by decide +kernel
theorem dX10_jump_97 : decode cX10_jump 97 = .ok (.i2l, 1) := by decide +kernel
theorem dX10_jump_98 : decode cX10_jump 98 = .ok (.ladd, 1) := by decide +kernel
theorem dX10_jump_99 : decode cX10_jump 99 = .ok (.lstore 6, 2) := by decide +kernel
theorem dX10_jump_101 : decode cX10_jump 101 = .ok (.iload 13, 2) := by decide +kernel
theorem dX10_jump_103 : decode cX10_jump 103 = .ok (.i2l, 1) := by decide +kernel
theorem dX10_jump_104 : decode cX10_jump 104 = .ok (.lload 4, 2) := by decide +kernel
theorem dX10_jump_106 : decode cX10_jump 106 = .ok (.lmul, 1) := by decide +kernel
theorem dX10_jump_107 : decode cX10_jump 107 = .ok (.iload_n 3, 1) := by decide +kernel
theorem dX10_jump_108 : decode cX10_jump 108 = .ok (.i2l, 1) := by decide +kernel
theorem dX10_jump_109 : decode cX10_jump 109 = .ok (.lload 6, 2) := by decide +kernel
theorem dX10_jump_111 : decode cX10_jump 111 = .ok (.lmul, 1) := by decide +kernel
theorem dX10_jump_112 : decode cX10_jump 112 = .ok (.lsub, 1) := by decide +kernel
theorem dX10_jump_113 : decode cX10_jump 113 = .ok (.lstore 14, 2) := by decide +kernel
theorem dX10_jump_115 : decode cX10_jump 115 = .ok (.iload 13, 2) := by decide +kernel
theorem dX10_jump_117 : decode cX10_jump 117 = .ok (.i2l, 1) := by decide +kernel
theorem dX10_jump_118 : decode cX10_jump 118 = .ok (.iload_n 3, 1) := by decide +kernel
theorem dX10_jump_119 : decode cX10_jump 119 = .ok (.iload 13, 2) := by decide +kernel
theorem dX10_jump_121 : decode cX10_jump 121 = .ok (.isub, 1) := by decide +kernel
theorem dX10_jump_122 : decode cX10_jump 122 = .ok (.i2l, 1) := by decide +kernel
theorem dX10_jump_123 : decode cX10_jump 123 = .ok (.lmul, 1) := by decide +kernel
theorem dX10_jump_124 : decode cX10_jump 124 = .ok (.lstore 16, 2) := by decide +kernel
theorem dX10_jump_126 : decode cX10_jump 126 = .ok (.iload 13, 2) := by decide +kernel
theorem dX10_jump_128 : decode cX10_jump 128 = .ok (.iconst 1, 1) := by decide +kernel
theorem dX10_jump_129 : decode cX10_jump 129 = .ok (.if_icmp .eq 23, 3) := by decide +kernel
theorem dX10_jump_132 : decode cX10_jump 132 = .ok (.lload 14, 2) := by decide +kernel
theorem dX10_jump_134 : decode cX10_jump 134 = .ok (.invokestatic 284, 3) := by decide +kernel
theorem dX10_jump_137 : decode cX10_jump 137 = .ok (.lload 10, 2) := by decide +kernel
theorem dX10_jump_139 : decode cX10_jump 139 = .ok (.lmul, 1) := by decide +kernel
theorem dX10_jump_140 : decode cX10_jump 140 = .ok (.lload 8, 2) := by decide +kernel
theorem dX10_jump_142 : decode cX10_jump 142 = .ok (.invokestatic 284, 3) := by decide +kernel
theorem dX10_jump_145 : decode cX10_jump 145 = .ok (.lload 16, 2) := by decide +kernel
theorem dX10_jump_147 : decode cX10_jump 147 = .ok (.lmul, 1) := by decide +kernel
theorem dX10_jump_148 : decode cX10_jump 148 = .ok (.lcmp, 1) := by decide +kernel
theorem dX10_jump_149 : decode cX10_jump 149 = .ok (.ifCond .le 28, 3) := by decide +kernel
theorem dX10_jump_152 : decode cX10_jump 152 = .ok (.lload 14, 2) := by decide +kernel
theorem dX10_jump_154 : decode cX10_jump 154 = .ok (.lstore 8, 2) := by decide +kernel
theorem dX10_jump_156 : decode cX10_jump 156 = .ok (.lload 16, 2) := by decide +kernel
theorem dX10_jump_158 : decode cX10_jump 158 = .ok (.lstore 10, 2) := by decide +kernel
theorem dX10_jump_160 : decode cX10_jump 160 = .ok (.aload_n 0, 1) := by decide +kernel
theorem dX10_jump_161 : decode cX10_jump 161 = .ok (.getfield 10, 3) := by decide +kernel
theorem dX10_jump_164 : decode cX10_jump 164 = .ok (.getfield 179, 3) := by decide +kernel
theorem dX10_jump_167 : decode cX10_jump 167 = .ok (.aload_n 0, 1) := by decide +kernel
theorem dX10_jump_168 : decode cX10_jump 168 = .ok (.getfield 64, 3) := by decide +kernel
theorem dX10_jump_171 : decode cX10_jump 171 = .ok (.iload 13, 2) := by decide +kernel
theorem dX10_jump_173 : decode cX10_jump 173 = .ok (.iaload, 1) := by decide +kernel
theorem dX10_jump_174 : decode cX10_jump 174 = .ok (.iaload, 1) := by decide +kernel
theorem dX10_jump_175 : decode cX10_jump 175 = .ok (.istore 12, 2) := by decide +kernel
theorem dX10_jump_177 : decode cX10_jump 177 = .ok (.iinc 13 1, 3) := by decide +kernel
theorem dX10_jump_180 : decode cX10_jump 180 = .ok (.goto (-108), 3) := by decide +kernel
theorem dX10_jump_183 : decode cX10_jump 183 = .ok (.iload_n 2, 1) := by decide +kernel
theorem dX10_jump_184 : decode cX10_jump 184 = .ok (.ifCond .ne 9, 3) := by decide +kernel
theorem dX10_jump_187 : decode cX10_jump 187 = .ok (.iload 12, 2) := by decide +kernel
theorem dX10_jump_189 : decode cX10_jump 189 = .ok (.i2l, 1) := by decide +kernel
theorem dX10_jump_190 : decode cX10_jump 190 = .ok (.goto 13, 3) := by decide +kernel
theorem dX10_jump_193 : decode cX10_jump 193 = .ok (.lload 8, 2) := by decide +kernel
theorem dX10_jump_195 : decode cX10_jump 195 = .ok (.lload 10, 2) := by decide +kernel
theorem dX10_jump_197 : decode cX10_jump 197 = .ok (.iload_n 2, 1) := by decide +kernel
theorem dX10_jump_198 : decode cX10_jump 198 = .ok (.iconst 1, 1) := by decide +kernel
theorem dX10_jump_199 : decode cX10_jump 199 = .ok (.isub, 1) := by decide +kernel
theorem dX10_jump_200 : decode cX10_jump 200 = .ok (.invokestatic 238, 3) := by decide +kernel
theorem dX10_jump_203 : decode cX10_jump 203 = .ok (.lreturn, 1) := by decide +kernel
theorem dX10_month_0 : decode cX10_month 0 = .ok (.iload_n 1, 1) := by decide +kernel
theorem dX10_month_1 : decode cX10_month 1 = .ok (.iconst 0, 1) := by decide +kernel
theorem dX10_month_2 : decode cX10_month 2 = .ok (.bipush 33, 2) := by decide +kernel
theorem dX10_month_4 : decode cX10_month 4 = .ok (.invokestatic 94, 3) := by decide +kernel
theorem dX10_month_7 : decode cX10_month 7 = .ok (.ifCond .eq 19, 3) := by decide +kernel
theorem dX10_month_10 : decode cX10_month 10 = .ok (.iload_n 2, 1) := by decide +kernel
theorem dX10_month_11 : decode cX10_month 11 = .ok (.invokestatic 159, 3) := by decide +kernel
theorem dX10_month_14 : decode cX10_month 14 = .ok (.ifCond .eq 12, 3) := by decide +kernel
theorem dX10_month_17 : decode cX10_month 17 = .ok (.iload_n 3, 1) := by decide +kernel
theorem dX10_month_18 : decode cX10_month 18 = .ok (.iconst 0, 1) := by decide +kernel
theorem dX10_month_19 : decode cX10_month 19 = .ok (.iconst 1, 1) := by decide +kernel
theorem dX10_month_20 : decode cX10_month 20 = .ok (.invokestatic 94, 3) := by decide +kernel
theorem dX10_month_23 : decode cX10_month 23 = .ok (.ifCond .ne 7, 3) := by decide +kernel
theorem dX10_month_26 : decode cX10_month 26 = .ok (.ldc2_w 278, 3) := by decide +kernel
theorem dX10_month_29 : decode cX10_month 29 = .ok (.lreturn, 1) := by decide +kernel
theorem dX10_month_30 : decode cX10_month 30 = .ok (.bipush 30, 2) := by decide +kernel
theorem dX10_month_32 : decode cX10_month 32 = .ok (.iload_n 1, 1) := by decide +kernel
theorem dX10_month_33 : decode cX10_month 33 = .ok (.imul, 1) := by decide +kernel
theorem dX10_month_34 : decode cX10_month 34 = .ok (.istore 4, 2) := by decide +kernel
theorem dX10_month_36 : decode cX10_month 36 = .ok (.aload_n 0, 1) := by decide +kernel
theorem dX10_month_37 : decode cX10_month 37 = .ok (.getfield 10, 3) := by decide +kernel
theorem dX10_month_40 : decode cX10_month 40 = .ok (.iload_n 2, 1) := by decide +kernel
theorem dX10_month_41 : decode cX10_month 41 = .ok (.iload 4, 2) := by decide +kernel
theorem dX10_month_43 : decode cX10_month 43 = .ok (.iload 4, 2) := by decide +kernel
theorem dX10_month_45 : decode cX10_month 45 = .ok (.bipush 29, 2) := by decide +kernel
theorem dX10_month_47 : decode cX10_month 47 = .ok (.iadd, 1) := by decide +kernel
theorem dX10_month_48 : decode cX10_month 48 = .ok (.invokevirtual 264, 3) := by decide +kernel
theorem dX10_month_51 : decode cX10_month 51 = .ok (.istore 5, 2) := by decide +kernel
theorem dX10_month_53 : decode cX10_month 53 = .ok (.iload 5, 2) := by decide +kernel
theorem dX10_month_55 : decode cX10_month 55 = .ok (.ifCond .ne 7, 3) := by decide +kernel
theorem dX10_month_58 : decode cX10_month 58 = .ok (.ldc2_w 278, 3) := by decide +kernel
theorem dX10_month_61 : decode cX10_month 61 = .ok (.lreturn, 1) := by decide +kernel
theorem dX10_month_62 : decode cX10_month 62 = .ok (.aload_n 0, 1) := by decide +kernel
theorem dX10_month_63 : decode cX10_month 63 = .ok (.getfield 10, 3) := by decide +kernel
theorem dX10_month_66 : decode cX10_month 66 = .ok (.iload_n 2, 1) := by decide +kernel
theorem dX10_month_67 : decode cX10_month 67 = .ok (.iload 4, 2) := by decide +kernel
theorem dX10_month_69 : decode cX10_month 69 = .ok (.iload 4, 2) := by decide +kernel
theorem dX10_month_71 : decode cX10_month 71 = .ok (.bipush 29, 2) := by decide +kernel
theorem dX10_month_73 : decode cX10_month 73 = .ok (.iadd, 1) := by decide +kernel
theorem dX10_month_74 : decode cX10_month 74 = .ok (.invokevirtual 267, 3) := by decide +kernel
theorem dX10_month_77 : decode cX10_month 77 = .ok (.i2l, 1) := by decide +kernel
theorem dX10_month_78 : decode cX10_month 78 = .ok (.iload 5, 2) := by decide +kernel
theorem dX10_month_80 : decode cX10_month 80 = .ok (.i2l, 1) := by decide +kernel
theorem dX10_month_81 : decode cX10_month 81 = .ok (.iload_n 3, 1) := by decide +kernel
theorem dX10_month_82 : decode cX10_month 82 = .ok (.invokestatic 238, 3) := by decide +kernel
theorem dX10_month_85 : decode cX10_month 85 = .ok (.lreturn, 1) := by decide +kernel
theorem dX10_house_0 : decode cX10_house 0 = .ok (.aload_n 0, 1) := by decide +kernel
theorem dX10_house_1 : decode cX10_house 1 = .ok (.getfield 10, 3) := by decide +kernel
theorem dX10_house_4 : decode cX10_house 4 = .ok (.getfield 287, 3) := by decide +kernel
theorem dX10_house_7 : decode cX10_house 7 = .ok (.bipush 8, 2) := by decide +kernel
theorem dX10_house_9 : decode cX10_house 9 = .ok (.if_icmp .lt 6, 3) := by decide +kernel
theorem dX10_house_12 : decode cX10_house 12 = .ok (.bipush (-2), 2) := by decide +kernel
theorem dX10_house_14 : decode cX10_house 14 = .ok (.ireturn, 1) := by decide +kernel
theorem dX10_house_15 : decode cX10_house 15 = .ok (.aload_n 0, 1) := by decide +kernel
theorem dX10_house_16 : decode cX10_house 16 = .ok (.invokevirtual 196, 3) := by decide +kernel
theorem dX10_house_19 : decode cX10_house 19 = .ok (.aload_n 0, 1) := by decide +kernel
theorem dX10_house_20 : decode cX10_house 20 = .ok (.getfield 50, 3) := by decide +kernel
theorem dX10_house_23 : decode cX10_house 23 = .ok (.invokevirtual 290, 3) := by decide +kernel
theorem dX10_house_26 : decode cX10_house 26 = .ok (.aload_n 0, 1) := by decide +kernel
theorem dX10_house_27 : decode cX10_house 27 = .ok (.getfield 50, 3) := by decide +kernel
theorem dX10_house_30 : decode cX10_house 30 = .ok (.iconst 0, 1) := by decide +kernel
theorem dX10_house_31 : decode cX10_house 31 = .ok (.invokevirtual 292, 3) := by decide +kernel
theorem dX10_house_34 : decode cX10_house 34 = .ok (.ifCond .eq 16, 3) := by decide +kernel
theorem dX10_house_37 : decode cX10_house 37 = .ok (.aload_n 0, 1) := by decide +kernel
theorem dX10_house_38 : decode cX10_house 38 = .ok (.getfield 34, 3) := by decide +kernel
theorem dX10_house_41 : decode cX10_house 41 = .ok (.sipush 258, 3) := by decide +kernel
theorem dX10_house_44 : decode cX10_house 44 = .ok (.invokevirtual 295, 3) := by decide +kernel
theorem dX10_house_47 : decode cX10_house 47 = .ok (.ifCond .ne 14, 3) := by decide +kernel
theorem dX10_house_50 : decode cX10_house 50 = .ok (.bipush (-100), 2) := by decide +kernel
theorem dX10_house_52 : decode cX10_house 52 = .ok (.aload_n 0, 1) := by decide +kernel
theorem dX10_house_53 : decode cX10_house 53 = .ok (.getfield 34, 3) := by decide +kernel
theorem dX10_house_56 : decode cX10_house 56 = .ok (.invokevirtual 203, 3) := by decide +kernel
theorem dX10_house_59 : decode cX10_house 59 = .ok (.isub, 1) := by decide +kernel
theorem dX10_house_60 : decode cX10_house 60 = .ok (.ireturn, 1) := by decide +kernel
theorem dX10_house_61 : decode cX10_house 61 = .ok (.aload_n 0, 1) := by decide +kernel
theorem dX10_house_62 : decode cX10_house 62 = .ok (.getfield 10, 3) := by decide +kernel
theorem dX10_house_65 : decode cX10_house 65 = .ok (.getfield 298, 3) := by decide +kernel
theorem dX10_house_68 : decode cX10_house 68 = .ok (.aload_n 0, 1) := by decide +kernel
theorem dX10_house_69 : decode cX10_house 69 = .ok (.getfield 10, 3) := by decide +kernel
theorem dX10_house_72 : decode cX10_house 72 = .ok (.getfield 287, 3) := by decide +kernel
theorem dX10_house_75 : decode cX10_house 75 = .ok (.aload_n 0, 1) := by decide +kernel
theorem dX10_house_76 : decode cX10_house 76 = .ok (.getfield 50, 3) := by decide +kernel
theorem dX10_house_79 : decode cX10_house 79 = .ok (.invokevirtual 302, 3) := by decide +kernel
theorem dX10_house_82 : decode cX10_house 82 = .ok (.aastore, 1) := by decide +kernel
theorem dX10_house_83 : decode cX10_house 83 = .ok (.aload_n 0, 1) := by decide +kernel
theorem dX10_house_84 : decode cX10_house 84 = .ok (.getfield 10, 3) := by decide +kernel
theorem dX10_house_87 : decode cX10_house 87 = .ok (.dup, 1) := by decide +kernel
theorem dX10_house_88 : decode cX10_house 88 = .ok (.getfield 287, 3) := by decide +kernel
theorem dX10_house_91 : decode cX10_house 91 = .ok (.iconst 1, 1) := by decide +kernel
theorem dX10_house_92 : decode cX10_house 92 = .ok (.iadd, 1) := by decide +kernel
theorem dX10_house_93 : decode cX10_house 93 = .ok (.putfield 287, 3) := by decide +kernel
theorem dX10_house_96 : decode cX10_house 96 = .ok (.aload_n 0, 1) := by decide +kernel
theorem dX10_house_97 : decode cX10_house 97 = .ok (.getfield 10, 3) := by decide +kernel
theorem dX10_house_100 : decode cX10_house 100 = .ok (.getfield 287, 3) := by decide +kernel
theorem dX10_house_103 : decode cX10_house 103 = .ok (.iconst 1, 1) := by decide +kernel
theorem dX10_house_104 : decode cX10_house 104 = .ok (.isub, 1) := by decide +kernel
theorem dX10_house_105 : decode cX10_house 105 = .ok (.ireturn, 1) := by decide +kernel
theorem dX10_fact_0 : decode cX10_fact 0 = .ok (.iload_n 1, 1) := by decide +kernel
theorem dX10_fact_1 : decode cX10_fact 1 = .ok (.iconst 0, 1) := by decide +kernel
theorem dX10_fact_2 : decode cX10_fact 2 = .ok (.bipush 6, 2) := by decide +kernel
theorem dX10_fact_4 : decode cX10_fact 4 = .ok (.invokestatic 94, 3) := by decide +kernel
theorem dX10_fact_7 : decode cX10_fact 7 = .ok (.ifCond .ne 6, 3) := by decide +kernel
theorem dX10_fact_10 : decode cX10_fact 10 = .ok (.ldc 115, 2) := by decide +kernel
theorem dX10_fact_12 : decode cX10_fact 12 = .ok (.ireturn, 1) := by decide +kernel
theorem dX10_fact_13 : decode cX10_fact 13 = .ok (.aload_n 0, 1) := by decide +kernel
theorem dX10_fact_14 : decode cX10_fact 14 = .ok (.getfield 10, 3) := by decide +kernel
theorem dX10_fact_17 : decode cX10_fact 17 = .ok (.aload_n 0, 1) := by decide +kernel
theorem dX10_fact_18 : decode cX10_fact 18 = .ok (.getfield 54, 3) := by decide +kernel
theorem dX10_fact_21 : decode cX10_fact 21 = .ok (.invokevirtual 305, 3) := by decide +kernel
theorem dX10_fact_24 : decode cX10_fact 24 = .ok (.aload_n 0, 1) := by decide +kernel
theorem dX10_fact_25 : decode cX10_fact 25 = .ok (.getfield 54, 3) := by decide +kernel
theorem dX10_fact_28 : decode cX10_fact 28 = .ok (.iload_n 1, 1) := by decide +kernel
theorem dX10_fact_29 : decode cX10_fact 29 = .ok (.iaload, 1) := by decide +kernel
theorem dX10_fact_30 : decode cX10_fact 30 = .ok (.ireturn, 1) := by decide +kernel
theorem dX10_holds_0 : decode cX10_holds 0 = .ok (.iload_n 1, 1) := by decide +kernel
theorem dX10_holds_1 : decode cX10_holds 1 = .ok (.iconst 0, 1) := by decide +kernel
theorem dX10_holds_2 : decode cX10_holds 2 = .ok (.aload_n 0, 1) := by decide +kernel
theorem dX10_holds_3 : decode cX10_holds 3 = .ok (.getfield 10, 3) := by decide +kernel
theorem dX10_holds_6 : decode cX10_holds 6 = .ok (.getfield 287, 3) := by decide +kernel
theorem dX10_holds_9 : decode cX10_holds 9 = .ok (.iconst 1, 1) := by decide +kernel
theorem dX10_holds_10 : decode cX10_holds 10 = .ok (.isub, 1) := by decide +kernel
theorem dX10_holds_11 : decode cX10_holds 11 = .ok (.invokestatic 94, 3) := by decide +kernel
theorem dX10_holds_14 : decode cX10_holds 14 = .ok (.ifCond .eq 13, 3) := by decide +kernel
theorem dX10_holds_17 : decode cX10_holds 17 = .ok (.iload_n 2, 1) := by decide +kernel
theorem dX10_holds_18 : decode cX10_holds 18 = .ok (.iconst 0, 1) := by decide +kernel
theorem dX10_holds_19 : decode cX10_holds 19 = .ok (.bipush 8, 2) := by decide +kernel
theorem dX10_holds_21 : decode cX10_holds 21 = .ok (.invokestatic 94, 3) := by decide +kernel
theorem dX10_holds_24 : decode cX10_holds 24 = .ok (.ifCond .ne 5, 3) := by decide +kernel
theorem dX10_holds_27 : decode cX10_holds 27 = .ok (.iconst (-1), 1) := by decide +kernel
theorem dX10_holds_28 : decode cX10_holds 28 = .ok (.ireturn, 1) := by decide +kernel
theorem dX10_holds_29 : decode cX10_holds 29 = .ok (.aload_n 0, 1) := by decide +kernel
theorem dX10_holds_30 : decode cX10_holds 30 = .ok (.getfield 10, 3) := by decide +kernel
theorem dX10_holds_33 : decode cX10_holds 33 = .ok (.aload_n 0, 1) := by decide +kernel
theorem dX10_holds_34 : decode cX10_holds 34 = .ok (.getfield 54, 3) := by decide +kernel
theorem dX10_holds_37 : decode cX10_holds 37 = .ok (.invokevirtual 305, 3) := by decide +kernel
theorem dX10_holds_40 : decode cX10_holds 40 = .ok (.aload_n 0, 1) := by decide +kernel
theorem dX10_holds_41 : decode cX10_holds 41 = .ok (.getfield 54, 3) := by decide +kernel
theorem dX10_holds_44 : decode cX10_holds 44 = .ok (.bipush 6, 2) := by decide +kernel
theorem dX10_holds_46 : decode cX10_holds 46 = .ok (.iload_n 2, 1) := by decide +kernel
theorem dX10_holds_47 : decode cX10_holds 47 = .ok (.iastore, 1) := by decide +kernel
theorem dX10_holds_48 : decode cX10_holds 48 = .ok (.aload_n 0, 1) := by decide +kernel
theorem dX10_holds_49 : decode cX10_holds 49 = .ok (.getfield 10, 3) := by decide +kernel
theorem dX10_holds_52 : decode cX10_holds 52 = .ok (.getfield 298, 3) := by decide +kernel
theorem dX10_holds_55 : decode cX10_holds 55 = .ok (.iload_n 1, 1) := by decide +kernel
theorem dX10_holds_56 : decode cX10_holds 56 = .ok (.aaload, 1) := by decide +kernel
theorem dX10_holds_57 : decode cX10_holds 57 = .ok (.aload_n 0, 1) := by decide +kernel
theorem dX10_holds_58 : decode cX10_holds 58 = .ok (.getfield 54, 3) := by decide +kernel
theorem dX10_holds_61 : decode cX10_holds 61 = .ok (.aload_n 0, 1) := by decide +kernel
theorem dX10_holds_62 : decode cX10_holds 62 = .ok (.getfield 58, 3) := by decide +kernel
theorem dX10_holds_65 : decode cX10_holds 65 = .ok (.invokevirtual 309, 3) := by decide +kernel
theorem dX10_holds_68 : decode cX10_holds 68 = .ok (.ifCond .eq 7, 3) := by decide +kernel
theorem dX10_holds_71 : decode cX10_holds 71 = .ok (.iconst 1, 1) := by decide +kernel
theorem dX10_holds_72 : decode cX10_holds 72 = .ok (.goto 4, 3) := by decide +kernel
theorem dX10_holds_75 : decode cX10_holds 75 = .ok (.iconst 0, 1) := by decide +kernel
theorem dX10_holds_76 : decode cX10_holds 76 = .ok (.ireturn, 1) := by decide +kernel
theorem dX10_sign_0 : decode cX10_sign 0 = .ok (.aload_n 0, 1) := by decide +kernel
theorem dX10_sign_1 : decode cX10_sign 1 = .ok (.getfield 10, 3) := by decide +kernel
theorem dX10_sign_4 : decode cX10_sign 4 = .ok (.aload_n 0, 1) := by decide +kernel
theorem dX10_sign_5 : decode cX10_sign 5 = .ok (.getfield 54, 3) := by decide +kernel
theorem dX10_sign_8 : decode cX10_sign 8 = .ok (.invokevirtual 305, 3) := by decide +kernel
theorem dX10_sign_11 : decode cX10_sign 11 = .ok (.iconst 0, 1) := by decide +kernel
theorem dX10_sign_12 : decode cX10_sign 12 = .ok (.istore_n 1, 1) := by decide +kernel
theorem dX10_sign_13 : decode cX10_sign 13 = .ok (.iconst 0, 1) := by decide +kernel
theorem dX10_sign_14 : decode cX10_sign 14 = .ok (.istore_n 2, 1) := by decide +kernel
theorem dX10_sign_15 : decode cX10_sign 15 = .ok (.iload_n 2, 1) := by decide +kernel
theorem dX10_sign_16 : decode cX10_sign 16 = .ok (.bipush 8, 2) := by decide +kernel
theorem dX10_sign_18 : decode cX10_sign 18 = .ok (.if_icmp .gt 103, 3) := by decide +kernel
theorem dX10_sign_21 : decode cX10_sign 21 = .ok (.iload_n 1, 1) := by decide +kernel
theorem dX10_sign_22 : decode cX10_sign 22 = .ok (.istore_n 3, 1) := by decide +kernel
theorem dX10_sign_23 : decode cX10_sign 23 = .ok (.iconst 0, 1) := by decide +kernel
theorem dX10_sign_24 : decode cX10_sign 24 = .ok (.istore 4, 2) := by decide +kernel
theorem dX10_sign_26 : decode cX10_sign 26 = .ok (.iload 4, 2) := by decide +kernel
theorem dX10_sign_28 : decode cX10_sign 28 = .ok (.aload_n 0, 1) := by decide +kernel
theorem dX10_sign_29 : decode cX10_sign 29 = .ok (.getfield 10, 3) := by decide +kernel
theorem dX10_sign_32 : decode cX10_sign 32 = .ok (.getfield 287, 3) := by decide +kernel
theorem dX10_sign_35 : decode cX10_sign 35 = .ok (.if_icmp .ge 72, 3) := by decide +kernel
theorem dX10_sign_38 : decode cX10_sign 38 = .ok (.iload_n 1, 1) := by decide +kernel
theorem dX10_sign_39 : decode cX10_sign 39 = .ok (.iload 4, 2) := by decide +kernel
theorem dX10_sign_41 : decode cX10_sign 41 = .ok (.ishr, 1) := by decide +kernel
theorem dX10_sign_42 : decode cX10_sign 42 = .ok (.iconst 1, 1) := by decide +kernel
theorem dX10_sign_43 : decode cX10_sign 43 = .ok (.iand, 1) := by decide +kernel
theorem dX10_sign_44 : decode cX10_sign 44 = .ok (.ifCond .ne 7, 3) := by decide +kernel
theorem dX10_sign_47 : decode cX10_sign 47 = .ok (.iconst 1, 1) := by decide +kernel
theorem dX10_sign_48 : decode cX10_sign 48 = .ok (.goto 4, 3) := by decide +kernel
theorem dX10_sign_51 : decode cX10_sign 51 = .ok (.iconst 0, 1) := by decide +kernel
theorem dX10_sign_52 : decode cX10_sign 52 = .ok (.istore 5, 2) := by decide +kernel
theorem dX10_sign_54 : decode cX10_sign 54 = .ok (.iload 5, 2) := by decide +kernel
theorem dX10_sign_56 : decode cX10_sign 56 = .ok (.ifCond .eq 45, 3) := by decide +kernel
theorem dX10_sign_59 : decode cX10_sign 59 = .ok (.aload_n 0, 1) := by decide +kernel
theorem dX10_sign_60 : decode cX10_sign 60 = .ok (.getfield 10, 3) := by decide +kernel
theorem dX10_sign_63 : decode cX10_sign 63 = .ok (.getfield 298, 3) := by decide +kernel
theorem dX10_sign_66 : decode cX10_sign 66 = .ok (.iload 4, 2) := by decide +kernel
theorem dX10_sign_68 : decode cX10_sign 68 = .ok (.aaload, 1) := by decide +kernel
theorem dX10_sign_69 : decode cX10_sign 69 = .ok (.aload_n 0, 1) := by decide +kernel
theorem dX10_sign_70 : decode cX10_sign 70 = .ok (.getfield 54, 3) := by decide +kernel
theorem dX10_sign_73 : decode cX10_sign 73 = .ok (.aload_n 0, 1) := by decide +kernel
theorem dX10_sign_74 : decode cX10_sign 74 = .ok (.getfield 58, 3) := by decide +kernel
theorem dX10_sign_77 : decode cX10_sign 77 = .ok (.invokevirtual 309, 3) := by decide +kernel
theorem dX10_sign_80 : decode cX10_sign 80 = .ok (.ifCond .eq 21, 3) := by decide +kernel
theorem dX10_sign_83 : decode cX10_sign 83 = .ok (.iload_n 1, 1) := by decide +kernel
theorem dX10_sign_84 : decode cX10_sign 84 = .ok (.iconst 1, 1) := by decide +kernel
theorem dX10_sign_85 : decode cX10_sign 85 = .ok (.iload 4, 2) := by decide +kernel
theorem dX10_sign_87 : decode cX10_sign 87 = .ok (.ishl, 1) := by decide +kernel
theorem dX10_sign_88 : decode cX10_sign 88 = .ok (.ior, 1) := by decide +kernel
theorem dX10_sign_89 : decode cX10_sign 89 = .ok (.istore_n 1, 1) := by decide +kernel
theorem dX10_sign_90 : decode cX10_sign 90 = .ok (.aload_n 0, 1) := by decide +kernel
theorem dX10_sign_91 : decode cX10_sign 91 = .ok (.getfield 54, 3) := by decide +kernel
theorem dX10_sign_94 : decode cX10_sign 94 = .ok (.bipush 6, 2) := by decide +kernel
theorem dX10_sign_96 : decode cX10_sign 96 = .ok (.dup2, 1) := by decide +kernel
theorem dX10_sign_97 : decode cX10_sign 97 = .ok (.iaload, 1) := by decide +kernel
theorem dX10_sign_98 : decode cX10_sign 98 = .ok (.iconst 1, 1) := by decide +kernel
theorem dX10_sign_99 : decode cX10_sign 99 = .ok (.iadd, 1) := by decide +kernel
theorem dX10_sign_100 : decode cX10_sign 100 = .ok (.iastore, 1) := by decide +kernel
theorem dX10_sign_101 : decode cX10_sign 101 = .ok (.iinc 4 1, 3) := by decide +kernel
theorem dX10_sign_104 : decode cX10_sign 104 = .ok (.goto (-78), 3) := by decide +kernel
theorem dX10_sign_107 : decode cX10_sign 107 = .ok (.iload_n 1, 1) := by decide +kernel
theorem dX10_sign_108 : decode cX10_sign 108 = .ok (.iload_n 3, 1) := by decide +kernel
theorem dX10_sign_109 : decode cX10_sign 109 = .ok (.if_icmp .ne 6, 3) := by decide +kernel
theorem dX10_sign_112 : decode cX10_sign 112 = .ok (.goto 9, 3) := by decide +kernel
theorem dX10_sign_115 : decode cX10_sign 115 = .ok (.iinc 2 1, 3) := by decide +kernel
theorem dX10_sign_118 : decode cX10_sign 118 = .ok (.goto (-103), 3) := by decide +kernel
theorem dX10_sign_121 : decode cX10_sign 121 = .ok (.iload_n 1, 1) := by decide +kernel
theorem dX10_sign_122 : decode cX10_sign 122 = .ok (.ireturn, 1) := by decide +kernel
theorem dX10_prove_0 : decode cX10_prove 0 = .ok (.iload_n 1, 1) := by decide +kernel
theorem dX10_prove_1 : decode cX10_prove 1 = .ok (.invokestatic 159, 3) := by decide +kernel
theorem dX10_prove_4 : decode cX10_prove 4 = .ok (.ifCond .ne 5, 3) := by decide +kernel
theorem dX10_prove_7 : decode cX10_prove 7 = .ok (.iconst (-1), 1) := by decide +kernel
theorem dX10_prove_8 : decode cX10_prove 8 = .ok (.ireturn, 1) := by decide +kernel
theorem dX10_prove_9 : decode cX10_prove 9 = .ok (.aload_n 0, 1) := by decide +kernel
theorem dX10_prove_10 : decode cX10_prove 10 = .ok (.iconst 0, 1) := by decide +kernel
theorem dX10_prove_11 : decode cX10_prove 11 = .ok (.putfield 70, 3) := by decide +kernel
theorem dX10_prove_14 : decode cX10_prove 14 = .ok (.iconst 0, 1) := by decide +kernel
theorem dX10_prove_15 : decode cX10_prove 15 = .ok (.istore_n 2, 1) := by decide +kernel
theorem dX10_prove_16 : decode cX10_prove 16 = .ok (.iconst 0, 1) := by decide +kernel
theorem dX10_prove_17 : decode cX10_prove 17 = .ok (.istore_n 3, 1) := by decide +kernel
theorem dX10_prove_18 : decode cX10_prove 18 = .ok (.iload_n 3, 1) := by decide +kernel
theorem dX10_prove_19 : decode cX10_prove 19 = .ok (.aload_n 0, 1) := by decide +kernel
theorem dX10_prove_20 : decode cX10_prove 20 = .ok (.getfield 10, 3) := by decide +kernel
theorem dX10_prove_23 : decode cX10_prove 23 = .ok (.getfield 98, 3) := by decide +kernel
theorem dX10_prove_26 : decode cX10_prove 26 = .ok (.if_icmp .ge 98, 3) := by decide +kernel
theorem dX10_prove_29 : decode cX10_prove 29 = .ok (.aload_n 0, 1) := by decide +kernel
theorem dX10_prove_30 : decode cX10_prove 30 = .ok (.getfield 10, 3) := by decide +kernel
theorem dX10_prove_33 : decode cX10_prove 33 = .ok (.getfield 101, 3) := by decide +kernel
theorem dX10_prove_36 : decode cX10_prove 36 = .ok (.iload_n 3, 1) := by decide +kernel
theorem dX10_prove_37 : decode cX10_prove 37 = .ok (.aaload, 1) := by decide +kernel
theorem dX10_prove_38 : decode cX10_prove 38 = .ok (.iload_n 1, 1) := by decide +kernel
theorem dX10_prove_39 : decode cX10_prove 39 = .ok (.invokevirtual 165, 3) := by decide +kernel
theorem dX10_prove_42 : decode cX10_prove 42 = .ok (.ifCond .eq 76, 3) := by decide +kernel
theorem dX10_prove_45 : decode cX10_prove 45 = .ok (.aload_n 0, 1) := by decide +kernel
theorem dX10_prove_46 : decode cX10_prove 46 = .ok (.getfield 10, 3) := by decide +kernel
theorem dX10_prove_49 : decode cX10_prove 49 = .ok (.getfield 101, 3) := by decide +kernel
theorem dX10_prove_52 : decode cX10_prove 52 = .ok (.iload_n 3, 1) := by decide +kernel
theorem dX10_prove_53 : decode cX10_prove 53 = .ok (.aaload, 1) := by decide +kernel
theorem dX10_prove_54 : decode cX10_prove 54 = .ok (.aload_n 0, 1) := by decide +kernel
theorem dX10_prove_55 : decode cX10_prove 55 = .ok (.getfield 10, 3) := by decide +kernel
theorem dX10_prove_58 : decode cX10_prove 58 = .ok (.getfield 146, 3) := by decide +kernel
theorem dX10_prove_61 : decode cX10_prove 61 = .ok (.invokevirtual 168, 3) := by decide +kernel
theorem dX10_prove_64 : decode cX10_prove 64 = .ok (.istore 4, 2) := by decide +kernel
theorem dX10_prove_66 : decode cX10_prove 66 = .ok (.iload_n 2, 1) := by decide +kernel
theorem dX10_prove_67 : decode cX10_prove 67 = .ok (.iload 4, 2) := by decide +kernel
theorem dX10_prove_69 : decode cX10_prove 69 = .ok (.iadd, 1) := by decide +kernel
theorem dX10_prove_70 : decode cX10_prove 70 = .ok (.istore_n 2, 1) := by decide +kernel
theorem dX10_prove_71 : decode cX10_prove 71 = .ok (.aload_n 0, 1) := by decide +kernel
theorem dX10_prove_72 : decode cX10_prove 72 = .ok (.getfield 70, 3) := by decide +kernel
theorem dX10_prove_75 : decode cX10_prove 75 = .ok (.iconst 3, 1) := by decide +kernel
theorem dX10_prove_76 : decode cX10_prove 76 = .ok (.imul, 1) := by decide +kernel
theorem dX10_prove_77 : decode cX10_prove 77 = .ok (.istore 5, 2) := by decide +kernel
theorem dX10_prove_79 : decode cX10_prove 79 = .ok (.aload_n 0, 1) := by decide +kernel
theorem dX10_prove_80 : decode cX10_prove 80 = .ok (.getfield 67, 3) := by decide +kernel
theorem dX10_prove_83 : decode cX10_prove 83 = .ok (.iload 5, 2) := by decide +kernel
theorem dX10_prove_85 : decode cX10_prove 85 = .ok (.iload_n 3, 1) := by decide +kernel
theorem dX10_prove_86 : decode cX10_prove 86 = .ok (.iastore, 1) := by decide +kernel
theorem dX10_prove_87 : decode cX10_prove 87 = .ok (.aload_n 0, 1) := by decide +kernel
theorem dX10_prove_88 : decode cX10_prove 88 = .ok (.getfield 67, 3) := by decide +kernel
theorem dX10_prove_91 : decode cX10_prove 91 = .ok (.iload 5, 2) := by decide +kernel
theorem dX10_prove_93 : decode cX10_prove 93 = .ok (.iconst 1, 1) := by decide +kernel
theorem dX10_prove_94 : decode cX10_prove 94 = .ok (.iadd, 1) := by decide +kernel
theorem dX10_prove_95 : decode cX10_prove 95 = .ok (.iload 4, 2) := by decide +kernel
theorem dX10_prove_97 : decode cX10_prove 97 = .ok (.iastore, 1) := by decide +kernel
theorem dX10_prove_98 : decode cX10_prove 98 = .ok (.aload_n 0, 1) := by decide +kernel
theorem dX10_prove_99 : decode cX10_prove 99 = .ok (.getfield 67, 3) := by decide +kernel
theorem dX10_prove_102 : decode cX10_prove 102 = .ok (.iload 5, 2) := by decide +kernel
theorem dX10_prove_104 : decode cX10_prove 104 = .ok (.iconst 2, 1) := by decide +kernel
theorem dX10_prove_105 : decode cX10_prove 105 = .ok (.iadd, 1) := by decide +kernel
theorem dX10_prove_106 : decode cX10_prove 106 = .ok (.iload_n 2, 1) := by decide +kernel
theorem dX10_prove_107 : decode cX10_prove 107 = .ok (.iastore, 1) := by decide +kernel
theorem dX10_prove_108 : decode cX10_prove 108 = .ok (.aload_n 0, 1) := by decide +kernel
theorem dX10_prove_109 : decode cX10_prove 109 = .ok (.dup, 1) := by decide +kernel
theorem dX10_prove_110 : decode cX10_prove 110 = .ok (.getfield 70, 3) := by decide +kernel
theorem dX10_prove_113 : decode cX10_prove 113 = .ok (.iconst 1, 1) := by decide +kernel
theorem dX10_prove_114 : decode cX10_prove 114 = .ok (.iadd, 1) := by decide +kernel
theorem dX10_prove_115 : decode cX10_prove 115 = .ok (.putfield 70, 3) := by decide +kernel
theorem dX10_prove_118 : decode cX10_prove 118 = .ok (.iinc 3 1, 3) := by decide +kernel
theorem dX10_prove_121 : decode cX10_prove 121 = .ok (.goto (-103), 3) := by decide +kernel
theorem dX10_prove_124 : decode cX10_prove 124 = .ok (.aload_n 0, 1) := by decide +kernel
theorem dX10_prove_125 : decode cX10_prove 125 = .ok (.getfield 70, 3) := by decide +kernel
theorem dX10_prove_128 : decode cX10_prove 128 = .ok (.ireturn, 1) := by decide +kernel
theorem dX10_row_0 : decode cX10_row 0 = .ok (.aload_n 0, 1) := by decide +kernel
theorem dX10_row_1 : decode cX10_row 1 = .ok (.iload_n 1, 1) := by decide +kernel
theorem dX10_row_2 : decode cX10_row 2 = .ok (.iload_n 2, 1) := by decide +kernel
theorem dX10_row_3 : decode cX10_row 3 = .ok (.invokevirtual 315, 3) := by decide +kernel
theorem dX10_row_6 : decode cX10_row 6 = .ok (.ifCond .eq 16, 3) := by decide +kernel
theorem dX10_row_9 : decode cX10_row 9 = .ok (.aload_n 0, 1) := by decide +kernel
theorem dX10_row_10 : decode cX10_row 10 = .ok (.getfield 67, 3) := by decide +kernel
theorem dX10_row_13 : decode cX10_row 13 = .ok (.iload_n 1, 1) := by decide +kernel
theorem dX10_row_14 : decode cX10_row 14 = .ok (.iconst 3, 1) := by decide +kernel
theorem dX10_row_15 : decode cX10_row 15 = .ok (.imul, 1) := by decide +kernel
theorem dX10_row_16 : decode cX10_row 16 = .ok (.iload_n 2, 1) := by decide +kernel
theorem dX10_row_17 : decode cX10_row 17 = .ok (.iadd, 1) := by decide +kernel
theorem dX10_row_18 : decode cX10_row 18 = .ok (.iaload, 1) := by decide +kernel
theorem dX10_row_19 : decode cX10_row 19 = .ok (.goto 5, 3) := by decide +kernel
theorem dX10_row_22 : decode cX10_row 22 = .ok (.ldc 115, 2) := by decide +kernel
theorem dX10_row_24 : decode cX10_row 24 = .ok (.ireturn, 1) := by decide +kernel
theorem dX10_alterRow_0 : decode cX10_alterRow 0 = .ok (.aload_n 0, 1) := by decide +kernel
theorem dX10_alterRow_1 : decode cX10_alterRow 1 = .ok (.iload_n 1, 1) := by decide +kernel
theorem dX10_alterRow_2 : decode cX10_alterRow 2 = .ok (.iload_n 2, 1) := by decide +kernel
theorem dX10_alterRow_3 : decode cX10_alterRow 3 = .ok (.invokevirtual 315, 3) := by decide +kernel
theorem dX10_alterRow_6 : decode cX10_alterRow 6 = .ok (.ifCond .ne 6, 3) := by decide +kernel
theorem dX10_alterRow_9 : decode cX10_alterRow 9 = .ok (.ldc 115, 2) := by decide +kernel
theorem dX10_alterRow_11 : decode cX10_alterRow 11 = .ok (.ireturn, 1) := by decide +kernel
theorem dX10_alterRow_12 : decode cX10_alterRow 12 = .ok (.aload_n 0, 1) := by decide +kernel
theorem dX10_alterRow_13 : decode cX10_alterRow 13 = .ok (.getfield 67, 3) := by decide +kernel
theorem dX10_alterRow_16 : decode cX10_alterRow 16 = .ok (.iload_n 1, 1) := by decide +kernel
theorem dX10_alterRow_17 : decode cX10_alterRow 17 = .ok (.iconst 3, 1) := by decide +kernel
theorem dX10_alterRow_18 : decode cX10_alterRow 18 = .ok (.imul, 1) := by decide +kernel
theorem dX10_alterRow_19 : decode cX10_alterRow 19 = .ok (.iload_n 2, 1) := by decide +kernel
theorem dX10_alterRow_20 : decode cX10_alterRow 20 = .ok (.iadd, 1) := by decide +kernel
theorem dX10_alterRow_21 : decode cX10_alterRow 21 = .ok (.iaload, 1) := by decide +kernel
theorem dX10_alterRow_22 : decode cX10_alterRow 22 = .ok (.istore 4, 2) := by decide +kernel
theorem dX10_alterRow_24 : decode cX10_alterRow 24 = .ok (.aload_n 0, 1) := by decide +kernel
theorem dX10_alterRow_25 : decode cX10_alterRow 25 = .ok (.getfield 67, 3) := by decide +kernel
theorem dX10_alterRow_28 : decode cX10_alterRow 28 = .ok (.iload_n 1, 1) := by decide +kernel
theorem dX10_alterRow_29 : decode cX10_alterRow 29 = .ok (.iconst 3, 1) := by decide +kernel
theorem dX10_alterRow_30 : decode cX10_alterRow 30 = .ok (.imul, 1) := by decide +kernel
theorem dX10_alterRow_31 : decode cX10_alterRow 31 = .ok (.iload_n 2, 1) := by decide +kernel
theorem dX10_alterRow_32 : decode cX10_alterRow 32 = .ok (.iadd, 1) := by decide +kernel
theorem dX10_alterRow_33 : decode cX10_alterRow 33 = .ok (.iload_n 3, 1) := by decide +kernel
theorem dX10_alterRow_34 : decode cX10_alterRow 34 = .ok (.iastore, 1) := by decide +kernel
theorem dX10_alterRow_35 : decode cX10_alterRow 35 = .ok (.iload 4, 2) := by decide +kernel
theorem dX10_alterRow_37 : decode cX10_alterRow 37 = .ok (.ireturn, 1) := by decide +kernel
theorem dX10_judge_0 : decode cX10_judge 0 = .ok (.iload_n 1, 1) := by decide +kernel
theorem dX10_judge_1 : decode cX10_judge 1 = .ok (.invokestatic 159, 3) := by decide +kernel
theorem dX10_judge_4 : decode cX10_judge 4 = .ok (.ifCond .ne 5, 3) := by decide +kernel
theorem dX10_judge_7 : decode cX10_judge 7 = .ok (.iconst (-1), 1) := by decide +kernel
theorem dX10_judge_8 : decode cX10_judge 8 = .ok (.ireturn, 1) := by decide +kernel
theorem dX10_judge_9 : decode cX10_judge 9 = .ok (.iconst 0, 1) := by decide +kernel
theorem dX10_judge_10 : decode cX10_judge 10 = .ok (.istore_n 2, 1) := by decide +kernel
theorem dX10_judge_11 : decode cX10_judge 11 = .ok (.iconst 0, 1) := by decide +kernel
theorem dX10_judge_12 : decode cX10_judge 12 = .ok (.istore_n 3, 1) := by decide +kernel
theorem dX10_judge_13 : decode cX10_judge 13 = .ok (.iconst 0, 1) := by decide +kernel
theorem dX10_judge_14 : decode cX10_judge 14 = .ok (.istore 4, 2) := by decide +kernel
theorem dX10_judge_16 : decode cX10_judge 16 = .ok (.iload 4, 2) := by decide +kernel
theorem dX10_judge_18 : decode cX10_judge 18 = .ok (.aload_n 0, 1) := by decide +kernel
theorem dX10_judge_19 : decode cX10_judge 19 = .ok (.getfield 10, 3) := by decide +kernel
theorem dX10_judge_22 : decode cX10_judge 22 = .ok (.getfield 98, 3) := by decide +kernel
theorem dX10_judge_25 : decode cX10_judge 25 = .ok (.if_icmp .ge 114, 3) := by decide +kernel
theorem dX10_judge_28 : decode cX10_judge 28 = .ok (.aload_n 0, 1) := by decide +kernel
theorem dX10_judge_29 : decode cX10_judge 29 = .ok (.getfield 10, 3) := by decide +kernel
theorem dX10_judge_32 : decode cX10_judge 32 = .ok (.getfield 101, 3) := by decide +kernel
theorem dX10_judge_35 : decode cX10_judge 35 = .ok (.iload 4, 2) := by decide +kernel
theorem dX10_judge_37 : decode cX10_judge 37 = .ok (.aaload, 1) := by decide +kernel
theorem dX10_judge_38 : decode cX10_judge 38 = .ok (.iload_n 1, 1) := by decide +kernel
theorem dX10_judge_39 : decode cX10_judge 39 = .ok (.invokevirtual 165, 3) := by decide +kernel
theorem dX10_judge_42 : decode cX10_judge 42 = .ok (.ifCond .eq 91, 3) := by decide +kernel
theorem dX10_judge_45 : decode cX10_judge 45 = .ok (.iload_n 2, 1) := by decide +kernel
theorem dX10_judge_46 : decode cX10_judge 46 = .ok (.aload_n 0, 1) := by decide +kernel
theorem dX10_judge_47 : decode cX10_judge 47 = .ok (.getfield 70, 3) := by decide +kernel
theorem dX10_judge_50 : decode cX10_judge 50 = .ok (.if_icmp .lt 7, 3) := by decide +kernel
theorem dX10_judge_53 : decode cX10_judge 53 = .ok (.sipush 222, 3) := by decide +kernel
theorem dX10_judge_56 : decode cX10_judge 56 = .ok (.ireturn, 1) := by decide +kernel
theorem dX10_judge_57 : decode cX10_judge 57 = .ok (.aload_n 0, 1) := by decide +kernel
theorem dX10_judge_58 : decode cX10_judge 58 = .ok (.getfield 10, 3) := by decide +kernel
theorem dX10_judge_61 : decode cX10_judge 61 = .ok (.getfield 101, 3) := by decide +kernel
theorem dX10_judge_64 : decode cX10_judge 64 = .ok (.iload 4, 2) := by decide +kernel
theorem dX10_judge_66 : decode cX10_judge 66 = .ok (.aaload, 1) := by decide +kernel
theorem dX10_judge_67 : decode cX10_judge 67 = .ok (.aload_n 0, 1) := by decide +kernel
theorem dX10_judge_68 : decode cX10_judge 68 = .ok (.getfield 10, 3) := by decide +kernel
theorem dX10_judge_71 : decode cX10_judge 71 = .ok (.getfield 146, 3) := by decide +kernel
theorem dX10_judge_74 : decode cX10_judge 74 = .ok (.invokevirtual 168, 3) := by decide +kernel
theorem dX10_judge_77 : decode cX10_judge 77 = .ok (.istore 5, 2) := by decide +kernel
theorem dX10_judge_79 : decode cX10_judge 79 = .ok (.iload_n 3, 1) := by decide +kernel
theorem dX10_judge_80 : decode cX10_judge 80 = .ok (.iload 5, 2) := by decide +kernel
theorem dX10_judge_82 : decode cX10_judge 82 = .ok (.iadd, 1) := by decide +kernel
theorem dX10_judge_83 : decode cX10_judge 83 = .ok (.istore_n 3, 1) := by decide +kernel
theorem dX10_judge_84 : decode cX10_judge 84 = .ok (.iload_n 2, 1) := by decide +kernel
theorem dX10_judge_85 : decode cX10_judge 85 = .ok (.iconst 3, 1) := by decide +kernel
theorem dX10_judge_86 : decode cX10_judge 86 = .ok (.imul, 1) := by decide +kernel
theorem dX10_judge_87 : decode cX10_judge 87 = .ok (.istore 6, 2) := by decide +kernel
theorem dX10_judge_89 : decode cX10_judge 89 = .ok (.iinc 2 1, 3) := by decide +kernel
theorem dX10_judge_92 : decode cX10_judge 92 = .ok (.aload_n 0, 1) := by decide +kernel
theorem dX10_judge_93 : decode cX10_judge 93 = .ok (.getfield 67, 3) := by decide +kernel
theorem dX10_judge_96 : decode cX10_judge 96 = .ok (.iload 6, 2) := by decide +kernel
theorem dX10_judge_98 : decode cX10_judge 98 = .ok (.iaload, 1) := by decide +kernel
theorem dX10_judge_99 : decode cX10_judge 99 = .ok (.iload 4, 2) := by decide +kernel
theorem dX10_judge_101 : decode cX10_judge 101 = .ok (.if_icmp .ne 30, 3) := by decide +kernel
theorem dX10_judge_104 : decode cX10_judge 104 = .ok (.aload_n 0, 1) := by decide +kernel
theorem dX10_judge_105 : decode cX10_judge 105 = .ok (.getfield 67, 3) := by decide +kernel
theorem dX10_judge_108 : decode cX10_judge 108 = .ok (.iload 6, 2) := by decide +kernel
theorem dX10_judge_110 : decode cX10_judge 110 = .ok (.iconst 1, 1) := by decide +kernel
theorem dX10_judge_111 : decode cX10_judge 111 = .ok (.iadd, 1) := by decide +kernel
theorem dX10_judge_112 : decode cX10_judge 112 = .ok (.iaload, 1) := by decide +kernel
theorem dX10_judge_113 : decode cX10_judge 113 = .ok (.iload 5, 2) := by decide +kernel
theorem dX10_judge_115 : decode cX10_judge 115 = .ok (.if_icmp .ne 16, 3) := by decide +kernel
theorem dX10_judge_118 : decode cX10_judge 118 = .ok (.aload_n 0, 1) := by decide +kernel
theorem dX10_judge_119 : decode cX10_judge 119 = .ok (.getfield 67, 3) := by decide +kernel
theorem dX10_judge_122 : decode cX10_judge 122 = .ok (.iload 6, 2) := by decide +kernel
theorem dX10_judge_124 : decode cX10_judge 124 = .ok (.iconst 2, 1) := by decide +kernel
theorem dX10_judge_125 : decode cX10_judge 125 = .ok (.iadd, 1) := by decide +kernel
theorem dX10_judge_126 : decode cX10_judge 126 = .ok (.iaload, 1) := by decide +kernel
theorem dX10_judge_127 : decode cX10_judge 127 = .ok (.iload_n 3, 1) := by decide +kernel
theorem dX10_judge_128 : decode cX10_judge 128 = .ok (.if_icmp .eq 5, 3) := by decide +kernel
theorem dX10_judge_131 : decode cX10_judge 131 = .ok (.iload_n 2, 1) := by decide +kernel
theorem dX10_judge_132 : decode cX10_judge 132 = .ok (.ireturn, 1) := by decide +kernel
theorem dX10_judge_133 : decode cX10_judge 133 = .ok (.iinc 4 1, 3) := by decide +kernel
theorem dX10_judge_136 : decode cX10_judge 136 = .ok (.goto (-120), 3) := by decide +kernel
theorem dX10_judge_139 : decode cX10_judge 139 = .ok (.iload_n 2, 1) := by decide +kernel
theorem dX10_judge_140 : decode cX10_judge 140 = .ok (.aload_n 0, 1) := by decide +kernel
theorem dX10_judge_141 : decode cX10_judge 141 = .ok (.getfield 70, 3) := by decide +kernel
theorem dX10_judge_144 : decode cX10_judge 144 = .ok (.if_icmp .ge 9, 3) := by decide +kernel
theorem dX10_judge_147 : decode cX10_judge 147 = .ok (.iload_n 2, 1) := by decide +kernel
theorem dX10_judge_148 : decode cX10_judge 148 = .ok (.iconst 1, 1) := by decide +kernel
theorem dX10_judge_149 : decode cX10_judge 149 = .ok (.iadd, 1) := by decide +kernel
theorem dX10_judge_150 : decode cX10_judge 150 = .ok (.goto 4, 3) := by decide +kernel
theorem dX10_judge_153 : decode cX10_judge 153 = .ok (.iconst 0, 1) := by decide +kernel
theorem dX10_judge_154 : decode cX10_judge 154 = .ok (.ireturn, 1) := by decide +kernel
theorem dX10_sheet_0 : decode cX10_sheet 0 = .ok (.iload_n 1, 1) := by decide +kernel
theorem dX10_sheet_1 : decode cX10_sheet 1 = .ok (.invokestatic 318, 3) := by decide +kernel
theorem dX10_sheet_4 : decode cX10_sheet 4 = .ok (.ifCond .eq 12, 3) := by decide +kernel
theorem dX10_sheet_7 : decode cX10_sheet 7 = .ok (.iload_n 2, 1) := by decide +kernel
theorem dX10_sheet_8 : decode cX10_sheet 8 = .ok (.iconst (-1), 1) := by decide +kernel
theorem dX10_sheet_9 : decode cX10_sheet 9 = .ok (.iconst 3, 1) := by decide +kernel
theorem dX10_sheet_10 : decode cX10_sheet 10 = .ok (.invokestatic 94, 3) := by decide +kernel
theorem dX10_sheet_13 : decode cX10_sheet 13 = .ok (.ifCond .ne 5, 3) := by decide +kernel
theorem dX10_sheet_16 : decode cX10_sheet 16 = .ok (.iconst (-1), 1) := by decide +kernel
theorem dX10_sheet_17 : decode cX10_sheet 17 = .ok (.ireturn, 1) := by decide +kernel
theorem dX10_sheet_18 : decode cX10_sheet 18 = .ok (.iload_n 2, 1) := by decide +kernel
theorem dX10_sheet_19 : decode cX10_sheet 19 = .ok (.iconst (-1), 1) := by decide +kernel
theorem dX10_sheet_20 : decode cX10_sheet 20 = .ok (.if_icmp .eq 11, 3) := by decide +kernel
theorem dX10_sheet_23 : decode cX10_sheet 23 = .ok (.iload_n 3, 1) := by decide +kernel
theorem dX10_sheet_24 : decode cX10_sheet 24 = .ok (.bipush 40, 2) := by decide +kernel
theorem dX10_sheet_26 : decode cX10_sheet 26 = .ok (.if_icmp .le 5, 3) := by decide +kernel
theorem dX10_sheet_29 : decode cX10_sheet 29 = .ok (.iconst (-1), 1) := by decide +kernel
theorem dX10_sheet_30 : decode cX10_sheet 30 = .ok (.ireturn, 1) := by decide +kernel
theorem dX10_sheet_31 : decode cX10_sheet 31 = .ok (.iload_n 2, 1) := by decide +kernel
theorem dX10_sheet_32 : decode cX10_sheet 32 = .ok (.iconst (-1), 1) := by decide +kernel
theorem dX10_sheet_33 : decode cX10_sheet 33 = .ok (.if_icmp .eq 10, 3) := by decide +kernel
theorem dX10_sheet_36 : decode cX10_sheet 36 = .ok (.iload_n 3, 1) := by decide +kernel
theorem dX10_sheet_37 : decode cX10_sheet 37 = .ok (.ifCond .ge 6, 3) := by decide +kernel
theorem dX10_sheet_40 : decode cX10_sheet 40 = .ok (.bipush (-14), 2) := by decide +kernel
theorem dX10_sheet_42 : decode cX10_sheet 42 = .ok (.ireturn, 1) := by decide +kernel
theorem dX10_sheet_43 : decode cX10_sheet 43 = .ok (.aload_n 0, 1) := by decide +kernel
theorem dX10_sheet_44 : decode cX10_sheet 44 = .ok (.getfield 75, 3) := by decide +kernel
theorem dX10_sheet_47 : decode cX10_sheet 47 = .ok (.iload_n 1, 1) := by decide +kernel
theorem dX10_sheet_48 : decode cX10_sheet 48 = .ok (.aaload, 1) := by decide +kernel
theorem dX10_sheet_49 : decode cX10_sheet 49 = .ok (.iload_n 2, 1) := by decide +kernel
theorem dX10_sheet_50 : decode cX10_sheet 50 = .ok (.iload_n 2, 1) := by decide +kernel
theorem dX10_sheet_51 : decode cX10_sheet 51 = .ok (.iconst (-1), 1) := by decide +kernel
theorem dX10_sheet_52 : decode cX10_sheet 52 = .ok (.if_icmp .ne 7, 3) := by decide +kernel
theorem dX10_sheet_55 : decode cX10_sheet 55 = .ok (.iconst 0, 1) := by decide +kernel
theorem dX10_sheet_56 : decode cX10_sheet 56 = .ok (.goto 4, 3) := by decide +kernel
theorem dX10_sheet_59 : decode cX10_sheet 59 = .ok (.iload_n 3, 1) := by decide +kernel
theorem dX10_sheet_60 : decode cX10_sheet 60 = .ok (.invokevirtual 321, 3) := by decide +kernel
theorem dX10_sheet_63 : decode cX10_sheet 63 = .ok (.iconst 1, 1) := by decide +kernel
theorem dX10_sheet_64 : decode cX10_sheet 64 = .ok (.ireturn, 1) := by decide +kernel
theorem dX10_put_0 : decode cX10_put 0 = .ok (.iload_n 1, 1) := by decide +kernel
theorem dX10_put_1 : decode cX10_put 1 = .ok (.invokestatic 318, 3) := by decide +kernel
theorem dX10_put_4 : decode cX10_put 4 = .ok (.ifCond .ne 5, 3) := by decide +kernel
theorem dX10_put_7 : decode cX10_put 7 = .ok (.iconst (-1), 1) := by decide +kernel
theorem dX10_put_8 : decode cX10_put 8 = .ok (.ireturn, 1) := by decide +kernel
theorem dX10_put_9 : decode cX10_put 9 = .ok (.aload_n 0, 1) := by decide +kernel
theorem dX10_put_10 : decode cX10_put 10 = .ok (.getfield 75, 3) := by decide +kernel
theorem dX10_put_13 : decode cX10_put 13 = .ok (.iload_n 1, 1) := by decide +kernel
theorem dX10_put_14 : decode cX10_put 14 = .ok (.aaload, 1) := by decide +kernel
theorem dX10_put_15 : decode cX10_put 15 = .ok (.getfield 324, 3) := by decide +kernel
theorem dX10_put_18 : decode cX10_put 18 = .ok (.iconst (-1), 1) := by decide +kernel
theorem dX10_put_19 : decode cX10_put 19 = .ok (.if_icmp .ne 6, 3) := by decide +kernel
theorem dX10_put_22 : decode cX10_put 22 = .ok (.bipush (-11), 2) := by decide +kernel
theorem dX10_put_24 : decode cX10_put 24 = .ok (.ireturn, 1) := by decide +kernel
theorem dX10_put_25 : decode cX10_put 25 = .ok (.aload_n 0, 1) := by decide +kernel
theorem dX10_put_26 : decode cX10_put 26 = .ok (.getfield 75, 3) := by decide +kernel
theorem dX10_put_29 : decode cX10_put 29 = .ok (.iload_n 1, 1) := by decide +kernel
theorem dX10_put_30 : decode cX10_put 30 = .ok (.aaload, 1) := by decide +kernel
theorem dX10_put_31 : decode cX10_put 31 = .ok (.iload_n 2, 1) := by decide +kernel
theorem dX10_put_32 : decode cX10_put 32 = .ok (.invokevirtual 327, 3) := by decide +kernel
theorem dX10_put_35 : decode cX10_put 35 = .ok (.ifCond .ne 6, 3) := by decide +kernel
theorem dX10_put_38 : decode cX10_put 38 = .ok (.bipush (-12), 2) := by decide +kernel
theorem dX10_put_40 : decode cX10_put 40 = .ok (.ireturn, 1) := by decide +kernel
theorem dX10_put_41 : decode cX10_put 41 = .ok (.aload_n 0, 1) := by decide +kernel
theorem dX10_put_42 : decode cX10_put 42 = .ok (.getfield 75, 3) := by decide +kernel
theorem dX10_put_45 : decode cX10_put 45 = .ok (.iload_n 1, 1) := by decide +kernel
theorem dX10_put_46 : decode cX10_put 46 = .ok (.aaload, 1) := by decide +kernel
theorem dX10_put_47 : decode cX10_put 47 = .ok (.iload_n 2, 1) := by decide +kernel
theorem dX10_put_48 : decode cX10_put 48 = .ok (.iload_n 3, 1) := by decide +kernel
theorem dX10_put_49 : decode cX10_put 49 = .ok (.invokevirtual 330, 3) := by decide +kernel
theorem dX10_put_52 : decode cX10_put 52 = .ok (.iconst 1, 1) := by decide +kernel
theorem dX10_put_53 : decode cX10_put 53 = .ok (.ireturn, 1) := by decide +kernel
theorem dX10_item_0 : decode cX10_item 0 = .ok (.iload_n 1, 1) := by decide +kernel
theorem dX10_item_1 : decode cX10_item 1 = .ok (.invokestatic 318, 3) := by decide +kernel
theorem dX10_item_4 : decode cX10_item 4 = .ok (.ifCond .eq 12, 3) := by decide +kernel
theorem dX10_item_7 : decode cX10_item 7 = .ok (.iload_n 2, 1) := by decide +kernel
theorem dX10_item_8 : decode cX10_item 8 = .ok (.iconst 0, 1) := by decide +kernel
theorem dX10_item_9 : decode cX10_item 9 = .ok (.iconst 3, 1) := by decide +kernel
theorem dX10_item_10 : decode cX10_item 10 = .ok (.invokestatic 94, 3) := by decide +kernel
theorem dX10_item_13 : decode cX10_item 13 = .ok (.ifCond .ne 5, 3) := by decide +kernel
theorem dX10_item_16 : decode cX10_item 16 = .ok (.iconst (-1), 1) := by decide +kernel
theorem dX10_item_17 : decode cX10_item 17 = .ok (.ireturn, 1) := by decide +kernel
theorem dX10_item_18 : decode cX10_item 18 = .ok (.aload_n 0, 1) := by decide +kernel
theorem dX10_item_19 : decode cX10_item 19 = .ok (.getfield 75, 3) := by decide +kernel
theorem dX10_item_22 : decode cX10_item 22 = .ok (.iload_n 1, 1) := by decide +kernel
theorem dX10_item_23 : decode cX10_item 23 = .ok (.aaload, 1) := by decide +kernel
theorem dX10_item_24 : decode cX10_item 24 = .ok (.getfield 324, 3) := by decide +kernel
theorem dX10_item_27 : decode cX10_item 27 = .ok (.iconst (-1), 1) := by decide +kernel
theorem dX10_item_28 : decode cX10_item 28 = .ok (.if_icmp .ne 6, 3) := by decide +kernel
theorem dX10_item_31 : decode cX10_item 31 = .ok (.bipush (-11), 2) := by decide +kernel
theorem dX10_item_33 : decode cX10_item 33 = .ok (.ireturn, 1) := by decide +kernel
theorem dX10_item_34 : decode cX10_item 34 = .ok (.aload_n 0, 1) := by decide +kernel
theorem dX10_item_35 : decode cX10_item 35 = .ok (.getfield 75, 3) := by decide +kernel
theorem dX10_item_38 : decode cX10_item 38 = .ok (.iload_n 1, 1) := by decide +kernel
theorem dX10_item_39 : decode cX10_item 39 = .ok (.aaload, 1) := by decide +kernel
theorem dX10_item_40 : decode cX10_item 40 = .ok (.getfield 324, 3) := by decide +kernel
theorem dX10_item_43 : decode cX10_item 43 = .ok (.iload_n 2, 1) := by decide +kernel
theorem dX10_item_44 : decode cX10_item 44 = .ok (.if_icmp .eq 6, 3) := by decide +kernel
theorem dX10_item_47 : decode cX10_item 47 = .ok (.bipush (-13), 2) := by decide +kernel
theorem dX10_item_49 : decode cX10_item 49 = .ok (.ireturn, 1) := by decide +kernel
theorem dX10_item_50 : decode cX10_item 50 = .ok (.aload_n 0, 1) := by decide +kernel
theorem dX10_item_51 : decode cX10_item 51 = .ok (.getfield 75, 3) := by decide +kernel
theorem dX10_item_54 : decode cX10_item 54 = .ok (.iload_n 1, 1) := by decide +kernel
theorem dX10_item_55 : decode cX10_item 55 = .ok (.aaload, 1) := by decide +kernel
theorem dX10_item_56 : decode cX10_item 56 = .ok (.iload_n 3, 1) := by decide +kernel
theorem dX10_item_57 : decode cX10_item 57 = .ok (.invokevirtual 327, 3) := by decide +kernel
theorem dX10_item_60 : decode cX10_item 60 = .ok (.ifCond .eq 17, 3) := by decide +kernel
theorem dX10_item_63 : decode cX10_item 63 = .ok (.aload_n 0, 1) := by decide +kernel
theorem dX10_item_64 : decode cX10_item 64 = .ok (.getfield 75, 3) := by decide +kernel
theorem dX10_item_67 : decode cX10_item 67 = .ok (.iload_n 1, 1) := by decide +kernel
theorem dX10_item_68 : decode cX10_item 68 = .ok (.aaload, 1) := by decide +kernel
theorem dX10_item_69 : decode cX10_item 69 = .ok (.getfield 333, 3) := by decide +kernel
theorem dX10_item_72 : decode cX10_item 72 = .ok (.iload_n 3, 1) := by decide +kernel
theorem dX10_item_73 : decode cX10_item 73 = .ok (.iaload, 1) := by decide +kernel
theorem dX10_item_74 : decode cX10_item 74 = .ok (.goto 5, 3) := by decide +kernel
theorem dX10_item_77 : decode cX10_item 77 = .ok (.bipush (-12), 2) := by decide +kernel
theorem dX10_item_79 : decode cX10_item 79 = .ok (.ireturn, 1) := by decide +kernel
theorem dX10_shelf_0 : decode cX10_shelf 0 = .ok (.iload_n 1, 1) := by decide +kernel
theorem dX10_shelf_1 : decode cX10_shelf 1 = .ok (.invokestatic 336, 3) := by decide +kernel
theorem dX10_shelf_4 : decode cX10_shelf 4 = .ok (.ifCond .eq 12, 3) := by decide +kernel
theorem dX10_shelf_7 : decode cX10_shelf 7 = .ok (.iload_n 2, 1) := by decide +kernel
theorem dX10_shelf_8 : decode cX10_shelf 8 = .ok (.iconst 0, 1) := by decide +kernel
theorem dX10_shelf_9 : decode cX10_shelf 9 = .ok (.iconst 2, 1) := by decide +kernel
theorem dX10_shelf_10 : decode cX10_shelf 10 = .ok (.invokestatic 94, 3) := by decide +kernel
theorem dX10_shelf_13 : decode cX10_shelf 13 = .ok (.ifCond .ne 5, 3) := by decide +kernel
theorem dX10_shelf_16 : decode cX10_shelf 16 = .ok (.iconst (-1), 1) := by decide +kernel
theorem dX10_shelf_17 : decode cX10_shelf 17 = .ok (.ireturn, 1) := by decide +kernel
theorem dX10_shelf_18 : decode cX10_shelf 18 = .ok (.iload_n 2, 1) := by decide +kernel
theorem dX10_shelf_19 : decode cX10_shelf 19 = .ok (.ifCond .ne 14, 3) := by decide +kernel
theorem dX10_shelf_22 : decode cX10_shelf 22 = .ok (.aload_n 0, 1) := by decide +kernel
theorem dX10_shelf_23 : decode cX10_shelf 23 = .ok (.getfield 10, 3) := by decide +kernel
theorem dX10_shelf_26 : decode cX10_shelf 26 = .ok (.iload_n 3, 1) := by decide +kernel
theorem dX10_shelf_27 : decode cX10_shelf 27 = .ok (.invokevirtual 111, 3) := by decide +kernel
theorem dX10_shelf_30 : decode cX10_shelf 30 = .ok (.ifCond .eq 15, 3) := by decide +kernel
theorem dX10_shelf_33 : decode cX10_shelf 33 = .ok (.iload_n 2, 1) := by decide +kernel
theorem dX10_shelf_34 : decode cX10_shelf 34 = .ok (.iconst 1, 1) := by decide +kernel
theorem dX10_shelf_35 : decode cX10_shelf 35 = .ok (.if_icmp .ne 12, 3) := by decide +kernel
theorem dX10_shelf_38 : decode cX10_shelf 38 = .ok (.iload_n 3, 1) := by decide +kernel
theorem dX10_shelf_39 : decode cX10_shelf 39 = .ok (.invokestatic 318, 3) := by decide +kernel
theorem dX10_shelf_42 : decode cX10_shelf 42 = .ok (.ifCond .ne 5, 3) := by decide +kernel
theorem dX10_shelf_45 : decode cX10_shelf 45 = .ok (.iconst (-1), 1) := by decide +kernel
theorem dX10_shelf_46 : decode cX10_shelf 46 = .ok (.ireturn, 1) := by decide +kernel
theorem dX10_shelf_47 : decode cX10_shelf 47 = .ok (.iload_n 2, 1) := by decide +kernel
theorem dX10_shelf_48 : decode cX10_shelf 48 = .ok (.ifCond .ne 16, 3) := by decide +kernel
theorem dX10_shelf_51 : decode cX10_shelf 51 = .ok (.aload_n 0, 1) := by decide +kernel
theorem dX10_shelf_52 : decode cX10_shelf 52 = .ok (.getfield 81, 3) := by decide +kernel
theorem dX10_shelf_55 : decode cX10_shelf 55 = .ok (.iload_n 1, 1) := by decide +kernel
theorem dX10_shelf_56 : decode cX10_shelf 56 = .ok (.aaload, 1) := by decide +kernel
theorem dX10_shelf_57 : decode cX10_shelf 57 = .ok (.iload_n 3, 1) := by decide +kernel
theorem dX10_shelf_58 : decode cX10_shelf 58 = .ok (.invokevirtual 339, 3) := by decide +kernel
theorem dX10_shelf_61 : decode cX10_shelf 61 = .ok (.goto 60, 3) := by decide +kernel
theorem dX10_shelf_64 : decode cX10_shelf 64 = .ok (.iload_n 2, 1) := by decide +kernel
theorem dX10_shelf_65 : decode cX10_shelf 65 = .ok (.iconst 1, 1) := by decide +kernel
theorem dX10_shelf_66 : decode cX10_shelf 66 = .ok (.if_icmp .ne 46, 3) := by decide +kernel
theorem dX10_shelf_69 : decode cX10_shelf 69 = .ok (.aload_n 0, 1) := by decide +kernel
theorem dX10_shelf_70 : decode cX10_shelf 70 = .ok (.getfield 75, 3) := by decide +kernel
theorem dX10_shelf_73 : decode cX10_shelf 73 = .ok (.iload_n 3, 1) := by decide +kernel
theorem dX10_shelf_74 : decode cX10_shelf 74 = .ok (.aaload, 1) := by decide +kernel
theorem dX10_shelf_75 : decode cX10_shelf 75 = .ok (.getfield 324, 3) := by decide +kernel
theorem dX10_shelf_78 : decode cX10_shelf 78 = .ok (.iconst (-1), 1) := by decide +kernel
theorem dX10_shelf_79 : decode cX10_shelf 79 = .ok (.if_icmp .eq 33, 3) := by decide +kernel
theorem dX10_shelf_82 : decode cX10_shelf 82 = .ok (.aload_n 0, 1) := by decide +kernel
theorem dX10_shelf_83 : decode cX10_shelf 83 = .ok (.getfield 81, 3) := by decide +kernel
theorem dX10_shelf_86 : decode cX10_shelf 86 = .ok (.iload_n 1, 1) := by decide +kernel
theorem dX10_shelf_87 : decode cX10_shelf 87 = .ok (.aaload, 1) := by decide +kernel
theorem dX10_shelf_88 : decode cX10_shelf 88 = .ok (.aload_n 0, 1) := by decide +kernel
theorem dX10_shelf_89 : decode cX10_shelf 89 = .ok (.getfield 75, 3) := by decide +kernel
theorem dX10_shelf_92 : decode cX10_shelf 92 = .ok (.iload_n 3, 1) := by decide +kernel
theorem dX10_shelf_93 : decode cX10_shelf 93 = .ok (.aaload, 1) := by decide +kernel
theorem dX10_shelf_94 : decode cX10_shelf 94 = .ok (.getfield 324, 3) := by decide +kernel
theorem dX10_shelf_97 : decode cX10_shelf 97 = .ok (.aload_n 0, 1) := by decide +kernel
theorem dX10_shelf_98 : decode cX10_shelf 98 = .ok (.getfield 75, 3) := by decide +kernel
theorem dX10_shelf_101 : decode cX10_shelf 101 = .ok (.iload_n 3, 1) := by decide +kernel
theorem dX10_shelf_102 : decode cX10_shelf 102 = .ok (.aaload, 1) := by decide +kernel
theorem dX10_shelf_103 : decode cX10_shelf 103 = .ok (.getfield 343, 3) := by decide +kernel
theorem dX10_shelf_106 : decode cX10_shelf 106 = .ok (.invokevirtual 346, 3) := by decide +kernel
theorem dX10_shelf_109 : decode cX10_shelf 109 = .ok (.goto 12, 3) := by decide +kernel
theorem dX10_shelf_112 : decode cX10_shelf 112 = .ok (.aload_n 0, 1) := by decide +kernel
theorem dX10_shelf_113 : decode cX10_shelf 113 = .ok (.getfield 81, 3) := by decide +kernel
theorem dX10_shelf_116 : decode cX10_shelf 116 = .ok (.iload_n 1, 1) := by decide +kernel
theorem dX10_shelf_117 : decode cX10_shelf 117 = .ok (.aaload, 1) := by decide +kernel
theorem dX10_shelf_118 : decode cX10_shelf 118 = .ok (.invokevirtual 349, 3) := by decide +kernel
theorem dX10_shelf_121 : decode cX10_shelf 121 = .ok (.iconst 1, 1) := by decide +kernel
theorem dX10_shelf_122 : decode cX10_shelf 122 = .ok (.ireturn, 1) := by decide +kernel
theorem dX10_taken_0 : decode cX10_taken 0 = .ok (.iload_n 2, 1) := by decide +kernel
theorem dX10_taken_1 : decode cX10_taken 1 = .ok (.iconst 0, 1) := by decide +kernel
theorem dX10_taken_2 : decode cX10_taken 2 = .ok (.bipush 6, 2) := by decide +kernel
theorem dX10_taken_4 : decode cX10_taken 4 = .ok (.invokestatic 94, 3) := by decide +kernel
theorem dX10_taken_7 : decode cX10_taken 7 = .ok (.istore_n 3, 1) := by decide +kernel
theorem dX10_taken_8 : decode cX10_taken 8 = .ok (.iload_n 2, 1) := by decide +kernel
theorem dX10_taken_9 : decode cX10_taken 9 = .ok (.bipush 10, 2) := by decide +kernel
theorem dX10_taken_11 : decode cX10_taken 11 = .ok (.bipush 13, 2) := by decide +kernel
theorem dX10_taken_13 : decode cX10_taken 13 = .ok (.invokestatic 94, 3) := by decide +kernel
theorem dX10_taken_16 : decode cX10_taken 16 = .ok (.istore 4, 2) := by decide +kernel
theorem dX10_taken_18 : decode cX10_taken 18 = .ok (.iload_n 1, 1) := by decide +kernel
theorem dX10_taken_19 : decode cX10_taken 19 = .ok (.invokestatic 336, 3) := by decide +kernel
theorem dX10_taken_22 : decode cX10_taken 22 = .ok (.ifCond .eq 12, 3) := by decide +kernel
theorem dX10_taken_25 : decode cX10_taken 25 = .ok (.iload_n 3, 1) := by decide +kernel
theorem dX10_taken_26 : decode cX10_taken 26 = .ok (.ifCond .ne 10, 3) := by decide +kernel
theorem dX10_taken_29 : decode cX10_taken 29 = .ok (.iload 4, 2) := by decide +kernel
theorem dX10_taken_31 : decode cX10_taken 31 = .ok (.ifCond .ne 5, 3) := by decide +kernel
theorem dX10_taken_34 : decode cX10_taken 34 = .ok (.iconst (-1), 1) := by decide +kernel
theorem dX10_taken_35 : decode cX10_taken 35 = .ok (.ireturn, 1) := by decide +kernel
theorem dX10_taken_36 : decode cX10_taken 36 = .ok (.aload_n 0, 1) := by decide +kernel
theorem dX10_taken_37 : decode cX10_taken 37 = .ok (.getfield 81, 3) := by decide +kernel
theorem dX10_taken_40 : decode cX10_taken 40 = .ok (.iload_n 1, 1) := by decide +kernel
theorem dX10_taken_41 : decode cX10_taken 41 = .ok (.aaload, 1) := by decide +kernel
theorem dX10_taken_42 : decode cX10_taken 42 = .ok (.astore 5, 2) := by decide +kernel
theorem dX10_taken_44 : decode cX10_taken 44 = .ok (.aload_n 0, 1) := by decide +kernel
theorem dX10_taken_45 : decode cX10_taken 45 = .ok (.aload 5, 2) := by decide +kernel
theorem dX10_taken_47 : decode cX10_taken 47 = .ok (.invokevirtual 352, 3) := by decide +kernel
theorem dX10_taken_50 : decode cX10_taken 50 = .ok (.ifCond .eq 53, 3) := by decide +kernel
theorem dX10_taken_53 : decode cX10_taken 53 = .ok (.iload_n 3, 1) := by decide +kernel
theorem dX10_taken_54 : decode cX10_taken 54 = .ok (.ifCond .eq 30, 3) := by decide +kernel
theorem dX10_taken_57 : decode cX10_taken 57 = .ok (.aload_n 0, 1) := by decide +kernel
theorem dX10_taken_58 : decode cX10_taken 58 = .ok (.getfield 10, 3) := by decide +kernel
theorem dX10_taken_61 : decode cX10_taken 61 = .ok (.getfield 101, 3) := by decide +kernel
theorem dX10_taken_64 : decode cX10_taken 64 = .ok (.aload 5, 2) := by decide +kernel
theorem dX10_taken_66 : decode cX10_taken 66 = .ok (.getfield 356, 3) := by decide +kernel
theorem dX10_taken_69 : decode cX10_taken 69 = .ok (.aaload, 1) := by decide +kernel
theorem dX10_taken_70 : decode cX10_taken 70 = .ok (.getfield 116, 3) := by decide +kernel
theorem dX10_taken_73 : decode cX10_taken 73 = .ok (.iload_n 2, 1) := by decide +kernel
theorem dX10_taken_74 : decode cX10_taken 74 = .ok (.invokestatic 359, 3) := by decide +kernel
theorem dX10_taken_77 : decode cX10_taken 77 = .ok (.ifCond .eq 7, 3) := by decide +kernel
theorem dX10_taken_80 : decode cX10_taken 80 = .ok (.iconst 1, 1) := by decide +kernel
theorem dX10_taken_81 : decode cX10_taken 81 = .ok (.goto 4, 3) := by decide +kernel
theorem dX10_taken_84 : decode cX10_taken 84 = .ok (.iconst 0, 1) := by decide +kernel
theorem dX10_taken_85 : decode cX10_taken 85 = .ok (.istore 6, 2) := by decide +kernel
theorem dX10_taken_87 : decode cX10_taken 87 = .ok (.iload 6, 2) := by decide +kernel
theorem dX10_taken_89 : decode cX10_taken 89 = .ok (.ifCond .eq 11, 3) := by decide +kernel
theorem dX10_taken_92 : decode cX10_taken 92 = .ok (.aload 5, 2) := by decide +kernel
theorem dX10_taken_94 : decode cX10_taken 94 = .ok (.getfield 356, 3) := by decide +kernel
theorem dX10_taken_97 : decode cX10_taken 97 = .ok (.goto 5, 3) := by decide +kernel
theorem dX10_taken_100 : decode cX10_taken 100 = .ok (.bipush (-13), 2) := by decide +kernel
theorem dX10_taken_102 : decode cX10_taken 102 = .ok (.ireturn, 1) := by decide +kernel
theorem dX10_taken_103 : decode cX10_taken 103 = .ok (.aload 5, 2) := by decide +kernel
theorem dX10_taken_105 : decode cX10_taken 105 = .ok (.getfield 362, 3) := by decide +kernel
theorem dX10_taken_108 : decode cX10_taken 108 = .ok (.iconst 1, 1) := by decide +kernel
theorem dX10_taken_109 : decode cX10_taken 109 = .ok (.if_icmp .ne 31, 3) := by decide +kernel
theorem dX10_taken_112 : decode cX10_taken 112 = .ok (.iload 4, 2) := by decide +kernel
theorem dX10_taken_114 : decode cX10_taken 114 = .ok (.ifCond .eq 23, 3) := by decide +kernel
theorem dX10_taken_117 : decode cX10_taken 117 = .ok (.aload 5, 2) := by decide +kernel
theorem dX10_taken_119 : decode cX10_taken 119 = .ok (.getfield 365, 3) := by decide +kernel
theorem dX10_taken_122 : decode cX10_taken 122 = .ok (.iload_n 2, 1) := by decide +kernel
theorem dX10_taken_123 : decode cX10_taken 123 = .ok (.bipush 10, 2) := by decide +kernel
theorem dX10_taken_125 : decode cX10_taken 125 = .ok (.isub, 1) := by decide +kernel
theorem dX10_taken_126 : decode cX10_taken 126 = .ok (.if_icmp .ne 11, 3) := by decide +kernel
theorem dX10_taken_129 : decode cX10_taken 129 = .ok (.aload 5, 2) := by decide +kernel
theorem dX10_taken_131 : decode cX10_taken 131 = .ok (.getfield 366, 3) := by decide +kernel
theorem dX10_taken_134 : decode cX10_taken 134 = .ok (.goto 5, 3) := by decide +kernel
theorem dX10_taken_137 : decode cX10_taken 137 = .ok (.bipush (-13), 2) := by decide +kernel
theorem dX10_taken_139 : decode cX10_taken 139 = .ok (.ireturn, 1) := by decide +kernel
theorem dX10_taken_140 : decode cX10_taken 140 = .ok (.bipush (-11), 2) := by decide +kernel
theorem dX10_taken_142 : decode cX10_taken 142 = .ok (.ireturn, 1) := by decide +kernel
theorem dX10_act_0 : decode cX10_act 0 = .ok (.aload_n 0, 1) := by decide +kernel
theorem dX10_act_1 : decode cX10_act 1 = .ok (.getfield 88, 3) := by decide +kernel
theorem dX10_act_4 : decode cX10_act 4 = .ok (.invokevirtual 367, 3) := by decide +kernel
theorem dX10_act_7 : decode cX10_act 7 = .ok (.iload_n 1, 1) := by decide +kernel
theorem dX10_act_8 : decode cX10_act 8 = .ok (.invokestatic 336, 3) := by decide +kernel
theorem dX10_act_11 : decode cX10_act 11 = .ok (.ifCond .eq 16, 3) := by decide +kernel
theorem dX10_act_14 : decode cX10_act 14 = .ok (.aload_n 0, 1) := by decide +kernel
theorem dX10_act_15 : decode cX10_act 15 = .ok (.aload_n 0, 1) := by decide +kernel
theorem dX10_act_16 : decode cX10_act 16 = .ok (.getfield 81, 3) := by decide +kernel
theorem dX10_act_19 : decode cX10_act 19 = .ok (.iload_n 1, 1) := by decide +kernel
theorem dX10_act_20 : decode cX10_act 20 = .ok (.aaload, 1) := by decide +kernel
theorem dX10_act_21 : decode cX10_act 21 = .ok (.invokevirtual 352, 3) := by decide +kernel
theorem dX10_act_24 : decode cX10_act 24 = .ok (.ifCond .ne 5, 3) := by decide +kernel
theorem dX10_act_27 : decode cX10_act 27 = .ok (.iconst 0, 1) := by decide +kernel
theorem dX10_act_28 : decode cX10_act 28 = .ok (.ireturn, 1) := by decide +kernel
theorem dX10_act_29 : decode cX10_act 29 = .ok (.aload_n 0, 1) := by decide +kernel
theorem dX10_act_30 : decode cX10_act 30 = .ok (.getfield 81, 3) := by decide +kernel
theorem dX10_act_33 : decode cX10_act 33 = .ok (.iload_n 1, 1) := by decide +kernel
theorem dX10_act_34 : decode cX10_act 34 = .ok (.aaload, 1) := by decide +kernel
theorem dX10_act_35 : decode cX10_act 35 = .ok (.getfield 356, 3) := by decide +kernel
theorem dX10_act_38 : decode cX10_act 38 = .ok (.istore 4, 2) := by decide +kernel
theorem dX10_act_40 : decode cX10_act 40 = .ok (.aload_n 0, 1) := by decide +kernel
theorem dX10_act_41 : decode cX10_act 41 = .ok (.getfield 88, 3) := by decide +kernel
theorem dX10_act_44 : decode cX10_act 44 = .ok (.iload 4, 2) := by decide +kernel
theorem dX10_act_46 : decode cX10_act 46 = .ok (.aload_n 0, 1) := by decide +kernel
theorem dX10_act_47 : decode cX10_act 47 = .ok (.getfield 10, 3) := by decide +kernel
theorem dX10_act_50 : decode cX10_act 50 = .ok (.getfield 101, 3) := by decide +kernel
theorem dX10_act_53 : decode cX10_act 53 = .ok (.iload 4, 2) := by decide +kernel
theorem dX10_act_55 : decode cX10_act 55 = .ok (.aaload, 1) := by decide +kernel
theorem dX10_act_56 : decode cX10_act 56 = .ok (.getfield 116, 3) := by decide +kernel
theorem dX10_act_59 : decode cX10_act 59 = .ok (.aload_n 0, 1) := by decide +kernel
theorem dX10_act_60 : decode cX10_act 60 = .ok (.getfield 10, 3) := by decide +kernel
theorem dX10_act_63 : decode cX10_act 63 = .ok (.getfield 101, 3) := by decide +kernel
theorem dX10_act_66 : decode cX10_act 66 = .ok (.iload 4, 2) := by decide +kernel
theorem dX10_act_68 : decode cX10_act 68 = .ok (.aaload, 1) := by decide +kernel
theorem dX10_act_69 : decode cX10_act 69 = .ok (.getfield 125, 3) := by decide +kernel
theorem dX10_act_72 : decode cX10_act 72 = .ok (.invokevirtual 370, 3) := by decide +kernel
theorem dX10_act_75 : decode cX10_act 75 = .ok (.iconst 0, 1) := by decide +kernel
theorem dX10_act_76 : decode cX10_act 76 = .ok (.istore 5, 2) := by decide +kernel
theorem dX10_act_78 : decode cX10_act 78 = .ok (.iload_n 2, 1) := by decide +kernel
theorem dX10_act_79 : decode cX10_act 79 = .ok (.tableswitch 81 0 3 #[29, 42, 55, 68], 29) := by decide +kernel
theorem dX10_act_108 : decode cX10_act 108 = .ok (.aload_n 0, 1) := by decide +kernel
theorem dX10_act_109 : decode cX10_act 109 = .ok (.getfield 88, 3) := by decide +kernel
theorem dX10_act_112 : decode cX10_act 112 = .ok (.iload_n 3, 1) := by decide +kernel
theorem dX10_act_113 : decode cX10_act 113 = .ok (.invokevirtual 374, 3) := by decide +kernel
theorem dX10_act_116 : decode cX10_act 116 = .ok (.istore 5, 2) := by decide +kernel
theorem dX10_act_118 : decode cX10_act 118 = .ok (.goto 44, 3) := by decide +kernel
theorem dX10_act_121 : decode cX10_act 121 = .ok (.aload_n 0, 1) := by decide +kernel
theorem dX10_act_122 : decode cX10_act 122 = .ok (.getfield 88, 3) := by decide +kernel
theorem dX10_act_125 : decode cX10_act 125 = .ok (.iload_n 3, 1) := by decide +kernel
theorem dX10_act_126 : decode cX10_act 126 = .ok (.invokevirtual 377, 3) := by decide +kernel
theorem dX10_act_129 : decode cX10_act 129 = .ok (.istore 5, 2) := by decide +kernel
theorem dX10_act_131 : decode cX10_act 131 = .ok (.goto 31, 3) := by decide +kernel
theorem dX10_act_134 : decode cX10_act 134 = .ok (.aload_n 0, 1) := by decide +kernel
theorem dX10_act_135 : decode cX10_act 135 = .ok (.getfield 88, 3) := by decide +kernel
theorem dX10_act_138 : decode cX10_act 138 = .ok (.iload_n 3, 1) := by decide +kernel
theorem dX10_act_139 : decode cX10_act 139 = .ok (.invokevirtual 380, 3) := by decide +kernel
theorem dX10_act_142 : decode cX10_act 142 = .ok (.istore 5, 2) := by decide +kernel
theorem dX10_act_144 : decode cX10_act 144 = .ok (.goto 18, 3) := by decide +kernel
theorem dX10_act_147 : decode cX10_act 147 = .ok (.aload_n 0, 1) := by decide +kernel
theorem dX10_act_148 : decode cX10_act 148 = .ok (.getfield 88, 3) := by decide +kernel
theorem dX10_act_151 : decode cX10_act 151 = .ok (.iload_n 3, 1) := by decide +kernel
theorem dX10_act_152 : decode cX10_act 152 = .ok (.invokevirtual 383, 3) := by decide +kernel
theorem dX10_act_155 : decode cX10_act 155 = .ok (.istore 5, 2) := by decide +kernel
theorem dX10_act_157 : decode cX10_act 157 = .ok (.goto 5, 3) := by decide +kernel
theorem dX10_act_160 : decode cX10_act 160 = .ok (.iconst 0, 1) := by decide +kernel
theorem dX10_act_161 : decode cX10_act 161 = .ok (.ireturn, 1) := by decide +kernel
theorem dX10_act_162 : decode cX10_act 162 = .ok (.aload_n 0, 1) := by decide +kernel
theorem dX10_act_163 : decode cX10_act 163 = .ok (.getfield 88, 3) := by decide +kernel
theorem dX10_act_166 : decode cX10_act 166 = .ok (.getfield 386, 3) := by decide +kernel
theorem dX10_act_169 : decode cX10_act 169 = .ok (.ifCond .eq 8, 3) := by decide +kernel
theorem dX10_act_172 : decode cX10_act 172 = .ok (.bipush (-15), 2) := by decide +kernel
theorem dX10_act_174 : decode cX10_act 174 = .ok (.goto 5, 3) := by decide +kernel
theorem dX10_act_177 : decode cX10_act 177 = .ok (.iload 5, 2) := by decide +kernel
theorem dX10_act_179 : decode cX10_act 179 = .ok (.ireturn, 1) := by decide +kernel
theorem dX10_trace_0 : decode cX10_trace 0 = .ok (.iload_n 1, 1) := by decide +kernel
theorem dX10_trace_1 : decode cX10_trace 1 = .ok (.iconst 0, 1) := by decide +kernel
theorem dX10_trace_2 : decode cX10_trace 2 = .ok (.aload_n 0, 1) := by decide +kernel
theorem dX10_trace_3 : decode cX10_trace 3 = .ok (.getfield 88, 3) := by decide +kernel
theorem dX10_trace_6 : decode cX10_trace 6 = .ok (.getfield 389, 3) := by decide +kernel
theorem dX10_trace_9 : decode cX10_trace 9 = .ok (.iconst 1, 1) := by decide +kernel
theorem dX10_trace_10 : decode cX10_trace 10 = .ok (.isub, 1) := by decide +kernel
theorem dX10_trace_11 : decode cX10_trace 11 = .ok (.invokestatic 94, 3) := by decide +kernel
theorem dX10_trace_14 : decode cX10_trace 14 = .ok (.ifCond .eq 15, 3) := by decide +kernel
theorem dX10_trace_17 : decode cX10_trace 17 = .ok (.aload_n 0, 1) := by decide +kernel
theorem dX10_trace_18 : decode cX10_trace 18 = .ok (.getfield 88, 3) := by decide +kernel
theorem dX10_trace_21 : decode cX10_trace 21 = .ok (.getfield 392, 3) := by decide +kernel
theorem dX10_trace_24 : decode cX10_trace 24 = .ok (.iload_n 1, 1) := by decide +kernel
theorem dX10_trace_25 : decode cX10_trace 25 = .ok (.iaload, 1) := by decide +kernel
theorem dX10_trace_26 : decode cX10_trace 26 = .ok (.goto 5, 3) := by decide +kernel
theorem dX10_trace_29 : decode cX10_trace 29 = .ok (.bipush (-3), 2) := by decide +kernel
theorem dX10_trace_31 : decode cX10_trace 31 = .ok (.ireturn, 1) := by decide +kernel
theorem dX10_many_0 : decode cX10_many 0 = .ok (.iload_n 1, 1) := by decide +kernel
theorem dX10_many_1 : decode cX10_many 1 = .ok (.tableswitch 105 0 7 #[47, 55, 63, 71, 79, 84, 89, 97], 47) := by decide +kernel
theorem dX10_many_48 : decode cX10_many 48 = .ok (.aload_n 0, 1) := by decide +kernel
theorem dX10_many_49 : decode cX10_many 49 = .ok (.getfield 10, 3) := by decide +kernel
theorem dX10_many_52 : decode cX10_many 52 = .ok (.getfield 98, 3) := by decide +kernel
theorem dX10_many_55 : decode cX10_many 55 = .ok (.ireturn, 1) := by decide +kernel
theorem dX10_many_56 : decode cX10_many 56 = .ok (.aload_n 0, 1) := by decide +kernel
theorem dX10_many_57 : decode cX10_many 57 = .ok (.getfield 10, 3) := by decide +kernel
theorem dX10_many_60 : decode cX10_many 60 = .ok (.getfield 162, 3) := by decide +kernel
theorem dX10_many_63 : decode cX10_many 63 = .ok (.ireturn, 1) := by decide +kernel
theorem dX10_many_64 : decode cX10_many 64 = .ok (.aload_n 0, 1) := by decide +kernel
theorem dX10_many_65 : decode cX10_many 65 = .ok (.getfield 10, 3) := by decide +kernel
theorem dX10_many_68 : decode cX10_many 68 = .ok (.getfield 193, 3) := by decide +kernel
theorem dX10_many_71 : decode cX10_many 71 = .ok (.ireturn, 1) := by decide +kernel
theorem dX10_many_72 : decode cX10_many 72 = .ok (.aload_n 0, 1) := by decide +kernel
theorem dX10_many_73 : decode cX10_many 73 = .ok (.getfield 10, 3) := by decide +kernel
theorem dX10_many_76 : decode cX10_many 76 = .ok (.getfield 287, 3) := by decide +kernel
theorem dX10_many_79 : decode cX10_many 79 = .ok (.ireturn, 1) := by decide +kernel
theorem dX10_many_80 : decode cX10_many 80 = .ok (.aload_n 0, 1) := by decide +kernel
theorem dX10_many_81 : decode cX10_many 81 = .ok (.getfield 70, 3) := by decide +kernel
theorem dX10_many_84 : decode cX10_many 84 = .ok (.ireturn, 1) := by decide +kernel
theorem dX10_many_85 : decode cX10_many 85 = .ok (.aload_n 0, 1) := by decide +kernel
theorem dX10_many_86 : decode cX10_many 86 = .ok (.getfield 27, 3) := by decide +kernel
theorem dX10_many_89 : decode cX10_many 89 = .ok (.ireturn, 1) := by decide +kernel
theorem dX10_many_90 : decode cX10_many 90 = .ok (.aload_n 0, 1) := by decide +kernel
theorem dX10_many_91 : decode cX10_many 91 = .ok (.getfield 88, 3) := by decide +kernel
theorem dX10_many_94 : decode cX10_many 94 = .ok (.getfield 389, 3) := by decide +kernel
theorem dX10_many_97 : decode cX10_many 97 = .ok (.ireturn, 1) := by decide +kernel
theorem dX10_many_98 : decode cX10_many 98 = .ok (.aload_n 0, 1) := by decide +kernel
theorem dX10_many_99 : decode cX10_many 99 = .ok (.getfield 10, 3) := by decide +kernel
theorem dX10_many_102 : decode cX10_many 102 = .ok (.getfield 146, 3) := by decide +kernel
theorem dX10_many_105 : decode cX10_many 105 = .ok (.ireturn, 1) := by decide +kernel
theorem dX10_many_106 : decode cX10_many 106 = .ok (.iconst (-1), 1) := by decide +kernel
theorem dX10_many_107 : decode cX10_many 107 = .ok (.ireturn, 1) := by decide +kernel
theorem dX10_keep_0 : decode cX10_keep 0 = .ok (.aload_n 0, 1) := by decide +kernel
theorem dX10_keep_1 : decode cX10_keep 1 = .ok (.getfield 16, 3) := by decide +kernel
theorem dX10_keep_4 : decode cX10_keep 4 = .ok (.aload_n 0, 1) := by decide +kernel
theorem dX10_keep_5 : decode cX10_keep 5 = .ok (.getfield 10, 3) := by decide +kernel
theorem dX10_keep_8 : decode cX10_keep 8 = .ok (.invokevirtual 395, 3) := by decide +kernel
theorem dX10_keep_11 : decode cX10_keep 11 = .ok (.aload_n 0, 1) := by decide +kernel
theorem dX10_keep_12 : decode cX10_keep 12 = .ok (.iconst 1, 1) := by decide +kernel
theorem dX10_keep_13 : decode cX10_keep 13 = .ok (.putfield 19, 3) := by decide +kernel
theorem dX10_keep_16 : decode cX10_keep 16 = .ok (.iconst 1, 1) := by decide +kernel
theorem dX10_keep_17 : decode cX10_keep 17 = .ok (.ireturn, 1) := by decide +kernel
theorem dX10_back_0 : decode cX10_back 0 = .ok (.aload_n 0, 1) := by decide +kernel
theorem dX10_back_1 : decode cX10_back 1 = .ok (.getfield 19, 3) := by decide +kernel
theorem dX10_back_4 : decode cX10_back 4 = .ok (.ifCond .ne 6, 3) := by decide +kernel
theorem dX10_back_7 : decode cX10_back 7 = .ok (.bipush (-3), 2) := by decide +kernel
theorem dX10_back_9 : decode cX10_back 9 = .ok (.ireturn, 1) := by decide +kernel
theorem dX10_back_10 : decode cX10_back 10 = .ok (.aload_n 0, 1) := by decide +kernel
theorem dX10_back_11 : decode cX10_back 11 = .ok (.getfield 10, 3) := by decide +kernel
theorem dX10_back_14 : decode cX10_back 14 = .ok (.aload_n 0, 1) := by decide +kernel
theorem dX10_back_15 : decode cX10_back 15 = .ok (.getfield 16, 3) := by decide +kernel
theorem dX10_back_18 : decode cX10_back 18 = .ok (.invokevirtual 395, 3) := by decide +kernel
theorem dX10_back_21 : decode cX10_back 21 = .ok (.aload_n 0, 1) := by decide +kernel
theorem dX10_back_22 : decode cX10_back 22 = .ok (.getfield 10, 3) := by decide +kernel
theorem dX10_back_25 : decode cX10_back 25 = .ok (.getfield 146, 3) := by decide +kernel
theorem dX10_back_28 : decode cX10_back 28 = .ok (.ireturn, 1) := by decide +kernel
theorem dX10_within_0 : decode cX10_within 0 = .ok (.iload_n 0, 1) := by decide +kernel
theorem dX10_within_1 : decode cX10_within 1 = .ok (.iload_n 1, 1) := by decide +kernel
theorem dX10_within_2 : decode cX10_within 2 = .ok (.if_icmp .lt 12, 3) := by decide +kernel
theorem dX10_within_5 : decode cX10_within 5 = .ok (.iload_n 0, 1) := by decide +kernel
theorem dX10_within_6 : decode cX10_within 6 = .ok (.iload_n 2, 1) := by decide +kernel
theorem dX10_within_7 : decode cX10_within 7 = .ok (.if_icmp .gt 7, 3) := by decide +kernel
theorem dX10_within_10 : decode cX10_within 10 = .ok (.iconst 1, 1) := by decide +kernel
theorem dX10_within_11 : decode cX10_within 11 = .ok (.goto 4, 3) := by decide +kernel
theorem dX10_within_14 : decode cX10_within 14 = .ok (.iconst 0, 1) := by decide +kernel
theorem dX10_within_15 : decode cX10_within 15 = .ok (.ireturn, 1) := by decide +kernel
theorem dX10_isWay_0 : decode cX10_isWay 0 = .ok (.iload_n 0, 1) := by decide +kernel
theorem dX10_isWay_1 : decode cX10_isWay 1 = .ok (.iconst 0, 1) := by decide +kernel
theorem dX10_isWay_2 : decode cX10_isWay 2 = .ok (.iconst 1, 1) := by decide +kernel
theorem dX10_isWay_3 : decode cX10_isWay 3 = .ok (.invokestatic 94, 3) := by decide +kernel
theorem dX10_isWay_6 : decode cX10_isWay 6 = .ok (.ireturn, 1) := by decide +kernel
theorem dX10_isDay_0 : decode cX10_isDay 0 = .ok (.iload_n 0, 1) := by decide +kernel
theorem dX10_isDay_1 : decode cX10_isDay 1 = .ok (.iconst 0, 1) := by decide +kernel
theorem dX10_isDay_2 : decode cX10_isDay 2 = .ok (.sipush 999, 3) := by decide +kernel
theorem dX10_isDay_5 : decode cX10_isDay 5 = .ok (.invokestatic 94, 3) := by decide +kernel
theorem dX10_isDay_8 : decode cX10_isDay 8 = .ok (.ireturn, 1) := by decide +kernel
theorem dX10_isSheet_0 : decode cX10_isSheet 0 = .ok (.iload_n 0, 1) := by decide +kernel
theorem dX10_isSheet_1 : decode cX10_isSheet 1 = .ok (.iconst 0, 1) := by decide +kernel
theorem dX10_isSheet_2 : decode cX10_isSheet 2 = .ok (.iconst 3, 1) := by decide +kernel
theorem dX10_isSheet_3 : decode cX10_isSheet 3 = .ok (.invokestatic 94, 3) := by decide +kernel
theorem dX10_isSheet_6 : decode cX10_isSheet 6 = .ok (.ireturn, 1) := by decide +kernel
theorem dX10_isShelf_0 : decode cX10_isShelf 0 = .ok (.iload_n 0, 1) := by decide +kernel
theorem dX10_isShelf_1 : decode cX10_isShelf 1 = .ok (.iconst 0, 1) := by decide +kernel
theorem dX10_isShelf_2 : decode cX10_isShelf 2 = .ok (.iconst 3, 1) := by decide +kernel
theorem dX10_isShelf_3 : decode cX10_isShelf 3 = .ok (.invokestatic 94, 3) := by decide +kernel
theorem dX10_isShelf_6 : decode cX10_isShelf 6 = .ok (.ireturn, 1) := by decide +kernel
theorem dX10_isInRows_0 : decode cX10_isInRows 0 = .ok (.iload_n 1, 1) := by decide +kernel
theorem dX10_isInRows_1 : decode cX10_isInRows 1 = .ok (.iconst 0, 1) := by decide +kernel
theorem dX10_isInRows_2 : decode cX10_isInRows 2 = .ok (.aload_n 0, 1) := by decide +kernel
theorem dX10_isInRows_3 : decode cX10_isInRows 3 = .ok (.getfield 70, 3) := by decide +kernel
theorem dX10_isInRows_6 : decode cX10_isInRows 6 = .ok (.iconst 1, 1) := by decide +kernel
theorem dX10_isInRows_7 : decode cX10_isInRows 7 = .ok (.isub, 1) := by decide +kernel
theorem dX10_isInRows_8 : decode cX10_isInRows 8 = .ok (.invokestatic 94, 3) := by decide +kernel
theorem dX10_isInRows_11 : decode cX10_isInRows 11 = .ok (.ifCond .eq 16, 3) := by decide +kernel
theorem dX10_isInRows_14 : decode cX10_isInRows 14 = .ok (.iload_n 2, 1) := by decide +kernel
theorem dX10_isInRows_15 : decode cX10_isInRows 15 = .ok (.iconst 0, 1) := by decide +kernel
theorem dX10_isInRows_16 : decode cX10_isInRows 16 = .ok (.iconst 2, 1) := by decide +kernel
theorem dX10_isInRows_17 : decode cX10_isInRows 17 = .ok (.invokestatic 94, 3) := by decide +kernel
theorem dX10_isInRows_20 : decode cX10_isInRows 20 = .ok (.ifCond .eq 7, 3) := by decide +kernel
theorem dX10_isInRows_23 : decode cX10_isInRows 23 = .ok (.iconst 1, 1) := by decide +kernel
theorem dX10_isInRows_24 : decode cX10_isInRows 24 = .ok (.goto 4, 3) := by decide +kernel
theorem dX10_isInRows_27 : decode cX10_isInRows 27 = .ok (.iconst 0, 1) := by decide +kernel
theorem dX10_isInRows_28 : decode cX10_isInRows 28 = .ok (.ireturn, 1) := by decide +kernel
theorem dX10_holdsPart_0 : decode cX10_holdsPart 0 = .ok (.aload_n 1, 1) := by decide +kernel
theorem dX10_holdsPart_1 : decode cX10_holdsPart 1 = .ok (.getfield 362, 3) := by decide +kernel
theorem dX10_holdsPart_4 : decode cX10_holdsPart 4 = .ok (.ifCond .ne 21, 3) := by decide +kernel
theorem dX10_holdsPart_7 : decode cX10_holdsPart 7 = .ok (.aload_n 0, 1) := by decide +kernel
theorem dX10_holdsPart_8 : decode cX10_holdsPart 8 = .ok (.getfield 10, 3) := by decide +kernel
theorem dX10_holdsPart_11 : decode cX10_holdsPart 11 = .ok (.aload_n 1, 1) := by decide +kernel
theorem dX10_holdsPart_12 : decode cX10_holdsPart 12 = .ok (.getfield 356, 3) := by decide +kernel
theorem dX10_holdsPart_15 : decode cX10_holdsPart 15 = .ok (.invokevirtual 111, 3) := by decide +kernel
theorem dX10_holdsPart_18 : decode cX10_holdsPart 18 = .ok (.ifCond .eq 7, 3) := by decide +kernel
theorem dX10_holdsPart_21 : decode cX10_holdsPart 21 = .ok (.iconst 1, 1) := by decide +kernel
theorem dX10_holdsPart_22 : decode cX10_holdsPart 22 = .ok (.goto 4, 3) := by decide +kernel
theorem dX10_holdsPart_25 : decode cX10_holdsPart 25 = .ok (.iconst 0, 1) := by decide +kernel
theorem dX10_holdsPart_26 : decode cX10_holdsPart 26 = .ok (.ireturn, 1) := by decide +kernel
theorem dX10_isUnder_0 : decode cX10_isUnder 0 = .ok (.iload_n 0, 1) := by decide +kernel
theorem dX10_isUnder_1 : decode cX10_isUnder 1 = .ok (.iload_n 1, 1) := by decide +kernel
theorem dX10_isUnder_2 : decode cX10_isUnder 2 = .ok (.if_icmp .eq 28, 3) := by decide +kernel
theorem dX10_isUnder_5 : decode cX10_isUnder 5 = .ok (.iload_n 1, 1) := by decide +kernel
theorem dX10_isUnder_6 : decode cX10_isUnder 6 = .ok (.ifCond .eq 24, 3) := by decide +kernel
theorem dX10_isUnder_9 : decode cX10_isUnder 9 = .ok (.iload_n 0, 1) := by decide +kernel
theorem dX10_isUnder_10 : decode cX10_isUnder 10 = .ok (.iconst 5, 1) := by decide +kernel
theorem dX10_isUnder_11 : decode cX10_isUnder 11 = .ok (.if_icmp .ne 8, 3) := by decide +kernel
theorem dX10_isUnder_14 : decode cX10_isUnder 14 = .ok (.iload_n 1, 1) := by decide +kernel
theorem dX10_isUnder_15 : decode cX10_isUnder 15 = .ok (.iconst 4, 1) := by decide +kernel
theorem dX10_isUnder_16 : decode cX10_isUnder 16 = .ok (.if_icmp .eq 14, 3) := by decide +kernel
theorem dX10_isUnder_19 : decode cX10_isUnder 19 = .ok (.iload_n 0, 1) := by decide +kernel
theorem dX10_isUnder_20 : decode cX10_isUnder 20 = .ok (.bipush 6, 2) := by decide +kernel
theorem dX10_isUnder_22 : decode cX10_isUnder 22 = .ok (.if_icmp .ne 12, 3) := by decide +kernel
theorem dX10_isUnder_25 : decode cX10_isUnder 25 = .ok (.iload_n 1, 1) := by decide +kernel
theorem dX10_isUnder_26 : decode cX10_isUnder 26 = .ok (.iconst 1, 1) := by decide +kernel
theorem dX10_isUnder_27 : decode cX10_isUnder 27 = .ok (.if_icmp .ne 7, 3) := by decide +kernel
theorem dX10_isUnder_30 : decode cX10_isUnder 30 = .ok (.iconst 1, 1) := by decide +kernel
theorem dX10_isUnder_31 : decode cX10_isUnder 31 = .ok (.goto 4, 3) := by decide +kernel
theorem dX10_isUnder_34 : decode cX10_isUnder 34 = .ok (.iconst 0, 1) := by decide +kernel
theorem dX10_isUnder_35 : decode cX10_isUnder 35 = .ok (.ireturn, 1) := by decide +kernel
theorem dX10_useTape_0 : decode cX10_useTape 0 = .ok (.aload_n 0, 1) := by decide +kernel
theorem dX10_useTape_1 : decode cX10_useTape 1 = .ok (.getfield 34, 3) := by decide +kernel
theorem dX10_useTape_4 : decode cX10_useTape 4 = .ok (.aload_n 0, 1) := by decide +kernel
theorem dX10_useTape_5 : decode cX10_useTape 5 = .ok (.getfield 23, 3) := by decide +kernel
theorem dX10_useTape_8 : decode cX10_useTape 8 = .ok (.aload_n 0, 1) := by decide +kernel
theorem dX10_useTape_9 : decode cX10_useTape 9 = .ok (.getfield 27, 3) := by decide +kernel
theorem dX10_useTape_12 : decode cX10_useTape 12 = .ok (.invokevirtual 399, 3) := by decide +kernel
theorem dX10_useTape_15 : decode cX10_useTape 15 = .ok (.aload_n 0, 1) := by decide +kernel
theorem dX10_useTape_16 : decode cX10_useTape 16 = .ok (.iconst 0, 1) := by decide +kernel
theorem dX10_useTape_17 : decode cX10_useTape 17 = .ok (.putfield 27, 3) := by decide +kernel
theorem dX10_useTape_20 : decode cX10_useTape 20 = .ok (.return_, 1) := by decide +kernel
theorem dX10_fraction_0 : decode cX10_fraction 0 = .ok (.lload_n 0, 1) := by decide +kernel
theorem dX10_fraction_1 : decode cX10_fraction 1 = .ok (.invokestatic 284, 3) := by decide +kernel
theorem dX10_fraction_4 : decode cX10_fraction 4 = .ok (.lload_n 2, 1) := by decide +kernel
theorem dX10_fraction_5 : decode cX10_fraction 5 = .ok (.invokestatic 403, 3) := by decide +kernel
theorem dX10_fraction_8 : decode cX10_fraction 8 = .ok (.lstore 5, 2) := by decide +kernel
theorem dX10_fraction_10 : decode cX10_fraction 10 = .ok (.lload 5, 2) := by decide +kernel
theorem dX10_fraction_12 : decode cX10_fraction 12 = .ok (.lconst 0, 1) := by decide +kernel
theorem dX10_fraction_13 : decode cX10_fraction 13 = .ok (.lcmp, 1) := by decide +kernel
theorem dX10_fraction_14 : decode cX10_fraction 14 = .ok (.ifCond .gt 5, 3) := by decide +kernel
theorem dX10_fraction_17 : decode cX10_fraction 17 = .ok (.lconst 0, 1) := by decide +kernel
theorem dX10_fraction_18 : decode cX10_fraction 18 = .ok (.lreturn, 1) := by decide +kernel
theorem dX10_fraction_19 : decode cX10_fraction 19 = .ok (.iload 4, 2) := by decide +kernel
theorem dX10_fraction_21 : decode cX10_fraction 21 = .ok (.ifCond .ne 7, 3) := by decide +kernel
theorem dX10_fraction_24 : decode cX10_fraction 24 = .ok (.lload_n 0, 1) := by decide +kernel
theorem dX10_fraction_25 : decode cX10_fraction 25 = .ok (.goto 4, 3) := by decide +kernel
theorem dX10_fraction_28 : decode cX10_fraction 28 = .ok (.lload_n 2, 1) := by decide +kernel
theorem dX10_fraction_29 : decode cX10_fraction 29 = .ok (.lload 5, 2) := by decide +kernel
theorem dX10_fraction_31 : decode cX10_fraction 31 = .ok (.ldiv, 1) := by decide +kernel
theorem dX10_fraction_32 : decode cX10_fraction 32 = .ok (.lreturn, 1) := by decide +kernel
theorem dX10_commonDivisor_0 : decode cX10_commonDivisor 0 = .ok (.lload_n 0, 1) := by decide +kernel
theorem dX10_commonDivisor_1 : decode cX10_commonDivisor 1 = .ok (.lstore 4, 2) := by decide +kernel
theorem dX10_commonDivisor_3 : decode cX10_commonDivisor 3 = .ok (.lload_n 2, 1) := by decide +kernel
theorem dX10_commonDivisor_4 : decode cX10_commonDivisor 4 = .ok (.lstore 6, 2) := by decide +kernel
theorem dX10_commonDivisor_6 : decode cX10_commonDivisor 6 = .ok (.iconst 0, 1) := by decide +kernel
theorem dX10_commonDivisor_7 : decode cX10_commonDivisor 7 = .ok (.istore 8, 2) := by decide +kernel
theorem dX10_commonDivisor_9 : decode cX10_commonDivisor 9 = .ok (.iload 8, 2) := by decide +kernel
theorem dX10_commonDivisor_11 : decode cX10_commonDivisor 11 = .ok (.sipush 200, 3) := by decide +kernel
theorem dX10_commonDivisor_14 : decode cX10_commonDivisor 14 = .ok (.if_icmp .ge 31, 3) := by decide +kernel
theorem dX10_commonDivisor_17 : decode cX10_commonDivisor 17 = .ok (.lload 6, 2) := by decide +kernel
theorem dX10_commonDivisor_19 : decode cX10_commonDivisor 19 = .ok (.lconst 0, 1) := by decide +kernel
theorem dX10_commonDivisor_20 : decode cX10_commonDivisor 20 = .ok (.lcmp, 1) := by decide +kernel
theorem dX10_commonDivisor_21 : decode cX10_commonDivisor 21 = .ok (.ifCond .eq 24, 3) := by decide +kernel
theorem dX10_commonDivisor_24 : decode cX10_commonDivisor 24 = .ok (.lload 4, 2) := by decide +kernel
theorem dX10_commonDivisor_26 : decode cX10_commonDivisor 26 = .ok (.lload 6, 2) := by decide +kernel
theorem dX10_commonDivisor_28 : decode cX10_commonDivisor 28 = .ok (.lrem, 1) := by decide +kernel
theorem dX10_commonDivisor_29 : decode cX10_commonDivisor 29 = .ok (.lstore 9, 2) := by decide +kernel
theorem dX10_commonDivisor_31 : decode cX10_commonDivisor 31 = .ok (.lload 6, 2) := by decide +kernel
theorem dX10_commonDivisor_33 : decode cX10_commonDivisor 33 = .ok (.lstore 4, 2) := by decide +kernel
theorem dX10_commonDivisor_35 : decode cX10_commonDivisor 35 = .ok (.lload 9, 2) := by decide +kernel
theorem dX10_commonDivisor_37 : decode cX10_commonDivisor 37 = .ok (.lstore 6, 2) := by decide +kernel
theorem dX10_commonDivisor_39 : decode cX10_commonDivisor 39 = .ok (.iinc 8 1, 3) := by decide +kernel
theorem dX10_commonDivisor_42 : decode cX10_commonDivisor 42 = .ok (.goto (-33), 3) := by decide +kernel
theorem dX10_commonDivisor_45 : decode cX10_commonDivisor 45 = .ok (.lload 4, 2) := by decide +kernel
theorem dX10_commonDivisor_47 : decode cX10_commonDivisor 47 = .ok (.lreturn, 1) := by decide +kernel
theorem dX10_fitsOfTwo_0 : decode cX10_fitsOfTwo 0 = .ok (.iload_n 0, 1) := by decide +kernel
theorem dX10_fitsOfTwo_1 : decode cX10_fitsOfTwo 1 = .ok (.ineg, 1) := by decide +kernel
theorem dX10_fitsOfTwo_2 : decode cX10_fitsOfTwo 2 = .ok (.iload_n 2, 1) := by decide +kernel
theorem dX10_fitsOfTwo_3 : decode cX10_fitsOfTwo 3 = .ok (.iload_n 1, 1) := by decide +kernel
theorem dX10_fitsOfTwo_4 : decode cX10_fitsOfTwo 4 = .ok (.isub, 1) := by decide +kernel
theorem dX10_fitsOfTwo_5 : decode cX10_fitsOfTwo 5 = .ok (.invokestatic 407, 3) := by decide +kernel
theorem dX10_fitsOfTwo_8 : decode cX10_fitsOfTwo 8 = .ok (.istore_n 3, 1) := by decide +kernel
theorem dX10_fitsOfTwo_9 : decode cX10_fitsOfTwo 9 = .ok (.iload_n 0, 1) := by decide +kernel
theorem dX10_fitsOfTwo_10 : decode cX10_fitsOfTwo 10 = .ok (.iload_n 2, 1) := by decide +kernel
theorem dX10_fitsOfTwo_11 : decode cX10_fitsOfTwo 11 = .ok (.iload_n 1, 1) := by decide +kernel
theorem dX10_fitsOfTwo_12 : decode cX10_fitsOfTwo 12 = .ok (.iadd, 1) := by decide +kernel
theorem dX10_fitsOfTwo_13 : decode cX10_fitsOfTwo 13 = .ok (.invokestatic 410, 3) := by decide +kernel
theorem dX10_fitsOfTwo_16 : decode cX10_fitsOfTwo 16 = .ok (.istore 4, 2) := by decide +kernel
theorem dX10_fitsOfTwo_18 : decode cX10_fitsOfTwo 18 = .ok (.iload_n 3, 1) := by decide +kernel
theorem dX10_fitsOfTwo_19 : decode cX10_fitsOfTwo 19 = .ok (.iload 4, 2) := by decide +kernel
theorem dX10_fitsOfTwo_21 : decode cX10_fitsOfTwo 21 = .ok (.if_icmp .le 5, 3) := by decide +kernel
theorem dX10_fitsOfTwo_24 : decode cX10_fitsOfTwo 24 = .ok (.iconst 0, 1) := by decide +kernel
theorem dX10_fitsOfTwo_25 : decode cX10_fitsOfTwo 25 = .ok (.ireturn, 1) := by decide +kernel
theorem dX10_fitsOfTwo_26 : decode cX10_fitsOfTwo 26 = .ok (.iload 4, 2) := by decide +kernel
theorem dX10_fitsOfTwo_28 : decode cX10_fitsOfTwo 28 = .ok (.iload_n 3, 1) := by decide +kernel
theorem dX10_fitsOfTwo_29 : decode cX10_fitsOfTwo 29 = .ok (.isub, 1) := by decide +kernel
theorem dX10_fitsOfTwo_30 : decode cX10_fitsOfTwo 30 = .ok (.iconst 1, 1) := by decide +kernel
theorem dX10_fitsOfTwo_31 : decode cX10_fitsOfTwo 31 = .ok (.iadd, 1) := by decide +kernel
theorem dX10_fitsOfTwo_32 : decode cX10_fitsOfTwo 32 = .ok (.istore 5, 2) := by decide +kernel
theorem dX10_fitsOfTwo_34 : decode cX10_fitsOfTwo 34 = .ok (.iconst 0, 1) := by decide +kernel
theorem dX10_fitsOfTwo_35 : decode cX10_fitsOfTwo 35 = .ok (.iload_n 3, 1) := by decide +kernel
theorem dX10_fitsOfTwo_36 : decode cX10_fitsOfTwo 36 = .ok (.iload 4, 2) := by decide +kernel
theorem dX10_fitsOfTwo_38 : decode cX10_fitsOfTwo 38 = .ok (.invokestatic 94, 3) := by decide +kernel
theorem dX10_fitsOfTwo_41 : decode cX10_fitsOfTwo 41 = .ok (.ifCond .eq 6, 3) := by decide +kernel
theorem dX10_fitsOfTwo_44 : decode cX10_fitsOfTwo 44 = .ok (.iinc 5 (-1), 3) := by decide +kernel
theorem dX10_fitsOfTwo_47 : decode cX10_fitsOfTwo 47 = .ok (.iload_n 2, 1) := by decide +kernel
theorem dX10_fitsOfTwo_48 : decode cX10_fitsOfTwo 48 = .ok (.ifCond .eq 16, 3) := by decide +kernel
theorem dX10_fitsOfTwo_51 : decode cX10_fitsOfTwo 51 = .ok (.iload_n 2, 1) := by decide +kernel
theorem dX10_fitsOfTwo_52 : decode cX10_fitsOfTwo 52 = .ok (.iload_n 3, 1) := by decide +kernel
theorem dX10_fitsOfTwo_53 : decode cX10_fitsOfTwo 53 = .ok (.iload 4, 2) := by decide +kernel
theorem dX10_fitsOfTwo_55 : decode cX10_fitsOfTwo 55 = .ok (.invokestatic 94, 3) := by decide +kernel
theorem dX10_fitsOfTwo_58 : decode cX10_fitsOfTwo 58 = .ok (.ifCond .eq 6, 3) := by decide +kernel
theorem dX10_fitsOfTwo_61 : decode cX10_fitsOfTwo 61 = .ok (.iinc 5 (-1), 3) := by decide +kernel
theorem dX10_fitsOfTwo_64 : decode cX10_fitsOfTwo 64 = .ok (.iload 5, 2) := by decide +kernel
theorem dX10_fitsOfTwo_66 : decode cX10_fitsOfTwo 66 = .ok (.ireturn, 1) := by decide +kernel
theorem dX10_gatherTwos_0 : decode cX10_gatherTwos 0 = .ok (.iconst 0, 1) := by decide +kernel
theorem dX10_gatherTwos_1 : decode cX10_gatherTwos 1 = .ok (.istore_n 2, 1) := by decide +kernel
theorem dX10_gatherTwos_2 : decode cX10_gatherTwos 2 = .ok (.iconst 1, 1) := by decide +kernel
theorem dX10_gatherTwos_3 : decode cX10_gatherTwos 3 = .ok (.istore_n 3, 1) := by decide +kernel
theorem dX10_gatherTwos_4 : decode cX10_gatherTwos 4 = .ok (.iload_n 3, 1) := by decide +kernel
theorem dX10_gatherTwos_5 : decode cX10_gatherTwos 5 = .ok (.aload_n 0, 1) := by decide +kernel
theorem dX10_gatherTwos_6 : decode cX10_gatherTwos 6 = .ok (.getfield 10, 3) := by decide +kernel
theorem dX10_gatherTwos_9 : decode cX10_gatherTwos 9 = .ok (.getfield 193, 3) := by decide +kernel
theorem dX10_gatherTwos_12 : decode cX10_gatherTwos 12 = .ok (.if_icmp .ge 75, 3) := by decide +kernel
theorem dX10_gatherTwos_15 : decode cX10_gatherTwos 15 = .ok (.iconst 0, 1) := by decide +kernel
theorem dX10_gatherTwos_16 : decode cX10_gatherTwos 16 = .ok (.istore 4, 2) := by decide +kernel
theorem dX10_gatherTwos_18 : decode cX10_gatherTwos 18 = .ok (.iload 4, 2) := by decide +kernel
theorem dX10_gatherTwos_20 : decode cX10_gatherTwos 20 = .ok (.iload_n 3, 1) := by decide +kernel
theorem dX10_gatherTwos_21 : decode cX10_gatherTwos 21 = .ok (.if_icmp .ge 60, 3) := by decide +kernel
theorem dX10_gatherTwos_24 : decode cX10_gatherTwos 24 = .ok (.iload_n 1, 1) := by decide +kernel
theorem dX10_gatherTwos_25 : decode cX10_gatherTwos 25 = .ok (.iload 4, 2) := by decide +kernel
theorem dX10_gatherTwos_27 : decode cX10_gatherTwos 27 = .ok (.ishr, 1) := by decide +kernel
theorem dX10_gatherTwos_28 : decode cX10_gatherTwos 28 = .ok (.iload_n 1, 1) := by decide +kernel
theorem dX10_gatherTwos_29 : decode cX10_gatherTwos 29 = .ok (.iload_n 3, 1) := by decide +kernel
theorem dX10_gatherTwos_30 : decode cX10_gatherTwos 30 = .ok (.ishr, 1) := by decide +kernel
theorem dX10_gatherTwos_31 : decode cX10_gatherTwos 31 = .ok (.iand, 1) := by decide +kernel
theorem dX10_gatherTwos_32 : decode cX10_gatherTwos 32 = .ok (.iconst 1, 1) := by decide +kernel
theorem dX10_gatherTwos_33 : decode cX10_gatherTwos 33 = .ok (.iand, 1) := by decide +kernel
theorem dX10_gatherTwos_34 : decode cX10_gatherTwos 34 = .ok (.iconst 1, 1) := by decide +kernel
theorem dX10_gatherTwos_35 : decode cX10_gatherTwos 35 = .ok (.if_icmp .ne 7, 3) := by decide +kernel
theorem dX10_gatherTwos_38 : decode cX10_gatherTwos 38 = .ok (.iconst 1, 1) := by decide +kernel
theorem dX10_gatherTwos_39 : decode cX10_gatherTwos 39 = .ok (.goto 4, 3) := by decide +kernel
theorem dX10_gatherTwos_42 : decode cX10_gatherTwos 42 = .ok (.iconst 0, 1) := by decide +kernel
theorem dX10_gatherTwos_43 : decode cX10_gatherTwos 43 = .ok (.istore 5, 2) := by decide +kernel
theorem dX10_gatherTwos_45 : decode cX10_gatherTwos 45 = .ok (.iload 5, 2) := by decide +kernel
theorem dX10_gatherTwos_47 : decode cX10_gatherTwos 47 = .ok (.ifCond .eq 28, 3) := by decide +kernel
theorem dX10_gatherTwos_50 : decode cX10_gatherTwos 50 = .ok (.iload_n 2, 1) := by decide +kernel
theorem dX10_gatherTwos_51 : decode cX10_gatherTwos 51 = .ok (.bipush 28, 2) := by decide +kernel
theorem dX10_gatherTwos_53 : decode cX10_gatherTwos 53 = .ok (.if_icmp .ge 22, 3) := by decide +kernel
theorem dX10_gatherTwos_56 : decode cX10_gatherTwos 56 = .ok (.aload_n 0, 1) := by decide +kernel
theorem dX10_gatherTwos_57 : decode cX10_gatherTwos 57 = .ok (.getfield 61, 3) := by decide +kernel
theorem dX10_gatherTwos_60 : decode cX10_gatherTwos 60 = .ok (.iload_n 2, 1) := by decide +kernel
theorem dX10_gatherTwos_61 : decode cX10_gatherTwos 61 = .ok (.aload_n 0, 1) := by decide +kernel
theorem dX10_gatherTwos_62 : decode cX10_gatherTwos 62 = .ok (.getfield 10, 3) := by decide +kernel
theorem dX10_gatherTwos_65 : decode cX10_gatherTwos 65 = .ok (.iload 4, 2) := by decide +kernel
theorem dX10_gatherTwos_67 : decode cX10_gatherTwos 67 = .ok (.iload_n 3, 1) := by decide +kernel
theorem dX10_gatherTwos_68 : decode cX10_gatherTwos 68 = .ok (.invokevirtual 413, 3) := by decide +kernel
theorem dX10_gatherTwos_71 : decode cX10_gatherTwos 71 = .ok (.iastore, 1) := by decide +kernel
theorem dX10_gatherTwos_72 : decode cX10_gatherTwos 72 = .ok (.iinc 2 1, 3) := by decide +kernel
theorem dX10_gatherTwos_75 : decode cX10_gatherTwos 75 = .ok (.iinc 4 1, 3) := by decide +kernel
theorem dX10_gatherTwos_78 : decode cX10_gatherTwos 78 = .ok (.goto (-60), 3) := by decide +kernel
theorem dX10_gatherTwos_81 : decode cX10_gatherTwos 81 = .ok (.iinc 3 1, 3) := by decide +kernel
theorem dX10_gatherTwos_84 : decode cX10_gatherTwos 84 = .ok (.goto (-80), 3) := by decide +kernel
theorem dX10_gatherTwos_87 : decode cX10_gatherTwos 87 = .ok (.iload_n 2, 1) := by decide +kernel
theorem dX10_gatherTwos_88 : decode cX10_gatherTwos 88 = .ok (.ireturn, 1) := by decide +kernel
theorem dX10_twosParted_0 : decode cX10_twosParted 0 = .ok (.iconst 0, 1) := by decide +kernel
theorem dX10_twosParted_1 : decode cX10_twosParted 1 = .ok (.istore_n 3, 1) := by decide +kernel
theorem dX10_twosParted_2 : decode cX10_twosParted 2 = .ok (.iconst 0, 1) := by decide +kernel
theorem dX10_twosParted_3 : decode cX10_twosParted 3 = .ok (.istore 4, 2) := by decide +kernel
theorem dX10_twosParted_5 : decode cX10_twosParted 5 = .ok (.iload 4, 2) := by decide +kernel
theorem dX10_twosParted_7 : decode cX10_twosParted 7 = .ok (.iload_n 1, 1) := by decide +kernel
theorem dX10_twosParted_8 : decode cX10_twosParted 8 = .ok (.if_icmp .ge 23, 3) := by decide +kernel
theorem dX10_twosParted_11 : decode cX10_twosParted 11 = .ok (.iload_n 3, 1) := by decide +kernel
theorem dX10_twosParted_12 : decode cX10_twosParted 12 = .ok (.aload_n 0, 1) := by decide +kernel
theorem dX10_twosParted_13 : decode cX10_twosParted 13 = .ok (.getfield 61, 3) := by decide +kernel
theorem dX10_twosParted_16 : decode cX10_twosParted 16 = .ok (.iload 4, 2) := by decide +kernel
theorem dX10_twosParted_18 : decode cX10_twosParted 18 = .ok (.iaload, 1) := by decide +kernel
theorem dX10_twosParted_19 : decode cX10_twosParted 19 = .ok (.iload_n 2, 1) := by decide +kernel
theorem dX10_twosParted_20 : decode cX10_twosParted 20 = .ok (.ishr, 1) := by decide +kernel
theorem dX10_twosParted_21 : decode cX10_twosParted 21 = .ok (.iconst 1, 1) := by decide +kernel
theorem dX10_twosParted_22 : decode cX10_twosParted 22 = .ok (.iand, 1) := by decide +kernel
theorem dX10_twosParted_23 : decode cX10_twosParted 23 = .ok (.iadd, 1) := by decide +kernel
theorem dX10_twosParted_24 : decode cX10_twosParted 24 = .ok (.istore_n 3, 1) := by decide +kernel
theorem dX10_twosParted_25 : decode cX10_twosParted 25 = .ok (.iinc 4 1, 3) := by decide +kernel
theorem dX10_twosParted_28 : decode cX10_twosParted 28 = .ok (.goto (-23), 3) := by decide +kernel
theorem dX10_twosParted_31 : decode cX10_twosParted 31 = .ok (.iload_n 3, 1) := by decide +kernel
theorem dX10_twosParted_32 : decode cX10_twosParted 32 = .ok (.ireturn, 1) := by decide +kernel
theorem dX10_partsAll_0 : decode cX10_partsAll 0 = .ok (.iconst 0, 1) := by decide +kernel
theorem dX10_partsAll_1 : decode cX10_partsAll 1 = .ok (.istore_n 3, 1) := by decide +kernel
theorem dX10_partsAll_2 : decode cX10_partsAll 2 = .ok (.iload_n 3, 1) := by decide +kernel
theorem dX10_partsAll_3 : decode cX10_partsAll 3 = .ok (.iload_n 1, 1) := by decide +kernel
theorem dX10_partsAll_4 : decode cX10_partsAll 4 = .ok (.if_icmp .ge 31, 3) := by decide +kernel
theorem dX10_partsAll_7 : decode cX10_partsAll 7 = .ok (.aload_n 0, 1) := by decide +kernel
theorem dX10_partsAll_8 : decode cX10_partsAll 8 = .ok (.getfield 61, 3) := by decide +kernel
theorem dX10_partsAll_11 : decode cX10_partsAll 11 = .ok (.iload_n 3, 1) := by decide +kernel
theorem dX10_partsAll_12 : decode cX10_partsAll 12 = .ok (.iaload, 1) := by decide +kernel
theorem dX10_partsAll_13 : decode cX10_partsAll 13 = .ok (.ifCond .eq 16, 3) := by decide +kernel
theorem dX10_partsAll_16 : decode cX10_partsAll 16 = .ok (.aload_n 0, 1) := by decide +kernel
theorem dX10_partsAll_17 : decode cX10_partsAll 17 = .ok (.getfield 61, 3) := by decide +kernel
theorem dX10_partsAll_20 : decode cX10_partsAll 20 = .ok (.iload_n 3, 1) := by decide +kernel
theorem dX10_partsAll_21 : decode cX10_partsAll 21 = .ok (.iaload, 1) := by decide +kernel
theorem dX10_partsAll_22 : decode cX10_partsAll 22 = .ok (.iload_n 2, 1) := by decide +kernel
theorem dX10_partsAll_23 : decode cX10_partsAll 23 = .ok (.iand, 1) := by decide +kernel
theorem dX10_partsAll_24 : decode cX10_partsAll 24 = .ok (.ifCond .ne 5, 3) := by decide +kernel
theorem dX10_partsAll_27 : decode cX10_partsAll 27 = .ok (.iconst 0, 1) := by decide +kernel
theorem dX10_partsAll_28 : decode cX10_partsAll 28 = .ok (.ireturn, 1) := by decide +kernel
theorem dX10_partsAll_29 : decode cX10_partsAll 29 = .ok (.iinc 3 1, 3) := by decide +kernel
theorem dX10_partsAll_32 : decode cX10_partsAll 32 = .ok (.goto (-30), 3) := by decide +kernel
theorem dX10_partsAll_35 : decode cX10_partsAll 35 = .ok (.iconst 1, 1) := by decide +kernel
theorem dX10_partsAll_36 : decode cX10_partsAll 36 = .ok (.ireturn, 1) := by decide +kernel
